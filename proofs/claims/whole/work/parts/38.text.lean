
-- ===== J3_checkIndex, J0_checkIndex: by hand
def fJ3_checkIndex_8e157 (K : Int → zSt → Prop) (σ : zSt) (x0 : Int) (x1 : Int) : Prop := (0 ≤ x0 ∧ x0 < x1 ∧ zrg x1) ∧ K x0 σ
set_option maxHeartbeats 4000000 in
set_option maxRecDepth 100000 in
theorem mJ3_checkIndex_8e157 {D : va_G} {dA : Nat → ClassId} {ad : Nat → Nat} {aL aG aI : Nat} {aK aV : Nat → Nat} (l : Launch) (hinj : ∀ i j, i < NX → j < NX → ad i = ad j → i = j) {v : Value} (hv : v = .null ∨ ∃ t, v = .ref t) (sz : Nat) {K : Int → zSt → Prop} {σ : zSt} {x0 x1 : Int} (hf : fJ3_checkIndex_8e157 K σ x0 x1) : Met l yJ3_checkIndex_8e157 (Cond.code yJ3_checkIndex_8e157 cJ3_checkIndex_8e157 3 (some .int) :: UW) ({ frames := 0, cells := 0, slots := 0, locals := 0 } : Room) (va_Pc [vI x0, vI x1, v] (zPre D vwCl (tyA dA) (zXX aL aG aI aK aV) NX ad (celX ad dA) sz σ)) (va_Qi (zPi K) (zB D vwCl (tyA dA) NX ad (celX ad dA)) (zA ad NX sz)) 0 0 (zA ad NX sz) := by
  obtain ⟨⟨g0, g1, g2⟩, hf⟩ := hf
  have gx : zrg x0 := by omega
  rcases hv with rfl | ⟨t, rfl⟩
  · refine z_enter (cc := cJ3_checkIndex_8e157) (maxL := 3) (ret := (some .int)) (vs := [vI x0, vI x1, .null]) (plainFor_of_name (by decide)) rfl hinj (Nat.le_of_ble_eq_true rfl) ?_
    intro p e s m args below meth c hC hE hsz hr hnm
    refine z_iload_n hC dJ3_checkIndex_8e157_0 0 rfl rfl ?_
    refine z_if_lt (tgt := 9) hC dJ3_checkIndex_8e157_1 (by decide) gx (fun hc => by omega) (fun hc => ?_)
    refine z_iload_n hC dJ3_checkIndex_8e157_4 0 rfl rfl ?_
    refine z_iload_n hC dJ3_checkIndex_8e157_5 1 rfl rfl ?_
    refine z_icmp_lt (tgt := 16) hC dJ3_checkIndex_8e157_6 (by decide) gx g2 (fun hc => ?_) (fun hc => by omega)
    refine z_iload_n hC dJ3_checkIndex_8e157_16 0 rfl rfl ?_
    exact z_iret hC hr rfl dJ3_checkIndex_8e157_17 hf
  · refine z_enter (cc := cJ3_checkIndex_8e157) (maxL := 3) (ret := (some .int)) (vs := [vI x0, vI x1, .ref t]) (plainFor_of_name (by decide)) rfl hinj (Nat.le_of_ble_eq_true rfl) ?_
    intro p e s m args below meth c hC hE hsz hr hnm
    refine z_iload_n hC dJ3_checkIndex_8e157_0 0 rfl rfl ?_
    refine z_if_lt (tgt := 9) hC dJ3_checkIndex_8e157_1 (by decide) gx (fun hc => by omega) (fun hc => ?_)
    refine z_iload_n hC dJ3_checkIndex_8e157_4 0 rfl rfl ?_
    refine z_iload_n hC dJ3_checkIndex_8e157_5 1 rfl rfl ?_
    refine z_icmp_lt (tgt := 16) hC dJ3_checkIndex_8e157_6 (by decide) gx g2 (fun hc => ?_) (fun hc => by omega)
    refine z_iload_n hC dJ3_checkIndex_8e157_16 0 rfl rfl ?_
    exact z_iret hC hr rfl dJ3_checkIndex_8e157_17 hf
def fJ0_checkIndex_df160 (K : zSt → Prop) (σ : zSt) (x0 : Int) (x1 : Int) : Prop := fJ3_checkIndex_8e157 (fun _ σ1 => K σ1) σ x0 x1
set_option maxHeartbeats 4000000 in
set_option maxRecDepth 100000 in
theorem mJ0_checkIndex_df160 {D : va_G} {dA : Nat → ClassId} {ad : Nat → Nat} {aL aG aI : Nat} {aK aV : Nat → Nat} (l : Launch) (hinj : ∀ i j, i < NX → j < NX → ad i = ad j → i = j) (sz : Nat) {K : zSt → Prop} {σ : zSt} {x0 x1 : Int} (hf : fJ0_checkIndex_df160 K σ x0 x1) : Met l yJ0_checkIndex_df160 (Cond.code yJ0_checkIndex_df160 cJ0_checkIndex_df160 2 none :: UW) ({ frames := 1, cells := 0, slots := 0, locals := 22 } : Room) (va_Pc [vI x0, vI x1] (zPre D vwCl (tyA dA) (zXX aL aG aI aK aV) NX ad (celX ad dA) sz σ)) (va_Qv K (zB D vwCl (tyA dA) NX ad (celX ad dA)) (zA ad NX sz)) 0 0 (zA ad NX sz) := by
  refine z_enter (cc := cJ0_checkIndex_df160) (maxL := 2) (ret := none) (vs := [vI x0, vI x1]) (plainFor_of_name (by decide)) rfl hinj (Nat.le_of_ble_eq_true rfl) ?_
  intro p e s m args below meth c hC hE hsz hr hnm
  refine z_iload_n hC dJ0_checkIndex_df160_0 0 rfl rfl ?_
  refine z_iload_n hC dJ0_checkIndex_df160_1 1 rfl rfl ?_
  refine z_sio hC hE rfl (uT _ _ u571) dJ0_checkIndex_df160_2 (fun v hv => ?_)
  refine z_callSi hC hE [vI x0, vI x1, v] (fun sz2 => mJ3_checkIndex_8e157 l hinj hv sz2 hf) (va_cwS 3 hC.1.2.2.2.2 (uS (uT _) u573 u574 u121 u575) rfl rfl rfl (by decide +kernel) ⟨Nat.le_of_ble_eq_true rfl, Nat.le_of_ble_eq_true rfl⟩) rfl rfl (Nat.le_of_ble_eq_true rfl) ⟨Nat.le_of_ble_eq_true rfl, Nat.le_of_ble_eq_true rfl⟩ dJ0_checkIndex_df160_5 (fun r σ1 hf => ?_)
  refine z_pop hC dJ0_checkIndex_df160_8 rfl ?_
  exact z_vret hC hr rfl dJ0_checkIndex_df160_9 hf

-- ===== J1_charAt_3b067
def fJ1_charAt_3b067 (K : Int → zSt → Prop) (σ : zSt) (x0 : Int) (x1 : Int) : Prop :=
  (0 ≤ x0 ∧ x0 < 21) ∧ fJ0_checkIndex_df160 (fun σ1 => (0 ≤ x1 ∧ x1 < cLen x0) ∧ (0 ≤ (cChr x0 x1) % 256 ∧ (cChr x0 x1) % 256 < 65536) ∧ K ((cChr x0 x1) % 256) σ1) σ x1 (cLen x0)
set_option maxHeartbeats 4000000 in
set_option maxRecDepth 100000 in
theorem mJ1_charAt_3b067 {D : va_G} {dA : Nat → ClassId} {ad : Nat → Nat} {aL aG aI : Nat} {aK aV : Nat → Nat} (l : Launch) (hinj : ∀ i j, i < NX → j < NX → ad i = ad j → i = j) (sz : Nat) {K : Int → zSt → Prop} {σ : zSt} {x0 : Int} {x1 : Int} (hf : fJ1_charAt_3b067 K σ x0 x1) : Met l yJ1_charAt_3b067 (Cond.code yJ1_charAt_3b067 cJ1_charAt_3b067 2 (some .char) :: UW) ({ frames := 2, cells := 0, slots := 0, locals := 43 } : Room) (va_Pc [.ref (aV x0.toNat), vI x1] (zPre D vwCl (tyA dA) (zXX aL aG aI aK aV) NX ad (celX ad dA) sz σ)) (va_Qi (zPi K) (zB D vwCl (tyA dA) NX ad (celX ad dA)) (zA ad NX sz)) 0 0 (zA ad NX sz) := by
  refine z_enter (cc := cJ1_charAt_3b067) (maxL := 2) (ret := (some .char)) (vs := [.ref (aV x0.toNat), vI x1]) (by decide +kernel) rfl hinj (Nat.le_of_ble_eq_true rfl) ?_
  intro p e s m args below meth c hC hE hsz hr hnm
  obtain ⟨qx0, hf⟩ := hf
  show zAt p l e ({ frames := 2, cells := 0, slots := 0, locals := 43 } : Room) s m args below meth c 0 0 (MQ below (va_Qi (zPi K) (zB D vwCl (tyA dA) NX ad (celX ad dA)) (zA ad NX sz)) args s 0 0 (zA ad NX sz)) 2 D vwCl (zA ad NX sz) NX ad (celX ad dA) 0 [(0, .ref (aV x0.toNat)), (1, vI x1)] [] σ
  refine z_iload_n hC dJ1_charAt_3b067_0 1 rfl rfl ?_
  refine z_aload_n hC dJ1_charAt_3b067_1 0 rfl rfl ?_
  refine z_slen hC hE (i := x0) qx0 dJ1_charAt_3b067_2 ?_
  refine z_callSv hC hE [vI x1, vI (cLen x0)] (fun sz2 => mJ0_checkIndex_df160 l hinj sz2 hf) (va_cwS 2 hC.1.2.2.2.2 (uS (uT _) u568 u569 u119 u570) rfl rfl rfl (by decide +kernel) ⟨Nat.le_of_ble_eq_true rfl, Nat.le_of_ble_eq_true rfl⟩) rfl rfl (Nat.le_of_ble_eq_true rfl) ⟨Nat.le_of_ble_eq_true rfl, Nat.le_of_ble_eq_true rfl⟩ dJ1_charAt_3b067_3 (fun σ1 hf => ?_)
  refine z_aload_n hC dJ1_charAt_3b067_6 0 rfl rfl ?_
  refine z_iload_n hC dJ1_charAt_3b067_7 1 rfl rfl ?_
  obtain ⟨g2, hf⟩ := hf
  refine z_sbld hC hE (i := x0) qx0 g2 dJ1_charAt_3b067_8 ?_
  refine z_sipush hC dJ1_charAt_3b067_9 (by decide) ?_
  refine z_iand255 hC dJ1_charAt_3b067_12 ?_
  obtain ⟨g3, hf⟩ := hf
  refine z_i2c hC g3 dJ1_charAt_3b067_13 ?_
  exact z_gret hC hr rfl dJ1_charAt_3b067_14 (znar_c g3) hf

-- ===== J0_coder_7d493
def fJ0_coder_7d493 (K : Int → zSt → Prop) (σ : zSt) (x0 : Int) : Prop :=
  (0 ≤ x0 ∧ x0 < 21) ∧ (((1 : Int) = 0 → K 1 σ) ∧ (¬ (1 : Int) = 0 → K 0 σ))
set_option maxHeartbeats 4000000 in
set_option maxRecDepth 100000 in
theorem mJ0_coder_7d493 {D : va_G} {dA : Nat → ClassId} {ad : Nat → Nat} {aL aG aI : Nat} {aK aV : Nat → Nat} (l : Launch) (hinj : ∀ i j, i < NX → j < NX → ad i = ad j → i = j) (sz : Nat) {K : Int → zSt → Prop} {σ : zSt} {x0 : Int} (hf : fJ0_coder_7d493 K σ x0) : Met l yJ0_coder_7d493 (Cond.code yJ0_coder_7d493 cJ0_coder_7d493 1 (some .byte) :: UW) ({ frames := 0, cells := 0, slots := 0, locals := 0 } : Room) (va_Pc [.ref (aK x0.toNat)] (zPre D vwCl (tyA dA) (zXX aL aG aI aK aV) NX ad (celX ad dA) sz σ)) (va_Qi (zPi K) (zB D vwCl (tyA dA) NX ad (celX ad dA)) (zA ad NX sz)) 0 0 (zA ad NX sz) := by
  refine z_enter (cc := cJ0_coder_7d493) (maxL := 1) (ret := (some .byte)) (vs := [.ref (aK x0.toNat)]) (by decide +kernel) rfl hinj (Nat.le_of_ble_eq_true rfl) ?_
  intro p e s m args below meth c hC hE hsz hr hnm
  obtain ⟨qx0, hf⟩ := hf
  show zAt p l e ({ frames := 0, cells := 0, slots := 0, locals := 0 } : Room) s m args below meth c 0 0 (MQ below (va_Qi (zPi K) (zB D vwCl (tyA dA) NX ad (celX ad dA)) (zA ad NX sz)) args s 0 0 (zA ad NX sz)) 1 D vwCl (zA ad NX sz) NX ad (celX ad dA) 0 [(0, .ref (aK x0.toNat))] [] σ
  refine z_comp hC hE rfl (uT _ _ u555) dJ0_coder_7d493_0 ?_
  refine z_if_eq (tgt := 13) hC dJ0_coder_7d493_3 (by decide) (zlit rfl rfl) (fun hc => ?_) (fun hc => ?_)
  · replace hf := hf.1 hc
    refine z_iconst hC dJ0_coder_7d493_13 ?_
    exact z_gret hC hr rfl dJ0_coder_7d493_14 rfl hf
  · replace hf := hf.2 hc
    refine z_aload_n hC dJ0_coder_7d493_6 0 rfl rfl ?_
    refine z_scod hC hE (i := x0) qx0 (uT _ _ u2233) dJ0_coder_7d493_7 ?_
    refine z_goto (tgt := 14) hC dJ0_coder_7d493_10 (by decide) ?_
    exact z_gret hC hr rfl dJ0_coder_7d493_14 rfl hf

-- ===== J0_length_8abf5
def fJ0_length_8abf5 (K : Int → zSt → Prop) (σ : zSt) (x0 : Int) : Prop :=
  (0 ≤ x0 ∧ x0 < 21) ∧ fJ0_coder_7d493 (fun r1 σ1 => zrg (cLen x0) ∧ (0 ≤ r1 ∧ r1 < 32) ∧ K ((cLen x0) / 2 ^ r1.toNat) σ1) σ x0
set_option maxHeartbeats 4000000 in
set_option maxRecDepth 100000 in
theorem mJ0_length_8abf5 {D : va_G} {dA : Nat → ClassId} {ad : Nat → Nat} {aL aG aI : Nat} {aK aV : Nat → Nat} (l : Launch) (hinj : ∀ i j, i < NX → j < NX → ad i = ad j → i = j) (sz : Nat) {K : Int → zSt → Prop} {σ : zSt} {x0 : Int} (hf : fJ0_length_8abf5 K σ x0) : Met l yJ0_length_8abf5 (Cond.code yJ0_length_8abf5 cJ0_length_8abf5 1 (some .int) :: UW) ({ frames := 1, cells := 0, slots := 0, locals := 20 } : Room) (va_Pc [.ref (aK x0.toNat)] (zPre D vwCl (tyA dA) (zXX aL aG aI aK aV) NX ad (celX ad dA) sz σ)) (va_Qi (zPi K) (zB D vwCl (tyA dA) NX ad (celX ad dA)) (zA ad NX sz)) 0 0 (zA ad NX sz) := by
  refine z_enter (cc := cJ0_length_8abf5) (maxL := 1) (ret := (some .int)) (vs := [.ref (aK x0.toNat)]) (by decide +kernel) rfl hinj (Nat.le_of_ble_eq_true rfl) ?_
  intro p e s m args below meth c hC hE hsz hr hnm
  obtain ⟨qx0, hf⟩ := hf
  show zAt p l e ({ frames := 1, cells := 0, slots := 0, locals := 20 } : Room) s m args below meth c 0 0 (MQ below (va_Qi (zPi K) (zB D vwCl (tyA dA) NX ad (celX ad dA)) (zA ad NX sz)) args s 0 0 (zA ad NX sz)) 1 D vwCl (zA ad NX sz) NX ad (celX ad dA) 0 [(0, .ref (aK x0.toNat))] [] σ
  refine z_aload_n hC dJ0_length_8abf5_0 0 rfl rfl ?_
  refine z_sval hC hE (i := x0) qx0 (uT _ _ u2232) dJ0_length_8abf5_1 ?_
  refine z_slen hC hE (i := x0) qx0 dJ0_length_8abf5_4 ?_
  refine z_aload_n hC dJ0_length_8abf5_5 0 rfl rfl ?_
  refine z_callT hC hE (i := x0) qx0 [] (fun sz2 => mJ0_coder_7d493 l hinj sz2 hf) (cwV 0 hC.1.2.2.2.2 (uV (uT _) u551 u552 u553 u119 u554) rfl rfl rfl (by decide +kernel) ⟨Nat.le_of_ble_eq_true rfl, Nat.le_of_ble_eq_true rfl⟩) rfl rfl (Nat.le_of_ble_eq_true rfl) ⟨Nat.le_of_ble_eq_true rfl, Nat.le_of_ble_eq_true rfl⟩ dJ0_length_8abf5_6 (fun r1 σ1 hf => ?_)
  obtain ⟨g2, hf⟩ := hf
  obtain ⟨g3, hf⟩ := hf
  refine z_ishr hC g2 g3 dJ0_length_8abf5_9 ?_
  exact z_iret hC hr rfl dJ0_length_8abf5_10 hf

-- ===== J0_isLatin1_aae02
def fJ0_isLatin1_aae02 (K : Int → zSt → Prop) (σ : zSt) (x0 : Int) : Prop :=
  (0 ≤ x0 ∧ x0 < 21) ∧ (((1 : Int) = 0 → K 0 σ) ∧ (¬ (1 : Int) = 0 → (((0 : Int) = 0 → K 1 σ) ∧ (¬ (0 : Int) = 0 → K 0 σ))))
set_option maxHeartbeats 4000000 in
set_option maxRecDepth 100000 in
theorem mJ0_isLatin1_aae02 {D : va_G} {dA : Nat → ClassId} {ad : Nat → Nat} {aL aG aI : Nat} {aK aV : Nat → Nat} (l : Launch) (hinj : ∀ i j, i < NX → j < NX → ad i = ad j → i = j) (sz : Nat) {K : Int → zSt → Prop} {σ : zSt} {x0 : Int} (hf : fJ0_isLatin1_aae02 K σ x0) : Met l yJ0_isLatin1_aae02 (Cond.code yJ0_isLatin1_aae02 cJ0_isLatin1_aae02 1 (some .boolean) :: UW) ({ frames := 0, cells := 0, slots := 0, locals := 0 } : Room) (va_Pc [.ref (aK x0.toNat)] (zPre D vwCl (tyA dA) (zXX aL aG aI aK aV) NX ad (celX ad dA) sz σ)) (va_Qi (zPi K) (zB D vwCl (tyA dA) NX ad (celX ad dA)) (zA ad NX sz)) 0 0 (zA ad NX sz) := by
  refine z_enter (cc := cJ0_isLatin1_aae02) (maxL := 1) (ret := (some .boolean)) (vs := [.ref (aK x0.toNat)]) (by decide +kernel) rfl hinj (Nat.le_of_ble_eq_true rfl) ?_
  intro p e s m args below meth c hC hE hsz hr hnm
  obtain ⟨qx0, hf⟩ := hf
  show zAt p l e ({ frames := 0, cells := 0, slots := 0, locals := 0 } : Room) s m args below meth c 0 0 (MQ below (va_Qi (zPi K) (zB D vwCl (tyA dA) NX ad (celX ad dA)) (zA ad NX sz)) args s 0 0 (zA ad NX sz)) 1 D vwCl (zA ad NX sz) NX ad (celX ad dA) 0 [(0, .ref (aK x0.toNat))] [] σ
  refine z_comp hC hE rfl (uT _ _ u555) dJ0_isLatin1_aae02_0 ?_
  refine z_if_eq (tgt := 17) hC dJ0_isLatin1_aae02_3 (by decide) (zlit rfl rfl) (fun hc => ?_) (fun hc => ?_)
  · replace hf := hf.1 hc
    refine z_iconst hC dJ0_isLatin1_aae02_17 ?_
    exact z_bret hC hr rfl dJ0_isLatin1_aae02_18 (Or.inl rfl) hf
  · replace hf := hf.2 hc
    refine z_aload_n hC dJ0_isLatin1_aae02_6 0 rfl rfl ?_
    refine z_scod hC hE (i := x0) qx0 (uT _ _ u2233) dJ0_isLatin1_aae02_7 ?_
    refine z_if_ne (tgt := 17) hC dJ0_isLatin1_aae02_10 (by decide) (zlit rfl rfl) (fun hc => ?_) (fun hc => ?_)
    · replace hf := hf.2 hc
      refine z_iconst hC dJ0_isLatin1_aae02_17 ?_
      exact z_bret hC hr rfl dJ0_isLatin1_aae02_18 (Or.inl rfl) hf
    · replace hf := hf.1 hc
      refine z_iconst hC dJ0_isLatin1_aae02_13 ?_
      refine z_goto (tgt := 18) hC dJ0_isLatin1_aae02_14 (by decide) ?_
      exact z_bret hC hr rfl dJ0_isLatin1_aae02_18 (Or.inr rfl) hf

-- ===== J0_charAt_5068e
def fJ0_charAt_5068e (K : Int → zSt → Prop) (σ : zSt) (x0 : Int) (x1 : Int) : Prop :=
  (0 ≤ x0 ∧ x0 < 21) ∧ fJ0_isLatin1_aae02 (fun r1 σ1 => zrg r1 ∧ ((r1 = 0 → False) ∧ (¬ r1 = 0 → fJ1_charAt_3b067 (fun r3 σ3 => (0 ≤ r3 ∧ r3 < 65536) ∧ K r3 σ3) σ1 x0 x1))) σ x0
set_option maxHeartbeats 4000000 in
set_option maxRecDepth 100000 in
theorem mJ0_charAt_5068e {D : va_G} {dA : Nat → ClassId} {ad : Nat → Nat} {aL aG aI : Nat} {aK aV : Nat → Nat} (l : Launch) (hinj : ∀ i j, i < NX → j < NX → ad i = ad j → i = j) (sz : Nat) {K : Int → zSt → Prop} {σ : zSt} {x0 : Int} {x1 : Int} (hf : fJ0_charAt_5068e K σ x0 x1) : Met l yJ0_charAt_5068e (Cond.code yJ0_charAt_5068e cJ0_charAt_5068e 2 (some .char) :: UW) ({ frames := 3, cells := 0, slots := 0, locals := 64 } : Room) (va_Pc [.ref (aK x0.toNat), vI x1] (zPre D vwCl (tyA dA) (zXX aL aG aI aK aV) NX ad (celX ad dA) sz σ)) (va_Qi (zPi K) (zB D vwCl (tyA dA) NX ad (celX ad dA)) (zA ad NX sz)) 0 0 (zA ad NX sz) := by
  refine z_enter (cc := cJ0_charAt_5068e) (maxL := 2) (ret := (some .char)) (vs := [.ref (aK x0.toNat), vI x1]) (by decide +kernel) rfl hinj (Nat.le_of_ble_eq_true rfl) ?_
  intro p e s m args below meth c hC hE hsz hr hnm
  obtain ⟨qx0, hf⟩ := hf
  show zAt p l e ({ frames := 3, cells := 0, slots := 0, locals := 64 } : Room) s m args below meth c 0 0 (MQ below (va_Qi (zPi K) (zB D vwCl (tyA dA) NX ad (celX ad dA)) (zA ad NX sz)) args s 0 0 (zA ad NX sz)) 2 D vwCl (zA ad NX sz) NX ad (celX ad dA) 0 [(0, .ref (aK x0.toNat)), (1, vI x1)] [] σ
  refine z_aload_n hC dJ0_charAt_5068e_0 0 rfl rfl ?_
  refine z_callT hC hE (i := x0) qx0 [] (fun sz2 => mJ0_isLatin1_aae02 l hinj sz2 hf) (cwV 0 hC.1.2.2.2.2 (uV (uT _) u561 u562 u563 u119 u564) rfl rfl rfl (by decide +kernel) ⟨Nat.le_of_ble_eq_true rfl, Nat.le_of_ble_eq_true rfl⟩) rfl rfl (Nat.le_of_ble_eq_true rfl) ⟨Nat.le_of_ble_eq_true rfl, Nat.le_of_ble_eq_true rfl⟩ dJ0_charAt_5068e_1 (fun r1 σ1 hf => ?_)
  obtain ⟨g2, hf⟩ := hf
  refine z_if_eq (tgt := 16) hC dJ0_charAt_5068e_4 (by decide) g2 (fun hc => ?_) (fun hc => ?_)
  · replace hf := hf.1 hc
    exact hf.elim
  · replace hf := hf.2 hc
    refine z_aload_n hC dJ0_charAt_5068e_7 0 rfl rfl ?_
    refine z_sval hC hE (i := x0) qx0 (uT _ _ u2232) dJ0_charAt_5068e_8 ?_
    refine z_iload_n hC dJ0_charAt_5068e_11 1 rfl rfl ?_
    refine z_callSi hC hE [.ref (aV x0.toNat), vI x1] (fun sz2 => mJ1_charAt_3b067 l hinj sz2 hf) (va_cwS 2 hC.1.2.2.2.2 (uS (uT _) u565 u566 u120 u567) rfl rfl rfl (by decide +kernel) ⟨Nat.le_of_ble_eq_true rfl, Nat.le_of_ble_eq_true rfl⟩) rfl rfl (Nat.le_of_ble_eq_true rfl) ⟨Nat.le_of_ble_eq_true rfl, Nat.le_of_ble_eq_true rfl⟩ dJ0_charAt_5068e_12 (fun r3 σ3 hf => ?_)
    obtain ⟨g4, hf⟩ := hf
    exact z_gret hC hr rfl dJ0_charAt_5068e_15 (znar_c g4) hf

-- ===== X2_isWord
noncomputable def fX2_isWord_B23 (K : Int → zSt → Prop) (n : Nat) : zSt → Int → Int → Prop :=
  Nat.rec (motive := fun _ => zSt → Int → Int → Prop) (fun _ _ _ => False) (fun _ ih σ x1 x2 => fJ0_length_8abf5 (fun r6 σ6 => zrg x2 ∧ zrg r6 ∧ ((r6 ≤ x2 → K 1 σ6) ∧ (¬ r6 ≤ x2 → fX2_signAt (fun r9 σ9 => fJ0_charAt_5068e (fun r10 σ10 => zrg r9 ∧ zrg r10 ∧ ((r9 = r10 → ih σ10 x1 (x2 + 1)) ∧ (¬ r9 = r10 → K 0 σ10))) σ9 x1 x2) σ6 ((σ6 2 2) + x2)))) σ x1) n
theorem uX2_isWord_B23 (K : Int → zSt → Prop) (n0 : Nat) (σ : zSt) (x1 : Int) (x2 : Int) : fX2_isWord_B23 K (n0 + 1) σ x1 x2 = (fJ0_length_8abf5 (fun r6 σ6 => zrg x2 ∧ zrg r6 ∧ ((r6 ≤ x2 → K 1 σ6) ∧ (¬ r6 ≤ x2 → fX2_signAt (fun r9 σ9 => fJ0_charAt_5068e (fun r10 σ10 => zrg r9 ∧ zrg r10 ∧ ((r9 = r10 → (fX2_isWord_B23 K n0) σ10 x1 (x2 + 1)) ∧ (¬ r9 = r10 → K 0 σ10))) σ9 x1 x2) σ6 ((σ6 2 2) + x2)))) σ x1) := rfl
def fX2_isWord (K : Int → zSt → Prop) (σ : zSt) (x1 : Int) : Prop :=
  (0 ≤ x1 ∧ x1 < 21) ∧ zrg (σ 2 1) ∧ ((σ 2 1 = 1 → fX2_tokenLength (fun r2 σ2 => fJ0_length_8abf5 (fun r3 σ3 => zrg r2 ∧ zrg r3 ∧ ((r2 = r3 → (∃ n, fX2_isWord_B23 K n σ3 x1 0)) ∧ (¬ r2 = r3 → K 0 σ3))) σ2 x1) σ ) ∧ (¬ σ 2 1 = 1 → K 0 σ))
set_option maxHeartbeats 4000000 in
set_option maxRecDepth 100000 in
theorem wX2_isWord_B23 {p : Program} {l : Launch} {e : Env} {s : State} {m : MethodId} {args : Array Value} {below : List Frame} {meth : Method} {c : Code} {D : va_G} {dA : Nat → ClassId} {ad : Nat → Nat} {sz : Nat} {aL aG aI : Nat} {aK aV : Nat → Nat} {K : Int → zSt → Prop} (hC : zC p m c cX2_isWord 3 s args (Cond.code yX2_isWord cX2_isWord 3 (some .boolean) :: UW) RX2 meth D vwCl (tyA dA) (zA ad NX sz) NX ad (celX ad dA)) (hE : zE (zXX aL aG aI aK aV) (zA ad NX sz) s s.heap) (hr : meth.sig.returnType = (some .boolean)) (hinj : ∀ i j, i < NX → j < NX → ad i = ad j → i = j) : ∀ (n : Nat) (σ : zSt) (x1 : Int) (x2 : Int) (qx1 : (0 ≤ x1 ∧ x1 < 21)), fX2_isWord_B23 K n σ x1 x2 → zAt p l e ({ frames := 4, cells := 0, slots := 0, locals := 85 } : Room) s m args below meth c 0 0 (MQ below (va_Qi (zPi K) (zB D vwCl (tyA dA) NX ad (celX ad dA)) (zA ad NX sz)) args s 0 0 (zA ad NX sz)) 3 D vwCl (zA ad NX sz) NX ad (celX ad dA) 23 [(0, vR ad 2), (1, .ref (aK x1.toNat)), (2, vI x2)] [] σ := by
  intro n
  induction n with
  | zero => intro σ x1 x2 qx1 hf; exact False.elim hf
  | succ n ih =>
    intro σ x1 x2 qx1 hf
    rw [uX2_isWord_B23] at hf
    refine z_iload_n hC dX2_isWord_23 2 rfl rfl ?_
    refine z_aload_n hC dX2_isWord_24 1 rfl rfl ?_
    refine z_callT hC hE (i := x1) qx1 [] (fun sz2 => mJ0_length_8abf5 l hinj sz2 hf) (cwV 0 hC.1.2.2.2.2 (uV (uT _) u547 u548 u549 u119 u550) rfl rfl rfl (by decide +kernel) ⟨Nat.le_of_ble_eq_true rfl, Nat.le_of_ble_eq_true rfl⟩) rfl rfl (Nat.le_of_ble_eq_true rfl) ⟨Nat.le_of_ble_eq_true rfl, Nat.le_of_ble_eq_true rfl⟩ dX2_isWord_25 (fun r6 σ6 hf => ?_)
    obtain ⟨g7, hf⟩ := hf
    obtain ⟨g8, hf⟩ := hf
    refine z_icmp_ge (tgt := 57) hC dX2_isWord_28 (by decide) g7 g8 (fun hc => ?_) (fun hc => ?_)
    · replace hf := hf.1 hc
      refine z_iconst hC dX2_isWord_57 ?_
      exact z_bret hC hr rfl dX2_isWord_58 (Or.inr rfl) hf
    · replace hf := hf.2 hc
      refine z_aload_n hC dX2_isWord_31 0 rfl rfl ?_
      refine z_aload_n hC dX2_isWord_32 0 rfl rfl ?_
      refine z_get hC (fun w h => uT _ w (uL2 w h)) (oX_2 (show kX 2 = 2 by decide)) 2 (by decide) (uT _ _ u280) rfl rfl dX2_isWord_33 ?_
      refine z_iload_n hC dX2_isWord_36 2 rfl rfl ?_
      refine z_iadd hC dX2_isWord_37 ?_
      refine z_callVi hC hE (oX_2 (show kX 2 = 2 by decide)) [vI ((σ6 2 2) + x2)] (fun sz2 => mX2_signAt l hinj sz2 hf) (cwV 1 hC.1.2.2.2.2 (uV (uT _) u523 u525 u0 u112 u526) rfl rfl rfl (by decide +kernel) ⟨Nat.le_of_ble_eq_true rfl, Nat.le_of_ble_eq_true rfl⟩) rfl rfl (Nat.le_of_ble_eq_true rfl) ⟨Nat.le_of_ble_eq_true rfl, Nat.le_of_ble_eq_true rfl⟩ dX2_isWord_38 (fun r9 σ9 hf => ?_)
      refine z_aload_n hC dX2_isWord_41 1 rfl rfl ?_
      refine z_iload_n hC dX2_isWord_42 2 rfl rfl ?_
      refine z_callT hC hE (i := x1) qx1 [vI x2] (fun sz2 => mJ0_charAt_5068e l hinj sz2 hf) (cwV 1 hC.1.2.2.2.2 (uV (uT _) u557 u558 u559 u119 u560) rfl rfl rfl (by decide +kernel) ⟨Nat.le_of_ble_eq_true rfl, Nat.le_of_ble_eq_true rfl⟩) rfl rfl (Nat.le_of_ble_eq_true rfl) ⟨Nat.le_of_ble_eq_true rfl, Nat.le_of_ble_eq_true rfl⟩ dX2_isWord_43 (fun r10 σ10 hf => ?_)
      obtain ⟨g11, hf⟩ := hf
      obtain ⟨g12, hf⟩ := hf
      refine z_icmp_eq (tgt := 51) hC dX2_isWord_46 (by decide) g11 g12 (fun hc => ?_) (fun hc => ?_)
      · replace hf := hf.1 hc
        refine z_iinc hC ([(2, vI (x2 + 1)), (0, vR ad 2), (1, .ref (aK x1.toNat))]) dX2_isWord_51 2 rfl (by decide) rfl ?_
        refine z_goto (tgt := 23) hC dX2_isWord_54 (by decide) ?_
        refine z_sub (lv' := [(0, vR ad 2), (1, .ref (aK x1.toNat)), (2, vI (x2 + 1))]) [1, 2, 0] rfl ?_
        exact ih _ _ _ qx1 hf
      · replace hf := hf.2 hc
        refine z_iconst hC dX2_isWord_49 ?_
        exact z_bret hC hr rfl dX2_isWord_50 (Or.inl rfl) hf
set_option maxHeartbeats 4000000 in
set_option maxRecDepth 100000 in
theorem mX2_isWord {D : va_G} {dA : Nat → ClassId} {ad : Nat → Nat} {aL aG aI : Nat} {aK aV : Nat → Nat} (l : Launch) (hinj : ∀ i j, i < NX → j < NX → ad i = ad j → i = j) (sz : Nat) {K : Int → zSt → Prop} {σ : zSt} {x1 : Int} (hf : fX2_isWord K σ x1) : Met l yX2_isWord (Cond.code yX2_isWord cX2_isWord 3 (some .boolean) :: UW) ({ frames := 4, cells := 0, slots := 0, locals := 85 } : Room) (va_Pc [vR ad 2, .ref (aK x1.toNat)] (zPre D vwCl (tyA dA) (zXX aL aG aI aK aV) NX ad (celX ad dA) sz σ)) (va_Qi (zPi K) (zB D vwCl (tyA dA) NX ad (celX ad dA)) (zA ad NX sz)) 0 0 (zA ad NX sz) := by
  refine z_enter (cc := cX2_isWord) (maxL := 3) (ret := (some .boolean)) (vs := [vR ad 2, .ref (aK x1.toNat)]) (plainFor_of_name (by decide)) rfl hinj (Nat.le_of_ble_eq_true rfl) ?_
  intro p e s m args below meth c hC hE hsz hr hnm
  obtain ⟨qx1, hf⟩ := hf
  show zAt p l e ({ frames := 4, cells := 0, slots := 0, locals := 85 } : Room) s m args below meth c 0 0 (MQ below (va_Qi (zPi K) (zB D vwCl (tyA dA) NX ad (celX ad dA)) (zA ad NX sz)) args s 0 0 (zA ad NX sz)) 3 D vwCl (zA ad NX sz) NX ad (celX ad dA) 0 [(0, vR ad 2), (1, .ref (aK x1.toNat))] [] σ
  refine z_aload_n hC dX2_isWord_0 0 rfl rfl ?_
  refine z_get hC (fun w h => uT _ w (uL2 w h)) (oX_2 (show kX 2 = 2 by decide)) 1 (by decide) (uT _ _ u278) rfl rfl dX2_isWord_1 ?_
  refine z_iconst hC dX2_isWord_4 ?_
  obtain ⟨g1, hf⟩ := hf
  refine z_icmp_ne (tgt := 19) hC dX2_isWord_5 (by decide) g1 (zlit rfl rfl) (fun hc => ?_) (fun hc => ?_)
  · replace hf := hf.2 hc
    refine z_iconst hC dX2_isWord_19 ?_
    exact z_bret hC hr rfl dX2_isWord_20 (Or.inl rfl) hf
  · replace hf := hf.1 hc
    refine z_aload_n hC dX2_isWord_8 0 rfl rfl ?_
    refine z_callVi hC hE (oX_2 (show kX 2 = 2 by decide)) [] (fun sz2 => mX2_tokenLength l hinj sz2 hf) (cwV 0 hC.1.2.2.2.2 (uV (uT _) u543 u544 u545 u112 u546) rfl rfl rfl (by decide +kernel) ⟨Nat.le_of_ble_eq_true rfl, Nat.le_of_ble_eq_true rfl⟩) rfl rfl (Nat.le_of_ble_eq_true rfl) ⟨Nat.le_of_ble_eq_true rfl, Nat.le_of_ble_eq_true rfl⟩ dX2_isWord_9 (fun r2 σ2 hf => ?_)
    refine z_aload_n hC dX2_isWord_12 1 rfl rfl ?_
    refine z_callT hC hE (i := x1) qx1 [] (fun sz2 => mJ0_length_8abf5 l hinj sz2 hf) (cwV 0 hC.1.2.2.2.2 (uV (uT _) u547 u548 u549 u119 u550) rfl rfl rfl (by decide +kernel) ⟨Nat.le_of_ble_eq_true rfl, Nat.le_of_ble_eq_true rfl⟩) rfl rfl (Nat.le_of_ble_eq_true rfl) ⟨Nat.le_of_ble_eq_true rfl, Nat.le_of_ble_eq_true rfl⟩ dX2_isWord_13 (fun r3 σ3 hf => ?_)
    obtain ⟨g4, hf⟩ := hf
    obtain ⟨g5, hf⟩ := hf
    refine z_icmp_eq (tgt := 21) hC dX2_isWord_16 (by decide) g4 g5 (fun hc => ?_) (fun hc => ?_)
    · replace hf := hf.1 hc
      refine z_iconst hC dX2_isWord_21 ?_
      refine z_istore_n hC ([(2, vI 0), (0, vR ad 2), (1, .ref (aK x1.toNat))]) dX2_isWord_22 rfl (by decide) rfl ?_
      refine z_sub (lv' := [(0, vR ad 2), (1, .ref (aK x1.toNat)), (2, vI 0)]) [1, 2, 0] rfl ?_
      obtain ⟨n, hf⟩ := hf
      exact wX2_isWord_B23 hC hE hr hinj n _ _ _ qx1 hf
    · replace hf := hf.2 hc
      refine z_iconst hC dX2_isWord_19 ?_
      exact z_bret hC hr rfl dX2_isWord_20 (Or.inl rfl) hf

-- ===== X4_settingNamed
def fX4_settingNamed (K : Int → zSt → Prop) (σ : zSt) : Prop :=
  fX2_isWord (fun r1 σ1 => zrg r1 ∧ ((r1 = 0 → fX2_isWord (fun r3 σ3 => zrg r3 ∧ ((r3 = 0 → fX2_isWord (fun r5 σ5 => zrg r5 ∧ ((r5 = 0 → fX2_isWord (fun r7 σ7 => zrg r7 ∧ ((r7 = 0 → fX2_isWord (fun r9 σ9 => zrg r9 ∧ ((r9 = 0 → fX2_isWord (fun r11 σ11 => zrg r11 ∧ ((r11 = 0 → fX2_isWord (fun r13 σ13 => zrg r13 ∧ ((r13 = 0 → fX2_isWord (fun r15 σ15 => zrg r15 ∧ ((r15 = 0 → K (-1) σ15) ∧ (¬ r15 = 0 → K 7 σ15))) σ13 13) ∧ (¬ r13 = 0 → K 6 σ13))) σ11 12) ∧ (¬ r11 = 0 → K 5 σ11))) σ9 11) ∧ (¬ r9 = 0 → K 4 σ9))) σ7 10) ∧ (¬ r7 = 0 → K 3 σ7))) σ5 9) ∧ (¬ r5 = 0 → K 2 σ5))) σ3 8) ∧ (¬ r3 = 0 → K 1 σ3))) σ1 7) ∧ (¬ r1 = 0 → K 0 σ1))) σ 6
set_option maxHeartbeats 4000000 in
set_option maxRecDepth 100000 in
theorem mX4_settingNamed {D : va_G} {dA : Nat → ClassId} {ad : Nat → Nat} {aL aG aI : Nat} {aK aV : Nat → Nat} (l : Launch) (hinj : ∀ i j, i < NX → j < NX → ad i = ad j → i = j) (sz : Nat) {K : Int → zSt → Prop} {σ : zSt} (hf : fX4_settingNamed K σ ) : Met l yX4_settingNamed (Cond.code yX4_settingNamed cX4_settingNamed 1 (some .int) :: UW) ({ frames := 5, cells := 0, slots := 0, locals := 107 } : Room) (va_Pc [vR ad 1] (zPre D vwCl (tyA dA) (zXX aL aG aI aK aV) NX ad (celX ad dA) sz σ)) (va_Qi (zPi K) (zB D vwCl (tyA dA) NX ad (celX ad dA)) (zA ad NX sz)) 0 0 (zA ad NX sz) := by
  refine z_enter (cc := cX4_settingNamed) (maxL := 1) (ret := (some .int)) (vs := [vR ad 1]) (plainFor_of_name (by decide)) rfl hinj (Nat.le_of_ble_eq_true rfl) ?_
  intro p e s m args below meth c hC hE hsz hr hnm
  show zAt p l e ({ frames := 5, cells := 0, slots := 0, locals := 107 } : Room) s m args below meth c 0 0 (MQ below (va_Qi (zPi K) (zB D vwCl (tyA dA) NX ad (celX ad dA)) (zA ad NX sz)) args s 0 0 (zA ad NX sz)) 1 D vwCl (zA ad NX sz) NX ad (celX ad dA) 0 [(0, vR ad 1)] [] σ
  refine z_aload_n hC dX4_settingNamed_0 0 rfl rfl ?_
  refine z_get hC (fun w h => uT _ w (uL4 w h)) (oX_4 (show kX 1 = 4 by decide)) 0 (by decide) (uT _ _ u305) rfl rfl dX4_settingNamed_1 ?_
  refine z_ldcS hC hE (q := aK (6 : Int).toNat) (List.mem_of_getElem? (i := 6) rfl) dX4_settingNamed_4 ?_
  refine z_callVi hC hE (oX_2 (show kX 2 = 2 by decide)) [.ref (aK (6 : Int).toNat)] (fun sz2 => mX2_isWord l hinj sz2 hf) (cwV 1 hC.1.2.2.2.2 (uV (uT _) u539 u540 u541 u112 u542) rfl rfl rfl (by decide +kernel) ⟨Nat.le_of_ble_eq_true rfl, Nat.le_of_ble_eq_true rfl⟩) rfl rfl (Nat.le_of_ble_eq_true rfl) ⟨Nat.le_of_ble_eq_true rfl, Nat.le_of_ble_eq_true rfl⟩ dX4_settingNamed_6 (fun r1 σ1 hf => ?_)
  obtain ⟨g2, hf⟩ := hf
  refine z_if_eq (tgt := 16) hC dX4_settingNamed_9 (by decide) g2 (fun hc => ?_) (fun hc => ?_)
  · replace hf := hf.1 hc
    refine z_aload_n hC dX4_settingNamed_16 0 rfl rfl ?_
    refine z_get hC (fun w h => uT _ w (uL4 w h)) (oX_4 (show kX 1 = 4 by decide)) 0 (by decide) (uT _ _ u305) rfl rfl dX4_settingNamed_17 ?_
    refine z_ldcS hC hE (q := aK (7 : Int).toNat) (List.mem_of_getElem? (i := 7) rfl) dX4_settingNamed_20 ?_
    refine z_callVi hC hE (oX_2 (show kX 2 = 2 by decide)) [.ref (aK (7 : Int).toNat)] (fun sz2 => mX2_isWord l hinj sz2 hf) (cwV 1 hC.1.2.2.2.2 (uV (uT _) u539 u540 u541 u112 u542) rfl rfl rfl (by decide +kernel) ⟨Nat.le_of_ble_eq_true rfl, Nat.le_of_ble_eq_true rfl⟩) rfl rfl (Nat.le_of_ble_eq_true rfl) ⟨Nat.le_of_ble_eq_true rfl, Nat.le_of_ble_eq_true rfl⟩ dX4_settingNamed_22 (fun r3 σ3 hf => ?_)
    obtain ⟨g4, hf⟩ := hf
    refine z_if_eq (tgt := 32) hC dX4_settingNamed_25 (by decide) g4 (fun hc => ?_) (fun hc => ?_)
    · replace hf := hf.1 hc
      refine z_aload_n hC dX4_settingNamed_32 0 rfl rfl ?_
      refine z_get hC (fun w h => uT _ w (uL4 w h)) (oX_4 (show kX 1 = 4 by decide)) 0 (by decide) (uT _ _ u305) rfl rfl dX4_settingNamed_33 ?_
      refine z_ldcS hC hE (q := aK (8 : Int).toNat) (List.mem_of_getElem? (i := 8) rfl) dX4_settingNamed_36 ?_
      refine z_callVi hC hE (oX_2 (show kX 2 = 2 by decide)) [.ref (aK (8 : Int).toNat)] (fun sz2 => mX2_isWord l hinj sz2 hf) (cwV 1 hC.1.2.2.2.2 (uV (uT _) u539 u540 u541 u112 u542) rfl rfl rfl (by decide +kernel) ⟨Nat.le_of_ble_eq_true rfl, Nat.le_of_ble_eq_true rfl⟩) rfl rfl (Nat.le_of_ble_eq_true rfl) ⟨Nat.le_of_ble_eq_true rfl, Nat.le_of_ble_eq_true rfl⟩ dX4_settingNamed_38 (fun r5 σ5 hf => ?_)
      obtain ⟨g6, hf⟩ := hf
      refine z_if_eq (tgt := 48) hC dX4_settingNamed_41 (by decide) g6 (fun hc => ?_) (fun hc => ?_)
      · replace hf := hf.1 hc
        refine z_aload_n hC dX4_settingNamed_48 0 rfl rfl ?_
        refine z_get hC (fun w h => uT _ w (uL4 w h)) (oX_4 (show kX 1 = 4 by decide)) 0 (by decide) (uT _ _ u305) rfl rfl dX4_settingNamed_49 ?_
        refine z_ldcS hC hE (q := aK (9 : Int).toNat) (List.mem_of_getElem? (i := 9) rfl) dX4_settingNamed_52 ?_
        refine z_callVi hC hE (oX_2 (show kX 2 = 2 by decide)) [.ref (aK (9 : Int).toNat)] (fun sz2 => mX2_isWord l hinj sz2 hf) (cwV 1 hC.1.2.2.2.2 (uV (uT _) u539 u540 u541 u112 u542) rfl rfl rfl (by decide +kernel) ⟨Nat.le_of_ble_eq_true rfl, Nat.le_of_ble_eq_true rfl⟩) rfl rfl (Nat.le_of_ble_eq_true rfl) ⟨Nat.le_of_ble_eq_true rfl, Nat.le_of_ble_eq_true rfl⟩ dX4_settingNamed_54 (fun r7 σ7 hf => ?_)
        obtain ⟨g8, hf⟩ := hf
        refine z_if_eq (tgt := 64) hC dX4_settingNamed_57 (by decide) g8 (fun hc => ?_) (fun hc => ?_)
        · replace hf := hf.1 hc
          refine z_aload_n hC dX4_settingNamed_64 0 rfl rfl ?_
          refine z_get hC (fun w h => uT _ w (uL4 w h)) (oX_4 (show kX 1 = 4 by decide)) 0 (by decide) (uT _ _ u305) rfl rfl dX4_settingNamed_65 ?_
          refine z_ldcS hC hE (q := aK (10 : Int).toNat) (List.mem_of_getElem? (i := 10) rfl) dX4_settingNamed_68 ?_
          refine z_callVi hC hE (oX_2 (show kX 2 = 2 by decide)) [.ref (aK (10 : Int).toNat)] (fun sz2 => mX2_isWord l hinj sz2 hf) (cwV 1 hC.1.2.2.2.2 (uV (uT _) u539 u540 u541 u112 u542) rfl rfl rfl (by decide +kernel) ⟨Nat.le_of_ble_eq_true rfl, Nat.le_of_ble_eq_true rfl⟩) rfl rfl (Nat.le_of_ble_eq_true rfl) ⟨Nat.le_of_ble_eq_true rfl, Nat.le_of_ble_eq_true rfl⟩ dX4_settingNamed_70 (fun r9 σ9 hf => ?_)
          obtain ⟨g10, hf⟩ := hf
          refine z_if_eq (tgt := 80) hC dX4_settingNamed_73 (by decide) g10 (fun hc => ?_) (fun hc => ?_)
          · replace hf := hf.1 hc
            refine z_aload_n hC dX4_settingNamed_80 0 rfl rfl ?_
            refine z_get hC (fun w h => uT _ w (uL4 w h)) (oX_4 (show kX 1 = 4 by decide)) 0 (by decide) (uT _ _ u305) rfl rfl dX4_settingNamed_81 ?_
            refine z_ldcS hC hE (q := aK (11 : Int).toNat) (List.mem_of_getElem? (i := 11) rfl) dX4_settingNamed_84 ?_
            refine z_callVi hC hE (oX_2 (show kX 2 = 2 by decide)) [.ref (aK (11 : Int).toNat)] (fun sz2 => mX2_isWord l hinj sz2 hf) (cwV 1 hC.1.2.2.2.2 (uV (uT _) u539 u540 u541 u112 u542) rfl rfl rfl (by decide +kernel) ⟨Nat.le_of_ble_eq_true rfl, Nat.le_of_ble_eq_true rfl⟩) rfl rfl (Nat.le_of_ble_eq_true rfl) ⟨Nat.le_of_ble_eq_true rfl, Nat.le_of_ble_eq_true rfl⟩ dX4_settingNamed_86 (fun r11 σ11 hf => ?_)
            obtain ⟨g12, hf⟩ := hf
            refine z_if_eq (tgt := 96) hC dX4_settingNamed_89 (by decide) g12 (fun hc => ?_) (fun hc => ?_)
            · replace hf := hf.1 hc
              refine z_aload_n hC dX4_settingNamed_96 0 rfl rfl ?_
              refine z_get hC (fun w h => uT _ w (uL4 w h)) (oX_4 (show kX 1 = 4 by decide)) 0 (by decide) (uT _ _ u305) rfl rfl dX4_settingNamed_97 ?_
              refine z_ldcS hC hE (q := aK (12 : Int).toNat) (List.mem_of_getElem? (i := 12) rfl) dX4_settingNamed_100 ?_
              refine z_callVi hC hE (oX_2 (show kX 2 = 2 by decide)) [.ref (aK (12 : Int).toNat)] (fun sz2 => mX2_isWord l hinj sz2 hf) (cwV 1 hC.1.2.2.2.2 (uV (uT _) u539 u540 u541 u112 u542) rfl rfl rfl (by decide +kernel) ⟨Nat.le_of_ble_eq_true rfl, Nat.le_of_ble_eq_true rfl⟩) rfl rfl (Nat.le_of_ble_eq_true rfl) ⟨Nat.le_of_ble_eq_true rfl, Nat.le_of_ble_eq_true rfl⟩ dX4_settingNamed_102 (fun r13 σ13 hf => ?_)
              obtain ⟨g14, hf⟩ := hf
              refine z_if_eq (tgt := 113) hC dX4_settingNamed_105 (by decide) g14 (fun hc => ?_) (fun hc => ?_)
              · replace hf := hf.1 hc
                refine z_aload_n hC dX4_settingNamed_113 0 rfl rfl ?_
                refine z_get hC (fun w h => uT _ w (uL4 w h)) (oX_4 (show kX 1 = 4 by decide)) 0 (by decide) (uT _ _ u305) rfl rfl dX4_settingNamed_114 ?_
                refine z_ldcS hC hE (q := aK (13 : Int).toNat) (List.mem_of_getElem? (i := 13) rfl) dX4_settingNamed_117 ?_
                refine z_callVi hC hE (oX_2 (show kX 2 = 2 by decide)) [.ref (aK (13 : Int).toNat)] (fun sz2 => mX2_isWord l hinj sz2 hf) (cwV 1 hC.1.2.2.2.2 (uV (uT _) u539 u540 u541 u112 u542) rfl rfl rfl (by decide +kernel) ⟨Nat.le_of_ble_eq_true rfl, Nat.le_of_ble_eq_true rfl⟩) rfl rfl (Nat.le_of_ble_eq_true rfl) ⟨Nat.le_of_ble_eq_true rfl, Nat.le_of_ble_eq_true rfl⟩ dX4_settingNamed_119 (fun r15 σ15 hf => ?_)
                obtain ⟨g16, hf⟩ := hf
                refine z_if_eq (tgt := 130) hC dX4_settingNamed_122 (by decide) g16 (fun hc => ?_) (fun hc => ?_)
                · replace hf := hf.1 hc
                  refine z_iconst hC dX4_settingNamed_130 ?_
                  exact z_iret hC hr rfl dX4_settingNamed_131 hf
                · replace hf := hf.2 hc
                  refine z_bipush hC dX4_settingNamed_125 (by decide) ?_
                  refine z_goto (tgt := 131) hC dX4_settingNamed_127 (by decide) ?_
                  exact z_iret hC hr rfl dX4_settingNamed_131 hf
              · replace hf := hf.2 hc
                refine z_bipush hC dX4_settingNamed_108 (by decide) ?_
                refine z_goto (tgt := 131) hC dX4_settingNamed_110 (by decide) ?_
                exact z_iret hC hr rfl dX4_settingNamed_131 hf
            · replace hf := hf.2 hc
              refine z_iconst hC dX4_settingNamed_92 ?_
              refine z_goto (tgt := 131) hC dX4_settingNamed_93 (by decide) ?_
              exact z_iret hC hr rfl dX4_settingNamed_131 hf
          · replace hf := hf.2 hc
            refine z_iconst hC dX4_settingNamed_76 ?_
            refine z_goto (tgt := 131) hC dX4_settingNamed_77 (by decide) ?_
            exact z_iret hC hr rfl dX4_settingNamed_131 hf
        · replace hf := hf.2 hc
          refine z_iconst hC dX4_settingNamed_60 ?_
          refine z_goto (tgt := 131) hC dX4_settingNamed_61 (by decide) ?_
          exact z_iret hC hr rfl dX4_settingNamed_131 hf
      · replace hf := hf.2 hc
        refine z_iconst hC dX4_settingNamed_44 ?_
        refine z_goto (tgt := 131) hC dX4_settingNamed_45 (by decide) ?_
        exact z_iret hC hr rfl dX4_settingNamed_131 hf
    · replace hf := hf.2 hc
      refine z_iconst hC dX4_settingNamed_28 ?_
      refine z_goto (tgt := 131) hC dX4_settingNamed_29 (by decide) ?_
      exact z_iret hC hr rfl dX4_settingNamed_131 hf
  · replace hf := hf.2 hc
    refine z_iconst hC dX4_settingNamed_12 ?_
    refine z_goto (tgt := 131) hC dX4_settingNamed_13 (by decide) ?_
    exact z_iret hC hr rfl dX4_settingNamed_131 hf

-- ===== X4_readSetting
def fX4_readSetting (K : Int → zSt → Prop) (σ : zSt) : Prop :=
  fX2_advance (fun σ1 => fX4_settingNamed (fun r2 σ2 => fX11_isSetting (fun r3 σ3 => zrg r3 ∧ ((r3 = 0 → K (-11) σ3) ∧ (¬ r3 = 0 → (0 ≤ r2 ∧ r2 < 8) ∧ zrg (σ3 4 r2) ∧ ((σ3 4 r2 = 0 → ∀ σ7, σ7 = zu σ3 4 r2 1 → fX4_readNumber (fun r8 σ8 => zrg r8 ∧ ((r8 = 0 → kX (σ8 1 1) = 8 ∧ ∀ σ11, σ11 = zu σ8 ((σ8 1 1) + 1) r2 (σ8 2 3) → fX2_advance (fun σ12 => K 0 σ12) σ11 ) ∧ (¬ r8 = 0 → K r8 σ8))) σ7 (cLEAST r2) (cGREAT r2)) ∧ (¬ σ3 4 r2 = 0 → K (-13) σ3))))) σ2 r2) σ1 ) σ 
set_option maxHeartbeats 4000000 in
set_option maxRecDepth 100000 in
theorem mX4_readSetting {D : va_G} {dA : Nat → ClassId} {ad : Nat → Nat} {aL aG aI : Nat} {aK aV : Nat → Nat} (l : Launch) (hinj : ∀ i j, i < NX → j < NX → ad i = ad j → i = j) (sz : Nat) {K : Int → zSt → Prop} {σ : zSt} (hf : fX4_readSetting K σ ) : Met l yX4_readSetting (Cond.code yX4_readSetting cX4_readSetting 3 (some .int) :: UW) ({ frames := 6, cells := 0, slots := 0, locals := 127 } : Room) (va_Pc [vR ad 1] (zPre D vwCl (tyA dA) (zXX aL aG aI aK aV) NX ad (celX ad dA) sz σ)) (va_Qi (zPi K) (zB D vwCl (tyA dA) NX ad (celX ad dA)) (zA ad NX sz)) 0 0 (zA ad NX sz) := by
  refine z_enter (cc := cX4_readSetting) (maxL := 3) (ret := (some .int)) (vs := [vR ad 1]) (plainFor_of_name (by decide)) rfl hinj (Nat.le_of_ble_eq_true rfl) ?_
  intro p e s m args below meth c hC hE hsz hr hnm
  show zAt p l e ({ frames := 6, cells := 0, slots := 0, locals := 127 } : Room) s m args below meth c 0 0 (MQ below (va_Qi (zPi K) (zB D vwCl (tyA dA) NX ad (celX ad dA)) (zA ad NX sz)) args s 0 0 (zA ad NX sz)) 3 D vwCl (zA ad NX sz) NX ad (celX ad dA) 0 [(0, vR ad 1)] [] σ
  refine z_aload_n hC dX4_readSetting_0 0 rfl rfl ?_
  refine z_get hC (fun w h => uT _ w (uL4 w h)) (oX_4 (show kX 1 = 4 by decide)) 0 (by decide) (uT _ _ u305) rfl rfl dX4_readSetting_1 ?_
  refine z_callVv hC hE (oX_2 (show kX 2 = 2 by decide)) [] (fun sz2 => mX2_advance l hinj sz2 hf) (cwV 0 hC.1.2.2.2.2 (uV (uT _) u603 u520 u521 u112 u522) rfl rfl rfl (by decide +kernel) ⟨Nat.le_of_ble_eq_true rfl, Nat.le_of_ble_eq_true rfl⟩) rfl rfl (Nat.le_of_ble_eq_true rfl) ⟨Nat.le_of_ble_eq_true rfl, Nat.le_of_ble_eq_true rfl⟩ dX4_readSetting_4 (fun σ1 hf => ?_)
  refine z_aload_n hC dX4_readSetting_7 0 rfl rfl ?_
  refine z_callVi hC hE (oX_4 (show kX 1 = 4 by decide)) [] (fun sz2 => mX4_settingNamed l hinj sz2 hf) (cwV 0 hC.1.2.2.2.2 (uV (uT _) u686 u688 u11 u111 u689) rfl rfl rfl (by decide +kernel) ⟨Nat.le_of_ble_eq_true rfl, Nat.le_of_ble_eq_true rfl⟩) rfl rfl (Nat.le_of_ble_eq_true rfl) ⟨Nat.le_of_ble_eq_true rfl, Nat.le_of_ble_eq_true rfl⟩ dX4_readSetting_8 (fun r2 σ2 hf => ?_)
  refine z_istore_n hC ([(1, vI r2), (0, vR ad 1)]) dX4_readSetting_11 rfl (by decide) rfl ?_
  refine z_iload_n hC dX4_readSetting_12 0 rfl rfl ?_
  refine z_callSNi hC hE [vI r2] (fun sz2 => mX11_isSetting l hinj sz2 hf) ⟨va_cnB (host := "GlacierCamera") 1 hC.1.2.2.2.2 (uP (uT _) u700) rfl rfl rfl ((hE.1 (.methodLinkNest RX4 162 yX11_isSetting "GlacierCamera") ((by decide +kernel : (Cond.methodLinkNest RX4 162 yX11_isSetting "GlacierCamera") ∈ zNest))).1) (hC.1.2.2.2.2 _ (uT _ _ u105)) (by decide +kernel) ⟨Nat.le_of_ble_eq_true rfl, Nat.le_of_ble_eq_true rfl⟩, hC.1.2.2.2.2 _ (uT _ _ u699), trivial⟩ rfl rfl (Nat.le_of_ble_eq_true rfl) ⟨Nat.le_of_ble_eq_true rfl, Nat.le_of_ble_eq_true rfl⟩ dX4_readSetting_13 (fun r3 σ3 hf => ?_)
  obtain ⟨g4, hf⟩ := hf
  refine z_if_ne (tgt := 22) hC dX4_readSetting_16 (by decide) g4 (fun hc => ?_) (fun hc => ?_)
  · replace hf := hf.2 hc
    refine z_aload_n hC dX4_readSetting_22 1 rfl rfl ?_
    refine z_get hC (fun w h => uT _ w (uL4 w h)) (oX_4 (show kX 1 = 4 by decide)) 2 (by decide) (uT _ _ u308) rfl rfl dX4_readSetting_23 ?_
    refine z_iload_n hC dX4_readSetting_26 0 rfl rfl ?_
    obtain ⟨g5, hf⟩ := hf
    refine z_zaload hC (aX_15 (show kX 4 = 15 by decide)) g5 dX4_readSetting_27 ?_
    obtain ⟨g6, hf⟩ := hf
    refine z_if_eq (tgt := 34) hC dX4_readSetting_28 (by decide) g6 (fun hc => ?_) (fun hc => ?_)
    · replace hf := hf.1 hc
      refine z_aload_n hC dX4_readSetting_34 1 rfl rfl ?_
      refine z_get hC (fun w h => uT _ w (uL4 w h)) (oX_4 (show kX 1 = 4 by decide)) 2 (by decide) (uT _ _ u308) rfl rfl dX4_readSetting_35 ?_
      refine z_iload_n hC dX4_readSetting_38 0 rfl rfl ?_
      refine z_iconst hC dX4_readSetting_39 ?_
      refine z_zastore hC (aX_15 (show kX 4 = 15 by decide)) (loX' (show kX 4 = 15 by decide) (by decide)) g5 (Or.inr rfl) dX4_readSetting_40 ?_
      obtain ⟨σ7, eσ7⟩ : ∃ z : zSt, z = zu σ3 4 r2 1 := ⟨_, rfl⟩
      rw [← eσ7]
      replace hf := hf σ7 eσ7
      refine z_aload_n hC dX4_readSetting_41 1 rfl rfl ?_
      refine z_getsN hC hE (n := "LEAST_VALUE") (q := aL) (List.mem_of_getElem? (i := 0) rfl) (host := "GlacierCamera") ((by decide +kernel : (Cond.fieldLinkNest RX4 166 "GlacierCamera" "LEAST_VALUE" "[I" "GlacierCamera") ∈ zNest)) dX4_readSetting_42 ?_
      refine z_iload_n hC dX4_readSetting_45 0 rfl rfl ?_
      refine z_sald hC hE (List.mem_of_getElem? (i := 0) rfl) (F := cLEAST) (fun _ _ => rfl) g5 dX4_readSetting_46 ?_
      refine z_getsN hC hE (n := "GREATEST_VALUE") (q := aG) (List.mem_of_getElem? (i := 1) rfl) (host := "GlacierCamera") ((by decide +kernel : (Cond.fieldLinkNest RX4 169 "GlacierCamera" "GREATEST_VALUE" "[I" "GlacierCamera") ∈ zNest)) dX4_readSetting_47 ?_
      refine z_iload_n hC dX4_readSetting_50 0 rfl rfl ?_
      refine z_sald hC hE (List.mem_of_getElem? (i := 1) rfl) (F := cGREAT) (fun _ _ => rfl) g5 dX4_readSetting_51 ?_
      refine z_callVi hC hE (oX_4 (show kX 1 = 4 by decide)) [vI (cLEAST r2), vI (cGREAT r2)] (fun sz2 => mX4_readNumber l hinj sz2 hf) (cwV 2 hC.1.2.2.2.2 (uV (uT _) u599 u601 u3 u111 u602) rfl rfl rfl (by decide +kernel) ⟨Nat.le_of_ble_eq_true rfl, Nat.le_of_ble_eq_true rfl⟩) rfl rfl (Nat.le_of_ble_eq_true rfl) ⟨Nat.le_of_ble_eq_true rfl, Nat.le_of_ble_eq_true rfl⟩ dX4_readSetting_52 (fun r8 σ8 hf => ?_)
      refine z_istore_n hC ([(2, vI r8), (1, vI r2), (0, vR ad 1)]) dX4_readSetting_55 rfl (by decide) rfl ?_
      refine z_iload_n hC dX4_readSetting_56 0 rfl rfl ?_
      obtain ⟨g9, hf⟩ := hf
      refine z_if_eq (tgt := 62) hC dX4_readSetting_57 (by decide) g9 (fun hc => ?_) (fun hc => ?_)
      · replace hf := hf.1 hc
        refine z_aload_n hC dX4_readSetting_62 2 rfl rfl ?_
        refine z_get hC (fun w h => uT _ w (uL4 w h)) (oX_4 (show kX 1 = 4 by decide)) 1 (by decide) (uT _ _ u307) rfl rfl dX4_readSetting_63 ?_
        obtain ⟨g10, hf⟩ := hf
        refine z_get hC (fun w h => uT _ w (uL8 w h)) (oX_8 g10) 4 (by decide) (uT _ _ u231) rfl rfl dX4_readSetting_66 ?_
        refine z_iload_n hC dX4_readSetting_69 1 rfl rfl ?_
        refine z_aload_n hC dX4_readSetting_70 2 rfl rfl ?_
        refine z_get hC (fun w h => uT _ w (uL4 w h)) (oX_4 (show kX 1 = 4 by decide)) 0 (by decide) (uT _ _ u305) rfl rfl dX4_readSetting_71 ?_
        refine z_get hC (fun w h => uT _ w (uL2 w h)) (oX_2 (show kX 2 = 2 by decide)) 3 (by decide) (uT _ _ u283) rfl rfl dX4_readSetting_74 ?_
        refine z_iastore hC (aX_17 (kf_8_4 g10)) (loX' (kf_8_4 g10) (by decide)) g5 dX4_readSetting_77 ?_
        obtain ⟨σ11, eσ11⟩ : ∃ z : zSt, z = zu σ8 ((σ8 1 1) + 1) r2 (σ8 2 3) := ⟨_, rfl⟩
        rw [← eσ11]
        replace hf := hf σ11 eσ11
        refine z_aload_n hC dX4_readSetting_78 2 rfl rfl ?_
        refine z_get hC (fun w h => uT _ w (uL4 w h)) (oX_4 (show kX 1 = 4 by decide)) 0 (by decide) (uT _ _ u305) rfl rfl dX4_readSetting_79 ?_
        refine z_callVv hC hE (oX_2 (show kX 2 = 2 by decide)) [] (fun sz2 => mX2_advance l hinj sz2 hf) (cwV 0 hC.1.2.2.2.2 (uV (uT _) u603 u520 u521 u112 u522) rfl rfl rfl (by decide +kernel) ⟨Nat.le_of_ble_eq_true rfl, Nat.le_of_ble_eq_true rfl⟩) rfl rfl (Nat.le_of_ble_eq_true rfl) ⟨Nat.le_of_ble_eq_true rfl, Nat.le_of_ble_eq_true rfl⟩ dX4_readSetting_82 (fun σ12 hf => ?_)
        refine z_iconst hC dX4_readSetting_85 ?_
        exact z_iret hC hr rfl dX4_readSetting_86 hf
      · replace hf := hf.2 hc
        refine z_iload_n hC dX4_readSetting_60 0 rfl rfl ?_
        exact z_iret hC hr rfl dX4_readSetting_61 hf
    · replace hf := hf.2 hc
      refine z_bipush hC dX4_readSetting_31 (by decide) ?_
      exact z_iret hC hr rfl dX4_readSetting_33 hf
  · replace hf := hf.1 hc
    refine z_bipush hC dX4_readSetting_19 (by decide) ?_
    exact z_iret hC hr rfl dX4_readSetting_21 hf

-- ===== X4_readStatement
def fX4_readStatement (K : Int → zSt → Prop) (σ : zSt) (x1 : Int) : Prop :=
  fX2_isWord (fun r1 σ1 => zrg r1 ∧ ((r1 = 0 → fX2_isWord (fun r3 σ3 => zrg r3 ∧ ((r3 = 0 → fX2_isWord (fun r5 σ5 => zrg r5 ∧ ((r5 = 0 → fX2_isWord (fun r7 σ7 => zrg r7 ∧ ((r7 = 0 → fX2_isWord (fun r9 σ9 => zrg r9 ∧ ((r9 = 0 → fX2_isWord (fun r11 σ11 => zrg r11 ∧ ((r11 = 0 → K (-11) σ11) ∧ (¬ r11 = 0 → fX4_readSetting (fun r13 σ13 => K r13 σ13) σ11 ))) σ9 5) ∧ (¬ r9 = 0 → kX (σ9 1 1) = 8 ∧ zrg (σ9 (σ9 1 1) 3) ∧ ((3 ≤ σ9 (σ9 1 1) 3 → K (-15) σ9) ∧ (¬ 3 ≤ σ9 (σ9 1 1) 3 → fX4_readStake (fun r16 σ16 => K r16 σ16) σ9 ))))) σ7 4) ∧ (¬ r7 = 0 → kX (σ7 1 1) = 8 ∧ fX4_readPoint (fun r18 σ18 => K r18 σ18) σ7 ((σ7 1 1) + 7)))) σ5 3) ∧ (¬ r5 = 0 → kX (σ5 1 1) = 8 ∧ fX4_readPoint (fun r20 σ20 => K r20 σ20) σ5 ((σ5 1 1) + 4)))) σ3 2) ∧ (¬ r3 = 0 → kX (σ3 1 1) = 8 ∧ zrg (σ3 (σ3 1 1) 2) ∧ ((6 ≤ σ3 (σ3 1 1) 2 → K (-15) σ3) ∧ (¬ 6 ≤ σ3 (σ3 1 1) 2 → fX4_readFrame (fun r23 σ23 => K r23 σ23) σ3 ))))) σ1 1) ∧ (¬ r1 = 0 → zrg x1 ∧ ((x1 = 0 → K (-14) σ1) ∧ (¬ x1 = 0 → fX4_readSize (fun r25 σ25 => K r25 σ25) σ1 ))))) σ 0
set_option maxHeartbeats 4000000 in
set_option maxRecDepth 100000 in
theorem mX4_readStatement {D : va_G} {dA : Nat → ClassId} {ad : Nat → Nat} {aL aG aI : Nat} {aK aV : Nat → Nat} (l : Launch) (hinj : ∀ i j, i < NX → j < NX → ad i = ad j → i = j) (sz : Nat) {K : Int → zSt → Prop} {σ : zSt} {x1 : Int} (hf : fX4_readStatement K σ x1) : Met l yX4_readStatement (Cond.code yX4_readStatement cX4_readStatement 2 (some .int) :: UW) ({ frames := 7, cells := 0, slots := 0, locals := 149 } : Room) (va_Pc [vR ad 1, vI x1] (zPre D vwCl (tyA dA) (zXX aL aG aI aK aV) NX ad (celX ad dA) sz σ)) (va_Qi (zPi K) (zB D vwCl (tyA dA) NX ad (celX ad dA)) (zA ad NX sz)) 0 0 (zA ad NX sz) := by
  refine z_enter (cc := cX4_readStatement) (maxL := 2) (ret := (some .int)) (vs := [vR ad 1, vI x1]) (plainFor_of_name (by decide)) rfl hinj (Nat.le_of_ble_eq_true rfl) ?_
  intro p e s m args below meth c hC hE hsz hr hnm
  show zAt p l e ({ frames := 7, cells := 0, slots := 0, locals := 149 } : Room) s m args below meth c 0 0 (MQ below (va_Qi (zPi K) (zB D vwCl (tyA dA) NX ad (celX ad dA)) (zA ad NX sz)) args s 0 0 (zA ad NX sz)) 2 D vwCl (zA ad NX sz) NX ad (celX ad dA) 0 [(0, vR ad 1), (1, vI x1)] [] σ
  refine z_aload_n hC dX4_readStatement_0 0 rfl rfl ?_
  refine z_get hC (fun w h => uT _ w (uL4 w h)) (oX_4 (show kX 1 = 4 by decide)) 0 (by decide) (uT _ _ u305) rfl rfl dX4_readStatement_1 ?_
  refine z_ldcS hC hE (q := aK (0 : Int).toNat) (List.mem_of_getElem? (i := 0) rfl) dX4_readStatement_4 ?_
  refine z_callVi hC hE (oX_2 (show kX 2 = 2 by decide)) [.ref (aK (0 : Int).toNat)] (fun sz2 => mX2_isWord l hinj sz2 hf) (cwV 1 hC.1.2.2.2.2 (uV (uT _) u539 u540 u541 u112 u542) rfl rfl rfl (by decide +kernel) ⟨Nat.le_of_ble_eq_true rfl, Nat.le_of_ble_eq_true rfl⟩) rfl rfl (Nat.le_of_ble_eq_true rfl) ⟨Nat.le_of_ble_eq_true rfl, Nat.le_of_ble_eq_true rfl⟩ dX4_readStatement_6 (fun r1 σ1 hf => ?_)
  obtain ⟨g2, hf⟩ := hf
  refine z_if_eq (tgt := 26) hC dX4_readStatement_9 (by decide) g2 (fun hc => ?_) (fun hc => ?_)
  · replace hf := hf.1 hc
    refine z_aload_n hC dX4_readStatement_26 0 rfl rfl ?_
    refine z_get hC (fun w h => uT _ w (uL4 w h)) (oX_4 (show kX 1 = 4 by decide)) 0 (by decide) (uT _ _ u305) rfl rfl dX4_readStatement_27 ?_
    refine z_ldcS hC hE (q := aK (1 : Int).toNat) (List.mem_of_getElem? (i := 1) rfl) dX4_readStatement_30 ?_
    refine z_callVi hC hE (oX_2 (show kX 2 = 2 by decide)) [.ref (aK (1 : Int).toNat)] (fun sz2 => mX2_isWord l hinj sz2 hf) (cwV 1 hC.1.2.2.2.2 (uV (uT _) u539 u540 u541 u112 u542) rfl rfl rfl (by decide +kernel) ⟨Nat.le_of_ble_eq_true rfl, Nat.le_of_ble_eq_true rfl⟩) rfl rfl (Nat.le_of_ble_eq_true rfl) ⟨Nat.le_of_ble_eq_true rfl, Nat.le_of_ble_eq_true rfl⟩ dX4_readStatement_32 (fun r3 σ3 hf => ?_)
    obtain ⟨g4, hf⟩ := hf
    refine z_if_eq (tgt := 60) hC dX4_readStatement_35 (by decide) g4 (fun hc => ?_) (fun hc => ?_)
    · replace hf := hf.1 hc
      refine z_aload_n hC dX4_readStatement_60 0 rfl rfl ?_
      refine z_get hC (fun w h => uT _ w (uL4 w h)) (oX_4 (show kX 1 = 4 by decide)) 0 (by decide) (uT _ _ u305) rfl rfl dX4_readStatement_61 ?_
      refine z_ldcS hC hE (q := aK (2 : Int).toNat) (List.mem_of_getElem? (i := 2) rfl) dX4_readStatement_64 ?_
      refine z_callVi hC hE (oX_2 (show kX 2 = 2 by decide)) [.ref (aK (2 : Int).toNat)] (fun sz2 => mX2_isWord l hinj sz2 hf) (cwV 1 hC.1.2.2.2.2 (uV (uT _) u539 u540 u541 u112 u542) rfl rfl rfl (by decide +kernel) ⟨Nat.le_of_ble_eq_true rfl, Nat.le_of_ble_eq_true rfl⟩) rfl rfl (Nat.le_of_ble_eq_true rfl) ⟨Nat.le_of_ble_eq_true rfl, Nat.le_of_ble_eq_true rfl⟩ dX4_readStatement_66 (fun r5 σ5 hf => ?_)
      obtain ⟨g6, hf⟩ := hf
      refine z_if_eq (tgt := 84) hC dX4_readStatement_69 (by decide) g6 (fun hc => ?_) (fun hc => ?_)
      · replace hf := hf.1 hc
        refine z_aload_n hC dX4_readStatement_84 0 rfl rfl ?_
        refine z_get hC (fun w h => uT _ w (uL4 w h)) (oX_4 (show kX 1 = 4 by decide)) 0 (by decide) (uT _ _ u305) rfl rfl dX4_readStatement_85 ?_
        refine z_ldcS hC hE (q := aK (3 : Int).toNat) (List.mem_of_getElem? (i := 3) rfl) dX4_readStatement_88 ?_
        refine z_callVi hC hE (oX_2 (show kX 2 = 2 by decide)) [.ref (aK (3 : Int).toNat)] (fun sz2 => mX2_isWord l hinj sz2 hf) (cwV 1 hC.1.2.2.2.2 (uV (uT _) u539 u540 u541 u112 u542) rfl rfl rfl (by decide +kernel) ⟨Nat.le_of_ble_eq_true rfl, Nat.le_of_ble_eq_true rfl⟩) rfl rfl (Nat.le_of_ble_eq_true rfl) ⟨Nat.le_of_ble_eq_true rfl, Nat.le_of_ble_eq_true rfl⟩ dX4_readStatement_90 (fun r7 σ7 hf => ?_)
        obtain ⟨g8, hf⟩ := hf
        refine z_if_eq (tgt := 108) hC dX4_readStatement_93 (by decide) g8 (fun hc => ?_) (fun hc => ?_)
        · replace hf := hf.1 hc
          refine z_aload_n hC dX4_readStatement_108 0 rfl rfl ?_
          refine z_get hC (fun w h => uT _ w (uL4 w h)) (oX_4 (show kX 1 = 4 by decide)) 0 (by decide) (uT _ _ u305) rfl rfl dX4_readStatement_109 ?_
          refine z_ldcS hC hE (q := aK (4 : Int).toNat) (List.mem_of_getElem? (i := 4) rfl) dX4_readStatement_112 ?_
          refine z_callVi hC hE (oX_2 (show kX 2 = 2 by decide)) [.ref (aK (4 : Int).toNat)] (fun sz2 => mX2_isWord l hinj sz2 hf) (cwV 1 hC.1.2.2.2.2 (uV (uT _) u539 u540 u541 u112 u542) rfl rfl rfl (by decide +kernel) ⟨Nat.le_of_ble_eq_true rfl, Nat.le_of_ble_eq_true rfl⟩) rfl rfl (Nat.le_of_ble_eq_true rfl) ⟨Nat.le_of_ble_eq_true rfl, Nat.le_of_ble_eq_true rfl⟩ dX4_readStatement_114 (fun r9 σ9 hf => ?_)
          obtain ⟨g10, hf⟩ := hf
          refine z_if_eq (tgt := 141) hC dX4_readStatement_117 (by decide) g10 (fun hc => ?_) (fun hc => ?_)
          · replace hf := hf.1 hc
            refine z_aload_n hC dX4_readStatement_141 0 rfl rfl ?_
            refine z_get hC (fun w h => uT _ w (uL4 w h)) (oX_4 (show kX 1 = 4 by decide)) 0 (by decide) (uT _ _ u305) rfl rfl dX4_readStatement_142 ?_
            refine z_ldcS hC hE (q := aK (5 : Int).toNat) (List.mem_of_getElem? (i := 5) rfl) dX4_readStatement_145 ?_
            refine z_callVi hC hE (oX_2 (show kX 2 = 2 by decide)) [.ref (aK (5 : Int).toNat)] (fun sz2 => mX2_isWord l hinj sz2 hf) (cwV 1 hC.1.2.2.2.2 (uV (uT _) u539 u540 u541 u112 u542) rfl rfl rfl (by decide +kernel) ⟨Nat.le_of_ble_eq_true rfl, Nat.le_of_ble_eq_true rfl⟩) rfl rfl (Nat.le_of_ble_eq_true rfl) ⟨Nat.le_of_ble_eq_true rfl, Nat.le_of_ble_eq_true rfl⟩ dX4_readStatement_147 (fun r11 σ11 hf => ?_)
            obtain ⟨g12, hf⟩ := hf
            refine z_if_eq (tgt := 160) hC dX4_readStatement_150 (by decide) g12 (fun hc => ?_) (fun hc => ?_)
            · replace hf := hf.1 hc
              refine z_bipush hC dX4_readStatement_160 (by decide) ?_
              exact z_iret hC hr rfl dX4_readStatement_162 hf
            · replace hf := hf.2 hc
              refine z_aload_n hC dX4_readStatement_153 0 rfl rfl ?_
              refine z_callVi hC hE (oX_4 (show kX 1 = 4 by decide)) [] (fun sz2 => mX4_readSetting l hinj sz2 hf) (cwV 0 hC.1.2.2.2.2 (uV (uT _) u682 u684 u10 u111 u685) rfl rfl rfl (by decide +kernel) ⟨Nat.le_of_ble_eq_true rfl, Nat.le_of_ble_eq_true rfl⟩) rfl rfl (Nat.le_of_ble_eq_true rfl) ⟨Nat.le_of_ble_eq_true rfl, Nat.le_of_ble_eq_true rfl⟩ dX4_readStatement_154 (fun r13 σ13 hf => ?_)
              refine z_goto (tgt := 162) hC dX4_readStatement_157 (by decide) ?_
              exact z_iret hC hr rfl dX4_readStatement_162 hf
          · replace hf := hf.2 hc
            refine z_aload_n hC dX4_readStatement_120 0 rfl rfl ?_
            refine z_get hC (fun w h => uT _ w (uL4 w h)) (oX_4 (show kX 1 = 4 by decide)) 1 (by decide) (uT _ _ u307) rfl rfl dX4_readStatement_121 ?_
            obtain ⟨g14, hf⟩ := hf
            refine z_get hC (fun w h => uT _ w (uL8 w h)) (oX_8 g14) 3 (by decide) (uT _ _ u224) rfl rfl dX4_readStatement_124 ?_
            refine z_iconst hC dX4_readStatement_127 ?_
            obtain ⟨g15, hf⟩ := hf
            refine z_icmp_ge (tgt := 138) hC dX4_readStatement_128 (by decide) g15 (zlit rfl rfl) (fun hc => ?_) (fun hc => ?_)
            · replace hf := hf.1 hc
              refine z_bipush hC dX4_readStatement_138 (by decide) ?_
              exact z_iret hC hr rfl dX4_readStatement_140 hf
            · replace hf := hf.2 hc
              refine z_aload_n hC dX4_readStatement_131 0 rfl rfl ?_
              refine z_callVi hC hE (oX_4 (show kX 1 = 4 by decide)) [] (fun sz2 => mX4_readStake l hinj sz2 hf) (cwV 0 hC.1.2.2.2.2 (uV (uT _) u669 u671 u8 u111 u672) rfl rfl rfl (by decide +kernel) ⟨Nat.le_of_ble_eq_true rfl, Nat.le_of_ble_eq_true rfl⟩) rfl rfl (Nat.le_of_ble_eq_true rfl) ⟨Nat.le_of_ble_eq_true rfl, Nat.le_of_ble_eq_true rfl⟩ dX4_readStatement_132 (fun r16 σ16 hf => ?_)
              refine z_goto (tgt := 140) hC dX4_readStatement_135 (by decide) ?_
              exact z_iret hC hr rfl dX4_readStatement_140 hf
        · replace hf := hf.2 hc
          refine z_aload_n hC dX4_readStatement_96 0 rfl rfl ?_
          refine z_aload_n hC dX4_readStatement_97 0 rfl rfl ?_
          refine z_get hC (fun w h => uT _ w (uL4 w h)) (oX_4 (show kX 1 = 4 by decide)) 1 (by decide) (uT _ _ u307) rfl rfl dX4_readStatement_98 ?_
          obtain ⟨g17, hf⟩ := hf
          refine z_get hC (fun w h => uT _ w (uL8 w h)) (oX_8 g17) 8 (by decide) (uT _ _ u243) rfl rfl dX4_readStatement_101 ?_
          refine z_callVi hC hE (oX_4 (show kX 1 = 4 by decide)) [vR ad ((σ7 1 1) + 7)] (fun sz2 => mX4_readPoint l hinj sz2 hf) (cwV 1 hC.1.2.2.2.2 (uV (uT _) u646 u648 u7 u111 u649) rfl rfl rfl (by decide +kernel) ⟨Nat.le_of_ble_eq_true rfl, Nat.le_of_ble_eq_true rfl⟩) rfl rfl (Nat.le_of_ble_eq_true rfl) ⟨Nat.le_of_ble_eq_true rfl, Nat.le_of_ble_eq_true rfl⟩ dX4_readStatement_104 (fun r18 σ18 hf => ?_)
          exact z_iret hC hr rfl dX4_readStatement_107 hf
      · replace hf := hf.2 hc
        refine z_aload_n hC dX4_readStatement_72 0 rfl rfl ?_
        refine z_aload_n hC dX4_readStatement_73 0 rfl rfl ?_
        refine z_get hC (fun w h => uT _ w (uL4 w h)) (oX_4 (show kX 1 = 4 by decide)) 1 (by decide) (uT _ _ u307) rfl rfl dX4_readStatement_74 ?_
        obtain ⟨g19, hf⟩ := hf
        refine z_get hC (fun w h => uT _ w (uL8 w h)) (oX_8 g19) 7 (by decide) (uT _ _ u238) rfl rfl dX4_readStatement_77 ?_
        refine z_callVi hC hE (oX_4 (show kX 1 = 4 by decide)) [vR ad ((σ5 1 1) + 4)] (fun sz2 => mX4_readPoint l hinj sz2 hf) (cwV 1 hC.1.2.2.2.2 (uV (uT _) u646 u648 u7 u111 u649) rfl rfl rfl (by decide +kernel) ⟨Nat.le_of_ble_eq_true rfl, Nat.le_of_ble_eq_true rfl⟩) rfl rfl (Nat.le_of_ble_eq_true rfl) ⟨Nat.le_of_ble_eq_true rfl, Nat.le_of_ble_eq_true rfl⟩ dX4_readStatement_80 (fun r20 σ20 hf => ?_)
        exact z_iret hC hr rfl dX4_readStatement_83 hf
    · replace hf := hf.2 hc
      refine z_aload_n hC dX4_readStatement_38 0 rfl rfl ?_
      refine z_get hC (fun w h => uT _ w (uL4 w h)) (oX_4 (show kX 1 = 4 by decide)) 1 (by decide) (uT _ _ u307) rfl rfl dX4_readStatement_39 ?_
      obtain ⟨g21, hf⟩ := hf
      refine z_get hC (fun w h => uT _ w (uL8 w h)) (oX_8 g21) 2 (by decide) (uT _ _ u221) rfl rfl dX4_readStatement_42 ?_
      refine z_bipush hC dX4_readStatement_45 (by decide) ?_
      obtain ⟨g22, hf⟩ := hf
      refine z_icmp_ge (tgt := 57) hC dX4_readStatement_47 (by decide) g22 (zlit rfl rfl) (fun hc => ?_) (fun hc => ?_)
      · replace hf := hf.1 hc
        refine z_bipush hC dX4_readStatement_57 (by decide) ?_
        exact z_iret hC hr rfl dX4_readStatement_59 hf
      · replace hf := hf.2 hc
        refine z_aload_n hC dX4_readStatement_50 0 rfl rfl ?_
        refine z_callVi hC hE (oX_4 (show kX 1 = 4 by decide)) [] (fun sz2 => mX4_readFrame l hinj sz2 hf) (cwV 0 hC.1.2.2.2.2 (uV (uT _) u612 u614 u5 u111 u615) rfl rfl rfl (by decide +kernel) ⟨Nat.le_of_ble_eq_true rfl, Nat.le_of_ble_eq_true rfl⟩) rfl rfl (Nat.le_of_ble_eq_true rfl) ⟨Nat.le_of_ble_eq_true rfl, Nat.le_of_ble_eq_true rfl⟩ dX4_readStatement_51 (fun r23 σ23 hf => ?_)
        refine z_goto (tgt := 59) hC dX4_readStatement_54 (by decide) ?_
        exact z_iret hC hr rfl dX4_readStatement_59 hf
  · replace hf := hf.2 hc
    refine z_iload_n hC dX4_readStatement_12 1 rfl rfl ?_
    obtain ⟨g24, hf⟩ := hf
    refine z_if_eq (tgt := 23) hC dX4_readStatement_13 (by decide) g24 (fun hc => ?_) (fun hc => ?_)
    · replace hf := hf.1 hc
      refine z_bipush hC dX4_readStatement_23 (by decide) ?_
      exact z_iret hC hr rfl dX4_readStatement_25 hf
    · replace hf := hf.2 hc
      refine z_aload_n hC dX4_readStatement_16 0 rfl rfl ?_
      refine z_callVi hC hE (oX_4 (show kX 1 = 4 by decide)) [] (fun sz2 => mX4_readSize l hinj sz2 hf) (cwV 0 hC.1.2.2.2.2 (uV (uT _) u595 u597 u2 u111 u598) rfl rfl rfl (by decide +kernel) ⟨Nat.le_of_ble_eq_true rfl, Nat.le_of_ble_eq_true rfl⟩) rfl rfl (Nat.le_of_ble_eq_true rfl) ⟨Nat.le_of_ble_eq_true rfl, Nat.le_of_ble_eq_true rfl⟩ dX4_readStatement_17 (fun r25 σ25 hf => ?_)
      refine z_goto (tgt := 25) hC dX4_readStatement_20 (by decide) ?_
      exact z_iret hC hr rfl dX4_readStatement_25 hf

-- ===== X4_readText
def fX4_readText_B63 (K : Int → zSt → Prop) (k38 : zSt → Int → Int → Prop) (σ : zSt) (x1 : Int) (x2 : Int) (s0 : Int) : Prop :=
  fX4_readStatement (fun r10 σ10 => zrg r10 ∧ ((r10 = 0 → zrg (σ10 2 1) ∧ ((σ10 2 1 = 3 → fX2_advance (fun σ13 => k38 σ13 x1 (x2 + 1)) σ10 ) ∧ (¬ σ10 2 1 = 3 → K (-11) σ10))) ∧ (¬ r10 = 0 → K r10 σ10))) σ s0
noncomputable def fX4_readText_B38 (K : Int → zSt → Prop) (n : Nat) : zSt → Int → Int → Prop :=
  Nat.rec (motive := fun _ => zSt → Int → Int → Prop) (fun _ _ _ => False) (fun _ ih σ x1 x2 => zrg (σ 2 1) ∧ ((σ 2 1 = 0 → K x2 σ) ∧ (¬ σ 2 1 = 0 → zrg x2 ∧ zrg x1 ∧ ((x1 ≤ x2 → K x2 σ) ∧ (¬ x1 ≤ x2 → ((x2 = 0 → fX4_readText_B63 K ih σ x1 x2 1) ∧ (¬ x2 = 0 → fX4_readText_B63 K ih σ x1 x2 0))))))) n
theorem uX4_readText_B38 (K : Int → zSt → Prop) (n0 : Nat) (σ : zSt) (x1 : Int) (x2 : Int) : fX4_readText_B38 K (n0 + 1) σ x1 x2 = (zrg (σ 2 1) ∧ ((σ 2 1 = 0 → K x2 σ) ∧ (¬ σ 2 1 = 0 → zrg x2 ∧ zrg x1 ∧ ((x1 ≤ x2 → K x2 σ) ∧ (¬ x1 ≤ x2 → ((x2 = 0 → fX4_readText_B63 K (fX4_readText_B38 K n0) σ x1 x2 1) ∧ (¬ x2 = 0 → fX4_readText_B63 K (fX4_readText_B38 K n0) σ x1 x2 0))))))) := rfl
noncomputable def fX4_readText_B9 (K : Int → zSt → Prop) (n : Nat) : zSt → Int → Int → Prop :=
  Nat.rec (motive := fun _ => zSt → Int → Int → Prop) (fun _ _ _ => False) (fun _ ih σ x1 x2 => zrg x2 ∧ ((8 ≤ x2 → fX2_begin (fun σ4 => (∃ n, fX4_readText_B38 K n σ4 x1 0)) σ x1) ∧ (¬ 8 ≤ x2 → (0 ≤ x2 ∧ x2 < 8) ∧ ∀ σ6, σ6 = zu σ 4 x2 0 → ih σ6 x1 (x2 + 1)))) n
theorem uX4_readText_B9 (K : Int → zSt → Prop) (n0 : Nat) (σ : zSt) (x1 : Int) (x2 : Int) : fX4_readText_B9 K (n0 + 1) σ x1 x2 = (zrg x2 ∧ ((8 ≤ x2 → fX2_begin (fun σ4 => (∃ n, fX4_readText_B38 K n σ4 x1 0)) σ x1) ∧ (¬ 8 ≤ x2 → (0 ≤ x2 ∧ x2 < 8) ∧ ∀ σ6, σ6 = zu σ 4 x2 0 → (fX4_readText_B9 K n0) σ6 x1 (x2 + 1)))) := rfl
def fX4_readText (K : Int → zSt → Prop) (σ : zSt) (x1 : Int) : Prop :=
  kX (σ 1 1) = 8 ∧ fX8_reset (fun σ2 => (∃ n, fX4_readText_B9 K n σ2 x1 0)) σ (σ 1 1)
set_option maxHeartbeats 4000000 in
set_option maxRecDepth 100000 in
theorem wX4_readText_B63 {p : Program} {l : Launch} {e : Env} {s : State} {m : MethodId} {args : Array Value} {below : List Frame} {meth : Method} {c : Code} {D : va_G} {dA : Nat → ClassId} {ad : Nat → Nat} {sz : Nat} {aL aG aI : Nat} {aK aV : Nat → Nat} {K : Int → zSt → Prop} {k38 : zSt → Int → Int → Prop} (hC : zC p m c cX4_readText 4 s args (Cond.code yX4_readText cX4_readText 4 (some .int) :: UW) RX4 meth D vwCl (tyA dA) (zA ad NX sz) NX ad (celX ad dA)) (hE : zE (zXX aL aG aI aK aV) (zA ad NX sz) s s.heap) (hr : meth.sig.returnType = (some .int)) (hinj : ∀ i j, i < NX → j < NX → ad i = ad j → i = j) (hk38 : ∀ (σ : zSt) (x1 : Int) (x2 : Int), k38 σ x1 x2 → zAt p l e ({ frames := 8, cells := 0, slots := 0, locals := 170 } : Room) s m args below meth c 0 0 (MQ below (va_Qi (zPi K) (zB D vwCl (tyA dA) NX ad (celX ad dA)) (zA ad NX sz)) args s 0 0 (zA ad NX sz)) 4 D vwCl (zA ad NX sz) NX ad (celX ad dA) 38 [(0, vR ad 1), (1, vI x1), (2, vI x2)] [] σ) {σ : zSt} {x1 : Int} {x2 : Int} {s0 : Int} (hf : fX4_readText_B63 K k38 σ x1 x2 s0) : zAt p l e ({ frames := 8, cells := 0, slots := 0, locals := 170 } : Room) s m args below meth c 0 0 (MQ below (va_Qi (zPi K) (zB D vwCl (tyA dA) NX ad (celX ad dA)) (zA ad NX sz)) args s 0 0 (zA ad NX sz)) 4 D vwCl (zA ad NX sz) NX ad (celX ad dA) 63 [(0, vR ad 1), (1, vI x1), (2, vI x2)] [vI s0, vR ad 1] σ := by
  refine z_callVi hC hE (oX_4 (show kX 1 = 4 by decide)) [vI s0] (fun sz2 => mX4_readStatement l hinj sz2 hf) (cwV 1 hC.1.2.2.2.2 (uV (uT _) u534 u536 u1 u111 u537) rfl rfl rfl (by decide +kernel) ⟨Nat.le_of_ble_eq_true rfl, Nat.le_of_ble_eq_true rfl⟩) rfl rfl (Nat.le_of_ble_eq_true rfl) ⟨Nat.le_of_ble_eq_true rfl, Nat.le_of_ble_eq_true rfl⟩ dX4_readText_63 (fun r10 σ10 hf => ?_)
  refine z_istore_n hC ([(3, vI r10), (0, vR ad 1), (1, vI x1), (2, vI x2)]) dX4_readText_66 rfl (by decide) rfl ?_
  refine z_iload_n hC dX4_readText_67 0 rfl rfl ?_
  obtain ⟨g11, hf⟩ := hf
  refine z_if_eq (tgt := 73) hC dX4_readText_68 (by decide) g11 (fun hc => ?_) (fun hc => ?_)
  · replace hf := hf.1 hc
    refine z_aload_n hC dX4_readText_73 1 rfl rfl ?_
    refine z_get hC (fun w h => uT _ w (uL4 w h)) (oX_4 (show kX 1 = 4 by decide)) 0 (by decide) (uT _ _ u305) rfl rfl dX4_readText_74 ?_
    refine z_get hC (fun w h => uT _ w (uL2 w h)) (oX_2 (show kX 2 = 2 by decide)) 1 (by decide) (uT _ _ u279) rfl rfl dX4_readText_77 ?_
    refine z_iconst hC dX4_readText_80 ?_
    obtain ⟨g12, hf⟩ := hf
    refine z_icmp_eq (tgt := 87) hC dX4_readText_81 (by decide) g12 (zlit rfl rfl) (fun hc => ?_) (fun hc => ?_)
    · replace hf := hf.1 hc
      refine z_aload_n hC dX4_readText_87 1 rfl rfl ?_
      refine z_get hC (fun w h => uT _ w (uL4 w h)) (oX_4 (show kX 1 = 4 by decide)) 0 (by decide) (uT _ _ u305) rfl rfl dX4_readText_88 ?_
      refine z_callVv hC hE (oX_2 (show kX 2 = 2 by decide)) [] (fun sz2 => mX2_advance l hinj sz2 hf) (cwV 0 hC.1.2.2.2.2 (uV (uT _) u603 u520 u521 u112 u522) rfl rfl rfl (by decide +kernel) ⟨Nat.le_of_ble_eq_true rfl, Nat.le_of_ble_eq_true rfl⟩) rfl rfl (Nat.le_of_ble_eq_true rfl) ⟨Nat.le_of_ble_eq_true rfl, Nat.le_of_ble_eq_true rfl⟩ dX4_readText_91 (fun σ13 hf => ?_)
      refine z_iinc hC ([(2, vI (x2 + 1)), (3, vI r10), (0, vR ad 1), (1, vI x1)]) dX4_readText_94 3 rfl (by decide) rfl ?_
      refine z_goto (tgt := 38) hC dX4_readText_97 (by decide) ?_
      refine z_sub (lv' := [(0, vR ad 1), (1, vI x1), (2, vI (x2 + 1))]) [2, 3, 0] rfl ?_
      exact hk38 _ _ _ hf
    · replace hf := hf.2 hc
      refine z_bipush hC dX4_readText_84 (by decide) ?_
      exact z_iret hC hr rfl dX4_readText_86 hf
  · replace hf := hf.2 hc
    refine z_iload_n hC dX4_readText_71 0 rfl rfl ?_
    exact z_iret hC hr rfl dX4_readText_72 hf
set_option maxHeartbeats 4000000 in
set_option maxRecDepth 100000 in
theorem wX4_readText_B38 {p : Program} {l : Launch} {e : Env} {s : State} {m : MethodId} {args : Array Value} {below : List Frame} {meth : Method} {c : Code} {D : va_G} {dA : Nat → ClassId} {ad : Nat → Nat} {sz : Nat} {aL aG aI : Nat} {aK aV : Nat → Nat} {K : Int → zSt → Prop} (hC : zC p m c cX4_readText 4 s args (Cond.code yX4_readText cX4_readText 4 (some .int) :: UW) RX4 meth D vwCl (tyA dA) (zA ad NX sz) NX ad (celX ad dA)) (hE : zE (zXX aL aG aI aK aV) (zA ad NX sz) s s.heap) (hr : meth.sig.returnType = (some .int)) (hinj : ∀ i j, i < NX → j < NX → ad i = ad j → i = j) : ∀ (n : Nat) (σ : zSt) (x1 : Int) (x2 : Int), fX4_readText_B38 K n σ x1 x2 → zAt p l e ({ frames := 8, cells := 0, slots := 0, locals := 170 } : Room) s m args below meth c 0 0 (MQ below (va_Qi (zPi K) (zB D vwCl (tyA dA) NX ad (celX ad dA)) (zA ad NX sz)) args s 0 0 (zA ad NX sz)) 4 D vwCl (zA ad NX sz) NX ad (celX ad dA) 38 [(0, vR ad 1), (1, vI x1), (2, vI x2)] [] σ := by
  intro n
  induction n with
  | zero => intro σ x1 x2  hf; exact False.elim hf
  | succ n ih =>
    intro σ x1 x2  hf
    rw [uX4_readText_B38] at hf
    refine z_aload_n hC dX4_readText_38 0 rfl rfl ?_
    refine z_get hC (fun w h => uT _ w (uL4 w h)) (oX_4 (show kX 1 = 4 by decide)) 0 (by decide) (uT _ _ u305) rfl rfl dX4_readText_39 ?_
    refine z_get hC (fun w h => uT _ w (uL2 w h)) (oX_2 (show kX 2 = 2 by decide)) 1 (by decide) (uT _ _ u279) rfl rfl dX4_readText_42 ?_
    obtain ⟨g7, hf⟩ := hf
    refine z_if_eq (tgt := 100) hC dX4_readText_45 (by decide) g7 (fun hc => ?_) (fun hc => ?_)
    · replace hf := hf.1 hc
      refine z_iload_n hC dX4_readText_100 2 rfl rfl ?_
      exact z_iret hC hr rfl dX4_readText_101 hf
    · replace hf := hf.2 hc
      refine z_iload_n hC dX4_readText_48 2 rfl rfl ?_
      refine z_iload_n hC dX4_readText_49 1 rfl rfl ?_
      obtain ⟨g8, hf⟩ := hf
      obtain ⟨g9, hf⟩ := hf
      refine z_icmp_ge (tgt := 100) hC dX4_readText_50 (by decide) g8 g9 (fun hc => ?_) (fun hc => ?_)
      · replace hf := hf.1 hc
        refine z_iload_n hC dX4_readText_100 2 rfl rfl ?_
        exact z_iret hC hr rfl dX4_readText_101 hf
      · replace hf := hf.2 hc
        refine z_aload_n hC dX4_readText_53 0 rfl rfl ?_
        refine z_iload_n hC dX4_readText_54 2 rfl rfl ?_
        refine z_if_ne (tgt := 62) hC dX4_readText_55 (by decide) g8 (fun hc => ?_) (fun hc => ?_)
        · replace hf := hf.2 hc
          refine z_iconst hC dX4_readText_62 ?_
          exact wX4_readText_B63 hC hE hr hinj ih  hf
        · replace hf := hf.1 hc
          refine z_iconst hC dX4_readText_58 ?_
          refine z_goto (tgt := 63) hC dX4_readText_59 (by decide) ?_
          exact wX4_readText_B63 hC hE hr hinj ih  hf
set_option maxHeartbeats 4000000 in
set_option maxRecDepth 100000 in
theorem wX4_readText_B9 {p : Program} {l : Launch} {e : Env} {s : State} {m : MethodId} {args : Array Value} {below : List Frame} {meth : Method} {c : Code} {D : va_G} {dA : Nat → ClassId} {ad : Nat → Nat} {sz : Nat} {aL aG aI : Nat} {aK aV : Nat → Nat} {K : Int → zSt → Prop} (hC : zC p m c cX4_readText 4 s args (Cond.code yX4_readText cX4_readText 4 (some .int) :: UW) RX4 meth D vwCl (tyA dA) (zA ad NX sz) NX ad (celX ad dA)) (hE : zE (zXX aL aG aI aK aV) (zA ad NX sz) s s.heap) (hr : meth.sig.returnType = (some .int)) (hinj : ∀ i j, i < NX → j < NX → ad i = ad j → i = j) : ∀ (n : Nat) (σ : zSt) (x1 : Int) (x2 : Int), fX4_readText_B9 K n σ x1 x2 → zAt p l e ({ frames := 8, cells := 0, slots := 0, locals := 170 } : Room) s m args below meth c 0 0 (MQ below (va_Qi (zPi K) (zB D vwCl (tyA dA) NX ad (celX ad dA)) (zA ad NX sz)) args s 0 0 (zA ad NX sz)) 4 D vwCl (zA ad NX sz) NX ad (celX ad dA) 9 [(0, vR ad 1), (1, vI x1), (2, vI x2)] [] σ := by
  intro n
  induction n with
  | zero => intro σ x1 x2  hf; exact False.elim hf
  | succ n ih =>
    intro σ x1 x2  hf
    rw [uX4_readText_B9] at hf
    refine z_iload_n hC dX4_readText_9 2 rfl rfl ?_
    refine z_bipush hC dX4_readText_10 (by decide) ?_
    obtain ⟨g3, hf⟩ := hf
    refine z_icmp_ge (tgt := 28) hC dX4_readText_12 (by decide) g3 (zlit rfl rfl) (fun hc => ?_) (fun hc => ?_)
    · replace hf := hf.1 hc
      refine z_aload_n hC dX4_readText_28 0 rfl rfl ?_
      refine z_get hC (fun w h => uT _ w (uL4 w h)) (oX_4 (show kX 1 = 4 by decide)) 0 (by decide) (uT _ _ u305) rfl rfl dX4_readText_29 ?_
      refine z_iload_n hC dX4_readText_32 1 rfl rfl ?_
      refine z_callVv hC hE (oX_2 (show kX 2 = 2 by decide)) [vI x1] (fun sz2 => mX2_begin l hinj sz2 hf) (cwV 1 hC.1.2.2.2.2 (uV (uT _) u515 u516 u517 u112 u518) rfl rfl rfl (by decide +kernel) ⟨Nat.le_of_ble_eq_true rfl, Nat.le_of_ble_eq_true rfl⟩) rfl rfl (Nat.le_of_ble_eq_true rfl) ⟨Nat.le_of_ble_eq_true rfl, Nat.le_of_ble_eq_true rfl⟩ dX4_readText_33 (fun σ4 hf => ?_)
      refine z_iconst hC dX4_readText_36 ?_
      refine z_istore_n hC ([(2, vI 0), (0, vR ad 1), (1, vI x1)]) dX4_readText_37 rfl (by decide) rfl ?_
      refine z_sub (lv' := [(0, vR ad 1), (1, vI x1), (2, vI 0)]) [1, 2, 0] rfl ?_
      obtain ⟨n, hf⟩ := hf
      exact wX4_readText_B38 hC hE hr hinj n _ _ _ hf
    · replace hf := hf.2 hc
      refine z_aload_n hC dX4_readText_15 0 rfl rfl ?_
      refine z_get hC (fun w h => uT _ w (uL4 w h)) (oX_4 (show kX 1 = 4 by decide)) 2 (by decide) (uT _ _ u308) rfl rfl dX4_readText_16 ?_
      refine z_iload_n hC dX4_readText_19 2 rfl rfl ?_
      refine z_iconst hC dX4_readText_20 ?_
      obtain ⟨g5, hf⟩ := hf
      refine z_zastore hC (aX_15 (show kX 4 = 15 by decide)) (loX' (show kX 4 = 15 by decide) (by decide)) g5 (Or.inl rfl) dX4_readText_21 ?_
      obtain ⟨σ6, eσ6⟩ : ∃ z : zSt, z = zu σ 4 x2 0 := ⟨_, rfl⟩
      rw [← eσ6]
      replace hf := hf σ6 eσ6
      refine z_iinc hC ([(2, vI (x2 + 1)), (0, vR ad 1), (1, vI x1)]) dX4_readText_22 2 rfl (by decide) rfl ?_
      refine z_goto (tgt := 9) hC dX4_readText_25 (by decide) ?_
      refine z_sub (lv' := [(0, vR ad 1), (1, vI x1), (2, vI (x2 + 1))]) [1, 2, 0] rfl ?_
      exact ih _ _ _ hf
set_option maxHeartbeats 4000000 in
set_option maxRecDepth 100000 in
theorem mX4_readText {D : va_G} {dA : Nat → ClassId} {ad : Nat → Nat} {aL aG aI : Nat} {aK aV : Nat → Nat} (l : Launch) (hinj : ∀ i j, i < NX → j < NX → ad i = ad j → i = j) (sz : Nat) {K : Int → zSt → Prop} {σ : zSt} {x1 : Int} (hf : fX4_readText K σ x1) : Met l yX4_readText (Cond.code yX4_readText cX4_readText 4 (some .int) :: UW) ({ frames := 8, cells := 0, slots := 0, locals := 170 } : Room) (va_Pc [vR ad 1, vI x1] (zPre D vwCl (tyA dA) (zXX aL aG aI aK aV) NX ad (celX ad dA) sz σ)) (va_Qi (zPi K) (zB D vwCl (tyA dA) NX ad (celX ad dA)) (zA ad NX sz)) 0 0 (zA ad NX sz) := by
  refine z_enter (cc := cX4_readText) (maxL := 4) (ret := (some .int)) (vs := [vR ad 1, vI x1]) (plainFor_of_name (by decide)) rfl hinj (Nat.le_of_ble_eq_true rfl) ?_
  intro p e s m args below meth c hC hE hsz hr hnm
  show zAt p l e ({ frames := 8, cells := 0, slots := 0, locals := 170 } : Room) s m args below meth c 0 0 (MQ below (va_Qi (zPi K) (zB D vwCl (tyA dA) NX ad (celX ad dA)) (zA ad NX sz)) args s 0 0 (zA ad NX sz)) 4 D vwCl (zA ad NX sz) NX ad (celX ad dA) 0 [(0, vR ad 1), (1, vI x1)] [] σ
  refine z_aload_n hC dX4_readText_0 0 rfl rfl ?_
  refine z_get hC (fun w h => uT _ w (uL4 w h)) (oX_4 (show kX 1 = 4 by decide)) 1 (by decide) (uT _ _ u307) rfl rfl dX4_readText_1 ?_
  obtain ⟨g1, hf⟩ := hf
  refine z_callVv hC hE (oX_8 g1) [] (fun sz2 => mX8_reset l hinj sz2 hf) (cwV 0 hC.1.2.2.2.2 (uV (uT _) u511 u512 u513 u106 u514) rfl rfl rfl (by decide +kernel) ⟨Nat.le_of_ble_eq_true rfl, Nat.le_of_ble_eq_true rfl⟩) rfl rfl (Nat.le_of_ble_eq_true rfl) ⟨Nat.le_of_ble_eq_true rfl, Nat.le_of_ble_eq_true rfl⟩ dX4_readText_4 (fun σ2 hf => ?_)
  refine z_iconst hC dX4_readText_7 ?_
  refine z_istore_n hC ([(2, vI 0), (0, vR ad 1), (1, vI x1)]) dX4_readText_8 rfl (by decide) rfl ?_
  refine z_sub (lv' := [(0, vR ad 1), (1, vI x1), (2, vI 0)]) [1, 2, 0] rfl ?_
  obtain ⟨n, hf⟩ := hf
  exact wX4_readText_B9 hC hE hr hinj n _ _ _ hf

-- ===== X11_load
def fX11_load (K : Int → zSt → Prop) (σ : zSt) (x1 : Int) : Prop :=
  zrg x1 ∧ ((x1 < 0 → K (-2) σ) ∧ (¬ x1 < 0 → zrg (σ 2 0) ∧ ((x1 ≤ σ 2 0 → fX4_readText (fun r3 σ3 => ∀ σ4, σ4 = zu σ3 2 0 0 → zrg r3 ∧ ((0 ≤ r3 → ∀ σ6, σ6 = zu σ4 0 7 (-1) → kX (σ6 0 0) = 8 ∧ fX4_exchange (fun r8 σ8 => kX r8 = 8 ∧ ∀ σ10, σ10 = zu σ8 0 0 r8 → fX3_clear (fun σ11 => ∀ σ12, σ12 = zu σ11 0 8 ((σ11 0 8) + 1) → K r3 σ12) σ10 ) σ6 (σ6 0 0)) ∧ (¬ 0 ≤ r3 → ∀ σ13, σ13 = zu σ4 0 7 (σ4 2 2) → K r3 σ13))) σ x1) ∧ (¬ x1 ≤ σ 2 0 → K (-2) σ))))
set_option maxHeartbeats 4000000 in
set_option maxRecDepth 100000 in
theorem mX11_load {D : va_G} {dA : Nat → ClassId} {ad : Nat → Nat} {aL aG aI : Nat} {aK aV : Nat → Nat} (l : Launch) (hinj : ∀ i j, i < NX → j < NX → ad i = ad j → i = j) (sz : Nat) {K : Int → zSt → Prop} {σ : zSt} {x1 : Int} (hf : fX11_load K σ x1) : Met l yX11_load (Cond.code yX11_load cX11_load 4 (some .int) :: UW) ({ frames := 9, cells := 0, slots := 0, locals := 193 } : Room) (va_Pc [vR ad 0, vI x1] (zPre D vwCl (tyA dA) (zXX aL aG aI aK aV) NX ad (celX ad dA) sz σ)) (va_Qi (zPi K) (zB D vwCl (tyA dA) NX ad (celX ad dA)) (zA ad NX sz)) 0 0 (zA ad NX sz) := by
  refine z_enter (cc := cX11_load) (maxL := 4) (ret := (some .int)) (vs := [vR ad 0, vI x1]) (plainFor_of_name (by decide)) rfl hinj (Nat.le_of_ble_eq_true rfl) ?_
  intro p e s m args below meth c hC hE hsz hr hnm
  show zAt p l e ({ frames := 9, cells := 0, slots := 0, locals := 193 } : Room) s m args below meth c 0 0 (MQ below (va_Qi (zPi K) (zB D vwCl (tyA dA) NX ad (celX ad dA)) (zA ad NX sz)) args s 0 0 (zA ad NX sz)) 4 D vwCl (zA ad NX sz) NX ad (celX ad dA) 0 [(0, vR ad 0), (1, vI x1)] [] σ
  refine z_aload_n hC dX11_load_0 0 rfl rfl ?_
  refine z_get hC (fun w h => uT _ w (uL11 w h)) (oX_11 (show kX 0 = 11 by decide)) 1 (by decide) (uT _ _ u468) rfl rfl dX11_load_1 ?_
  refine z_get hC (fun w h => uT _ w (uL4 w h)) (oX_4 (show kX 1 = 4 by decide)) 0 (by decide) (uT _ _ u306) rfl rfl dX11_load_4 ?_
  refine z_astore_n hC ([(2, vR ad 2), (0, vR ad 0), (1, vI x1)]) dX11_load_7 rfl (by decide) rfl ?_
  refine z_iload_n hC dX11_load_8 2 rfl rfl ?_
  obtain ⟨g1, hf⟩ := hf
  refine z_if_lt (tgt := 20) hC dX11_load_9 (by decide) g1 (fun hc => ?_) (fun hc => ?_)
  · replace hf := hf.1 hc
    refine z_bipush hC dX11_load_20 (by decide) ?_
    exact z_iret hC hr rfl dX11_load_22 hf
  · replace hf := hf.2 hc
    refine z_iload_n hC dX11_load_12 2 rfl rfl ?_
    refine z_aload_n hC dX11_load_13 0 rfl rfl ?_
    refine z_get hC (fun w h => uT _ w (uL2 w h)) (oX_2 (show kX 2 = 2 by decide)) 0 (by decide) (uT _ _ u277) rfl rfl dX11_load_14 ?_
    obtain ⟨g2, hf⟩ := hf
    refine z_icmp_le (tgt := 23) hC dX11_load_17 (by decide) g1 g2 (fun hc => ?_) (fun hc => ?_)
    · replace hf := hf.1 hc
      refine z_aload_n hC dX11_load_23 1 rfl rfl ?_
      refine z_get hC (fun w h => uT _ w (uL11 w h)) (oX_11 (show kX 0 = 11 by decide)) 1 (by decide) (uT _ _ u468) rfl rfl dX11_load_24 ?_
      refine z_iload_n hC dX11_load_27 2 rfl rfl ?_
      refine z_callVi hC hE (oX_4 (show kX 1 = 4 by decide)) [vI x1] (fun sz2 => mX4_readText l hinj sz2 hf) (cwV 1 hC.1.2.2.2.2 (uV (uT _) u507 u508 u509 u111 u510) rfl rfl rfl (by decide +kernel) ⟨Nat.le_of_ble_eq_true rfl, Nat.le_of_ble_eq_true rfl⟩) rfl rfl (Nat.le_of_ble_eq_true rfl) ⟨Nat.le_of_ble_eq_true rfl, Nat.le_of_ble_eq_true rfl⟩ dX11_load_28 (fun r3 σ3 hf => ?_)
      refine z_istore_n hC ([(3, vI r3), (2, vR ad 2), (0, vR ad 0), (1, vI x1)]) dX11_load_31 rfl (by decide) rfl ?_
      refine z_aload_n hC dX11_load_32 1 rfl rfl ?_
      refine z_iconst hC dX11_load_33 ?_
      refine z_put hC (ty := .int) tyX2 tyX2_ok nmX2 (fun w h => uT _ w (uL2 w h)) (oX_2 (show kX 2 = 2 by decide)) (loX' (show kX 2 = 2 by decide) (by decide)) 0 (by decide) (uT _ _ u277) rfl rfl (0) (0) (by simp [zu]) (by decide +kernel) rfl rfl (Nat.le_of_ble_eq_true rfl) dX11_load_34 ?_
      obtain ⟨σ4, eσ4⟩ : ∃ z : zSt, z = zu σ3 2 0 0 := ⟨_, rfl⟩
      rw [← eσ4]
      replace hf := hf σ4 eσ4
      refine z_iload_n hC dX11_load_37 0 rfl rfl ?_
      obtain ⟨g5, hf⟩ := hf
      refine z_if_ge (tgt := 51) hC dX11_load_38 (by decide) g5 (fun hc => ?_) (fun hc => ?_)
      · replace hf := hf.1 hc
        refine z_aload_n hC dX11_load_51 2 rfl rfl ?_
        refine z_iconst hC dX11_load_52 ?_
        refine z_put hC (ty := .int) tyX11 tyX11_ok nmX11 (fun w h => uT _ w (uL11 w h)) (oX_11 (show kX 0 = 11 by decide)) (loX' (show kX 0 = 11 by decide) (by decide)) 7 (by decide) (uT _ _ u474) rfl rfl (7) ((-1)) (by simp [zu]) (by decide +kernel) rfl rfl (Nat.le_of_ble_eq_true rfl) dX11_load_53 ?_
        obtain ⟨σ6, eσ6⟩ : ∃ z : zSt, z = zu σ4 0 7 (-1) := ⟨_, rfl⟩
        rw [← eσ6]
        replace hf := hf σ6 eσ6
        refine z_aload_n hC dX11_load_56 2 rfl rfl ?_
        refine z_aload_n hC dX11_load_57 2 rfl rfl ?_
        refine z_get hC (fun w h => uT _ w (uL11 w h)) (oX_11 (show kX 0 = 11 by decide)) 1 (by decide) (uT _ _ u468) rfl rfl dX11_load_58 ?_
        refine z_aload_n hC dX11_load_61 2 rfl rfl ?_
        refine z_get hC (fun w h => uT _ w (uL11 w h)) (oX_11 (show kX 0 = 11 by decide)) 0 (by decide) (uT _ _ u467) rfl rfl dX11_load_62 ?_
        obtain ⟨g7, hf⟩ := hf
        refine z_callVr hC hE (oX_4 (show kX 1 = 4 by decide)) [vR ad (σ6 0 0)] (fun sz2 => mX4_exchange l hinj sz2 hf) (cwV 1 hC.1.2.2.2.2 (uV (uT _) u705 u706 u707 u111 u708) rfl rfl rfl (by decide +kernel) ⟨Nat.le_of_ble_eq_true rfl, Nat.le_of_ble_eq_true rfl⟩) rfl rfl (Nat.le_of_ble_eq_true rfl) ⟨Nat.le_of_ble_eq_true rfl, Nat.le_of_ble_eq_true rfl⟩ dX11_load_65 (fun r8 σ8 hf => ?_)
        obtain ⟨g9, hf⟩ := hf
        refine z_put hC (ty := .object "GlacierCamera$Scene") tyX11 tyX11_ok nmX11 (fun w h => uT _ w (uL11 w h)) (oX_11 (show kX 0 = 11 by decide)) (loX' (show kX 0 = 11 by decide) (by decide)) 0 (by decide) (uT _ _ u467) rfl rfl (0) (r8) (by simp [zu]) (by decide +kernel) rfl rfl (Nat.le_of_ble_eq_true rfl) dX11_load_68 ?_
        obtain ⟨σ10, eσ10⟩ : ∃ z : zSt, z = zu σ8 0 0 r8 := ⟨_, rfl⟩
        rw [← eσ10]
        replace hf := hf σ10 eσ10
        refine z_aload_n hC dX11_load_71 2 rfl rfl ?_
        refine z_get hC (fun w h => uT _ w (uL11 w h)) (oX_11 (show kX 0 = 11 by decide)) 2 (by decide) (uT _ _ u469) rfl rfl dX11_load_72 ?_
        refine z_callVv hC hE (oX_3 (show kX 5 = 3 by decide)) [] (fun sz2 => mX3_clear l hinj sz2 hf) (cwV 0 hC.1.2.2.2.2 (uV (uT _) u709 u710 u711 u113 u712) rfl rfl rfl (by decide +kernel) ⟨Nat.le_of_ble_eq_true rfl, Nat.le_of_ble_eq_true rfl⟩) rfl rfl (Nat.le_of_ble_eq_true rfl) ⟨Nat.le_of_ble_eq_true rfl, Nat.le_of_ble_eq_true rfl⟩ dX11_load_75 (fun σ11 hf => ?_)
        refine z_aload_n hC dX11_load_78 2 rfl rfl ?_
        refine z_dup hC dX11_load_79 rfl ?_
        refine z_get hC (fun w h => uT _ w (uL11 w h)) (oX_11 (show kX 0 = 11 by decide)) 8 (by decide) (uT _ _ u475) rfl rfl dX11_load_80 ?_
        refine z_iconst hC dX11_load_83 ?_
        refine z_iadd hC dX11_load_84 ?_
        refine z_put hC (ty := .int) tyX11 tyX11_ok nmX11 (fun w h => uT _ w (uL11 w h)) (oX_11 (show kX 0 = 11 by decide)) (loX' (show kX 0 = 11 by decide) (by decide)) 8 (by decide) (uT _ _ u475) rfl rfl (8) ((σ11 0 8) + 1) (by simp [zu]) (by decide +kernel) rfl rfl (Nat.le_of_ble_eq_true rfl) dX11_load_85 ?_
        obtain ⟨σ12, eσ12⟩ : ∃ z : zSt, z = zu σ11 0 8 ((σ11 0 8) + 1) := ⟨_, rfl⟩
        rw [← eσ12]
        replace hf := hf σ12 eσ12
        refine z_iload_n hC dX11_load_88 0 rfl rfl ?_
        exact z_iret hC hr rfl dX11_load_89 hf
      · replace hf := hf.2 hc
        refine z_aload_n hC dX11_load_41 2 rfl rfl ?_
        refine z_aload_n hC dX11_load_42 1 rfl rfl ?_
        refine z_get hC (fun w h => uT _ w (uL2 w h)) (oX_2 (show kX 2 = 2 by decide)) 2 (by decide) (uT _ _ u281) rfl rfl dX11_load_43 ?_
        refine z_put hC (ty := .int) tyX11 tyX11_ok nmX11 (fun w h => uT _ w (uL11 w h)) (oX_11 (show kX 0 = 11 by decide)) (loX' (show kX 0 = 11 by decide) (by decide)) 7 (by decide) (uT _ _ u474) rfl rfl (7) (σ4 2 2) (by simp [zu]) (by decide +kernel) rfl rfl (Nat.le_of_ble_eq_true rfl) dX11_load_46 ?_
        obtain ⟨σ13, eσ13⟩ : ∃ z : zSt, z = zu σ4 0 7 (σ4 2 2) := ⟨_, rfl⟩
        rw [← eσ13]
        replace hf := hf σ13 eσ13
        refine z_iload_n hC dX11_load_49 0 rfl rfl ?_
        exact z_iret hC hr rfl dX11_load_50 hf
    · replace hf := hf.2 hc
      refine z_bipush hC dX11_load_20 (by decide) ?_
      exact z_iret hC hr rfl dX11_load_22 hf
