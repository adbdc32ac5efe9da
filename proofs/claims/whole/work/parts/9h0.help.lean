/-! the helpers of the law: contracts -/
theorem cH_frameDay (l : Launch) (hst : l.stackTraces = false) (D : va_G) (dA : Nat → ClassId) (aL aG aI : Nat) (aK aV : Nat → Nat) (ad : Nat → Nat) (od sz : Nat) (σ : zSt) (o : Int64) {G : Int → Int64 → zSt → Prop} {K : Int → zSt → Prop} {KX : String → zSt → Prop} {p0 : Int} (hf : fX11_frameDay K KX σ p0) (hGK : ∀ v σ', K v σ' → G 0 (Int32.ofInt v).toInt64 σ') (hGX : ∀ E σ', KX E σ' → (E = eIO ∧ G 1 o σ')) : vx_Met l yL_frameDay (Cond.codeWith yL_frameDay cL_frameDay 4 (some .int) [(0, 9, 12, 13)] :: UW) ({ frames := 8, cells := 1, slots := 6, locals := 124 } : Room) (va_Pc [vR ad 0, vI p0, .ref od] (zHP D dA (zXX aL aG aI aK aV) ad od sz σ o)) (va_Qi (zHG G) (zHB D dA ad od) (zHA ad od sz)) (zHX (zHA ad od sz)) 1 6 (zHA ad od sz) := by
  refine zH_enter (cc := cL_frameDay) (maxL := 4) (hh := [(0, 9, 12, 13)]) (by decide) rfl (Nat.le_of_ble_eq_true rfl) ?_
  intro p e s m args below meth c hC hno hr htab hnc
  refine zn_aload_n hC dL_frameDay_0 2 rfl rfl ?_
  refine zn_iconst hC dL_frameDay_1 ?_
  refine zn_aload_n hC dL_frameDay_2 0 rfl rfl ?_
  refine zn_iload_n hC dL_frameDay_3 1 rfl rfl ?_
  refine zn_perm (List.perm_append_singleton _ _).symm ?_
  refine zn_callT hC [vI p0] (fun hinj sz2 => mX11_frameDay l hinj hst sz2 hf) (cwV 1 hC.1.2.2.2.2 (uV (uT _) u1057 u1058 u1059 u105 u1060) rfl rfl rfl (by decide +kernel) ⟨Nat.le_of_ble_eq_true rfl, Nat.le_of_ble_eq_true rfl⟩) rfl rfl (Nat.le_of_ble_eq_true rfl) ⟨Nat.le_of_ble_eq_true rfl, Nat.le_of_ble_eq_true rfl⟩ dL_frameDay_4 ?_ (fun z σ1 hk => ?_)
  · intro E σ1 hk H locs ls ce q9 hP hD hS hl h1 h2 h3
    replace hk := hGX _ _ hk
    obtain ⟨rfl, hk⟩ := hk
    refine vx_catch (own := RL) (name := eIO) hC.1.2.2.2.1 [] ⟨0, 9, 12, 13⟩ [] htab (fun z hz => absurd hz List.not_mem_nil) (by decide) (by decide) (hC.1.2.2.2.2 _ (uT _ _ u1056)) (zN_use hC.2.2.2.2.1 (by decide +kernel : Cond.castable eIO eIO ∈ zNest)) h1 h2 h3 ?_
    refine (?_ : zL p l e _ s m args below meth c 1 6 _ 4 D _ 12 [(0, vR ad 0), (1, vI p0), (2, Value.ref od)] [Value.ref q9] (zW NX ad (celX ad dA σ1) ++ [(od, .inl (dA 7, 1, .inr (.inl (fun _ => o))))])) H locs ls hP hD hS hl
    refine zn_astore_n hC [(3, Value.ref q9), (0, vR ad 0), (1, vI p0), (2, Value.ref od)] dL_frameDay_12 rfl (by decide) rfl ?_
    refine zn_iconst hC dL_frameDay_13 ?_
    refine zn_perm (List.perm_append_singleton _ _) ?_
    exact zn_hret hC hr rfl (σ1, o) ⟨1, rfl, hk⟩ ⟨Nat.le_refl _, Nat.le_refl _⟩ dL_frameDay_14
  replace hk := hGK _ _ hk
  refine zn_perm (List.perm_append_singleton _ _) ?_
  refine zn_i2l hC dL_frameDay_7 ?_
  refine zn_last hC dL_frameDay_8 ?_
  refine zn_goto (tgt := 15) hC dL_frameDay_9 (by decide) ?_
  refine zn_iconst hC dL_frameDay_15 ?_
  exact zn_hret hC hr rfl (σ1, _) ⟨0, rfl, hk⟩ ⟨Nat.le_refl _, Nat.le_refl _⟩ dL_frameDay_16
theorem cH_pixel (l : Launch) (hst : l.stackTraces = false) (D : va_G) (dA : Nat → ClassId) (aL aG aI : Nat) (aK aV : Nat → Nat) (ad : Nat → Nat) (od sz : Nat) (σ : zSt) (o : Int64) {G : Int → Int64 → zSt → Prop} {K : Int → zSt → Prop} {KX : String → zSt → Prop} {p0 p1 p2 : Int} (hf : fX11_pixel K KX σ p0 p1 p2) (hGK : ∀ v σ', K v σ' → G 0 (Int32.ofInt v).toInt64 σ') (hGX : ∀ E σ', KX E σ' → (E = eIO ∧ G 1 o σ')) : vx_Met l yL_pixel (Cond.codeWith yL_pixel cL_pixel 6 (some .int) [(0, 12, 15, 13)] :: UW) ({ frames := 8, cells := 2, slots := 12, locals := 127 } : Room) (va_Pc [vR ad 0, vI p0, vI p1, vI p2, .ref od] (zHP D dA (zXX aL aG aI aK aV) ad od sz σ o)) (va_Qi (zHG G) (zHB D dA ad od) (zHA ad od sz)) (zHX (zHA ad od sz)) 2 12 (zHA ad od sz) := by
  refine zH_enter (cc := cL_pixel) (maxL := 6) (hh := [(0, 12, 15, 13)]) (by decide) rfl (Nat.le_of_ble_eq_true rfl) ?_
  intro p e s m args below meth c hC hno hr htab hnc
  refine zn_aload hC dL_pixel_0 4 rfl ?_
  refine zn_iconst hC dL_pixel_2 ?_
  refine zn_aload_n hC dL_pixel_3 0 rfl rfl ?_
  refine zn_iload_n hC dL_pixel_4 1 rfl rfl ?_
  refine zn_iload_n hC dL_pixel_5 2 rfl rfl ?_
  refine zn_iload_n hC dL_pixel_6 3 rfl rfl ?_
  refine zn_perm (List.perm_append_singleton _ _).symm ?_
  refine zn_callT hC [vI p0, vI p1, vI p2] (fun hinj sz2 => mX11_pixel l hinj hst sz2 hf) (cwV 3 hC.1.2.2.2.2 (uV (uT _) u1134 u1135 u1136 u105 u1137) rfl rfl rfl (by decide +kernel) ⟨Nat.le_of_ble_eq_true rfl, Nat.le_of_ble_eq_true rfl⟩) rfl rfl (Nat.le_of_ble_eq_true rfl) ⟨Nat.le_of_ble_eq_true rfl, Nat.le_of_ble_eq_true rfl⟩ dL_pixel_7 ?_ (fun z σ1 hk => ?_)
  · intro E σ1 hk H locs ls ce q9 hP hD hS hl h1 h2 h3
    replace hk := hGX _ _ hk
    obtain ⟨rfl, hk⟩ := hk
    refine vx_catch (own := RL) (name := eIO) hC.1.2.2.2.1 [] ⟨0, 12, 15, 13⟩ [] htab (fun z hz => absurd hz List.not_mem_nil) (by decide) (by decide) (hC.1.2.2.2.2 _ (uT _ _ u1056)) (zN_use hC.2.2.2.2.1 (by decide +kernel : Cond.castable eIO eIO ∈ zNest)) h1 h2 h3 ?_
    refine (?_ : zL p l e _ s m args below meth c 2 12 _ 6 D _ 15 [(0, vR ad 0), (1, vI p0), (2, vI p1), (3, vI p2), (4, Value.ref od)] [Value.ref q9] (zW NX ad (celX ad dA σ1) ++ [(od, .inl (dA 7, 1, .inr (.inl (fun _ => o))))])) H locs ls hP hD hS hl
    refine zn_astore hC [(5, Value.ref q9), (0, vR ad 0), (1, vI p0), (2, vI p1), (3, vI p2), (4, Value.ref od)] dL_pixel_15 (by decide) rfl ?_
    refine zn_iconst hC dL_pixel_17 ?_
    refine zn_perm (List.perm_append_singleton _ _) ?_
    exact zn_hret hC hr rfl (σ1, o) ⟨1, rfl, hk⟩ ⟨Nat.le_refl _, Nat.le_refl _⟩ dL_pixel_18
  replace hk := hGK _ _ hk
  refine zn_perm (List.perm_append_singleton _ _) ?_
  refine zn_i2l hC dL_pixel_10 ?_
  refine zn_last hC dL_pixel_11 ?_
  refine zn_goto (tgt := 19) hC dL_pixel_12 (by decide) ?_
  refine zn_iconst hC dL_pixel_19 ?_
  exact zn_hret hC hr rfl (σ1, _) ⟨0, rfl, hk⟩ ⟨Nat.le_refl _, Nat.le_refl _⟩ dL_pixel_20
theorem cH_contrast (l : Launch) (hst : l.stackTraces = false) (D : va_G) (dA : Nat → ClassId) (aL aG aI : Nat) (aK aV : Nat → Nat) (ad : Nat → Nat) (od sz : Nat) (σ : zSt) (o : Int64) {G : Int → Int64 → zSt → Prop} {K : Int → zSt → Prop} {KX : String → zSt → Prop} {p0 : Int} (hf : fX11_contrast K KX σ p0) (hGK : ∀ v σ', K v σ' → G 0 (Int32.ofInt v).toInt64 σ') (hGX : ∀ E σ', KX E σ' → (E = eIO ∧ G 1 o σ')) : vx_Met l yL_contrast (Cond.codeWith yL_contrast cL_contrast 4 (some .int) [(0, 9, 12, 13)] :: UW) ({ frames := 8, cells := 1, slots := 6, locals := 124 } : Room) (va_Pc [vR ad 0, vI p0, .ref od] (zHP D dA (zXX aL aG aI aK aV) ad od sz σ o)) (va_Qi (zHG G) (zHB D dA ad od) (zHA ad od sz)) (zHX (zHA ad od sz)) 1 6 (zHA ad od sz) := by
  refine zH_enter (cc := cL_contrast) (maxL := 4) (hh := [(0, 9, 12, 13)]) (by decide) rfl (Nat.le_of_ble_eq_true rfl) ?_
  intro p e s m args below meth c hC hno hr htab hnc
  refine zn_aload_n hC dL_contrast_0 2 rfl rfl ?_
  refine zn_iconst hC dL_contrast_1 ?_
  refine zn_aload_n hC dL_contrast_2 0 rfl rfl ?_
  refine zn_iload_n hC dL_contrast_3 1 rfl rfl ?_
  refine zn_perm (List.perm_append_singleton _ _).symm ?_
  refine zn_callT hC [vI p0] (fun hinj sz2 => mX11_contrast l hinj hst sz2 hf) (cwV 1 hC.1.2.2.2.2 (uV (uT _) u1146 u1147 u1148 u105 u1149) rfl rfl rfl (by decide +kernel) ⟨Nat.le_of_ble_eq_true rfl, Nat.le_of_ble_eq_true rfl⟩) rfl rfl (Nat.le_of_ble_eq_true rfl) ⟨Nat.le_of_ble_eq_true rfl, Nat.le_of_ble_eq_true rfl⟩ dL_contrast_4 ?_ (fun z σ1 hk => ?_)
  · intro E σ1 hk H locs ls ce q9 hP hD hS hl h1 h2 h3
    replace hk := hGX _ _ hk
    obtain ⟨rfl, hk⟩ := hk
    refine vx_catch (own := RL) (name := eIO) hC.1.2.2.2.1 [] ⟨0, 9, 12, 13⟩ [] htab (fun z hz => absurd hz List.not_mem_nil) (by decide) (by decide) (hC.1.2.2.2.2 _ (uT _ _ u1056)) (zN_use hC.2.2.2.2.1 (by decide +kernel : Cond.castable eIO eIO ∈ zNest)) h1 h2 h3 ?_
    refine (?_ : zL p l e _ s m args below meth c 1 6 _ 4 D _ 12 [(0, vR ad 0), (1, vI p0), (2, Value.ref od)] [Value.ref q9] (zW NX ad (celX ad dA σ1) ++ [(od, .inl (dA 7, 1, .inr (.inl (fun _ => o))))])) H locs ls hP hD hS hl
    refine zn_astore_n hC [(3, Value.ref q9), (0, vR ad 0), (1, vI p0), (2, Value.ref od)] dL_contrast_12 rfl (by decide) rfl ?_
    refine zn_iconst hC dL_contrast_13 ?_
    refine zn_perm (List.perm_append_singleton _ _) ?_
    exact zn_hret hC hr rfl (σ1, o) ⟨1, rfl, hk⟩ ⟨Nat.le_refl _, Nat.le_refl _⟩ dL_contrast_14
  replace hk := hGK _ _ hk
  refine zn_perm (List.perm_append_singleton _ _) ?_
  refine zn_i2l hC dL_contrast_7 ?_
  refine zn_last hC dL_contrast_8 ?_
  refine zn_goto (tgt := 15) hC dL_contrast_9 (by decide) ?_
  refine zn_iconst hC dL_contrast_15 ?_
  exact zn_hret hC hr rfl (σ1, _) ⟨0, rfl, hk⟩ ⟨Nat.le_refl _, Nat.le_refl _⟩ dL_contrast_16
theorem cH_isUsable (l : Launch) (hst : l.stackTraces = false) (D : va_G) (dA : Nat → ClassId) (aL aG aI : Nat) (aK aV : Nat → Nat) (ad : Nat → Nat) (od sz : Nat) (σ : zSt) (o : Int64) {G : Int → Int64 → zSt → Prop} {K : Int → zSt → Prop} {KX : String → zSt → Prop} {p0 : Int} (hf : fX11_isUsable K KX σ p0) (hGK : ∀ v σ', K v σ' → G 0 (if Int32.ofInt v = 0 then 0 else 1) σ') (hGX : ∀ E σ', KX E σ' → (E = eIO ∧ G 1 o σ')) : vx_Met l yL_isUsable (Cond.codeWith yL_isUsable cL_isUsable 4 (some .int) [(0, 16, 19, 13)] :: UW) ({ frames := 8, cells := 1, slots := 6, locals := 124 } : Room) (va_Pc [vR ad 0, vI p0, .ref od] (zHP D dA (zXX aL aG aI aK aV) ad od sz σ o)) (va_Qi (zHG G) (zHB D dA ad od) (zHA ad od sz)) (zHX (zHA ad od sz)) 1 6 (zHA ad od sz) := by
  refine zH_enter (cc := cL_isUsable) (maxL := 4) (hh := [(0, 16, 19, 13)]) (by decide) rfl (Nat.le_of_ble_eq_true rfl) ?_
  intro p e s m args below meth c hC hno hr htab hnc
  refine zn_aload_n hC dL_isUsable_0 2 rfl rfl ?_
  refine zn_iconst hC dL_isUsable_1 ?_
  refine zn_aload_n hC dL_isUsable_2 0 rfl rfl ?_
  refine zn_iload_n hC dL_isUsable_3 1 rfl rfl ?_
  refine zn_perm (List.perm_append_singleton _ _).symm ?_
  refine zn_callT hC [vI p0] (fun hinj sz2 => mX11_isUsable l hinj hst sz2 hf) (cwV 1 hC.1.2.2.2.2 (uV (uT _) u1154 u1155 u1156 u105 u1157) rfl rfl rfl (by decide +kernel) ⟨Nat.le_of_ble_eq_true rfl, Nat.le_of_ble_eq_true rfl⟩) rfl rfl (Nat.le_of_ble_eq_true rfl) ⟨Nat.le_of_ble_eq_true rfl, Nat.le_of_ble_eq_true rfl⟩ dL_isUsable_4 ?_ (fun z σ1 hk => ?_)
  · intro E σ1 hk H locs ls ce q9 hP hD hS hl h1 h2 h3
    replace hk := hGX _ _ hk
    obtain ⟨rfl, hk⟩ := hk
    refine vx_catch (own := RL) (name := eIO) hC.1.2.2.2.1 [] ⟨0, 16, 19, 13⟩ [] htab (fun z hz => absurd hz List.not_mem_nil) (by decide) (by decide) (hC.1.2.2.2.2 _ (uT _ _ u1056)) (zN_use hC.2.2.2.2.1 (by decide +kernel : Cond.castable eIO eIO ∈ zNest)) h1 h2 h3 ?_
    refine (?_ : zL p l e _ s m args below meth c 1 6 _ 4 D _ 19 [(0, vR ad 0), (1, vI p0), (2, Value.ref od)] [Value.ref q9] (zW NX ad (celX ad dA σ1) ++ [(od, .inl (dA 7, 1, .inr (.inl (fun _ => o))))])) H locs ls hP hD hS hl
    refine zn_astore_n hC [(3, Value.ref q9), (0, vR ad 0), (1, vI p0), (2, Value.ref od)] dL_isUsable_19 rfl (by decide) rfl ?_
    refine zn_iconst hC dL_isUsable_20 ?_
    refine zn_perm (List.perm_append_singleton _ _) ?_
    exact zn_hret hC hr rfl (σ1, o) ⟨1, rfl, hk⟩ ⟨Nat.le_refl _, Nat.le_refl _⟩ dL_isUsable_21
  replace hk := hGK _ _ hk
  refine zn_perm (List.perm_append_singleton _ _) ?_
  refine zn_z (tgt := 14) hC dL_isUsable_7 (by decide) (fun h0 => ?_) (fun h0 => ?_)
  · refine zn_lconst hC dL_isUsable_14 ?_
    refine zn_last hC dL_isUsable_15 ?_
    refine zn_goto (tgt := 22) hC dL_isUsable_16 (by decide) ?_
    refine zn_iconst hC dL_isUsable_22 ?_
    exact zn_hret hC hr rfl (σ1, _) ⟨0, rfl, by rw [if_pos h0] at hk; exact hk⟩ ⟨Nat.le_refl _, Nat.le_refl _⟩ dL_isUsable_23
  · refine zn_lconst hC dL_isUsable_10 ?_
    refine zn_goto (tgt := 15) hC dL_isUsable_11 (by decide) ?_
    refine zn_last hC dL_isUsable_15 ?_
    refine zn_goto (tgt := 22) hC dL_isUsable_16 (by decide) ?_
    refine zn_iconst hC dL_isUsable_22 ?_
    exact zn_hret hC hr rfl (σ1, _) ⟨0, rfl, by rw [if_neg h0] at hk; exact hk⟩ ⟨Nat.le_refl _, Nat.le_refl _⟩ dL_isUsable_23
theorem cH_isOriented (l : Launch) (hst : l.stackTraces = false) (D : va_G) (dA : Nat → ClassId) (aL aG aI : Nat) (aK aV : Nat → Nat) (ad : Nat → Nat) (od sz : Nat) (σ : zSt) (o : Int64) {G : Int → Int64 → zSt → Prop} {K : Int → zSt → Prop} {KX : String → zSt → Prop} {p0 : Int} (hf : fX11_isOriented K KX σ p0) (hGK : ∀ v σ', K v σ' → G 0 (if Int32.ofInt v = 0 then 0 else 1) σ') (hGX : ∀ E σ', KX E σ' → (E = eIO ∧ G 1 o σ')) : vx_Met l yL_isOriented (Cond.codeWith yL_isOriented cL_isOriented 4 (some .int) [(0, 16, 19, 13)] :: UW) ({ frames := 8, cells := 1, slots := 6, locals := 153 } : Room) (va_Pc [vR ad 0, vI p0, .ref od] (zHP D dA (zXX aL aG aI aK aV) ad od sz σ o)) (va_Qi (zHG G) (zHB D dA ad od) (zHA ad od sz)) (zHX (zHA ad od sz)) 1 6 (zHA ad od sz) := by
  refine zH_enter (cc := cL_isOriented) (maxL := 4) (hh := [(0, 16, 19, 13)]) (by decide) rfl (Nat.le_of_ble_eq_true rfl) ?_
  intro p e s m args below meth c hC hno hr htab hnc
  refine zn_aload_n hC dL_isOriented_0 2 rfl rfl ?_
  refine zn_iconst hC dL_isOriented_1 ?_
  refine zn_aload_n hC dL_isOriented_2 0 rfl rfl ?_
  refine zn_iload_n hC dL_isOriented_3 1 rfl rfl ?_
  refine zn_perm (List.perm_append_singleton _ _).symm ?_
  refine zn_callT hC [vI p0] (fun hinj sz2 => mX11_isOriented l hinj hst sz2 hf) (cwV 1 hC.1.2.2.2.2 (uV (uT _) u1161 u1162 u1163 u105 u1164) rfl rfl rfl (by decide +kernel) ⟨Nat.le_of_ble_eq_true rfl, Nat.le_of_ble_eq_true rfl⟩) rfl rfl (Nat.le_of_ble_eq_true rfl) ⟨Nat.le_of_ble_eq_true rfl, Nat.le_of_ble_eq_true rfl⟩ dL_isOriented_4 ?_ (fun z σ1 hk => ?_)
  · intro E σ1 hk H locs ls ce q9 hP hD hS hl h1 h2 h3
    replace hk := hGX _ _ hk
    obtain ⟨rfl, hk⟩ := hk
    refine vx_catch (own := RL) (name := eIO) hC.1.2.2.2.1 [] ⟨0, 16, 19, 13⟩ [] htab (fun z hz => absurd hz List.not_mem_nil) (by decide) (by decide) (hC.1.2.2.2.2 _ (uT _ _ u1056)) (zN_use hC.2.2.2.2.1 (by decide +kernel : Cond.castable eIO eIO ∈ zNest)) h1 h2 h3 ?_
    refine (?_ : zL p l e _ s m args below meth c 1 6 _ 4 D _ 19 [(0, vR ad 0), (1, vI p0), (2, Value.ref od)] [Value.ref q9] (zW NX ad (celX ad dA σ1) ++ [(od, .inl (dA 7, 1, .inr (.inl (fun _ => o))))])) H locs ls hP hD hS hl
    refine zn_astore_n hC [(3, Value.ref q9), (0, vR ad 0), (1, vI p0), (2, Value.ref od)] dL_isOriented_19 rfl (by decide) rfl ?_
    refine zn_iconst hC dL_isOriented_20 ?_
    refine zn_perm (List.perm_append_singleton _ _) ?_
    exact zn_hret hC hr rfl (σ1, o) ⟨1, rfl, hk⟩ ⟨Nat.le_refl _, Nat.le_refl _⟩ dL_isOriented_21
  replace hk := hGK _ _ hk
  refine zn_perm (List.perm_append_singleton _ _) ?_
  refine zn_z (tgt := 14) hC dL_isOriented_7 (by decide) (fun h0 => ?_) (fun h0 => ?_)
  · refine zn_lconst hC dL_isOriented_14 ?_
    refine zn_last hC dL_isOriented_15 ?_
    refine zn_goto (tgt := 22) hC dL_isOriented_16 (by decide) ?_
    refine zn_iconst hC dL_isOriented_22 ?_
    exact zn_hret hC hr rfl (σ1, _) ⟨0, rfl, by rw [if_pos h0] at hk; exact hk⟩ ⟨Nat.le_refl _, Nat.le_refl _⟩ dL_isOriented_23
  · refine zn_lconst hC dL_isOriented_10 ?_
    refine zn_goto (tgt := 15) hC dL_isOriented_11 (by decide) ?_
    refine zn_last hC dL_isOriented_15 ?_
    refine zn_goto (tgt := 22) hC dL_isOriented_16 (by decide) ?_
    refine zn_iconst hC dL_isOriented_22 ?_
    exact zn_hret hC hr rfl (σ1, _) ⟨0, rfl, by rw [if_neg h0] at hk; exact hk⟩ ⟨Nat.le_refl _, Nat.le_refl _⟩ dL_isOriented_23
theorem cH_shiftX (l : Launch) (hst : l.stackTraces = false) (D : va_G) (dA : Nat → ClassId) (aL aG aI : Nat) (aK aV : Nat → Nat) (ad : Nat → Nat) (od sz : Nat) (σ : zSt) (o : Int64) {G : Int → Int64 → zSt → Prop} {K : Int → zSt → Prop} {KX : String → zSt → Prop} {p0 : Int} (hf : fX11_shiftX K KX σ p0) (hGK : ∀ v σ', K v σ' → G 0 (Int32.ofInt v).toInt64 σ') (hGX : ∀ E σ', KX E σ' → ((E = eIO ∧ G 1 o σ') ∨ (E = eIS ∧ G 2 o σ'))) : vx_Met l yL_shiftX (Cond.codeWith yL_shiftX cL_shiftX 4 (some .int) [(0, 9, 12, 13), (0, 9, 15, 32)] :: UW) ({ frames := 9, cells := 2, slots := 12, locals := 174 } : Room) (va_Pc [vR ad 0, vI p0, .ref od] (zHP D dA (zXX aL aG aI aK aV) ad od sz σ o)) (va_Qi (zHG G) (zHB D dA ad od) (zHA ad od sz)) (zHX (zHA ad od sz)) 2 12 (zHA ad od sz) := by
  refine zH_enter (cc := cL_shiftX) (maxL := 4) (hh := [(0, 9, 12, 13), (0, 9, 15, 32)]) (by decide) rfl (Nat.le_of_ble_eq_true rfl) ?_
  intro p e s m args below meth c hC hno hr htab hnc
  refine zn_aload_n hC dL_shiftX_0 2 rfl rfl ?_
  refine zn_iconst hC dL_shiftX_1 ?_
  refine zn_aload_n hC dL_shiftX_2 0 rfl rfl ?_
  refine zn_iload_n hC dL_shiftX_3 1 rfl rfl ?_
  refine zn_perm (List.perm_append_singleton _ _).symm ?_
  refine zn_callT hC [vI p0] (fun hinj sz2 => mX11_shiftX l hinj hst sz2 hf) (cwV 1 hC.1.2.2.2.2 (uV (uT _) u1170 u1171 u1172 u105 u1173) rfl rfl rfl (by decide +kernel) ⟨Nat.le_of_ble_eq_true rfl, Nat.le_of_ble_eq_true rfl⟩) rfl rfl (Nat.le_of_ble_eq_true rfl) ⟨Nat.le_of_ble_eq_true rfl, Nat.le_of_ble_eq_true rfl⟩ dL_shiftX_4 ?_ (fun z σ1 hk => ?_)
  · intro E σ1 hk H locs ls ce q9 hP hD hS hl h1 h2 h3
    replace hk := hGX _ _ hk
    rcases hk with ⟨rfl, hk⟩ | ⟨rfl, hk⟩
    · refine vx_catch (own := RL) (name := eIO) hC.1.2.2.2.1 [] ⟨0, 9, 12, 13⟩ [⟨0, 9, 15, 32⟩] htab (fun z hz => absurd hz List.not_mem_nil) (by decide) (by decide) (hC.1.2.2.2.2 _ (uT _ _ u1056)) (zN_use hC.2.2.2.2.1 (by decide +kernel : Cond.castable eIO eIO ∈ zNest)) h1 h2 h3 ?_
      refine (?_ : zL p l e _ s m args below meth c 2 12 _ 4 D _ 12 [(0, vR ad 0), (1, vI p0), (2, Value.ref od)] [Value.ref q9] (zW NX ad (celX ad dA σ1) ++ [(od, .inl (dA 7, 1, .inr (.inl (fun _ => o))))])) H locs ls hP hD hS hl
      refine zn_astore_n hC [(3, Value.ref q9), (0, vR ad 0), (1, vI p0), (2, Value.ref od)] dL_shiftX_12 rfl (by decide) rfl ?_
      refine zn_iconst hC dL_shiftX_13 ?_
      refine zn_perm (List.perm_append_singleton _ _) ?_
      exact zn_hret hC hr rfl (σ1, o) ⟨1, rfl, hk⟩ ⟨Nat.le_refl _, Nat.le_refl _⟩ dL_shiftX_14
    · refine vx_catch (own := RL) (name := eIS) hC.1.2.2.2.1 [⟨0, 9, 12, 13⟩] ⟨0, 9, 15, 32⟩ [] htab (fun z hz => Or.inr (by rw [List.mem_singleton] at hz; subst hz; exact ⟨by decide, eIO, hC.1.2.2.2.2 _ (uT _ _ u1056), hnc⟩)) (by decide) (by decide) (hC.1.2.2.2.2 _ (uT _ _ u1169)) (zN_use hC.2.2.2.2.1 (by decide +kernel : Cond.castable eIS eIS ∈ zNest)) h1 h2 h3 ?_
      refine (?_ : zL p l e _ s m args below meth c 2 12 _ 4 D _ 15 [(0, vR ad 0), (1, vI p0), (2, Value.ref od)] [Value.ref q9] (zW NX ad (celX ad dA σ1) ++ [(od, .inl (dA 7, 1, .inr (.inl (fun _ => o))))])) H locs ls hP hD hS hl
      refine zn_astore_n hC [(3, Value.ref q9), (0, vR ad 0), (1, vI p0), (2, Value.ref od)] dL_shiftX_15 rfl (by decide) rfl ?_
      refine zn_iconst hC dL_shiftX_16 ?_
      refine zn_perm (List.perm_append_singleton _ _) ?_
      exact zn_hret hC hr rfl (σ1, o) ⟨2, rfl, hk⟩ ⟨Nat.le_refl _, Nat.le_refl _⟩ dL_shiftX_17
  replace hk := hGK _ _ hk
  refine zn_perm (List.perm_append_singleton _ _) ?_
  refine zn_i2l hC dL_shiftX_7 ?_
  refine zn_last hC dL_shiftX_8 ?_
  refine zn_goto (tgt := 18) hC dL_shiftX_9 (by decide) ?_
  refine zn_iconst hC dL_shiftX_18 ?_
  exact zn_hret hC hr rfl (σ1, _) ⟨0, rfl, hk⟩ ⟨Nat.le_refl _, Nat.le_refl _⟩ dL_shiftX_19
theorem cH_shiftY (l : Launch) (hst : l.stackTraces = false) (D : va_G) (dA : Nat → ClassId) (aL aG aI : Nat) (aK aV : Nat → Nat) (ad : Nat → Nat) (od sz : Nat) (σ : zSt) (o : Int64) {G : Int → Int64 → zSt → Prop} {K : Int → zSt → Prop} {KX : String → zSt → Prop} {p0 : Int} (hf : fX11_shiftY K KX σ p0) (hGK : ∀ v σ', K v σ' → G 0 (Int32.ofInt v).toInt64 σ') (hGX : ∀ E σ', KX E σ' → ((E = eIO ∧ G 1 o σ') ∨ (E = eIS ∧ G 2 o σ'))) : vx_Met l yL_shiftY (Cond.codeWith yL_shiftY cL_shiftY 4 (some .int) [(0, 9, 12, 13), (0, 9, 15, 32)] :: UW) ({ frames := 9, cells := 2, slots := 12, locals := 174 } : Room) (va_Pc [vR ad 0, vI p0, .ref od] (zHP D dA (zXX aL aG aI aK aV) ad od sz σ o)) (va_Qi (zHG G) (zHB D dA ad od) (zHA ad od sz)) (zHX (zHA ad od sz)) 2 12 (zHA ad od sz) := by
  refine zH_enter (cc := cL_shiftY) (maxL := 4) (hh := [(0, 9, 12, 13), (0, 9, 15, 32)]) (by decide) rfl (Nat.le_of_ble_eq_true rfl) ?_
  intro p e s m args below meth c hC hno hr htab hnc
  refine zn_aload_n hC dL_shiftY_0 2 rfl rfl ?_
  refine zn_iconst hC dL_shiftY_1 ?_
  refine zn_aload_n hC dL_shiftY_2 0 rfl rfl ?_
  refine zn_iload_n hC dL_shiftY_3 1 rfl rfl ?_
  refine zn_perm (List.perm_append_singleton _ _).symm ?_
  refine zn_callT hC [vI p0] (fun hinj sz2 => mX11_shiftY l hinj hst sz2 hf) (cwV 1 hC.1.2.2.2.2 (uV (uT _) u1198 u1199 u1200 u105 u1201) rfl rfl rfl (by decide +kernel) ⟨Nat.le_of_ble_eq_true rfl, Nat.le_of_ble_eq_true rfl⟩) rfl rfl (Nat.le_of_ble_eq_true rfl) ⟨Nat.le_of_ble_eq_true rfl, Nat.le_of_ble_eq_true rfl⟩ dL_shiftY_4 ?_ (fun z σ1 hk => ?_)
  · intro E σ1 hk H locs ls ce q9 hP hD hS hl h1 h2 h3
    replace hk := hGX _ _ hk
    rcases hk with ⟨rfl, hk⟩ | ⟨rfl, hk⟩
    · refine vx_catch (own := RL) (name := eIO) hC.1.2.2.2.1 [] ⟨0, 9, 12, 13⟩ [⟨0, 9, 15, 32⟩] htab (fun z hz => absurd hz List.not_mem_nil) (by decide) (by decide) (hC.1.2.2.2.2 _ (uT _ _ u1056)) (zN_use hC.2.2.2.2.1 (by decide +kernel : Cond.castable eIO eIO ∈ zNest)) h1 h2 h3 ?_
      refine (?_ : zL p l e _ s m args below meth c 2 12 _ 4 D _ 12 [(0, vR ad 0), (1, vI p0), (2, Value.ref od)] [Value.ref q9] (zW NX ad (celX ad dA σ1) ++ [(od, .inl (dA 7, 1, .inr (.inl (fun _ => o))))])) H locs ls hP hD hS hl
      refine zn_astore_n hC [(3, Value.ref q9), (0, vR ad 0), (1, vI p0), (2, Value.ref od)] dL_shiftY_12 rfl (by decide) rfl ?_
      refine zn_iconst hC dL_shiftY_13 ?_
      refine zn_perm (List.perm_append_singleton _ _) ?_
      exact zn_hret hC hr rfl (σ1, o) ⟨1, rfl, hk⟩ ⟨Nat.le_refl _, Nat.le_refl _⟩ dL_shiftY_14
    · refine vx_catch (own := RL) (name := eIS) hC.1.2.2.2.1 [⟨0, 9, 12, 13⟩] ⟨0, 9, 15, 32⟩ [] htab (fun z hz => Or.inr (by rw [List.mem_singleton] at hz; subst hz; exact ⟨by decide, eIO, hC.1.2.2.2.2 _ (uT _ _ u1056), hnc⟩)) (by decide) (by decide) (hC.1.2.2.2.2 _ (uT _ _ u1169)) (zN_use hC.2.2.2.2.1 (by decide +kernel : Cond.castable eIS eIS ∈ zNest)) h1 h2 h3 ?_
      refine (?_ : zL p l e _ s m args below meth c 2 12 _ 4 D _ 15 [(0, vR ad 0), (1, vI p0), (2, Value.ref od)] [Value.ref q9] (zW NX ad (celX ad dA σ1) ++ [(od, .inl (dA 7, 1, .inr (.inl (fun _ => o))))])) H locs ls hP hD hS hl
      refine zn_astore_n hC [(3, Value.ref q9), (0, vR ad 0), (1, vI p0), (2, Value.ref od)] dL_shiftY_15 rfl (by decide) rfl ?_
      refine zn_iconst hC dL_shiftY_16 ?_
      refine zn_perm (List.perm_append_singleton _ _) ?_
      exact zn_hret hC hr rfl (σ1, o) ⟨2, rfl, hk⟩ ⟨Nat.le_refl _, Nat.le_refl _⟩ dL_shiftY_17
  replace hk := hGK _ _ hk
  refine zn_perm (List.perm_append_singleton _ _) ?_
  refine zn_i2l hC dL_shiftY_7 ?_
  refine zn_last hC dL_shiftY_8 ?_
  refine zn_goto (tgt := 18) hC dL_shiftY_9 (by decide) ?_
  refine zn_iconst hC dL_shiftY_18 ?_
  exact zn_hret hC hr rfl (σ1, _) ⟨0, rfl, hk⟩ ⟨Nat.le_refl _, Nat.le_refl _⟩ dL_shiftY_19
theorem cH_shiftError (l : Launch) (hst : l.stackTraces = false) (D : va_G) (dA : Nat → ClassId) (aL aG aI : Nat) (aK aV : Nat → Nat) (ad : Nat → Nat) (od sz : Nat) (σ : zSt) (o : Int64) {G : Int → Int64 → zSt → Prop} {K : Int → zSt → Prop} {KX : String → zSt → Prop} {p0 : Int} (hf : fX11_shiftError K KX σ p0) (hGK : ∀ v σ', K v σ' → G 0 (Int32.ofInt v).toInt64 σ') (hGX : ∀ E σ', KX E σ' → (E = eIO ∧ G 1 o σ')) : vx_Met l yL_shiftError (Cond.codeWith yL_shiftError cL_shiftError 4 (some .int) [(0, 9, 12, 13)] :: UW) ({ frames := 8, cells := 1, slots := 6, locals := 153 } : Room) (va_Pc [vR ad 0, vI p0, .ref od] (zHP D dA (zXX aL aG aI aK aV) ad od sz σ o)) (va_Qi (zHG G) (zHB D dA ad od) (zHA ad od sz)) (zHX (zHA ad od sz)) 1 6 (zHA ad od sz) := by
  refine zH_enter (cc := cL_shiftError) (maxL := 4) (hh := [(0, 9, 12, 13)]) (by decide) rfl (Nat.le_of_ble_eq_true rfl) ?_
  intro p e s m args below meth c hC hno hr htab hnc
  refine zn_aload_n hC dL_shiftError_0 2 rfl rfl ?_
  refine zn_iconst hC dL_shiftError_1 ?_
  refine zn_aload_n hC dL_shiftError_2 0 rfl rfl ?_
  refine zn_iload_n hC dL_shiftError_3 1 rfl rfl ?_
  refine zn_perm (List.perm_append_singleton _ _).symm ?_
  refine zn_callT hC [vI p0] (fun hinj sz2 => mX11_shiftError l hinj hst sz2 hf) (cwV 1 hC.1.2.2.2.2 (uV (uT _) u1206 u1207 u1208 u105 u1209) rfl rfl rfl (by decide +kernel) ⟨Nat.le_of_ble_eq_true rfl, Nat.le_of_ble_eq_true rfl⟩) rfl rfl (Nat.le_of_ble_eq_true rfl) ⟨Nat.le_of_ble_eq_true rfl, Nat.le_of_ble_eq_true rfl⟩ dL_shiftError_4 ?_ (fun z σ1 hk => ?_)
  · intro E σ1 hk H locs ls ce q9 hP hD hS hl h1 h2 h3
    replace hk := hGX _ _ hk
    obtain ⟨rfl, hk⟩ := hk
    refine vx_catch (own := RL) (name := eIO) hC.1.2.2.2.1 [] ⟨0, 9, 12, 13⟩ [] htab (fun z hz => absurd hz List.not_mem_nil) (by decide) (by decide) (hC.1.2.2.2.2 _ (uT _ _ u1056)) (zN_use hC.2.2.2.2.1 (by decide +kernel : Cond.castable eIO eIO ∈ zNest)) h1 h2 h3 ?_
    refine (?_ : zL p l e _ s m args below meth c 1 6 _ 4 D _ 12 [(0, vR ad 0), (1, vI p0), (2, Value.ref od)] [Value.ref q9] (zW NX ad (celX ad dA σ1) ++ [(od, .inl (dA 7, 1, .inr (.inl (fun _ => o))))])) H locs ls hP hD hS hl
    refine zn_astore_n hC [(3, Value.ref q9), (0, vR ad 0), (1, vI p0), (2, Value.ref od)] dL_shiftError_12 rfl (by decide) rfl ?_
    refine zn_iconst hC dL_shiftError_13 ?_
    refine zn_perm (List.perm_append_singleton _ _) ?_
    exact zn_hret hC hr rfl (σ1, o) ⟨1, rfl, hk⟩ ⟨Nat.le_refl _, Nat.le_refl _⟩ dL_shiftError_14
  replace hk := hGK _ _ hk
  refine zn_perm (List.perm_append_singleton _ _) ?_
  refine zn_i2l hC dL_shiftError_7 ?_
  refine zn_last hC dL_shiftError_8 ?_
  refine zn_goto (tgt := 15) hC dL_shiftError_9 (by decide) ?_
  refine zn_iconst hC dL_shiftError_15 ?_
  exact zn_hret hC hr rfl (σ1, _) ⟨0, rfl, hk⟩ ⟨Nat.le_refl _, Nat.le_refl _⟩ dL_shiftError_16
theorem cH_match (l : Launch) (hst : l.stackTraces = false) (D : va_G) (dA : Nat → ClassId) (aL aG aI : Nat) (aK aV : Nat → Nat) (ad : Nat → Nat) (od sz : Nat) (σ : zSt) (o : Int64) {G : Int → Int64 → zSt → Prop} {K : Int → zSt → Prop} {KX : String → zSt → Prop} {p0 p1 p2 p3 : Int} (hf : fX11_match K KX σ p0 p1 p2 p3) (hGK : ∀ v σ', K v σ' → G 0 (Int32.ofInt v).toInt64 σ') (hGX : ∀ E σ', KX E σ' → (E = eIO ∧ G 1 o σ')) : vx_Met l yL_match (Cond.codeWith yL_match cL_match 7 (some .int) [(0, 14, 17, 13)] :: UW) ({ frames := 9, cells := 3, slots := 18, locals := 181 } : Room) (va_Pc [vR ad 0, vI p0, vI p1, vI p2, vI p3, .ref od] (zHP D dA (zXX aL aG aI aK aV) ad od sz σ o)) (va_Qi (zHG G) (zHB D dA ad od) (zHA ad od sz)) (zHX (zHA ad od sz)) 3 18 (zHA ad od sz) := by
  refine zH_enter (cc := cL_match) (maxL := 7) (hh := [(0, 14, 17, 13)]) (by decide) rfl (Nat.le_of_ble_eq_true rfl) ?_
  intro p e s m args below meth c hC hno hr htab hnc
  refine zn_aload hC dL_match_0 5 rfl ?_
  refine zn_iconst hC dL_match_2 ?_
  refine zn_aload_n hC dL_match_3 0 rfl rfl ?_
  refine zn_iload_n hC dL_match_4 1 rfl rfl ?_
  refine zn_iload_n hC dL_match_5 2 rfl rfl ?_
  refine zn_iload_n hC dL_match_6 3 rfl rfl ?_
  refine zn_iload hC dL_match_7 4 rfl ?_
  refine zn_perm (List.perm_append_singleton _ _).symm ?_
  refine zn_callT hC [vI p0, vI p1, vI p2, vI p3] (fun hinj sz2 => mX11_match l hinj hst sz2 hf) (cwV 4 hC.1.2.2.2.2 (uV (uT _) u1217 u1218 u1219 u105 u1220) rfl rfl rfl (by decide +kernel) ⟨Nat.le_of_ble_eq_true rfl, Nat.le_of_ble_eq_true rfl⟩) rfl rfl (Nat.le_of_ble_eq_true rfl) ⟨Nat.le_of_ble_eq_true rfl, Nat.le_of_ble_eq_true rfl⟩ dL_match_9 ?_ (fun z σ1 hk => ?_)
  · intro E σ1 hk H locs ls ce q9 hP hD hS hl h1 h2 h3
    replace hk := hGX _ _ hk
    obtain ⟨rfl, hk⟩ := hk
    refine vx_catch (own := RL) (name := eIO) hC.1.2.2.2.1 [] ⟨0, 14, 17, 13⟩ [] htab (fun z hz => absurd hz List.not_mem_nil) (by decide) (by decide) (hC.1.2.2.2.2 _ (uT _ _ u1056)) (zN_use hC.2.2.2.2.1 (by decide +kernel : Cond.castable eIO eIO ∈ zNest)) h1 h2 h3 ?_
    refine (?_ : zL p l e _ s m args below meth c 3 18 _ 7 D _ 17 [(0, vR ad 0), (1, vI p0), (2, vI p1), (3, vI p2), (4, vI p3), (5, Value.ref od)] [Value.ref q9] (zW NX ad (celX ad dA σ1) ++ [(od, .inl (dA 7, 1, .inr (.inl (fun _ => o))))])) H locs ls hP hD hS hl
    refine zn_astore hC [(6, Value.ref q9), (0, vR ad 0), (1, vI p0), (2, vI p1), (3, vI p2), (4, vI p3), (5, Value.ref od)] dL_match_17 (by decide) rfl ?_
    refine zn_iconst hC dL_match_19 ?_
    refine zn_perm (List.perm_append_singleton _ _) ?_
    exact zn_hret hC hr rfl (σ1, o) ⟨1, rfl, hk⟩ ⟨Nat.le_refl _, Nat.le_refl _⟩ dL_match_20
  replace hk := hGK _ _ hk
  refine zn_perm (List.perm_append_singleton _ _) ?_
  refine zn_i2l hC dL_match_12 ?_
  refine zn_last hC dL_match_13 ?_
  refine zn_goto (tgt := 21) hC dL_match_14 (by decide) ?_
  refine zn_iconst hC dL_match_21 ?_
  exact zn_hret hC hr rfl (σ1, _) ⟨0, rfl, hk⟩ ⟨Nat.le_refl _, Nat.le_refl _⟩ dL_match_22
theorem cH_matchError (l : Launch) (hst : l.stackTraces = false) (D : va_G) (dA : Nat → ClassId) (aL aG aI : Nat) (aK aV : Nat → Nat) (ad : Nat → Nat) (od sz : Nat) (σ : zSt) (o : Int64) {G : Int → Int64 → zSt → Prop} {K : Int → zSt → Prop} {KX : String → zSt → Prop} {p0 p1 p2 p3 : Int} (hf : fX11_matchError K KX σ p0 p1 p2 p3) (hGK : ∀ v σ', K v σ' → G 0 (Int32.ofInt v).toInt64 σ') (hGX : ∀ E σ', KX E σ' → (E = eIO ∧ G 1 o σ')) : vx_Met l yL_matchError (Cond.codeWith yL_matchError cL_matchError 7 (some .int) [(0, 14, 17, 13)] :: UW) ({ frames := 9, cells := 3, slots := 18, locals := 181 } : Room) (va_Pc [vR ad 0, vI p0, vI p1, vI p2, vI p3, .ref od] (zHP D dA (zXX aL aG aI aK aV) ad od sz σ o)) (va_Qi (zHG G) (zHB D dA ad od) (zHA ad od sz)) (zHX (zHA ad od sz)) 3 18 (zHA ad od sz) := by
  refine zH_enter (cc := cL_matchError) (maxL := 7) (hh := [(0, 14, 17, 13)]) (by decide) rfl (Nat.le_of_ble_eq_true rfl) ?_
  intro p e s m args below meth c hC hno hr htab hnc
  refine zn_aload hC dL_matchError_0 5 rfl ?_
  refine zn_iconst hC dL_matchError_2 ?_
  refine zn_aload_n hC dL_matchError_3 0 rfl rfl ?_
  refine zn_iload_n hC dL_matchError_4 1 rfl rfl ?_
  refine zn_iload_n hC dL_matchError_5 2 rfl rfl ?_
  refine zn_iload_n hC dL_matchError_6 3 rfl rfl ?_
  refine zn_iload hC dL_matchError_7 4 rfl ?_
  refine zn_perm (List.perm_append_singleton _ _).symm ?_
  refine zn_callT hC [vI p0, vI p1, vI p2, vI p3] (fun hinj sz2 => mX11_matchError l hinj hst sz2 hf) (cwV 4 hC.1.2.2.2.2 (uV (uT _) u1230 u1231 u1232 u105 u1233) rfl rfl rfl (by decide +kernel) ⟨Nat.le_of_ble_eq_true rfl, Nat.le_of_ble_eq_true rfl⟩) rfl rfl (Nat.le_of_ble_eq_true rfl) ⟨Nat.le_of_ble_eq_true rfl, Nat.le_of_ble_eq_true rfl⟩ dL_matchError_9 ?_ (fun z σ1 hk => ?_)
  · intro E σ1 hk H locs ls ce q9 hP hD hS hl h1 h2 h3
    replace hk := hGX _ _ hk
    obtain ⟨rfl, hk⟩ := hk
    refine vx_catch (own := RL) (name := eIO) hC.1.2.2.2.1 [] ⟨0, 14, 17, 13⟩ [] htab (fun z hz => absurd hz List.not_mem_nil) (by decide) (by decide) (hC.1.2.2.2.2 _ (uT _ _ u1056)) (zN_use hC.2.2.2.2.1 (by decide +kernel : Cond.castable eIO eIO ∈ zNest)) h1 h2 h3 ?_
    refine (?_ : zL p l e _ s m args below meth c 3 18 _ 7 D _ 17 [(0, vR ad 0), (1, vI p0), (2, vI p1), (3, vI p2), (4, vI p3), (5, Value.ref od)] [Value.ref q9] (zW NX ad (celX ad dA σ1) ++ [(od, .inl (dA 7, 1, .inr (.inl (fun _ => o))))])) H locs ls hP hD hS hl
    refine zn_astore hC [(6, Value.ref q9), (0, vR ad 0), (1, vI p0), (2, vI p1), (3, vI p2), (4, vI p3), (5, Value.ref od)] dL_matchError_17 (by decide) rfl ?_
    refine zn_iconst hC dL_matchError_19 ?_
    refine zn_perm (List.perm_append_singleton _ _) ?_
    exact zn_hret hC hr rfl (σ1, o) ⟨1, rfl, hk⟩ ⟨Nat.le_refl _, Nat.le_refl _⟩ dL_matchError_20
  replace hk := hGK _ _ hk
  refine zn_perm (List.perm_append_singleton _ _) ?_
  refine zn_i2l hC dL_matchError_12 ?_
  refine zn_last hC dL_matchError_13 ?_
  refine zn_goto (tgt := 21) hC dL_matchError_14 (by decide) ?_
  refine zn_iconst hC dL_matchError_21 ?_
  exact zn_hret hC hr rfl (σ1, _) ⟨0, rfl, hk⟩ ⟨Nat.le_refl _, Nat.le_refl _⟩ dL_matchError_22
