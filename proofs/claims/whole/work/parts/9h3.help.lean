/-! the helpers of the law: contracts -/
theorem cH_meltTo (l : Launch) (hst : l.stackTraces = false) (D : va_G) (dA : Nat → ClassId) (aL aG aI : Nat) (aK aV : Nat → Nat) (ad : Nat → Nat) (od sz : Nat) (σ : zSt) (o : Int64) {G : Int → Int64 → zSt → Prop} {K : Int → zSt → Prop} {KX : String → zSt → Prop} {p0 p1 : Int} (hf : fX11_meltTo K KX σ p0 p1) (hGK : ∀ v σ', K v σ' → G 0 (Int32.ofInt v).toInt64 σ') (hGX : ∀ E σ', KX E σ' → (E = eIO ∧ G 1 o σ')) : vx_Met l yL_meltTo (Cond.codeWith yL_meltTo cL_meltTo 5 (some .int) [(0, 10, 13, 13)] :: UW) ({ frames := 8, cells := 1, slots := 6, locals := 125 } : Room) (va_Pc [vR ad 0, vI p0, vI p1, .ref od] (zHP D dA (zXX aL aG aI aK aV) ad od sz σ o)) (va_Qi (zHG G) (zHB D dA ad od) (zHA ad od sz)) (zHX (zHA ad od sz)) 1 6 (zHA ad od sz) := by
  refine zH_enter (cc := cL_meltTo) (maxL := 5) (hh := [(0, 10, 13, 13)]) (by decide) rfl (Nat.le_of_ble_eq_true rfl) ?_
  intro p e s m args below meth c hC hno hr htab hnc
  refine zn_aload_n hC dL_meltTo_0 3 rfl rfl ?_
  refine zn_iconst hC dL_meltTo_1 ?_
  refine zn_aload_n hC dL_meltTo_2 0 rfl rfl ?_
  refine zn_iload_n hC dL_meltTo_3 1 rfl rfl ?_
  refine zn_iload_n hC dL_meltTo_4 2 rfl rfl ?_
  refine zn_perm (List.perm_append_singleton _ _).symm ?_
  refine zn_callT hC [vI p0, vI p1] (fun hinj sz2 => mX11_meltTo l hinj hst sz2 hf) (cwV 2 hC.1.2.2.2.2 (uV (uT _) u1453 u1454 u1455 u105 u1456) rfl rfl rfl (by decide +kernel) ⟨Nat.le_of_ble_eq_true rfl, Nat.le_of_ble_eq_true rfl⟩) rfl rfl (Nat.le_of_ble_eq_true rfl) ⟨Nat.le_of_ble_eq_true rfl, Nat.le_of_ble_eq_true rfl⟩ dL_meltTo_5 ?_ (fun z σ1 hk => ?_)
  · intro E σ1 hk H locs ls ce q9 hP hD hS hl h1 h2 h3
    replace hk := hGX _ _ hk
    obtain ⟨rfl, hk⟩ := hk
    refine vx_catch (own := RL) (name := eIO) hC.1.2.2.2.1 [] ⟨0, 10, 13, 13⟩ [] htab (fun z hz => absurd hz List.not_mem_nil) (by decide) (by decide) (hC.1.2.2.2.2 _ (uT _ _ u1056)) (zN_use hC.2.2.2.2.1 (by decide +kernel : Cond.castable eIO eIO ∈ zNest)) h1 h2 h3 ?_
    refine (?_ : zL p l e _ s m args below meth c 1 6 _ 5 D _ 13 [(0, vR ad 0), (1, vI p0), (2, vI p1), (3, Value.ref od)] [Value.ref q9] (zW NX ad (celX ad dA σ1) ++ [(od, .inl (dA 7, 1, .inr (.inl (fun _ => o))))])) H locs ls hP hD hS hl
    refine zn_astore hC [(4, Value.ref q9), (0, vR ad 0), (1, vI p0), (2, vI p1), (3, Value.ref od)] dL_meltTo_13 (by decide) rfl ?_
    refine zn_iconst hC dL_meltTo_15 ?_
    refine zn_perm (List.perm_append_singleton _ _) ?_
    exact zn_hret hC hr rfl (σ1, o) ⟨1, rfl, hk⟩ ⟨Nat.le_refl _, Nat.le_refl _⟩ dL_meltTo_16
  replace hk := hGK _ _ hk
  refine zn_perm (List.perm_append_singleton _ _) ?_
  refine zn_i2l hC dL_meltTo_8 ?_
  refine zn_last hC dL_meltTo_9 ?_
  refine zn_goto (tgt := 17) hC dL_meltTo_10 (by decide) ?_
  refine zn_iconst hC dL_meltTo_17 ?_
  exact zn_hret hC hr rfl (σ1, _) ⟨0, rfl, hk⟩ ⟨Nat.le_refl _, Nat.le_refl _⟩ dL_meltTo_18
theorem cH_melt (l : Launch) (hst : l.stackTraces = false) (D : va_G) (dA : Nat → ClassId) (aL aG aI : Nat) (aK aV : Nat → Nat) (ad : Nat → Nat) (od sz : Nat) (σ : zSt) (o : Int64) {G : Int → Int64 → zSt → Prop} {K : Int → zSt → Prop} {KX : String → zSt → Prop} {p0 p1 p2 : Int} (hf : fX11_melt K KX σ p0 p1 p2) (hGK : ∀ v σ', K v σ' → G 0 (Int32.ofInt v).toInt64 σ') (hGX : ∀ E σ', KX E σ' → (E = eIO ∧ G 1 o σ')) : vx_Met l yL_melt (Cond.codeWith yL_melt cL_melt 6 (some .int) [(0, 12, 15, 13)] :: UW) ({ frames := 8, cells := 1, slots := 6, locals := 126 } : Room) (va_Pc [vR ad 0, vI p0, vI p1, vI p2, .ref od] (zHP D dA (zXX aL aG aI aK aV) ad od sz σ o)) (va_Qi (zHG G) (zHB D dA ad od) (zHA ad od sz)) (zHX (zHA ad od sz)) 1 6 (zHA ad od sz) := by
  refine zH_enter (cc := cL_melt) (maxL := 6) (hh := [(0, 12, 15, 13)]) (by decide) rfl (Nat.le_of_ble_eq_true rfl) ?_
  intro p e s m args below meth c hC hno hr htab hnc
  refine zn_aload hC dL_melt_0 4 rfl ?_
  refine zn_iconst hC dL_melt_2 ?_
  refine zn_aload_n hC dL_melt_3 0 rfl rfl ?_
  refine zn_iload_n hC dL_melt_4 1 rfl rfl ?_
  refine zn_iload_n hC dL_melt_5 2 rfl rfl ?_
  refine zn_iload_n hC dL_melt_6 3 rfl rfl ?_
  refine zn_perm (List.perm_append_singleton _ _).symm ?_
  refine zn_callT hC [vI p0, vI p1, vI p2] (fun hinj sz2 => mX11_melt l hinj hst sz2 hf) (cwV 3 hC.1.2.2.2.2 (uV (uT _) u1461 u1462 u1463 u105 u1464) rfl rfl rfl (by decide +kernel) ⟨Nat.le_of_ble_eq_true rfl, Nat.le_of_ble_eq_true rfl⟩) rfl rfl (Nat.le_of_ble_eq_true rfl) ⟨Nat.le_of_ble_eq_true rfl, Nat.le_of_ble_eq_true rfl⟩ dL_melt_7 ?_ (fun z σ1 hk => ?_)
  · intro E σ1 hk H locs ls ce q9 hP hD hS hl h1 h2 h3
    replace hk := hGX _ _ hk
    obtain ⟨rfl, hk⟩ := hk
    refine vx_catch (own := RL) (name := eIO) hC.1.2.2.2.1 [] ⟨0, 12, 15, 13⟩ [] htab (fun z hz => absurd hz List.not_mem_nil) (by decide) (by decide) (hC.1.2.2.2.2 _ (uT _ _ u1056)) (zN_use hC.2.2.2.2.1 (by decide +kernel : Cond.castable eIO eIO ∈ zNest)) h1 h2 h3 ?_
    refine (?_ : zL p l e _ s m args below meth c 1 6 _ 6 D _ 15 [(0, vR ad 0), (1, vI p0), (2, vI p1), (3, vI p2), (4, Value.ref od)] [Value.ref q9] (zW NX ad (celX ad dA σ1) ++ [(od, .inl (dA 7, 1, .inr (.inl (fun _ => o))))])) H locs ls hP hD hS hl
    refine zn_astore hC [(5, Value.ref q9), (0, vR ad 0), (1, vI p0), (2, vI p1), (3, vI p2), (4, Value.ref od)] dL_melt_15 (by decide) rfl ?_
    refine zn_iconst hC dL_melt_17 ?_
    refine zn_perm (List.perm_append_singleton _ _) ?_
    exact zn_hret hC hr rfl (σ1, o) ⟨1, rfl, hk⟩ ⟨Nat.le_refl _, Nat.le_refl _⟩ dL_melt_18
  replace hk := hGK _ _ hk
  refine zn_perm (List.perm_append_singleton _ _) ?_
  refine zn_i2l hC dL_melt_10 ?_
  refine zn_last hC dL_melt_11 ?_
  refine zn_goto (tgt := 19) hC dL_melt_12 (by decide) ?_
  refine zn_iconst hC dL_melt_19 ?_
  exact zn_hret hC hr rfl (σ1, _) ⟨0, rfl, hk⟩ ⟨Nat.le_refl _, Nat.le_refl _⟩ dL_melt_20
theorem cH_warmestInterval (l : Launch) (hst : l.stackTraces = false) (D : va_G) (dA : Nat → ClassId) (aL aG aI : Nat) (aK aV : Nat → Nat) (ad : Nat → Nat) (od sz : Nat) (σ : zSt) (o : Int64) {G : Int → Int64 → zSt → Prop} {K : Int → zSt → Prop} {KX : String → zSt → Prop} {p0 : Int} (hf : fX11_warmestInterval K KX σ p0) (hGK : ∀ v σ', K v σ' → G 0 (Int32.ofInt v).toInt64 σ') (hGX : ∀ E σ', KX E σ' → (E = eIO ∧ G 1 o σ')) : vx_Met l yL_warmestInterval (Cond.codeWith yL_warmestInterval cL_warmestInterval 4 (some .int) [(0, 9, 12, 13)] :: UW) ({ frames := 8, cells := 1, slots := 6, locals := 127 } : Room) (va_Pc [vR ad 0, vI p0, .ref od] (zHP D dA (zXX aL aG aI aK aV) ad od sz σ o)) (va_Qi (zHG G) (zHB D dA ad od) (zHA ad od sz)) (zHX (zHA ad od sz)) 1 6 (zHA ad od sz) := by
  refine zH_enter (cc := cL_warmestInterval) (maxL := 4) (hh := [(0, 9, 12, 13)]) (by decide) rfl (Nat.le_of_ble_eq_true rfl) ?_
  intro p e s m args below meth c hC hno hr htab hnc
  refine zn_aload_n hC dL_warmestInterval_0 2 rfl rfl ?_
  refine zn_iconst hC dL_warmestInterval_1 ?_
  refine zn_aload_n hC dL_warmestInterval_2 0 rfl rfl ?_
  refine zn_iload_n hC dL_warmestInterval_3 1 rfl rfl ?_
  refine zn_perm (List.perm_append_singleton _ _).symm ?_
  refine zn_callT hC [vI p0] (fun hinj sz2 => mX11_warmestInterval l hinj hst sz2 hf) (cwV 1 hC.1.2.2.2.2 (uV (uT _) u1468 u1469 u1470 u105 u1471) rfl rfl rfl (by decide +kernel) ⟨Nat.le_of_ble_eq_true rfl, Nat.le_of_ble_eq_true rfl⟩) rfl rfl (Nat.le_of_ble_eq_true rfl) ⟨Nat.le_of_ble_eq_true rfl, Nat.le_of_ble_eq_true rfl⟩ dL_warmestInterval_4 ?_ (fun z σ1 hk => ?_)
  · intro E σ1 hk H locs ls ce q9 hP hD hS hl h1 h2 h3
    replace hk := hGX _ _ hk
    obtain ⟨rfl, hk⟩ := hk
    refine vx_catch (own := RL) (name := eIO) hC.1.2.2.2.1 [] ⟨0, 9, 12, 13⟩ [] htab (fun z hz => absurd hz List.not_mem_nil) (by decide) (by decide) (hC.1.2.2.2.2 _ (uT _ _ u1056)) (zN_use hC.2.2.2.2.1 (by decide +kernel : Cond.castable eIO eIO ∈ zNest)) h1 h2 h3 ?_
    refine (?_ : zL p l e _ s m args below meth c 1 6 _ 4 D _ 12 [(0, vR ad 0), (1, vI p0), (2, Value.ref od)] [Value.ref q9] (zW NX ad (celX ad dA σ1) ++ [(od, .inl (dA 7, 1, .inr (.inl (fun _ => o))))])) H locs ls hP hD hS hl
    refine zn_astore_n hC [(3, Value.ref q9), (0, vR ad 0), (1, vI p0), (2, Value.ref od)] dL_warmestInterval_12 rfl (by decide) rfl ?_
    refine zn_iconst hC dL_warmestInterval_13 ?_
    refine zn_perm (List.perm_append_singleton _ _) ?_
    exact zn_hret hC hr rfl (σ1, o) ⟨1, rfl, hk⟩ ⟨Nat.le_refl _, Nat.le_refl _⟩ dL_warmestInterval_14
  replace hk := hGK _ _ hk
  refine zn_perm (List.perm_append_singleton _ _) ?_
  refine zn_i2l hC dL_warmestInterval_7 ?_
  refine zn_last hC dL_warmestInterval_8 ?_
  refine zn_goto (tgt := 15) hC dL_warmestInterval_9 (by decide) ?_
  refine zn_iconst hC dL_warmestInterval_15 ?_
  exact zn_hret hC hr rfl (σ1, _) ⟨0, rfl, hk⟩ ⟨Nat.le_refl _, Nat.le_refl _⟩ dL_warmestInterval_16
theorem cH_registered (l : Launch) (hst : l.stackTraces = false) (D : va_G) (dA : Nat → ClassId) (aL aG aI : Nat) (aK aV : Nat → Nat) (ad : Nat → Nat) (od sz : Nat) (σ : zSt) (o : Int64) {G : Int → Int64 → zSt → Prop} {K : Int → zSt → Prop} {KX : String → zSt → Prop} {p0 p1 p2 : Int} (hf : fX11_registered K KX σ p0 p1 p2) (hGK : ∀ v σ', K v σ' → G 0 (Int32.ofInt v).toInt64 σ') (hGX : ∀ E σ', KX E σ' → (E = eIO ∧ G 1 o σ')) : vx_Met l yL_registered (Cond.codeWith yL_registered cL_registered 6 (some .int) [(0, 12, 15, 13)] :: UW) ({ frames := 8, cells := 2, slots := 12, locals := 155 } : Room) (va_Pc [vR ad 0, vI p0, vI p1, vI p2, .ref od] (zHP D dA (zXX aL aG aI aK aV) ad od sz σ o)) (va_Qi (zHG G) (zHB D dA ad od) (zHA ad od sz)) (zHX (zHA ad od sz)) 2 12 (zHA ad od sz) := by
  refine zH_enter (cc := cL_registered) (maxL := 6) (hh := [(0, 12, 15, 13)]) (by decide) rfl (Nat.le_of_ble_eq_true rfl) ?_
  intro p e s m args below meth c hC hno hr htab hnc
  refine zn_aload hC dL_registered_0 4 rfl ?_
  refine zn_iconst hC dL_registered_2 ?_
  refine zn_aload_n hC dL_registered_3 0 rfl rfl ?_
  refine zn_iload_n hC dL_registered_4 1 rfl rfl ?_
  refine zn_iload_n hC dL_registered_5 2 rfl rfl ?_
  refine zn_iload_n hC dL_registered_6 3 rfl rfl ?_
  refine zn_perm (List.perm_append_singleton _ _).symm ?_
  refine zn_callT hC [vI p0, vI p1, vI p2] (fun hinj sz2 => mX11_registered l hinj hst sz2 hf) (cwV 3 hC.1.2.2.2.2 (uV (uT _) u1479 u1480 u1481 u105 u1482) rfl rfl rfl (by decide +kernel) ⟨Nat.le_of_ble_eq_true rfl, Nat.le_of_ble_eq_true rfl⟩) rfl rfl (Nat.le_of_ble_eq_true rfl) ⟨Nat.le_of_ble_eq_true rfl, Nat.le_of_ble_eq_true rfl⟩ dL_registered_7 ?_ (fun z σ1 hk => ?_)
  · intro E σ1 hk H locs ls ce q9 hP hD hS hl h1 h2 h3
    replace hk := hGX _ _ hk
    obtain ⟨rfl, hk⟩ := hk
    refine vx_catch (own := RL) (name := eIO) hC.1.2.2.2.1 [] ⟨0, 12, 15, 13⟩ [] htab (fun z hz => absurd hz List.not_mem_nil) (by decide) (by decide) (hC.1.2.2.2.2 _ (uT _ _ u1056)) (zN_use hC.2.2.2.2.1 (by decide +kernel : Cond.castable eIO eIO ∈ zNest)) h1 h2 h3 ?_
    refine (?_ : zL p l e _ s m args below meth c 2 12 _ 6 D _ 15 [(0, vR ad 0), (1, vI p0), (2, vI p1), (3, vI p2), (4, Value.ref od)] [Value.ref q9] (zW NX ad (celX ad dA σ1) ++ [(od, .inl (dA 7, 1, .inr (.inl (fun _ => o))))])) H locs ls hP hD hS hl
    refine zn_astore hC [(5, Value.ref q9), (0, vR ad 0), (1, vI p0), (2, vI p1), (3, vI p2), (4, Value.ref od)] dL_registered_15 (by decide) rfl ?_
    refine zn_iconst hC dL_registered_17 ?_
    refine zn_perm (List.perm_append_singleton _ _) ?_
    exact zn_hret hC hr rfl (σ1, o) ⟨1, rfl, hk⟩ ⟨Nat.le_refl _, Nat.le_refl _⟩ dL_registered_18
  replace hk := hGK _ _ hk
  refine zn_perm (List.perm_append_singleton _ _) ?_
  refine zn_i2l hC dL_registered_10 ?_
  refine zn_last hC dL_registered_11 ?_
  refine zn_goto (tgt := 19) hC dL_registered_12 (by decide) ?_
  refine zn_iconst hC dL_registered_19 ?_
  exact zn_hret hC hr rfl (σ1, _) ⟨0, rfl, hk⟩ ⟨Nat.le_refl _, Nat.le_refl _⟩ dL_registered_20
theorem cH_changedPixels (l : Launch) (hst : l.stackTraces = false) (D : va_G) (dA : Nat → ClassId) (aL aG aI : Nat) (aK aV : Nat → Nat) (ad : Nat → Nat) (od sz : Nat) (σ : zSt) (o : Int64) {G : Int → Int64 → zSt → Prop} {K : Int → zSt → Prop} {KX : String → zSt → Prop} {p0 p1 p2 : Int} (hf : fX11_changedPixels K KX σ p0 p1 p2) (hGK : ∀ v σ', K v σ' → G 0 (Int32.ofInt v).toInt64 σ') (hGX : ∀ E σ', KX E σ' → (E = eIO ∧ G 1 o σ')) : vx_Met l yL_changedPixels (Cond.codeWith yL_changedPixels cL_changedPixels 6 (some .int) [(0, 12, 15, 13)] :: UW) ({ frames := 8, cells := 2, slots := 12, locals := 161 } : Room) (va_Pc [vR ad 0, vI p0, vI p1, vI p2, .ref od] (zHP D dA (zXX aL aG aI aK aV) ad od sz σ o)) (va_Qi (zHG G) (zHB D dA ad od) (zHA ad od sz)) (zHX (zHA ad od sz)) 2 12 (zHA ad od sz) := by
  refine zH_enter (cc := cL_changedPixels) (maxL := 6) (hh := [(0, 12, 15, 13)]) (by decide) rfl (Nat.le_of_ble_eq_true rfl) ?_
  intro p e s m args below meth c hC hno hr htab hnc
  refine zn_aload hC dL_changedPixels_0 4 rfl ?_
  refine zn_iconst hC dL_changedPixels_2 ?_
  refine zn_aload_n hC dL_changedPixels_3 0 rfl rfl ?_
  refine zn_iload_n hC dL_changedPixels_4 1 rfl rfl ?_
  refine zn_iload_n hC dL_changedPixels_5 2 rfl rfl ?_
  refine zn_iload_n hC dL_changedPixels_6 3 rfl rfl ?_
  refine zn_perm (List.perm_append_singleton _ _).symm ?_
  refine zn_callT hC [vI p0, vI p1, vI p2] (fun hinj sz2 => mX11_changedPixels l hinj hst sz2 hf) (cwV 3 hC.1.2.2.2.2 (uV (uT _) u1490 u1491 u1492 u105 u1493) rfl rfl rfl (by decide +kernel) ⟨Nat.le_of_ble_eq_true rfl, Nat.le_of_ble_eq_true rfl⟩) rfl rfl (Nat.le_of_ble_eq_true rfl) ⟨Nat.le_of_ble_eq_true rfl, Nat.le_of_ble_eq_true rfl⟩ dL_changedPixels_7 ?_ (fun z σ1 hk => ?_)
  · intro E σ1 hk H locs ls ce q9 hP hD hS hl h1 h2 h3
    replace hk := hGX _ _ hk
    obtain ⟨rfl, hk⟩ := hk
    refine vx_catch (own := RL) (name := eIO) hC.1.2.2.2.1 [] ⟨0, 12, 15, 13⟩ [] htab (fun z hz => absurd hz List.not_mem_nil) (by decide) (by decide) (hC.1.2.2.2.2 _ (uT _ _ u1056)) (zN_use hC.2.2.2.2.1 (by decide +kernel : Cond.castable eIO eIO ∈ zNest)) h1 h2 h3 ?_
    refine (?_ : zL p l e _ s m args below meth c 2 12 _ 6 D _ 15 [(0, vR ad 0), (1, vI p0), (2, vI p1), (3, vI p2), (4, Value.ref od)] [Value.ref q9] (zW NX ad (celX ad dA σ1) ++ [(od, .inl (dA 7, 1, .inr (.inl (fun _ => o))))])) H locs ls hP hD hS hl
    refine zn_astore hC [(5, Value.ref q9), (0, vR ad 0), (1, vI p0), (2, vI p1), (3, vI p2), (4, Value.ref od)] dL_changedPixels_15 (by decide) rfl ?_
    refine zn_iconst hC dL_changedPixels_17 ?_
    refine zn_perm (List.perm_append_singleton _ _) ?_
    exact zn_hret hC hr rfl (σ1, o) ⟨1, rfl, hk⟩ ⟨Nat.le_refl _, Nat.le_refl _⟩ dL_changedPixels_18
  replace hk := hGK _ _ hk
  refine zn_perm (List.perm_append_singleton _ _) ?_
  refine zn_i2l hC dL_changedPixels_10 ?_
  refine zn_last hC dL_changedPixels_11 ?_
  refine zn_goto (tgt := 19) hC dL_changedPixels_12 (by decide) ?_
  refine zn_iconst hC dL_changedPixels_19 ?_
  exact zn_hret hC hr rfl (σ1, _) ⟨0, rfl, hk⟩ ⟨Nat.le_refl _, Nat.le_refl _⟩ dL_changedPixels_20
theorem cH_snowLine (l : Launch) (hst : l.stackTraces = false) (D : va_G) (dA : Nat → ClassId) (aL aG aI : Nat) (aK aV : Nat → Nat) (ad : Nat → Nat) (od sz : Nat) (σ : zSt) (o : Int64) {G : Int → Int64 → zSt → Prop} {K : Int → zSt → Prop} {KX : String → zSt → Prop} {p0 p1 : Int} (hf : fX11_snowLine K KX σ p0 p1) (hGK : ∀ v σ', K v σ' → G 0 (Int32.ofInt v).toInt64 σ') (hGX : ∀ E σ', KX E σ' → (E = eIO ∧ G 1 o σ')) : vx_Met l yL_snowLine (Cond.codeWith yL_snowLine cL_snowLine 5 (some .int) [(0, 10, 13, 13)] :: UW) ({ frames := 8, cells := 1, slots := 6, locals := 128 } : Room) (va_Pc [vR ad 0, vI p0, vI p1, .ref od] (zHP D dA (zXX aL aG aI aK aV) ad od sz σ o)) (va_Qi (zHG G) (zHB D dA ad od) (zHA ad od sz)) (zHX (zHA ad od sz)) 1 6 (zHA ad od sz) := by
  refine zH_enter (cc := cL_snowLine) (maxL := 5) (hh := [(0, 10, 13, 13)]) (by decide) rfl (Nat.le_of_ble_eq_true rfl) ?_
  intro p e s m args below meth c hC hno hr htab hnc
  refine zn_aload_n hC dL_snowLine_0 3 rfl rfl ?_
  refine zn_iconst hC dL_snowLine_1 ?_
  refine zn_aload_n hC dL_snowLine_2 0 rfl rfl ?_
  refine zn_iload_n hC dL_snowLine_3 1 rfl rfl ?_
  refine zn_iload_n hC dL_snowLine_4 2 rfl rfl ?_
  refine zn_perm (List.perm_append_singleton _ _).symm ?_
  refine zn_callT hC [vI p0, vI p1] (fun hinj sz2 => mX11_snowLine l hinj hst sz2 hf) (cwV 2 hC.1.2.2.2.2 (uV (uT _) u1497 u1498 u1499 u105 u1500) rfl rfl rfl (by decide +kernel) ⟨Nat.le_of_ble_eq_true rfl, Nat.le_of_ble_eq_true rfl⟩) rfl rfl (Nat.le_of_ble_eq_true rfl) ⟨Nat.le_of_ble_eq_true rfl, Nat.le_of_ble_eq_true rfl⟩ dL_snowLine_5 ?_ (fun z σ1 hk => ?_)
  · intro E σ1 hk H locs ls ce q9 hP hD hS hl h1 h2 h3
    replace hk := hGX _ _ hk
    obtain ⟨rfl, hk⟩ := hk
    refine vx_catch (own := RL) (name := eIO) hC.1.2.2.2.1 [] ⟨0, 10, 13, 13⟩ [] htab (fun z hz => absurd hz List.not_mem_nil) (by decide) (by decide) (hC.1.2.2.2.2 _ (uT _ _ u1056)) (zN_use hC.2.2.2.2.1 (by decide +kernel : Cond.castable eIO eIO ∈ zNest)) h1 h2 h3 ?_
    refine (?_ : zL p l e _ s m args below meth c 1 6 _ 5 D _ 13 [(0, vR ad 0), (1, vI p0), (2, vI p1), (3, Value.ref od)] [Value.ref q9] (zW NX ad (celX ad dA σ1) ++ [(od, .inl (dA 7, 1, .inr (.inl (fun _ => o))))])) H locs ls hP hD hS hl
    refine zn_astore hC [(4, Value.ref q9), (0, vR ad 0), (1, vI p0), (2, vI p1), (3, Value.ref od)] dL_snowLine_13 (by decide) rfl ?_
    refine zn_iconst hC dL_snowLine_15 ?_
    refine zn_perm (List.perm_append_singleton _ _) ?_
    exact zn_hret hC hr rfl (σ1, o) ⟨1, rfl, hk⟩ ⟨Nat.le_refl _, Nat.le_refl _⟩ dL_snowLine_16
  replace hk := hGK _ _ hk
  refine zn_perm (List.perm_append_singleton _ _) ?_
  refine zn_i2l hC dL_snowLine_8 ?_
  refine zn_last hC dL_snowLine_9 ?_
  refine zn_goto (tgt := 17) hC dL_snowLine_10 (by decide) ?_
  refine zn_iconst hC dL_snowLine_17 ?_
  exact zn_hret hC hr rfl (σ1, _) ⟨0, rfl, hk⟩ ⟨Nat.le_refl _, Nat.le_refl _⟩ dL_snowLine_18
theorem cH_strain (l : Launch) (hst : l.stackTraces = false) (D : va_G) (dA : Nat → ClassId) (aL aG aI : Nat) (aK aV : Nat → Nat) (ad : Nat → Nat) (od sz : Nat) (σ : zSt) (o : Int64) {G : Int → Int64 → zSt → Prop} {K : Int → zSt → Prop} {KX : String → zSt → Prop} {p0 p1 : Int} (hf : fX11_strain K KX σ p0 p1) (hGK : ∀ v σ', K v σ' → G 0 (Int32.ofInt v).toInt64 σ') (hGX : ∀ E σ', KX E σ' → (E = eIO ∧ G 1 o σ')) : vx_Met l yL_strain (Cond.codeWith yL_strain cL_strain 5 (some .int) [(0, 10, 13, 13)] :: UW) ({ frames := 8, cells := 2, slots := 12, locals := 198 } : Room) (va_Pc [vR ad 0, vI p0, vI p1, .ref od] (zHP D dA (zXX aL aG aI aK aV) ad od sz σ o)) (va_Qi (zHG G) (zHB D dA ad od) (zHA ad od sz)) (zHX (zHA ad od sz)) 2 12 (zHA ad od sz) := by
  refine zH_enter (cc := cL_strain) (maxL := 5) (hh := [(0, 10, 13, 13)]) (by decide) rfl (Nat.le_of_ble_eq_true rfl) ?_
  intro p e s m args below meth c hC hno hr htab hnc
  refine zn_aload_n hC dL_strain_0 3 rfl rfl ?_
  refine zn_iconst hC dL_strain_1 ?_
  refine zn_aload_n hC dL_strain_2 0 rfl rfl ?_
  refine zn_iload_n hC dL_strain_3 1 rfl rfl ?_
  refine zn_iload_n hC dL_strain_4 2 rfl rfl ?_
  refine zn_perm (List.perm_append_singleton _ _).symm ?_
  refine zn_callT hC [vI p0, vI p1] (fun hinj sz2 => mX11_strain l hinj hst sz2 hf) (cwV 2 hC.1.2.2.2.2 (uV (uT _) u1504 u1505 u1506 u105 u1507) rfl rfl rfl (by decide +kernel) ⟨Nat.le_of_ble_eq_true rfl, Nat.le_of_ble_eq_true rfl⟩) rfl rfl (Nat.le_of_ble_eq_true rfl) ⟨Nat.le_of_ble_eq_true rfl, Nat.le_of_ble_eq_true rfl⟩ dL_strain_5 ?_ (fun z σ1 hk => ?_)
  · intro E σ1 hk H locs ls ce q9 hP hD hS hl h1 h2 h3
    replace hk := hGX _ _ hk
    obtain ⟨rfl, hk⟩ := hk
    refine vx_catch (own := RL) (name := eIO) hC.1.2.2.2.1 [] ⟨0, 10, 13, 13⟩ [] htab (fun z hz => absurd hz List.not_mem_nil) (by decide) (by decide) (hC.1.2.2.2.2 _ (uT _ _ u1056)) (zN_use hC.2.2.2.2.1 (by decide +kernel : Cond.castable eIO eIO ∈ zNest)) h1 h2 h3 ?_
    refine (?_ : zL p l e _ s m args below meth c 2 12 _ 5 D _ 13 [(0, vR ad 0), (1, vI p0), (2, vI p1), (3, Value.ref od)] [Value.ref q9] (zW NX ad (celX ad dA σ1) ++ [(od, .inl (dA 7, 1, .inr (.inl (fun _ => o))))])) H locs ls hP hD hS hl
    refine zn_astore hC [(4, Value.ref q9), (0, vR ad 0), (1, vI p0), (2, vI p1), (3, Value.ref od)] dL_strain_13 (by decide) rfl ?_
    refine zn_iconst hC dL_strain_15 ?_
    refine zn_perm (List.perm_append_singleton _ _) ?_
    exact zn_hret hC hr rfl (σ1, o) ⟨1, rfl, hk⟩ ⟨Nat.le_refl _, Nat.le_refl _⟩ dL_strain_16
  replace hk := hGK _ _ hk
  refine zn_perm (List.perm_append_singleton _ _) ?_
  refine zn_i2l hC dL_strain_8 ?_
  refine zn_last hC dL_strain_9 ?_
  refine zn_goto (tgt := 17) hC dL_strain_10 (by decide) ?_
  refine zn_iconst hC dL_strain_17 ?_
  exact zn_hret hC hr rfl (σ1, _) ⟨0, rfl, hk⟩ ⟨Nat.le_refl _, Nat.le_refl _⟩ dL_strain_18
theorem cH_direction (l : Launch) (hst : l.stackTraces = false) (D : va_G) (dA : Nat → ClassId) (aL aG aI : Nat) (aK aV : Nat → Nat) (ad : Nat → Nat) (od sz : Nat) (σ : zSt) (o : Int64) {G : Int → Int64 → zSt → Prop} {K : Int → zSt → Prop} {KX : String → zSt → Prop} {p0 : Int} (hf : fX11_direction K KX σ p0) (hGK : ∀ v σ', K v σ' → G 0 (Int32.ofInt v).toInt64 σ') (hGX : ∀ E σ', KX E σ' → (E = eIO ∧ G 1 o σ')) : vx_Met l yL_direction (Cond.codeWith yL_direction cL_direction 4 (some .int) [(0, 9, 12, 13)] :: UW) ({ frames := 8, cells := 1, slots := 6, locals := 194 } : Room) (va_Pc [vR ad 0, vI p0, .ref od] (zHP D dA (zXX aL aG aI aK aV) ad od sz σ o)) (va_Qi (zHG G) (zHB D dA ad od) (zHA ad od sz)) (zHX (zHA ad od sz)) 1 6 (zHA ad od sz) := by
  refine zH_enter (cc := cL_direction) (maxL := 4) (hh := [(0, 9, 12, 13)]) (by decide) rfl (Nat.le_of_ble_eq_true rfl) ?_
  intro p e s m args below meth c hC hno hr htab hnc
  refine zn_aload_n hC dL_direction_0 2 rfl rfl ?_
  refine zn_iconst hC dL_direction_1 ?_
  refine zn_aload_n hC dL_direction_2 0 rfl rfl ?_
  refine zn_iload_n hC dL_direction_3 1 rfl rfl ?_
  refine zn_perm (List.perm_append_singleton _ _).symm ?_
  refine zn_callT hC [vI p0] (fun hinj sz2 => mX11_direction l hinj hst sz2 hf) (cwV 1 hC.1.2.2.2.2 (uV (uT _) u1521 u1522 u1523 u105 u1524) rfl rfl rfl (by decide +kernel) ⟨Nat.le_of_ble_eq_true rfl, Nat.le_of_ble_eq_true rfl⟩) rfl rfl (Nat.le_of_ble_eq_true rfl) ⟨Nat.le_of_ble_eq_true rfl, Nat.le_of_ble_eq_true rfl⟩ dL_direction_4 ?_ (fun z σ1 hk => ?_)
  · intro E σ1 hk H locs ls ce q9 hP hD hS hl h1 h2 h3
    replace hk := hGX _ _ hk
    obtain ⟨rfl, hk⟩ := hk
    refine vx_catch (own := RL) (name := eIO) hC.1.2.2.2.1 [] ⟨0, 9, 12, 13⟩ [] htab (fun z hz => absurd hz List.not_mem_nil) (by decide) (by decide) (hC.1.2.2.2.2 _ (uT _ _ u1056)) (zN_use hC.2.2.2.2.1 (by decide +kernel : Cond.castable eIO eIO ∈ zNest)) h1 h2 h3 ?_
    refine (?_ : zL p l e _ s m args below meth c 1 6 _ 4 D _ 12 [(0, vR ad 0), (1, vI p0), (2, Value.ref od)] [Value.ref q9] (zW NX ad (celX ad dA σ1) ++ [(od, .inl (dA 7, 1, .inr (.inl (fun _ => o))))])) H locs ls hP hD hS hl
    refine zn_astore_n hC [(3, Value.ref q9), (0, vR ad 0), (1, vI p0), (2, Value.ref od)] dL_direction_12 rfl (by decide) rfl ?_
    refine zn_iconst hC dL_direction_13 ?_
    refine zn_perm (List.perm_append_singleton _ _) ?_
    exact zn_hret hC hr rfl (σ1, o) ⟨1, rfl, hk⟩ ⟨Nat.le_refl _, Nat.le_refl _⟩ dL_direction_14
  replace hk := hGK _ _ hk
  refine zn_perm (List.perm_append_singleton _ _) ?_
  refine zn_i2l hC dL_direction_7 ?_
  refine zn_last hC dL_direction_8 ?_
  refine zn_goto (tgt := 15) hC dL_direction_9 (by decide) ?_
  refine zn_iconst hC dL_direction_15 ?_
  exact zn_hret hC hr rfl (σ1, _) ⟨0, rfl, hk⟩ ⟨Nat.le_refl _, Nat.le_refl _⟩ dL_direction_16
theorem cH_meltInSegment (l : Launch) (hst : l.stackTraces = false) (D : va_G) (dA : Nat → ClassId) (aL aG aI : Nat) (aK aV : Nat → Nat) (ad : Nat → Nat) (od sz : Nat) (σ : zSt) (o : Int64) {G : Int → Int64 → zSt → Prop} {K : Int → zSt → Prop} {KX : String → zSt → Prop} {p0 p1 : Int} (hf : fX11_meltInSegment K KX σ p0 p1) (hGK : ∀ v σ', K v σ' → G 0 (Int32.ofInt v).toInt64 σ') (hGX : ∀ E σ', KX E σ' → (E = eIO ∧ G 1 o σ')) : vx_Met l yL_meltInSegment (Cond.codeWith yL_meltInSegment cL_meltInSegment 5 (some .int) [(0, 10, 13, 13)] :: UW) ({ frames := 8, cells := 2, slots := 12, locals := 193 } : Room) (va_Pc [vR ad 0, vI p0, vI p1, .ref od] (zHP D dA (zXX aL aG aI aK aV) ad od sz σ o)) (va_Qi (zHG G) (zHB D dA ad od) (zHA ad od sz)) (zHX (zHA ad od sz)) 2 12 (zHA ad od sz) := by
  refine zH_enter (cc := cL_meltInSegment) (maxL := 5) (hh := [(0, 10, 13, 13)]) (by decide) rfl (Nat.le_of_ble_eq_true rfl) ?_
  intro p e s m args below meth c hC hno hr htab hnc
  refine zn_aload_n hC dL_meltInSegment_0 3 rfl rfl ?_
  refine zn_iconst hC dL_meltInSegment_1 ?_
  refine zn_aload_n hC dL_meltInSegment_2 0 rfl rfl ?_
  refine zn_iload_n hC dL_meltInSegment_3 1 rfl rfl ?_
  refine zn_iload_n hC dL_meltInSegment_4 2 rfl rfl ?_
  refine zn_perm (List.perm_append_singleton _ _).symm ?_
  refine zn_callT hC [vI p0, vI p1] (fun hinj sz2 => mX11_meltInSegment l hinj hst sz2 hf) (cwV 2 hC.1.2.2.2.2 (uV (uT _) u1532 u1533 u1534 u105 u1535) rfl rfl rfl (by decide +kernel) ⟨Nat.le_of_ble_eq_true rfl, Nat.le_of_ble_eq_true rfl⟩) rfl rfl (Nat.le_of_ble_eq_true rfl) ⟨Nat.le_of_ble_eq_true rfl, Nat.le_of_ble_eq_true rfl⟩ dL_meltInSegment_5 ?_ (fun z σ1 hk => ?_)
  · intro E σ1 hk H locs ls ce q9 hP hD hS hl h1 h2 h3
    replace hk := hGX _ _ hk
    obtain ⟨rfl, hk⟩ := hk
    refine vx_catch (own := RL) (name := eIO) hC.1.2.2.2.1 [] ⟨0, 10, 13, 13⟩ [] htab (fun z hz => absurd hz List.not_mem_nil) (by decide) (by decide) (hC.1.2.2.2.2 _ (uT _ _ u1056)) (zN_use hC.2.2.2.2.1 (by decide +kernel : Cond.castable eIO eIO ∈ zNest)) h1 h2 h3 ?_
    refine (?_ : zL p l e _ s m args below meth c 2 12 _ 5 D _ 13 [(0, vR ad 0), (1, vI p0), (2, vI p1), (3, Value.ref od)] [Value.ref q9] (zW NX ad (celX ad dA σ1) ++ [(od, .inl (dA 7, 1, .inr (.inl (fun _ => o))))])) H locs ls hP hD hS hl
    refine zn_astore hC [(4, Value.ref q9), (0, vR ad 0), (1, vI p0), (2, vI p1), (3, Value.ref od)] dL_meltInSegment_13 (by decide) rfl ?_
    refine zn_iconst hC dL_meltInSegment_15 ?_
    refine zn_perm (List.perm_append_singleton _ _) ?_
    exact zn_hret hC hr rfl (σ1, o) ⟨1, rfl, hk⟩ ⟨Nat.le_refl _, Nat.le_refl _⟩ dL_meltInSegment_16
  replace hk := hGK _ _ hk
  refine zn_perm (List.perm_append_singleton _ _) ?_
  refine zn_i2l hC dL_meltInSegment_8 ?_
  refine zn_last hC dL_meltInSegment_9 ?_
  refine zn_goto (tgt := 17) hC dL_meltInSegment_10 (by decide) ?_
  refine zn_iconst hC dL_meltInSegment_17 ?_
  exact zn_hret hC hr rfl (σ1, _) ⟨0, rfl, hk⟩ ⟨Nat.le_refl _, Nat.le_refl _⟩ dL_meltInSegment_18
