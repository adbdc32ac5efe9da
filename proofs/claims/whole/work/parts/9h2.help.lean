/-! the helpers of the law: contracts -/
theorem cH_meanSpeedWithScale (l : Launch) (hst : l.stackTraces = false) (D : va_G) (dA : Nat → ClassId) (aL aG aI : Nat) (aK aV : Nat → Nat) (ad : Nat → Nat) (od sz : Nat) (σ : zSt) (o : Int64) {G : Int → Int64 → zSt → Prop} {K : Int → zSt → Prop} {KX : String → zSt → Prop} {p0 p1 : Int} (hf : fX11_meanSpeedWithScale K KX σ p0 p1) (hGK : ∀ v σ', K v σ' → G 0 (Int32.ofInt v).toInt64 σ') (hGX : ∀ E σ', KX E σ' → (E = eIO ∧ G 1 o σ')) : vx_Met l yL_meanSpeedWithScale (Cond.codeWith yL_meanSpeedWithScale cL_meanSpeedWithScale 5 (some .int) [(0, 10, 13, 13)] :: UW) ({ frames := 8, cells := 1, slots := 6, locals := 192 } : Room) (va_Pc [vR ad 0, vI p0, vI p1, .ref od] (zHP D dA (zXX aL aG aI aK aV) ad od sz σ o)) (va_Qi (zHG G) (zHB D dA ad od) (zHA ad od sz)) (zHX (zHA ad od sz)) 1 6 (zHA ad od sz) := by
  refine zH_enter (cc := cL_meanSpeedWithScale) (maxL := 5) (hh := [(0, 10, 13, 13)]) (by decide) rfl (Nat.le_of_ble_eq_true rfl) ?_
  intro p e s m args below meth c hC hno hr htab hnc
  refine zn_aload_n hC dL_meanSpeedWithScale_0 3 rfl rfl ?_
  refine zn_iconst hC dL_meanSpeedWithScale_1 ?_
  refine zn_aload_n hC dL_meanSpeedWithScale_2 0 rfl rfl ?_
  refine zn_iload_n hC dL_meanSpeedWithScale_3 1 rfl rfl ?_
  refine zn_iload_n hC dL_meanSpeedWithScale_4 2 rfl rfl ?_
  refine zn_perm (List.perm_append_singleton _ _).symm ?_
  refine zn_callT hC [vI p0, vI p1] (fun hinj sz2 => mX11_meanSpeedWithScale l hinj hst sz2 hf) (cwV 2 hC.1.2.2.2.2 (uV (uT _) u1339 u1340 u1341 u105 u1342) rfl rfl rfl (by decide +kernel) ⟨Nat.le_of_ble_eq_true rfl, Nat.le_of_ble_eq_true rfl⟩) rfl rfl (Nat.le_of_ble_eq_true rfl) ⟨Nat.le_of_ble_eq_true rfl, Nat.le_of_ble_eq_true rfl⟩ dL_meanSpeedWithScale_5 ?_ (fun z σ1 hk => ?_)
  · intro E σ1 hk H locs ls ce q9 hP hD hS hl h1 h2 h3
    replace hk := hGX _ _ hk
    obtain ⟨rfl, hk⟩ := hk
    refine vx_catch (own := RL) (name := eIO) hC.1.2.2.2.1 [] ⟨0, 10, 13, 13⟩ [] htab (fun z hz => absurd hz List.not_mem_nil) (by decide) (by decide) (hC.1.2.2.2.2 _ (uT _ _ u1056)) (zN_use hC.2.2.2.2.1 (by decide +kernel : Cond.castable eIO eIO ∈ zNest)) h1 h2 h3 ?_
    refine (?_ : zL p l e _ s m args below meth c 1 6 _ 5 D _ 13 [(0, vR ad 0), (1, vI p0), (2, vI p1), (3, Value.ref od)] [Value.ref q9] (zW NX ad (celX ad dA σ1) ++ [(od, .inl (dA 7, 1, .inr (.inl (fun _ => o))))])) H locs ls hP hD hS hl
    refine zn_astore hC [(4, Value.ref q9), (0, vR ad 0), (1, vI p0), (2, vI p1), (3, Value.ref od)] dL_meanSpeedWithScale_13 (by decide) rfl ?_
    refine zn_iconst hC dL_meanSpeedWithScale_15 ?_
    refine zn_perm (List.perm_append_singleton _ _) ?_
    exact zn_hret hC hr rfl (σ1, o) ⟨1, rfl, hk⟩ ⟨Nat.le_refl _, Nat.le_refl _⟩ dL_meanSpeedWithScale_16
  replace hk := hGK _ _ hk
  refine zn_perm (List.perm_append_singleton _ _) ?_
  refine zn_i2l hC dL_meanSpeedWithScale_8 ?_
  refine zn_last hC dL_meanSpeedWithScale_9 ?_
  refine zn_goto (tgt := 17) hC dL_meanSpeedWithScale_10 (by decide) ?_
  refine zn_iconst hC dL_meanSpeedWithScale_17 ?_
  exact zn_hret hC hr rfl (σ1, _) ⟨0, rfl, hk⟩ ⟨Nat.le_refl _, Nat.le_refl _⟩ dL_meanSpeedWithScale_18
theorem cH_surgeCount (l : Launch) (hst : l.stackTraces = false) (D : va_G) (dA : Nat → ClassId) (aL aG aI : Nat) (aK aV : Nat → Nat) (ad : Nat → Nat) (od sz : Nat) (σ : zSt) (o : Int64) {G : Int → Int64 → zSt → Prop} {K : Int → zSt → Prop} {KX : String → zSt → Prop} {p0 : Int} (hf : fX11_surgeCount K KX σ p0) (hGK : ∀ v σ', K v σ' → G 0 (Int32.ofInt v).toInt64 σ') (hGX : ∀ E σ', KX E σ' → (E = eIO ∧ G 1 o σ')) : vx_Met l yL_surgeCount (Cond.codeWith yL_surgeCount cL_surgeCount 4 (some .int) [(0, 9, 12, 13)] :: UW) ({ frames := 8, cells := 1, slots := 6, locals := 191 } : Room) (va_Pc [vR ad 0, vI p0, .ref od] (zHP D dA (zXX aL aG aI aK aV) ad od sz σ o)) (va_Qi (zHG G) (zHB D dA ad od) (zHA ad od sz)) (zHX (zHA ad od sz)) 1 6 (zHA ad od sz) := by
  refine zH_enter (cc := cL_surgeCount) (maxL := 4) (hh := [(0, 9, 12, 13)]) (by decide) rfl (Nat.le_of_ble_eq_true rfl) ?_
  intro p e s m args below meth c hC hno hr htab hnc
  refine zn_aload_n hC dL_surgeCount_0 2 rfl rfl ?_
  refine zn_iconst hC dL_surgeCount_1 ?_
  refine zn_aload_n hC dL_surgeCount_2 0 rfl rfl ?_
  refine zn_iload_n hC dL_surgeCount_3 1 rfl rfl ?_
  refine zn_perm (List.perm_append_singleton _ _).symm ?_
  refine zn_callT hC [vI p0] (fun hinj sz2 => mX11_surgeCount l hinj hst sz2 hf) (cwV 1 hC.1.2.2.2.2 (uV (uT _) u1346 u1347 u1348 u105 u1349) rfl rfl rfl (by decide +kernel) ⟨Nat.le_of_ble_eq_true rfl, Nat.le_of_ble_eq_true rfl⟩) rfl rfl (Nat.le_of_ble_eq_true rfl) ⟨Nat.le_of_ble_eq_true rfl, Nat.le_of_ble_eq_true rfl⟩ dL_surgeCount_4 ?_ (fun z σ1 hk => ?_)
  · intro E σ1 hk H locs ls ce q9 hP hD hS hl h1 h2 h3
    replace hk := hGX _ _ hk
    obtain ⟨rfl, hk⟩ := hk
    refine vx_catch (own := RL) (name := eIO) hC.1.2.2.2.1 [] ⟨0, 9, 12, 13⟩ [] htab (fun z hz => absurd hz List.not_mem_nil) (by decide) (by decide) (hC.1.2.2.2.2 _ (uT _ _ u1056)) (zN_use hC.2.2.2.2.1 (by decide +kernel : Cond.castable eIO eIO ∈ zNest)) h1 h2 h3 ?_
    refine (?_ : zL p l e _ s m args below meth c 1 6 _ 4 D _ 12 [(0, vR ad 0), (1, vI p0), (2, Value.ref od)] [Value.ref q9] (zW NX ad (celX ad dA σ1) ++ [(od, .inl (dA 7, 1, .inr (.inl (fun _ => o))))])) H locs ls hP hD hS hl
    refine zn_astore_n hC [(3, Value.ref q9), (0, vR ad 0), (1, vI p0), (2, Value.ref od)] dL_surgeCount_12 rfl (by decide) rfl ?_
    refine zn_iconst hC dL_surgeCount_13 ?_
    refine zn_perm (List.perm_append_singleton _ _) ?_
    exact zn_hret hC hr rfl (σ1, o) ⟨1, rfl, hk⟩ ⟨Nat.le_refl _, Nat.le_refl _⟩ dL_surgeCount_14
  replace hk := hGK _ _ hk
  refine zn_perm (List.perm_append_singleton _ _) ?_
  refine zn_i2l hC dL_surgeCount_7 ?_
  refine zn_last hC dL_surgeCount_8 ?_
  refine zn_goto (tgt := 15) hC dL_surgeCount_9 (by decide) ?_
  refine zn_iconst hC dL_surgeCount_15 ?_
  exact zn_hret hC hr rfl (σ1, _) ⟨0, rfl, hk⟩ ⟨Nat.le_refl _, Nat.le_refl _⟩ dL_surgeCount_16
theorem cH_surgeStart (l : Launch) (hst : l.stackTraces = false) (D : va_G) (dA : Nat → ClassId) (aL aG aI : Nat) (aK aV : Nat → Nat) (ad : Nat → Nat) (od sz : Nat) (σ : zSt) (o : Int64) {G : Int → Int64 → zSt → Prop} {K : Int → zSt → Prop} {KX : String → zSt → Prop} {p0 p1 : Int} (hf : fX11_surgeStart K KX σ p0 p1) (hGK : ∀ v σ', K v σ' → G 0 (Int32.ofInt v).toInt64 σ') (hGX : ∀ E σ', KX E σ' → (E = eIO ∧ G 1 o σ')) : vx_Met l yL_surgeStart (Cond.codeWith yL_surgeStart cL_surgeStart 5 (some .int) [(0, 10, 13, 13)] :: UW) ({ frames := 8, cells := 1, slots := 6, locals := 194 } : Room) (va_Pc [vR ad 0, vI p0, vI p1, .ref od] (zHP D dA (zXX aL aG aI aK aV) ad od sz σ o)) (va_Qi (zHG G) (zHB D dA ad od) (zHA ad od sz)) (zHX (zHA ad od sz)) 1 6 (zHA ad od sz) := by
  refine zH_enter (cc := cL_surgeStart) (maxL := 5) (hh := [(0, 10, 13, 13)]) (by decide) rfl (Nat.le_of_ble_eq_true rfl) ?_
  intro p e s m args below meth c hC hno hr htab hnc
  refine zn_aload_n hC dL_surgeStart_0 3 rfl rfl ?_
  refine zn_iconst hC dL_surgeStart_1 ?_
  refine zn_aload_n hC dL_surgeStart_2 0 rfl rfl ?_
  refine zn_iload_n hC dL_surgeStart_3 1 rfl rfl ?_
  refine zn_iload_n hC dL_surgeStart_4 2 rfl rfl ?_
  refine zn_perm (List.perm_append_singleton _ _).symm ?_
  refine zn_callT hC [vI p0, vI p1] (fun hinj sz2 => mX11_surgeStart l hinj hst sz2 hf) (cwV 2 hC.1.2.2.2.2 (uV (uT _) u1366 u1367 u1368 u105 u1369) rfl rfl rfl (by decide +kernel) ⟨Nat.le_of_ble_eq_true rfl, Nat.le_of_ble_eq_true rfl⟩) rfl rfl (Nat.le_of_ble_eq_true rfl) ⟨Nat.le_of_ble_eq_true rfl, Nat.le_of_ble_eq_true rfl⟩ dL_surgeStart_5 ?_ (fun z σ1 hk => ?_)
  · intro E σ1 hk H locs ls ce q9 hP hD hS hl h1 h2 h3
    replace hk := hGX _ _ hk
    obtain ⟨rfl, hk⟩ := hk
    refine vx_catch (own := RL) (name := eIO) hC.1.2.2.2.1 [] ⟨0, 10, 13, 13⟩ [] htab (fun z hz => absurd hz List.not_mem_nil) (by decide) (by decide) (hC.1.2.2.2.2 _ (uT _ _ u1056)) (zN_use hC.2.2.2.2.1 (by decide +kernel : Cond.castable eIO eIO ∈ zNest)) h1 h2 h3 ?_
    refine (?_ : zL p l e _ s m args below meth c 1 6 _ 5 D _ 13 [(0, vR ad 0), (1, vI p0), (2, vI p1), (3, Value.ref od)] [Value.ref q9] (zW NX ad (celX ad dA σ1) ++ [(od, .inl (dA 7, 1, .inr (.inl (fun _ => o))))])) H locs ls hP hD hS hl
    refine zn_astore hC [(4, Value.ref q9), (0, vR ad 0), (1, vI p0), (2, vI p1), (3, Value.ref od)] dL_surgeStart_13 (by decide) rfl ?_
    refine zn_iconst hC dL_surgeStart_15 ?_
    refine zn_perm (List.perm_append_singleton _ _) ?_
    exact zn_hret hC hr rfl (σ1, o) ⟨1, rfl, hk⟩ ⟨Nat.le_refl _, Nat.le_refl _⟩ dL_surgeStart_16
  replace hk := hGK _ _ hk
  refine zn_perm (List.perm_append_singleton _ _) ?_
  refine zn_i2l hC dL_surgeStart_8 ?_
  refine zn_last hC dL_surgeStart_9 ?_
  refine zn_goto (tgt := 17) hC dL_surgeStart_10 (by decide) ?_
  refine zn_iconst hC dL_surgeStart_17 ?_
  exact zn_hret hC hr rfl (σ1, _) ⟨0, rfl, hk⟩ ⟨Nat.le_refl _, Nat.le_refl _⟩ dL_surgeStart_18
theorem cH_surgeDays (l : Launch) (hst : l.stackTraces = false) (D : va_G) (dA : Nat → ClassId) (aL aG aI : Nat) (aK aV : Nat → Nat) (ad : Nat → Nat) (od sz : Nat) (σ : zSt) (o : Int64) {G : Int → Int64 → zSt → Prop} {K : Int → zSt → Prop} {KX : String → zSt → Prop} {p0 p1 : Int} (hf : fX11_surgeDays K KX σ p0 p1) (hGK : ∀ v σ', K v σ' → G 0 (Int32.ofInt v).toInt64 σ') (hGX : ∀ E σ', KX E σ' → (E = eIO ∧ G 1 o σ')) : vx_Met l yL_surgeDays (Cond.codeWith yL_surgeDays cL_surgeDays 5 (some .int) [(0, 10, 13, 13)] :: UW) ({ frames := 8, cells := 1, slots := 6, locals := 195 } : Room) (va_Pc [vR ad 0, vI p0, vI p1, .ref od] (zHP D dA (zXX aL aG aI aK aV) ad od sz σ o)) (va_Qi (zHG G) (zHB D dA ad od) (zHA ad od sz)) (zHX (zHA ad od sz)) 1 6 (zHA ad od sz) := by
  refine zH_enter (cc := cL_surgeDays) (maxL := 5) (hh := [(0, 10, 13, 13)]) (by decide) rfl (Nat.le_of_ble_eq_true rfl) ?_
  intro p e s m args below meth c hC hno hr htab hnc
  refine zn_aload_n hC dL_surgeDays_0 3 rfl rfl ?_
  refine zn_iconst hC dL_surgeDays_1 ?_
  refine zn_aload_n hC dL_surgeDays_2 0 rfl rfl ?_
  refine zn_iload_n hC dL_surgeDays_3 1 rfl rfl ?_
  refine zn_iload_n hC dL_surgeDays_4 2 rfl rfl ?_
  refine zn_perm (List.perm_append_singleton _ _).symm ?_
  refine zn_callT hC [vI p0, vI p1] (fun hinj sz2 => mX11_surgeDays l hinj hst sz2 hf) (cwV 2 hC.1.2.2.2.2 (uV (uT _) u1378 u1379 u1380 u105 u1381) rfl rfl rfl (by decide +kernel) ⟨Nat.le_of_ble_eq_true rfl, Nat.le_of_ble_eq_true rfl⟩) rfl rfl (Nat.le_of_ble_eq_true rfl) ⟨Nat.le_of_ble_eq_true rfl, Nat.le_of_ble_eq_true rfl⟩ dL_surgeDays_5 ?_ (fun z σ1 hk => ?_)
  · intro E σ1 hk H locs ls ce q9 hP hD hS hl h1 h2 h3
    replace hk := hGX _ _ hk
    obtain ⟨rfl, hk⟩ := hk
    refine vx_catch (own := RL) (name := eIO) hC.1.2.2.2.1 [] ⟨0, 10, 13, 13⟩ [] htab (fun z hz => absurd hz List.not_mem_nil) (by decide) (by decide) (hC.1.2.2.2.2 _ (uT _ _ u1056)) (zN_use hC.2.2.2.2.1 (by decide +kernel : Cond.castable eIO eIO ∈ zNest)) h1 h2 h3 ?_
    refine (?_ : zL p l e _ s m args below meth c 1 6 _ 5 D _ 13 [(0, vR ad 0), (1, vI p0), (2, vI p1), (3, Value.ref od)] [Value.ref q9] (zW NX ad (celX ad dA σ1) ++ [(od, .inl (dA 7, 1, .inr (.inl (fun _ => o))))])) H locs ls hP hD hS hl
    refine zn_astore hC [(4, Value.ref q9), (0, vR ad 0), (1, vI p0), (2, vI p1), (3, Value.ref od)] dL_surgeDays_13 (by decide) rfl ?_
    refine zn_iconst hC dL_surgeDays_15 ?_
    refine zn_perm (List.perm_append_singleton _ _) ?_
    exact zn_hret hC hr rfl (σ1, o) ⟨1, rfl, hk⟩ ⟨Nat.le_refl _, Nat.le_refl _⟩ dL_surgeDays_16
  replace hk := hGK _ _ hk
  refine zn_perm (List.perm_append_singleton _ _) ?_
  refine zn_i2l hC dL_surgeDays_8 ?_
  refine zn_last hC dL_surgeDays_9 ?_
  refine zn_goto (tgt := 17) hC dL_surgeDays_10 (by decide) ?_
  refine zn_iconst hC dL_surgeDays_17 ?_
  exact zn_hret hC hr rfl (σ1, _) ⟨0, rfl, hk⟩ ⟨Nat.le_refl _, Nat.le_refl _⟩ dL_surgeDays_18
theorem cH_positionX (l : Launch) (hst : l.stackTraces = false) (D : va_G) (dA : Nat → ClassId) (aL aG aI : Nat) (aK aV : Nat → Nat) (ad : Nat → Nat) (od sz : Nat) (σ : zSt) (o : Int64) {G : Int → Int64 → zSt → Prop} {K : Int → zSt → Prop} {KX : String → zSt → Prop} {p0 p1 : Int} (hf : fX11_positionX K KX σ p0 p1) (hGK : ∀ v σ', K v σ' → G 0 (Int32.ofInt v).toInt64 σ') (hGX : ∀ E σ', KX E σ' → (E = eIO ∧ G 1 o σ')) : vx_Met l yL_positionX (Cond.codeWith yL_positionX cL_positionX 5 (some .int) [(0, 10, 13, 13)] :: UW) ({ frames := 8, cells := 1, slots := 6, locals := 193 } : Room) (va_Pc [vR ad 0, vI p0, vI p1, .ref od] (zHP D dA (zXX aL aG aI aK aV) ad od sz σ o)) (va_Qi (zHG G) (zHB D dA ad od) (zHA ad od sz)) (zHX (zHA ad od sz)) 1 6 (zHA ad od sz) := by
  refine zH_enter (cc := cL_positionX) (maxL := 5) (hh := [(0, 10, 13, 13)]) (by decide) rfl (Nat.le_of_ble_eq_true rfl) ?_
  intro p e s m args below meth c hC hno hr htab hnc
  refine zn_aload_n hC dL_positionX_0 3 rfl rfl ?_
  refine zn_iconst hC dL_positionX_1 ?_
  refine zn_aload_n hC dL_positionX_2 0 rfl rfl ?_
  refine zn_iload_n hC dL_positionX_3 1 rfl rfl ?_
  refine zn_iload_n hC dL_positionX_4 2 rfl rfl ?_
  refine zn_perm (List.perm_append_singleton _ _).symm ?_
  refine zn_callT hC [vI p0, vI p1] (fun hinj sz2 => mX11_positionX l hinj hst sz2 hf) (cwV 2 hC.1.2.2.2.2 (uV (uT _) u1389 u1390 u1391 u105 u1392) rfl rfl rfl (by decide +kernel) ⟨Nat.le_of_ble_eq_true rfl, Nat.le_of_ble_eq_true rfl⟩) rfl rfl (Nat.le_of_ble_eq_true rfl) ⟨Nat.le_of_ble_eq_true rfl, Nat.le_of_ble_eq_true rfl⟩ dL_positionX_5 ?_ (fun z σ1 hk => ?_)
  · intro E σ1 hk H locs ls ce q9 hP hD hS hl h1 h2 h3
    replace hk := hGX _ _ hk
    obtain ⟨rfl, hk⟩ := hk
    refine vx_catch (own := RL) (name := eIO) hC.1.2.2.2.1 [] ⟨0, 10, 13, 13⟩ [] htab (fun z hz => absurd hz List.not_mem_nil) (by decide) (by decide) (hC.1.2.2.2.2 _ (uT _ _ u1056)) (zN_use hC.2.2.2.2.1 (by decide +kernel : Cond.castable eIO eIO ∈ zNest)) h1 h2 h3 ?_
    refine (?_ : zL p l e _ s m args below meth c 1 6 _ 5 D _ 13 [(0, vR ad 0), (1, vI p0), (2, vI p1), (3, Value.ref od)] [Value.ref q9] (zW NX ad (celX ad dA σ1) ++ [(od, .inl (dA 7, 1, .inr (.inl (fun _ => o))))])) H locs ls hP hD hS hl
    refine zn_astore hC [(4, Value.ref q9), (0, vR ad 0), (1, vI p0), (2, vI p1), (3, Value.ref od)] dL_positionX_13 (by decide) rfl ?_
    refine zn_iconst hC dL_positionX_15 ?_
    refine zn_perm (List.perm_append_singleton _ _) ?_
    exact zn_hret hC hr rfl (σ1, o) ⟨1, rfl, hk⟩ ⟨Nat.le_refl _, Nat.le_refl _⟩ dL_positionX_16
  replace hk := hGK _ _ hk
  refine zn_perm (List.perm_append_singleton _ _) ?_
  refine zn_i2l hC dL_positionX_8 ?_
  refine zn_last hC dL_positionX_9 ?_
  refine zn_goto (tgt := 17) hC dL_positionX_10 (by decide) ?_
  refine zn_iconst hC dL_positionX_17 ?_
  exact zn_hret hC hr rfl (σ1, _) ⟨0, rfl, hk⟩ ⟨Nat.le_refl _, Nat.le_refl _⟩ dL_positionX_18
theorem cH_positionY (l : Launch) (hst : l.stackTraces = false) (D : va_G) (dA : Nat → ClassId) (aL aG aI : Nat) (aK aV : Nat → Nat) (ad : Nat → Nat) (od sz : Nat) (σ : zSt) (o : Int64) {G : Int → Int64 → zSt → Prop} {K : Int → zSt → Prop} {KX : String → zSt → Prop} {p0 p1 : Int} (hf : fX11_positionY K KX σ p0 p1) (hGK : ∀ v σ', K v σ' → G 0 (Int32.ofInt v).toInt64 σ') (hGX : ∀ E σ', KX E σ' → (E = eIO ∧ G 1 o σ')) : vx_Met l yL_positionY (Cond.codeWith yL_positionY cL_positionY 5 (some .int) [(0, 10, 13, 13)] :: UW) ({ frames := 8, cells := 1, slots := 6, locals := 193 } : Room) (va_Pc [vR ad 0, vI p0, vI p1, .ref od] (zHP D dA (zXX aL aG aI aK aV) ad od sz σ o)) (va_Qi (zHG G) (zHB D dA ad od) (zHA ad od sz)) (zHX (zHA ad od sz)) 1 6 (zHA ad od sz) := by
  refine zH_enter (cc := cL_positionY) (maxL := 5) (hh := [(0, 10, 13, 13)]) (by decide) rfl (Nat.le_of_ble_eq_true rfl) ?_
  intro p e s m args below meth c hC hno hr htab hnc
  refine zn_aload_n hC dL_positionY_0 3 rfl rfl ?_
  refine zn_iconst hC dL_positionY_1 ?_
  refine zn_aload_n hC dL_positionY_2 0 rfl rfl ?_
  refine zn_iload_n hC dL_positionY_3 1 rfl rfl ?_
  refine zn_iload_n hC dL_positionY_4 2 rfl rfl ?_
  refine zn_perm (List.perm_append_singleton _ _).symm ?_
  refine zn_callT hC [vI p0, vI p1] (fun hinj sz2 => mX11_positionY l hinj hst sz2 hf) (cwV 2 hC.1.2.2.2.2 (uV (uT _) u1404 u1405 u1406 u105 u1407) rfl rfl rfl (by decide +kernel) ⟨Nat.le_of_ble_eq_true rfl, Nat.le_of_ble_eq_true rfl⟩) rfl rfl (Nat.le_of_ble_eq_true rfl) ⟨Nat.le_of_ble_eq_true rfl, Nat.le_of_ble_eq_true rfl⟩ dL_positionY_5 ?_ (fun z σ1 hk => ?_)
  · intro E σ1 hk H locs ls ce q9 hP hD hS hl h1 h2 h3
    replace hk := hGX _ _ hk
    obtain ⟨rfl, hk⟩ := hk
    refine vx_catch (own := RL) (name := eIO) hC.1.2.2.2.1 [] ⟨0, 10, 13, 13⟩ [] htab (fun z hz => absurd hz List.not_mem_nil) (by decide) (by decide) (hC.1.2.2.2.2 _ (uT _ _ u1056)) (zN_use hC.2.2.2.2.1 (by decide +kernel : Cond.castable eIO eIO ∈ zNest)) h1 h2 h3 ?_
    refine (?_ : zL p l e _ s m args below meth c 1 6 _ 5 D _ 13 [(0, vR ad 0), (1, vI p0), (2, vI p1), (3, Value.ref od)] [Value.ref q9] (zW NX ad (celX ad dA σ1) ++ [(od, .inl (dA 7, 1, .inr (.inl (fun _ => o))))])) H locs ls hP hD hS hl
    refine zn_astore hC [(4, Value.ref q9), (0, vR ad 0), (1, vI p0), (2, vI p1), (3, Value.ref od)] dL_positionY_13 (by decide) rfl ?_
    refine zn_iconst hC dL_positionY_15 ?_
    refine zn_perm (List.perm_append_singleton _ _) ?_
    exact zn_hret hC hr rfl (σ1, o) ⟨1, rfl, hk⟩ ⟨Nat.le_refl _, Nat.le_refl _⟩ dL_positionY_16
  replace hk := hGK _ _ hk
  refine zn_perm (List.perm_append_singleton _ _) ?_
  refine zn_i2l hC dL_positionY_8 ?_
  refine zn_last hC dL_positionY_9 ?_
  refine zn_goto (tgt := 17) hC dL_positionY_10 (by decide) ?_
  refine zn_iconst hC dL_positionY_17 ?_
  exact zn_hret hC hr rfl (σ1, _) ⟨0, rfl, hk⟩ ⟨Nat.le_refl _, Nat.le_refl _⟩ dL_positionY_18
theorem cH_readingCount (l : Launch) (hst : l.stackTraces = false) (D : va_G) (dA : Nat → ClassId) (aL aG aI : Nat) (aK aV : Nat → Nat) (ad : Nat → Nat) (od sz : Nat) (σ : zSt) (o : Int64) {G : Int → Int64 → zSt → Prop} {K : Int → zSt → Prop} {KX : String → zSt → Prop} {p0 : Int} (hf : fX11_readingCount K KX σ p0) (hGK : ∀ v σ', K v σ' → G 0 (Int32.ofInt v).toInt64 σ') (hGX : ∀ E σ', KX E σ' → (E = eIO ∧ G 1 o σ')) : vx_Met l yL_readingCount (Cond.codeWith yL_readingCount cL_readingCount 4 (some .int) [(0, 9, 12, 13)] :: UW) ({ frames := 8, cells := 1, slots := 6, locals := 124 } : Room) (va_Pc [vR ad 0, vI p0, .ref od] (zHP D dA (zXX aL aG aI aK aV) ad od sz σ o)) (va_Qi (zHG G) (zHB D dA ad od) (zHA ad od sz)) (zHX (zHA ad od sz)) 1 6 (zHA ad od sz) := by
  refine zH_enter (cc := cL_readingCount) (maxL := 4) (hh := [(0, 9, 12, 13)]) (by decide) rfl (Nat.le_of_ble_eq_true rfl) ?_
  intro p e s m args below meth c hC hno hr htab hnc
  refine zn_aload_n hC dL_readingCount_0 2 rfl rfl ?_
  refine zn_iconst hC dL_readingCount_1 ?_
  refine zn_aload_n hC dL_readingCount_2 0 rfl rfl ?_
  refine zn_iload_n hC dL_readingCount_3 1 rfl rfl ?_
  refine zn_perm (List.perm_append_singleton _ _).symm ?_
  refine zn_callT hC [vI p0] (fun hinj sz2 => mX11_readingCount l hinj hst sz2 hf) (cwV 1 hC.1.2.2.2.2 (uV (uT _) u1411 u1412 u1413 u105 u1414) rfl rfl rfl (by decide +kernel) ⟨Nat.le_of_ble_eq_true rfl, Nat.le_of_ble_eq_true rfl⟩) rfl rfl (Nat.le_of_ble_eq_true rfl) ⟨Nat.le_of_ble_eq_true rfl, Nat.le_of_ble_eq_true rfl⟩ dL_readingCount_4 ?_ (fun z σ1 hk => ?_)
  · intro E σ1 hk H locs ls ce q9 hP hD hS hl h1 h2 h3
    replace hk := hGX _ _ hk
    obtain ⟨rfl, hk⟩ := hk
    refine vx_catch (own := RL) (name := eIO) hC.1.2.2.2.1 [] ⟨0, 9, 12, 13⟩ [] htab (fun z hz => absurd hz List.not_mem_nil) (by decide) (by decide) (hC.1.2.2.2.2 _ (uT _ _ u1056)) (zN_use hC.2.2.2.2.1 (by decide +kernel : Cond.castable eIO eIO ∈ zNest)) h1 h2 h3 ?_
    refine (?_ : zL p l e _ s m args below meth c 1 6 _ 4 D _ 12 [(0, vR ad 0), (1, vI p0), (2, Value.ref od)] [Value.ref q9] (zW NX ad (celX ad dA σ1) ++ [(od, .inl (dA 7, 1, .inr (.inl (fun _ => o))))])) H locs ls hP hD hS hl
    refine zn_astore_n hC [(3, Value.ref q9), (0, vR ad 0), (1, vI p0), (2, Value.ref od)] dL_readingCount_12 rfl (by decide) rfl ?_
    refine zn_iconst hC dL_readingCount_13 ?_
    refine zn_perm (List.perm_append_singleton _ _) ?_
    exact zn_hret hC hr rfl (σ1, o) ⟨1, rfl, hk⟩ ⟨Nat.le_refl _, Nat.le_refl _⟩ dL_readingCount_14
  replace hk := hGK _ _ hk
  refine zn_perm (List.perm_append_singleton _ _) ?_
  refine zn_i2l hC dL_readingCount_7 ?_
  refine zn_last hC dL_readingCount_8 ?_
  refine zn_goto (tgt := 15) hC dL_readingCount_9 (by decide) ?_
  refine zn_iconst hC dL_readingCount_15 ?_
  exact zn_hret hC hr rfl (σ1, _) ⟨0, rfl, hk⟩ ⟨Nat.le_refl _, Nat.le_refl _⟩ dL_readingCount_16
theorem cH_readingDay (l : Launch) (hst : l.stackTraces = false) (D : va_G) (dA : Nat → ClassId) (aL aG aI : Nat) (aK aV : Nat → Nat) (ad : Nat → Nat) (od sz : Nat) (σ : zSt) (o : Int64) {G : Int → Int64 → zSt → Prop} {K : Int → zSt → Prop} {KX : String → zSt → Prop} {p0 p1 : Int} (hf : fX11_readingDay K KX σ p0 p1) (hGK : ∀ v σ', K v σ' → G 0 (Int32.ofInt v).toInt64 σ') (hGX : ∀ E σ', KX E σ' → (E = eIO ∧ G 1 o σ')) : vx_Met l yL_readingDay (Cond.codeWith yL_readingDay cL_readingDay 5 (some .int) [(0, 10, 13, 13)] :: UW) ({ frames := 9, cells := 2, slots := 12, locals := 147 } : Room) (va_Pc [vR ad 0, vI p0, vI p1, .ref od] (zHP D dA (zXX aL aG aI aK aV) ad od sz σ o)) (va_Qi (zHG G) (zHB D dA ad od) (zHA ad od sz)) (zHX (zHA ad od sz)) 2 12 (zHA ad od sz) := by
  refine zH_enter (cc := cL_readingDay) (maxL := 5) (hh := [(0, 10, 13, 13)]) (by decide) rfl (Nat.le_of_ble_eq_true rfl) ?_
  intro p e s m args below meth c hC hno hr htab hnc
  refine zn_aload_n hC dL_readingDay_0 3 rfl rfl ?_
  refine zn_iconst hC dL_readingDay_1 ?_
  refine zn_aload_n hC dL_readingDay_2 0 rfl rfl ?_
  refine zn_iload_n hC dL_readingDay_3 1 rfl rfl ?_
  refine zn_iload_n hC dL_readingDay_4 2 rfl rfl ?_
  refine zn_perm (List.perm_append_singleton _ _).symm ?_
  refine zn_callT hC [vI p0, vI p1] (fun hinj sz2 => mX11_readingDay l hinj hst sz2 hf) (cwV 2 hC.1.2.2.2.2 (uV (uT _) u1423 u1424 u1425 u105 u1426) rfl rfl rfl (by decide +kernel) ⟨Nat.le_of_ble_eq_true rfl, Nat.le_of_ble_eq_true rfl⟩) rfl rfl (Nat.le_of_ble_eq_true rfl) ⟨Nat.le_of_ble_eq_true rfl, Nat.le_of_ble_eq_true rfl⟩ dL_readingDay_5 ?_ (fun z σ1 hk => ?_)
  · intro E σ1 hk H locs ls ce q9 hP hD hS hl h1 h2 h3
    replace hk := hGX _ _ hk
    obtain ⟨rfl, hk⟩ := hk
    refine vx_catch (own := RL) (name := eIO) hC.1.2.2.2.1 [] ⟨0, 10, 13, 13⟩ [] htab (fun z hz => absurd hz List.not_mem_nil) (by decide) (by decide) (hC.1.2.2.2.2 _ (uT _ _ u1056)) (zN_use hC.2.2.2.2.1 (by decide +kernel : Cond.castable eIO eIO ∈ zNest)) h1 h2 h3 ?_
    refine (?_ : zL p l e _ s m args below meth c 2 12 _ 5 D _ 13 [(0, vR ad 0), (1, vI p0), (2, vI p1), (3, Value.ref od)] [Value.ref q9] (zW NX ad (celX ad dA σ1) ++ [(od, .inl (dA 7, 1, .inr (.inl (fun _ => o))))])) H locs ls hP hD hS hl
    refine zn_astore hC [(4, Value.ref q9), (0, vR ad 0), (1, vI p0), (2, vI p1), (3, Value.ref od)] dL_readingDay_13 (by decide) rfl ?_
    refine zn_iconst hC dL_readingDay_15 ?_
    refine zn_perm (List.perm_append_singleton _ _) ?_
    exact zn_hret hC hr rfl (σ1, o) ⟨1, rfl, hk⟩ ⟨Nat.le_refl _, Nat.le_refl _⟩ dL_readingDay_16
  replace hk := hGK _ _ hk
  refine zn_perm (List.perm_append_singleton _ _) ?_
  refine zn_i2l hC dL_readingDay_8 ?_
  refine zn_last hC dL_readingDay_9 ?_
  refine zn_goto (tgt := 17) hC dL_readingDay_10 (by decide) ?_
  refine zn_iconst hC dL_readingDay_17 ?_
  exact zn_hret hC hr rfl (σ1, _) ⟨0, rfl, hk⟩ ⟨Nat.le_refl _, Nat.le_refl _⟩ dL_readingDay_18
theorem cH_readingLength (l : Launch) (hst : l.stackTraces = false) (D : va_G) (dA : Nat → ClassId) (aL aG aI : Nat) (aK aV : Nat → Nat) (ad : Nat → Nat) (od sz : Nat) (σ : zSt) (o : Int64) {G : Int → Int64 → zSt → Prop} {K : Int → zSt → Prop} {KX : String → zSt → Prop} {p0 p1 : Int} (hf : fX11_readingLength K KX σ p0 p1) (hGK : ∀ v σ', K v σ' → G 0 (Int32.ofInt v).toInt64 σ') (hGX : ∀ E σ', KX E σ' → (E = eIO ∧ G 1 o σ')) : vx_Met l yL_readingLength (Cond.codeWith yL_readingLength cL_readingLength 5 (some .int) [(0, 10, 13, 13)] :: UW) ({ frames := 9, cells := 2, slots := 12, locals := 147 } : Room) (va_Pc [vR ad 0, vI p0, vI p1, .ref od] (zHP D dA (zXX aL aG aI aK aV) ad od sz σ o)) (va_Qi (zHG G) (zHB D dA ad od) (zHA ad od sz)) (zHX (zHA ad od sz)) 2 12 (zHA ad od sz) := by
  refine zH_enter (cc := cL_readingLength) (maxL := 5) (hh := [(0, 10, 13, 13)]) (by decide) rfl (Nat.le_of_ble_eq_true rfl) ?_
  intro p e s m args below meth c hC hno hr htab hnc
  refine zn_aload_n hC dL_readingLength_0 3 rfl rfl ?_
  refine zn_iconst hC dL_readingLength_1 ?_
  refine zn_aload_n hC dL_readingLength_2 0 rfl rfl ?_
  refine zn_iload_n hC dL_readingLength_3 1 rfl rfl ?_
  refine zn_iload_n hC dL_readingLength_4 2 rfl rfl ?_
  refine zn_perm (List.perm_append_singleton _ _).symm ?_
  refine zn_callT hC [vI p0, vI p1] (fun hinj sz2 => mX11_readingLength l hinj hst sz2 hf) (cwV 2 hC.1.2.2.2.2 (uV (uT _) u1435 u1436 u1437 u105 u1438) rfl rfl rfl (by decide +kernel) ⟨Nat.le_of_ble_eq_true rfl, Nat.le_of_ble_eq_true rfl⟩) rfl rfl (Nat.le_of_ble_eq_true rfl) ⟨Nat.le_of_ble_eq_true rfl, Nat.le_of_ble_eq_true rfl⟩ dL_readingLength_5 ?_ (fun z σ1 hk => ?_)
  · intro E σ1 hk H locs ls ce q9 hP hD hS hl h1 h2 h3
    replace hk := hGX _ _ hk
    obtain ⟨rfl, hk⟩ := hk
    refine vx_catch (own := RL) (name := eIO) hC.1.2.2.2.1 [] ⟨0, 10, 13, 13⟩ [] htab (fun z hz => absurd hz List.not_mem_nil) (by decide) (by decide) (hC.1.2.2.2.2 _ (uT _ _ u1056)) (zN_use hC.2.2.2.2.1 (by decide +kernel : Cond.castable eIO eIO ∈ zNest)) h1 h2 h3 ?_
    refine (?_ : zL p l e _ s m args below meth c 2 12 _ 5 D _ 13 [(0, vR ad 0), (1, vI p0), (2, vI p1), (3, Value.ref od)] [Value.ref q9] (zW NX ad (celX ad dA σ1) ++ [(od, .inl (dA 7, 1, .inr (.inl (fun _ => o))))])) H locs ls hP hD hS hl
    refine zn_astore hC [(4, Value.ref q9), (0, vR ad 0), (1, vI p0), (2, vI p1), (3, Value.ref od)] dL_readingLength_13 (by decide) rfl ?_
    refine zn_iconst hC dL_readingLength_15 ?_
    refine zn_perm (List.perm_append_singleton _ _) ?_
    exact zn_hret hC hr rfl (σ1, o) ⟨1, rfl, hk⟩ ⟨Nat.le_refl _, Nat.le_refl _⟩ dL_readingLength_16
  replace hk := hGK _ _ hk
  refine zn_perm (List.perm_append_singleton _ _) ?_
  refine zn_i2l hC dL_readingLength_8 ?_
  refine zn_last hC dL_readingLength_9 ?_
  refine zn_goto (tgt := 17) hC dL_readingLength_10 (by decide) ?_
  refine zn_iconst hC dL_readingLength_17 ?_
  exact zn_hret hC hr rfl (σ1, _) ⟨0, rfl, hk⟩ ⟨Nat.le_refl _, Nat.le_refl _⟩ dL_readingLength_18
theorem cH_drillCount (l : Launch) (hst : l.stackTraces = false) (D : va_G) (dA : Nat → ClassId) (aL aG aI : Nat) (aK aV : Nat → Nat) (ad : Nat → Nat) (od sz : Nat) (σ : zSt) (o : Int64) {G : Int → Int64 → zSt → Prop} {K : Int → zSt → Prop} {KX : String → zSt → Prop} {p0 : Int} (hf : fX11_drillCount K KX σ p0) (hGK : ∀ v σ', K v σ' → G 0 (Int32.ofInt v).toInt64 σ') (hGX : ∀ E σ', KX E σ' → (E = eIO ∧ G 1 o σ')) : vx_Met l yL_drillCount (Cond.codeWith yL_drillCount cL_drillCount 4 (some .int) [(0, 9, 12, 13)] :: UW) ({ frames := 8, cells := 1, slots := 6, locals := 127 } : Room) (va_Pc [vR ad 0, vI p0, .ref od] (zHP D dA (zXX aL aG aI aK aV) ad od sz σ o)) (va_Qi (zHG G) (zHB D dA ad od) (zHA ad od sz)) (zHX (zHA ad od sz)) 1 6 (zHA ad od sz) := by
  refine zH_enter (cc := cL_drillCount) (maxL := 4) (hh := [(0, 9, 12, 13)]) (by decide) rfl (Nat.le_of_ble_eq_true rfl) ?_
  intro p e s m args below meth c hC hno hr htab hnc
  refine zn_aload_n hC dL_drillCount_0 2 rfl rfl ?_
  refine zn_iconst hC dL_drillCount_1 ?_
  refine zn_aload_n hC dL_drillCount_2 0 rfl rfl ?_
  refine zn_iload_n hC dL_drillCount_3 1 rfl rfl ?_
  refine zn_perm (List.perm_append_singleton _ _).symm ?_
  refine zn_callT hC [vI p0] (fun hinj sz2 => mX11_drillCount l hinj hst sz2 hf) (cwV 1 hC.1.2.2.2.2 (uV (uT _) u1442 u1443 u1444 u105 u1445) rfl rfl rfl (by decide +kernel) ⟨Nat.le_of_ble_eq_true rfl, Nat.le_of_ble_eq_true rfl⟩) rfl rfl (Nat.le_of_ble_eq_true rfl) ⟨Nat.le_of_ble_eq_true rfl, Nat.le_of_ble_eq_true rfl⟩ dL_drillCount_4 ?_ (fun z σ1 hk => ?_)
  · intro E σ1 hk H locs ls ce q9 hP hD hS hl h1 h2 h3
    replace hk := hGX _ _ hk
    obtain ⟨rfl, hk⟩ := hk
    refine vx_catch (own := RL) (name := eIO) hC.1.2.2.2.1 [] ⟨0, 9, 12, 13⟩ [] htab (fun z hz => absurd hz List.not_mem_nil) (by decide) (by decide) (hC.1.2.2.2.2 _ (uT _ _ u1056)) (zN_use hC.2.2.2.2.1 (by decide +kernel : Cond.castable eIO eIO ∈ zNest)) h1 h2 h3 ?_
    refine (?_ : zL p l e _ s m args below meth c 1 6 _ 4 D _ 12 [(0, vR ad 0), (1, vI p0), (2, Value.ref od)] [Value.ref q9] (zW NX ad (celX ad dA σ1) ++ [(od, .inl (dA 7, 1, .inr (.inl (fun _ => o))))])) H locs ls hP hD hS hl
    refine zn_astore_n hC [(3, Value.ref q9), (0, vR ad 0), (1, vI p0), (2, Value.ref od)] dL_drillCount_12 rfl (by decide) rfl ?_
    refine zn_iconst hC dL_drillCount_13 ?_
    refine zn_perm (List.perm_append_singleton _ _) ?_
    exact zn_hret hC hr rfl (σ1, o) ⟨1, rfl, hk⟩ ⟨Nat.le_refl _, Nat.le_refl _⟩ dL_drillCount_14
  replace hk := hGK _ _ hk
  refine zn_perm (List.perm_append_singleton _ _) ?_
  refine zn_i2l hC dL_drillCount_7 ?_
  refine zn_last hC dL_drillCount_8 ?_
  refine zn_goto (tgt := 15) hC dL_drillCount_9 (by decide) ?_
  refine zn_iconst hC dL_drillCount_15 ?_
  exact zn_hret hC hr rfl (σ1, _) ⟨0, rfl, hk⟩ ⟨Nat.le_refl _, Nat.le_refl _⟩ dL_drillCount_16
