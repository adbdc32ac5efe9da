/-! the helpers of the law: contracts -/
theorem cH_matchMargin (l : Launch) (hst : l.stackTraces = false) (D : va_G) (dA : Nat → ClassId) (aL aG aI : Nat) (aK aV : Nat → Nat) (ad : Nat → Nat) (od sz : Nat) (σ : zSt) (o : Int64) {G : Int → Int64 → zSt → Prop} {K : Int → zSt → Prop} {KX : String → zSt → Prop} {p0 p1 p2 p3 : Int} (hf : fX11_matchMargin K KX σ p0 p1 p2 p3) (hGK : ∀ v σ', K v σ' → G 0 (Int32.ofInt v).toInt64 σ') (hGX : ∀ E σ', KX E σ' → (E = eIO ∧ G 1 o σ')) : vx_Met l yL_matchMargin (Cond.codeWith yL_matchMargin cL_matchMargin 7 (some .int) [(0, 14, 17, 13)] :: UW) ({ frames := 9, cells := 3, slots := 18, locals := 181 } : Room) (va_Pc [vR ad 0, vI p0, vI p1, vI p2, vI p3, .ref od] (zHP D dA (zXX aL aG aI aK aV) ad od sz σ o)) (va_Qi (zHG G) (zHB D dA ad od) (zHA ad od sz)) (zHX (zHA ad od sz)) 3 18 (zHA ad od sz) := by
  refine zH_enter (cc := cL_matchMargin) (maxL := 7) (hh := [(0, 14, 17, 13)]) (by decide) rfl (Nat.le_of_ble_eq_true rfl) ?_
  intro p e s m args below meth c hC hno hr htab hnc
  refine zn_aload hC dL_matchMargin_0 5 rfl ?_
  refine zn_iconst hC dL_matchMargin_2 ?_
  refine zn_aload_n hC dL_matchMargin_3 0 rfl rfl ?_
  refine zn_iload_n hC dL_matchMargin_4 1 rfl rfl ?_
  refine zn_iload_n hC dL_matchMargin_5 2 rfl rfl ?_
  refine zn_iload_n hC dL_matchMargin_6 3 rfl rfl ?_
  refine zn_iload hC dL_matchMargin_7 4 rfl ?_
  refine zn_perm (List.perm_append_singleton _ _).symm ?_
  refine zn_callT hC [vI p0, vI p1, vI p2, vI p3] (fun hinj sz2 => mX11_matchMargin l hinj hst sz2 hf) (cwV 4 hC.1.2.2.2.2 (uV (uT _) u1237 u1238 u1239 u105 u1240) rfl rfl rfl (by decide +kernel) ⟨Nat.le_of_ble_eq_true rfl, Nat.le_of_ble_eq_true rfl⟩) rfl rfl (Nat.le_of_ble_eq_true rfl) ⟨Nat.le_of_ble_eq_true rfl, Nat.le_of_ble_eq_true rfl⟩ dL_matchMargin_9 ?_ (fun z σ1 hk => ?_)
  · intro E σ1 hk H locs ls ce q9 hP hD hS hl h1 h2 h3
    replace hk := hGX _ _ hk
    obtain ⟨rfl, hk⟩ := hk
    refine vx_catch (own := RL) (name := eIO) hC.1.2.2.2.1 [] ⟨0, 14, 17, 13⟩ [] htab (fun z hz => absurd hz List.not_mem_nil) (by decide) (by decide) (hC.1.2.2.2.2 _ (uT _ _ u1056)) (zN_use hC.2.2.2.2.1 (by decide +kernel : Cond.castable eIO eIO ∈ zNest)) h1 h2 h3 ?_
    refine (?_ : zL p l e _ s m args below meth c 3 18 _ 7 D _ 17 [(0, vR ad 0), (1, vI p0), (2, vI p1), (3, vI p2), (4, vI p3), (5, Value.ref od)] [Value.ref q9] (zW NX ad (celX ad dA σ1) ++ [(od, .inl (dA 7, 1, .inr (.inl (fun _ => o))))])) H locs ls hP hD hS hl
    refine zn_astore hC [(6, Value.ref q9), (0, vR ad 0), (1, vI p0), (2, vI p1), (3, vI p2), (4, vI p3), (5, Value.ref od)] dL_matchMargin_17 (by decide) rfl ?_
    refine zn_iconst hC dL_matchMargin_19 ?_
    refine zn_perm (List.perm_append_singleton _ _) ?_
    exact zn_hret hC hr rfl (σ1, o) ⟨1, rfl, hk⟩ ⟨Nat.le_refl _, Nat.le_refl _⟩ dL_matchMargin_20
  replace hk := hGK _ _ hk
  refine zn_perm (List.perm_append_singleton _ _) ?_
  refine zn_i2l hC dL_matchMargin_12 ?_
  refine zn_last hC dL_matchMargin_13 ?_
  refine zn_goto (tgt := 21) hC dL_matchMargin_14 (by decide) ?_
  refine zn_iconst hC dL_matchMargin_21 ?_
  exact zn_hret hC hr rfl (σ1, _) ⟨0, rfl, hk⟩ ⟨Nat.le_refl _, Nat.le_refl _⟩ dL_matchMargin_22
theorem cH_trackX (l : Launch) (hst : l.stackTraces = false) (D : va_G) (dA : Nat → ClassId) (aL aG aI : Nat) (aK aV : Nat → Nat) (ad : Nat → Nat) (od sz : Nat) (σ : zSt) (o : Int64) {G : Int → Int64 → zSt → Prop} {K : Int → zSt → Prop} {KX : String → zSt → Prop} {p0 p1 : Int} (hf : fX11_trackX K KX σ p0 p1) (hGK : ∀ v σ', K v σ' → G 0 (Int32.ofInt v).toInt64 σ') (hGX : ∀ E σ', KX E σ' → (E = eIO ∧ G 1 o σ')) : vx_Met l yL_trackX (Cond.codeWith yL_trackX cL_trackX 5 (some .int) [(0, 10, 13, 13)] :: UW) ({ frames := 8, cells := 2, slots := 12, locals := 192 } : Room) (va_Pc [vR ad 0, vI p0, vI p1, .ref od] (zHP D dA (zXX aL aG aI aK aV) ad od sz σ o)) (va_Qi (zHG G) (zHB D dA ad od) (zHA ad od sz)) (zHX (zHA ad od sz)) 2 12 (zHA ad od sz) := by
  refine zH_enter (cc := cL_trackX) (maxL := 5) (hh := [(0, 10, 13, 13)]) (by decide) rfl (Nat.le_of_ble_eq_true rfl) ?_
  intro p e s m args below meth c hC hno hr htab hnc
  refine zn_aload_n hC dL_trackX_0 3 rfl rfl ?_
  refine zn_iconst hC dL_trackX_1 ?_
  refine zn_aload_n hC dL_trackX_2 0 rfl rfl ?_
  refine zn_iload_n hC dL_trackX_3 1 rfl rfl ?_
  refine zn_iload_n hC dL_trackX_4 2 rfl rfl ?_
  refine zn_perm (List.perm_append_singleton _ _).symm ?_
  refine zn_callT hC [vI p0, vI p1] (fun hinj sz2 => mX11_trackX l hinj hst sz2 hf) (cwV 2 hC.1.2.2.2.2 (uV (uT _) u1244 u1245 u1246 u105 u1247) rfl rfl rfl (by decide +kernel) ⟨Nat.le_of_ble_eq_true rfl, Nat.le_of_ble_eq_true rfl⟩) rfl rfl (Nat.le_of_ble_eq_true rfl) ⟨Nat.le_of_ble_eq_true rfl, Nat.le_of_ble_eq_true rfl⟩ dL_trackX_5 ?_ (fun z σ1 hk => ?_)
  · intro E σ1 hk H locs ls ce q9 hP hD hS hl h1 h2 h3
    replace hk := hGX _ _ hk
    obtain ⟨rfl, hk⟩ := hk
    refine vx_catch (own := RL) (name := eIO) hC.1.2.2.2.1 [] ⟨0, 10, 13, 13⟩ [] htab (fun z hz => absurd hz List.not_mem_nil) (by decide) (by decide) (hC.1.2.2.2.2 _ (uT _ _ u1056)) (zN_use hC.2.2.2.2.1 (by decide +kernel : Cond.castable eIO eIO ∈ zNest)) h1 h2 h3 ?_
    refine (?_ : zL p l e _ s m args below meth c 2 12 _ 5 D _ 13 [(0, vR ad 0), (1, vI p0), (2, vI p1), (3, Value.ref od)] [Value.ref q9] (zW NX ad (celX ad dA σ1) ++ [(od, .inl (dA 7, 1, .inr (.inl (fun _ => o))))])) H locs ls hP hD hS hl
    refine zn_astore hC [(4, Value.ref q9), (0, vR ad 0), (1, vI p0), (2, vI p1), (3, Value.ref od)] dL_trackX_13 (by decide) rfl ?_
    refine zn_iconst hC dL_trackX_15 ?_
    refine zn_perm (List.perm_append_singleton _ _) ?_
    exact zn_hret hC hr rfl (σ1, o) ⟨1, rfl, hk⟩ ⟨Nat.le_refl _, Nat.le_refl _⟩ dL_trackX_16
  replace hk := hGK _ _ hk
  refine zn_perm (List.perm_append_singleton _ _) ?_
  refine zn_i2l hC dL_trackX_8 ?_
  refine zn_last hC dL_trackX_9 ?_
  refine zn_goto (tgt := 17) hC dL_trackX_10 (by decide) ?_
  refine zn_iconst hC dL_trackX_17 ?_
  exact zn_hret hC hr rfl (σ1, _) ⟨0, rfl, hk⟩ ⟨Nat.le_refl _, Nat.le_refl _⟩ dL_trackX_18
theorem cH_trackY (l : Launch) (hst : l.stackTraces = false) (D : va_G) (dA : Nat → ClassId) (aL aG aI : Nat) (aK aV : Nat → Nat) (ad : Nat → Nat) (od sz : Nat) (σ : zSt) (o : Int64) {G : Int → Int64 → zSt → Prop} {K : Int → zSt → Prop} {KX : String → zSt → Prop} {p0 p1 : Int} (hf : fX11_trackY K KX σ p0 p1) (hGK : ∀ v σ', K v σ' → G 0 (Int32.ofInt v).toInt64 σ') (hGX : ∀ E σ', KX E σ' → (E = eIO ∧ G 1 o σ')) : vx_Met l yL_trackY (Cond.codeWith yL_trackY cL_trackY 5 (some .int) [(0, 10, 13, 13)] :: UW) ({ frames := 8, cells := 2, slots := 12, locals := 192 } : Room) (va_Pc [vR ad 0, vI p0, vI p1, .ref od] (zHP D dA (zXX aL aG aI aK aV) ad od sz σ o)) (va_Qi (zHG G) (zHB D dA ad od) (zHA ad od sz)) (zHX (zHA ad od sz)) 2 12 (zHA ad od sz) := by
  refine zH_enter (cc := cL_trackY) (maxL := 5) (hh := [(0, 10, 13, 13)]) (by decide) rfl (Nat.le_of_ble_eq_true rfl) ?_
  intro p e s m args below meth c hC hno hr htab hnc
  refine zn_aload_n hC dL_trackY_0 3 rfl rfl ?_
  refine zn_iconst hC dL_trackY_1 ?_
  refine zn_aload_n hC dL_trackY_2 0 rfl rfl ?_
  refine zn_iload_n hC dL_trackY_3 1 rfl rfl ?_
  refine zn_iload_n hC dL_trackY_4 2 rfl rfl ?_
  refine zn_perm (List.perm_append_singleton _ _).symm ?_
  refine zn_callT hC [vI p0, vI p1] (fun hinj sz2 => mX11_trackY l hinj hst sz2 hf) (cwV 2 hC.1.2.2.2.2 (uV (uT _) u1264 u1265 u1266 u105 u1267) rfl rfl rfl (by decide +kernel) ⟨Nat.le_of_ble_eq_true rfl, Nat.le_of_ble_eq_true rfl⟩) rfl rfl (Nat.le_of_ble_eq_true rfl) ⟨Nat.le_of_ble_eq_true rfl, Nat.le_of_ble_eq_true rfl⟩ dL_trackY_5 ?_ (fun z σ1 hk => ?_)
  · intro E σ1 hk H locs ls ce q9 hP hD hS hl h1 h2 h3
    replace hk := hGX _ _ hk
    obtain ⟨rfl, hk⟩ := hk
    refine vx_catch (own := RL) (name := eIO) hC.1.2.2.2.1 [] ⟨0, 10, 13, 13⟩ [] htab (fun z hz => absurd hz List.not_mem_nil) (by decide) (by decide) (hC.1.2.2.2.2 _ (uT _ _ u1056)) (zN_use hC.2.2.2.2.1 (by decide +kernel : Cond.castable eIO eIO ∈ zNest)) h1 h2 h3 ?_
    refine (?_ : zL p l e _ s m args below meth c 2 12 _ 5 D _ 13 [(0, vR ad 0), (1, vI p0), (2, vI p1), (3, Value.ref od)] [Value.ref q9] (zW NX ad (celX ad dA σ1) ++ [(od, .inl (dA 7, 1, .inr (.inl (fun _ => o))))])) H locs ls hP hD hS hl
    refine zn_astore hC [(4, Value.ref q9), (0, vR ad 0), (1, vI p0), (2, vI p1), (3, Value.ref od)] dL_trackY_13 (by decide) rfl ?_
    refine zn_iconst hC dL_trackY_15 ?_
    refine zn_perm (List.perm_append_singleton _ _) ?_
    exact zn_hret hC hr rfl (σ1, o) ⟨1, rfl, hk⟩ ⟨Nat.le_refl _, Nat.le_refl _⟩ dL_trackY_16
  replace hk := hGK _ _ hk
  refine zn_perm (List.perm_append_singleton _ _) ?_
  refine zn_i2l hC dL_trackY_8 ?_
  refine zn_last hC dL_trackY_9 ?_
  refine zn_goto (tgt := 17) hC dL_trackY_10 (by decide) ?_
  refine zn_iconst hC dL_trackY_17 ?_
  exact zn_hret hC hr rfl (σ1, _) ⟨0, rfl, hk⟩ ⟨Nat.le_refl _, Nat.le_refl _⟩ dL_trackY_18
theorem cH_lostCount (l : Launch) (hst : l.stackTraces = false) (D : va_G) (dA : Nat → ClassId) (aL aG aI : Nat) (aK aV : Nat → Nat) (ad : Nat → Nat) (od sz : Nat) (σ : zSt) (o : Int64) {G : Int → Int64 → zSt → Prop} {K : Int → zSt → Prop} {KX : String → zSt → Prop} {p0 : Int} (hf : fX11_lostCount K KX σ p0) (hGK : ∀ v σ', K v σ' → G 0 (Int32.ofInt v).toInt64 σ') (hGX : ∀ E σ', KX E σ' → (E = eIO ∧ G 1 o σ')) : vx_Met l yL_lostCount (Cond.codeWith yL_lostCount cL_lostCount 4 (some .int) [(0, 9, 12, 13)] :: UW) ({ frames := 8, cells := 1, slots := 6, locals := 191 } : Room) (va_Pc [vR ad 0, vI p0, .ref od] (zHP D dA (zXX aL aG aI aK aV) ad od sz σ o)) (va_Qi (zHG G) (zHB D dA ad od) (zHA ad od sz)) (zHX (zHA ad od sz)) 1 6 (zHA ad od sz) := by
  refine zH_enter (cc := cL_lostCount) (maxL := 4) (hh := [(0, 9, 12, 13)]) (by decide) rfl (Nat.le_of_ble_eq_true rfl) ?_
  intro p e s m args below meth c hC hno hr htab hnc
  refine zn_aload_n hC dL_lostCount_0 2 rfl rfl ?_
  refine zn_iconst hC dL_lostCount_1 ?_
  refine zn_aload_n hC dL_lostCount_2 0 rfl rfl ?_
  refine zn_iload_n hC dL_lostCount_3 1 rfl rfl ?_
  refine zn_perm (List.perm_append_singleton _ _).symm ?_
  refine zn_callT hC [vI p0] (fun hinj sz2 => mX11_lostCount l hinj hst sz2 hf) (cwV 1 hC.1.2.2.2.2 (uV (uT _) u1275 u1276 u1277 u105 u1278) rfl rfl rfl (by decide +kernel) ⟨Nat.le_of_ble_eq_true rfl, Nat.le_of_ble_eq_true rfl⟩) rfl rfl (Nat.le_of_ble_eq_true rfl) ⟨Nat.le_of_ble_eq_true rfl, Nat.le_of_ble_eq_true rfl⟩ dL_lostCount_4 ?_ (fun z σ1 hk => ?_)
  · intro E σ1 hk H locs ls ce q9 hP hD hS hl h1 h2 h3
    replace hk := hGX _ _ hk
    obtain ⟨rfl, hk⟩ := hk
    refine vx_catch (own := RL) (name := eIO) hC.1.2.2.2.1 [] ⟨0, 9, 12, 13⟩ [] htab (fun z hz => absurd hz List.not_mem_nil) (by decide) (by decide) (hC.1.2.2.2.2 _ (uT _ _ u1056)) (zN_use hC.2.2.2.2.1 (by decide +kernel : Cond.castable eIO eIO ∈ zNest)) h1 h2 h3 ?_
    refine (?_ : zL p l e _ s m args below meth c 1 6 _ 4 D _ 12 [(0, vR ad 0), (1, vI p0), (2, Value.ref od)] [Value.ref q9] (zW NX ad (celX ad dA σ1) ++ [(od, .inl (dA 7, 1, .inr (.inl (fun _ => o))))])) H locs ls hP hD hS hl
    refine zn_astore_n hC [(3, Value.ref q9), (0, vR ad 0), (1, vI p0), (2, Value.ref od)] dL_lostCount_12 rfl (by decide) rfl ?_
    refine zn_iconst hC dL_lostCount_13 ?_
    refine zn_perm (List.perm_append_singleton _ _) ?_
    exact zn_hret hC hr rfl (σ1, o) ⟨1, rfl, hk⟩ ⟨Nat.le_refl _, Nat.le_refl _⟩ dL_lostCount_14
  replace hk := hGK _ _ hk
  refine zn_perm (List.perm_append_singleton _ _) ?_
  refine zn_i2l hC dL_lostCount_7 ?_
  refine zn_last hC dL_lostCount_8 ?_
  refine zn_goto (tgt := 15) hC dL_lostCount_9 (by decide) ?_
  refine zn_iconst hC dL_lostCount_15 ?_
  exact zn_hret hC hr rfl (σ1, _) ⟨0, rfl, hk⟩ ⟨Nat.le_refl _, Nat.le_refl _⟩ dL_lostCount_16
theorem cH_loopError (l : Launch) (hst : l.stackTraces = false) (D : va_G) (dA : Nat → ClassId) (aL aG aI : Nat) (aK aV : Nat → Nat) (ad : Nat → Nat) (od sz : Nat) (σ : zSt) (o : Int64) {G : Int → Int64 → zSt → Prop} {K : Int → zSt → Prop} {KX : String → zSt → Prop} {p0 p1 p2 : Int} (hf : fX11_loopError K KX σ p0 p1 p2) (hGK : ∀ v σ', K v σ' → G 0 (Int32.ofInt v).toInt64 σ') (hGX : ∀ E σ', KX E σ' → (E = eIO ∧ G 1 o σ')) : vx_Met l yL_loopError (Cond.codeWith yL_loopError cL_loopError 6 (some .int) [(0, 12, 15, 13)] :: UW) ({ frames := 8, cells := 3, slots := 18, locals := 182 } : Room) (va_Pc [vR ad 0, vI p0, vI p1, vI p2, .ref od] (zHP D dA (zXX aL aG aI aK aV) ad od sz σ o)) (va_Qi (zHG G) (zHB D dA ad od) (zHA ad od sz)) (zHX (zHA ad od sz)) 3 18 (zHA ad od sz) := by
  refine zH_enter (cc := cL_loopError) (maxL := 6) (hh := [(0, 12, 15, 13)]) (by decide) rfl (Nat.le_of_ble_eq_true rfl) ?_
  intro p e s m args below meth c hC hno hr htab hnc
  refine zn_aload hC dL_loopError_0 4 rfl ?_
  refine zn_iconst hC dL_loopError_2 ?_
  refine zn_aload_n hC dL_loopError_3 0 rfl rfl ?_
  refine zn_iload_n hC dL_loopError_4 1 rfl rfl ?_
  refine zn_iload_n hC dL_loopError_5 2 rfl rfl ?_
  refine zn_iload_n hC dL_loopError_6 3 rfl rfl ?_
  refine zn_perm (List.perm_append_singleton _ _).symm ?_
  refine zn_callT hC [vI p0, vI p1, vI p2] (fun hinj sz2 => mX11_loopError l hinj hst sz2 hf) (cwV 3 hC.1.2.2.2.2 (uV (uT _) u1282 u1283 u1284 u105 u1285) rfl rfl rfl (by decide +kernel) ⟨Nat.le_of_ble_eq_true rfl, Nat.le_of_ble_eq_true rfl⟩) rfl rfl (Nat.le_of_ble_eq_true rfl) ⟨Nat.le_of_ble_eq_true rfl, Nat.le_of_ble_eq_true rfl⟩ dL_loopError_7 ?_ (fun z σ1 hk => ?_)
  · intro E σ1 hk H locs ls ce q9 hP hD hS hl h1 h2 h3
    replace hk := hGX _ _ hk
    obtain ⟨rfl, hk⟩ := hk
    refine vx_catch (own := RL) (name := eIO) hC.1.2.2.2.1 [] ⟨0, 12, 15, 13⟩ [] htab (fun z hz => absurd hz List.not_mem_nil) (by decide) (by decide) (hC.1.2.2.2.2 _ (uT _ _ u1056)) (zN_use hC.2.2.2.2.1 (by decide +kernel : Cond.castable eIO eIO ∈ zNest)) h1 h2 h3 ?_
    refine (?_ : zL p l e _ s m args below meth c 3 18 _ 6 D _ 15 [(0, vR ad 0), (1, vI p0), (2, vI p1), (3, vI p2), (4, Value.ref od)] [Value.ref q9] (zW NX ad (celX ad dA σ1) ++ [(od, .inl (dA 7, 1, .inr (.inl (fun _ => o))))])) H locs ls hP hD hS hl
    refine zn_astore hC [(5, Value.ref q9), (0, vR ad 0), (1, vI p0), (2, vI p1), (3, vI p2), (4, Value.ref od)] dL_loopError_15 (by decide) rfl ?_
    refine zn_iconst hC dL_loopError_17 ?_
    refine zn_perm (List.perm_append_singleton _ _) ?_
    exact zn_hret hC hr rfl (σ1, o) ⟨1, rfl, hk⟩ ⟨Nat.le_refl _, Nat.le_refl _⟩ dL_loopError_18
  replace hk := hGK _ _ hk
  refine zn_perm (List.perm_append_singleton _ _) ?_
  refine zn_i2l hC dL_loopError_10 ?_
  refine zn_last hC dL_loopError_11 ?_
  refine zn_goto (tgt := 19) hC dL_loopError_12 (by decide) ?_
  refine zn_iconst hC dL_loopError_19 ?_
  exact zn_hret hC hr rfl (σ1, _) ⟨0, rfl, hk⟩ ⟨Nat.le_refl _, Nat.le_refl _⟩ dL_loopError_20
theorem cH_closedLoops (l : Launch) (hst : l.stackTraces = false) (D : va_G) (dA : Nat → ClassId) (aL aG aI : Nat) (aK aV : Nat → Nat) (ad : Nat → Nat) (od sz : Nat) (σ : zSt) (o : Int64) {G : Int → Int64 → zSt → Prop} {K : Int → zSt → Prop} {KX : String → zSt → Prop} {p0 : Int} (hf : fX11_closedLoops K KX σ p0) (hGK : ∀ v σ', K v σ' → G 0 (Int32.ofInt v).toInt64 σ') (hGX : ∀ E σ', KX E σ' → (E = eIO ∧ G 1 o σ')) : vx_Met l yL_closedLoops (Cond.codeWith yL_closedLoops cL_closedLoops 4 (some .int) [(0, 9, 12, 13)] :: UW) ({ frames := 8, cells := 1, slots := 6, locals := 184 } : Room) (va_Pc [vR ad 0, vI p0, .ref od] (zHP D dA (zXX aL aG aI aK aV) ad od sz σ o)) (va_Qi (zHG G) (zHB D dA ad od) (zHA ad od sz)) (zHX (zHA ad od sz)) 1 6 (zHA ad od sz) := by
  refine zH_enter (cc := cL_closedLoops) (maxL := 4) (hh := [(0, 9, 12, 13)]) (by decide) rfl (Nat.le_of_ble_eq_true rfl) ?_
  intro p e s m args below meth c hC hno hr htab hnc
  refine zn_aload_n hC dL_closedLoops_0 2 rfl rfl ?_
  refine zn_iconst hC dL_closedLoops_1 ?_
  refine zn_aload_n hC dL_closedLoops_2 0 rfl rfl ?_
  refine zn_iload_n hC dL_closedLoops_3 1 rfl rfl ?_
  refine zn_perm (List.perm_append_singleton _ _).symm ?_
  refine zn_callT hC [vI p0] (fun hinj sz2 => mX11_closedLoops l hinj hst sz2 hf) (cwV 1 hC.1.2.2.2.2 (uV (uT _) u1294 u1295 u1296 u105 u1297) rfl rfl rfl (by decide +kernel) ⟨Nat.le_of_ble_eq_true rfl, Nat.le_of_ble_eq_true rfl⟩) rfl rfl (Nat.le_of_ble_eq_true rfl) ⟨Nat.le_of_ble_eq_true rfl, Nat.le_of_ble_eq_true rfl⟩ dL_closedLoops_4 ?_ (fun z σ1 hk => ?_)
  · intro E σ1 hk H locs ls ce q9 hP hD hS hl h1 h2 h3
    replace hk := hGX _ _ hk
    obtain ⟨rfl, hk⟩ := hk
    refine vx_catch (own := RL) (name := eIO) hC.1.2.2.2.1 [] ⟨0, 9, 12, 13⟩ [] htab (fun z hz => absurd hz List.not_mem_nil) (by decide) (by decide) (hC.1.2.2.2.2 _ (uT _ _ u1056)) (zN_use hC.2.2.2.2.1 (by decide +kernel : Cond.castable eIO eIO ∈ zNest)) h1 h2 h3 ?_
    refine (?_ : zL p l e _ s m args below meth c 1 6 _ 4 D _ 12 [(0, vR ad 0), (1, vI p0), (2, Value.ref od)] [Value.ref q9] (zW NX ad (celX ad dA σ1) ++ [(od, .inl (dA 7, 1, .inr (.inl (fun _ => o))))])) H locs ls hP hD hS hl
    refine zn_astore_n hC [(3, Value.ref q9), (0, vR ad 0), (1, vI p0), (2, Value.ref od)] dL_closedLoops_12 rfl (by decide) rfl ?_
    refine zn_iconst hC dL_closedLoops_13 ?_
    refine zn_perm (List.perm_append_singleton _ _) ?_
    exact zn_hret hC hr rfl (σ1, o) ⟨1, rfl, hk⟩ ⟨Nat.le_refl _, Nat.le_refl _⟩ dL_closedLoops_14
  replace hk := hGK _ _ hk
  refine zn_perm (List.perm_append_singleton _ _) ?_
  refine zn_i2l hC dL_closedLoops_7 ?_
  refine zn_last hC dL_closedLoops_8 ?_
  refine zn_goto (tgt := 15) hC dL_closedLoops_9 (by decide) ?_
  refine zn_iconst hC dL_closedLoops_15 ?_
  exact zn_hret hC hr rfl (σ1, _) ⟨0, rfl, hk⟩ ⟨Nat.le_refl _, Nat.le_refl _⟩ dL_closedLoops_16
theorem cH_leastTolerance (l : Launch) (hst : l.stackTraces = false) (D : va_G) (dA : Nat → ClassId) (aL aG aI : Nat) (aK aV : Nat → Nat) (ad : Nat → Nat) (od sz : Nat) (σ : zSt) (o : Int64) {G : Int → Int64 → zSt → Prop} {K : Int → zSt → Prop} {KX : String → zSt → Prop} {p0 : Int} (hf : fX11_leastTolerance K KX σ p0) (hGK : ∀ v σ', K v σ' → G 0 (Int32.ofInt v).toInt64 σ') (hGX : ∀ E σ', KX E σ' → (E = eIO ∧ G 1 o σ')) : vx_Met l yL_leastTolerance (Cond.codeWith yL_leastTolerance cL_leastTolerance 4 (some .int) [(0, 9, 12, 13)] :: UW) ({ frames := 8, cells := 1, slots := 6, locals := 170 } : Room) (va_Pc [vR ad 0, vI p0, .ref od] (zHP D dA (zXX aL aG aI aK aV) ad od sz σ o)) (va_Qi (zHG G) (zHB D dA ad od) (zHA ad od sz)) (zHX (zHA ad od sz)) 1 6 (zHA ad od sz) := by
  refine zH_enter (cc := cL_leastTolerance) (maxL := 4) (hh := [(0, 9, 12, 13)]) (by decide) rfl (Nat.le_of_ble_eq_true rfl) ?_
  intro p e s m args below meth c hC hno hr htab hnc
  refine zn_aload_n hC dL_leastTolerance_0 2 rfl rfl ?_
  refine zn_iconst hC dL_leastTolerance_1 ?_
  refine zn_aload_n hC dL_leastTolerance_2 0 rfl rfl ?_
  refine zn_iload_n hC dL_leastTolerance_3 1 rfl rfl ?_
  refine zn_perm (List.perm_append_singleton _ _).symm ?_
  refine zn_callT hC [vI p0] (fun hinj sz2 => mX11_leastTolerance l hinj hst sz2 hf) (cwV 1 hC.1.2.2.2.2 (uV (uT _) u1301 u1302 u1303 u105 u1304) rfl rfl rfl (by decide +kernel) ⟨Nat.le_of_ble_eq_true rfl, Nat.le_of_ble_eq_true rfl⟩) rfl rfl (Nat.le_of_ble_eq_true rfl) ⟨Nat.le_of_ble_eq_true rfl, Nat.le_of_ble_eq_true rfl⟩ dL_leastTolerance_4 ?_ (fun z σ1 hk => ?_)
  · intro E σ1 hk H locs ls ce q9 hP hD hS hl h1 h2 h3
    replace hk := hGX _ _ hk
    obtain ⟨rfl, hk⟩ := hk
    refine vx_catch (own := RL) (name := eIO) hC.1.2.2.2.1 [] ⟨0, 9, 12, 13⟩ [] htab (fun z hz => absurd hz List.not_mem_nil) (by decide) (by decide) (hC.1.2.2.2.2 _ (uT _ _ u1056)) (zN_use hC.2.2.2.2.1 (by decide +kernel : Cond.castable eIO eIO ∈ zNest)) h1 h2 h3 ?_
    refine (?_ : zL p l e _ s m args below meth c 1 6 _ 4 D _ 12 [(0, vR ad 0), (1, vI p0), (2, Value.ref od)] [Value.ref q9] (zW NX ad (celX ad dA σ1) ++ [(od, .inl (dA 7, 1, .inr (.inl (fun _ => o))))])) H locs ls hP hD hS hl
    refine zn_astore_n hC [(3, Value.ref q9), (0, vR ad 0), (1, vI p0), (2, Value.ref od)] dL_leastTolerance_12 rfl (by decide) rfl ?_
    refine zn_iconst hC dL_leastTolerance_13 ?_
    refine zn_perm (List.perm_append_singleton _ _) ?_
    exact zn_hret hC hr rfl (σ1, o) ⟨1, rfl, hk⟩ ⟨Nat.le_refl _, Nat.le_refl _⟩ dL_leastTolerance_14
  replace hk := hGK _ _ hk
  refine zn_perm (List.perm_append_singleton _ _) ?_
  refine zn_i2l hC dL_leastTolerance_7 ?_
  refine zn_last hC dL_leastTolerance_8 ?_
  refine zn_goto (tgt := 15) hC dL_leastTolerance_9 (by decide) ?_
  refine zn_iconst hC dL_leastTolerance_15 ?_
  exact zn_hret hC hr rfl (σ1, _) ⟨0, rfl, hk⟩ ⟨Nat.le_refl _, Nat.le_refl _⟩ dL_leastTolerance_16
theorem cH_segmentCount (l : Launch) (hst : l.stackTraces = false) (D : va_G) (dA : Nat → ClassId) (aL aG aI : Nat) (aK aV : Nat → Nat) (ad : Nat → Nat) (od sz : Nat) (σ : zSt) (o : Int64) {G : Int → Int64 → zSt → Prop} {K : Int → zSt → Prop} {KX : String → zSt → Prop} {p0 : Int} (hf : fX11_segmentCount K KX σ p0) (hGK : ∀ v σ', K v σ' → G 0 (Int32.ofInt v).toInt64 σ') (hGX : ∀ E σ', KX E σ' → (E = eIO ∧ G 1 o σ')) : vx_Met l yL_segmentCount (Cond.codeWith yL_segmentCount cL_segmentCount 4 (some .int) [(0, 9, 12, 13)] :: UW) ({ frames := 8, cells := 1, slots := 6, locals := 191 } : Room) (va_Pc [vR ad 0, vI p0, .ref od] (zHP D dA (zXX aL aG aI aK aV) ad od sz σ o)) (va_Qi (zHG G) (zHB D dA ad od) (zHA ad od sz)) (zHX (zHA ad od sz)) 1 6 (zHA ad od sz) := by
  refine zH_enter (cc := cL_segmentCount) (maxL := 4) (hh := [(0, 9, 12, 13)]) (by decide) rfl (Nat.le_of_ble_eq_true rfl) ?_
  intro p e s m args below meth c hC hno hr htab hnc
  refine zn_aload_n hC dL_segmentCount_0 2 rfl rfl ?_
  refine zn_iconst hC dL_segmentCount_1 ?_
  refine zn_aload_n hC dL_segmentCount_2 0 rfl rfl ?_
  refine zn_iload_n hC dL_segmentCount_3 1 rfl rfl ?_
  refine zn_perm (List.perm_append_singleton _ _).symm ?_
  refine zn_callT hC [vI p0] (fun hinj sz2 => mX11_segmentCount l hinj hst sz2 hf) (cwV 1 hC.1.2.2.2.2 (uV (uT _) u1309 u1310 u1311 u105 u1312) rfl rfl rfl (by decide +kernel) ⟨Nat.le_of_ble_eq_true rfl, Nat.le_of_ble_eq_true rfl⟩) rfl rfl (Nat.le_of_ble_eq_true rfl) ⟨Nat.le_of_ble_eq_true rfl, Nat.le_of_ble_eq_true rfl⟩ dL_segmentCount_4 ?_ (fun z σ1 hk => ?_)
  · intro E σ1 hk H locs ls ce q9 hP hD hS hl h1 h2 h3
    replace hk := hGX _ _ hk
    obtain ⟨rfl, hk⟩ := hk
    refine vx_catch (own := RL) (name := eIO) hC.1.2.2.2.1 [] ⟨0, 9, 12, 13⟩ [] htab (fun z hz => absurd hz List.not_mem_nil) (by decide) (by decide) (hC.1.2.2.2.2 _ (uT _ _ u1056)) (zN_use hC.2.2.2.2.1 (by decide +kernel : Cond.castable eIO eIO ∈ zNest)) h1 h2 h3 ?_
    refine (?_ : zL p l e _ s m args below meth c 1 6 _ 4 D _ 12 [(0, vR ad 0), (1, vI p0), (2, Value.ref od)] [Value.ref q9] (zW NX ad (celX ad dA σ1) ++ [(od, .inl (dA 7, 1, .inr (.inl (fun _ => o))))])) H locs ls hP hD hS hl
    refine zn_astore_n hC [(3, Value.ref q9), (0, vR ad 0), (1, vI p0), (2, Value.ref od)] dL_segmentCount_12 rfl (by decide) rfl ?_
    refine zn_iconst hC dL_segmentCount_13 ?_
    refine zn_perm (List.perm_append_singleton _ _) ?_
    exact zn_hret hC hr rfl (σ1, o) ⟨1, rfl, hk⟩ ⟨Nat.le_refl _, Nat.le_refl _⟩ dL_segmentCount_14
  replace hk := hGK _ _ hk
  refine zn_perm (List.perm_append_singleton _ _) ?_
  refine zn_i2l hC dL_segmentCount_7 ?_
  refine zn_last hC dL_segmentCount_8 ?_
  refine zn_goto (tgt := 15) hC dL_segmentCount_9 (by decide) ?_
  refine zn_iconst hC dL_segmentCount_15 ?_
  exact zn_hret hC hr rfl (σ1, _) ⟨0, rfl, hk⟩ ⟨Nat.le_refl _, Nat.le_refl _⟩ dL_segmentCount_16
theorem cH_speed (l : Launch) (hst : l.stackTraces = false) (D : va_G) (dA : Nat → ClassId) (aL aG aI : Nat) (aK aV : Nat → Nat) (ad : Nat → Nat) (od sz : Nat) (σ : zSt) (o : Int64) {G : Int → Int64 → zSt → Prop} {K : Int → zSt → Prop} {KX : String → zSt → Prop} {p0 p1 : Int} (hf : fX11_speed K KX σ p0 p1) (hGK : ∀ v σ', K v σ' → G 0 (Int32.ofInt v).toInt64 σ') (hGX : ∀ E σ', KX E σ' → (E = eIO ∧ G 1 o σ')) : vx_Met l yL_speed (Cond.codeWith yL_speed cL_speed 5 (some .int) [(0, 10, 13, 13)] :: UW) ({ frames := 8, cells := 2, slots := 12, locals := 193 } : Room) (va_Pc [vR ad 0, vI p0, vI p1, .ref od] (zHP D dA (zXX aL aG aI aK aV) ad od sz σ o)) (va_Qi (zHG G) (zHB D dA ad od) (zHA ad od sz)) (zHX (zHA ad od sz)) 2 12 (zHA ad od sz) := by
  refine zH_enter (cc := cL_speed) (maxL := 5) (hh := [(0, 10, 13, 13)]) (by decide) rfl (Nat.le_of_ble_eq_true rfl) ?_
  intro p e s m args below meth c hC hno hr htab hnc
  refine zn_aload_n hC dL_speed_0 3 rfl rfl ?_
  refine zn_iconst hC dL_speed_1 ?_
  refine zn_aload_n hC dL_speed_2 0 rfl rfl ?_
  refine zn_iload_n hC dL_speed_3 1 rfl rfl ?_
  refine zn_iload_n hC dL_speed_4 2 rfl rfl ?_
  refine zn_perm (List.perm_append_singleton _ _).symm ?_
  refine zn_callT hC [vI p0, vI p1] (fun hinj sz2 => mX11_speed l hinj hst sz2 hf) (cwV 2 hC.1.2.2.2.2 (uV (uT _) u1316 u1317 u1318 u105 u1319) rfl rfl rfl (by decide +kernel) ⟨Nat.le_of_ble_eq_true rfl, Nat.le_of_ble_eq_true rfl⟩) rfl rfl (Nat.le_of_ble_eq_true rfl) ⟨Nat.le_of_ble_eq_true rfl, Nat.le_of_ble_eq_true rfl⟩ dL_speed_5 ?_ (fun z σ1 hk => ?_)
  · intro E σ1 hk H locs ls ce q9 hP hD hS hl h1 h2 h3
    replace hk := hGX _ _ hk
    obtain ⟨rfl, hk⟩ := hk
    refine vx_catch (own := RL) (name := eIO) hC.1.2.2.2.1 [] ⟨0, 10, 13, 13⟩ [] htab (fun z hz => absurd hz List.not_mem_nil) (by decide) (by decide) (hC.1.2.2.2.2 _ (uT _ _ u1056)) (zN_use hC.2.2.2.2.1 (by decide +kernel : Cond.castable eIO eIO ∈ zNest)) h1 h2 h3 ?_
    refine (?_ : zL p l e _ s m args below meth c 2 12 _ 5 D _ 13 [(0, vR ad 0), (1, vI p0), (2, vI p1), (3, Value.ref od)] [Value.ref q9] (zW NX ad (celX ad dA σ1) ++ [(od, .inl (dA 7, 1, .inr (.inl (fun _ => o))))])) H locs ls hP hD hS hl
    refine zn_astore hC [(4, Value.ref q9), (0, vR ad 0), (1, vI p0), (2, vI p1), (3, Value.ref od)] dL_speed_13 (by decide) rfl ?_
    refine zn_iconst hC dL_speed_15 ?_
    refine zn_perm (List.perm_append_singleton _ _) ?_
    exact zn_hret hC hr rfl (σ1, o) ⟨1, rfl, hk⟩ ⟨Nat.le_refl _, Nat.le_refl _⟩ dL_speed_16
  replace hk := hGK _ _ hk
  refine zn_perm (List.perm_append_singleton _ _) ?_
  refine zn_i2l hC dL_speed_8 ?_
  refine zn_last hC dL_speed_9 ?_
  refine zn_goto (tgt := 17) hC dL_speed_10 (by decide) ?_
  refine zn_iconst hC dL_speed_17 ?_
  exact zn_hret hC hr rfl (σ1, _) ⟨0, rfl, hk⟩ ⟨Nat.le_refl _, Nat.le_refl _⟩ dL_speed_18
theorem cH_meanSpeed (l : Launch) (hst : l.stackTraces = false) (D : va_G) (dA : Nat → ClassId) (aL aG aI : Nat) (aK aV : Nat → Nat) (ad : Nat → Nat) (od sz : Nat) (σ : zSt) (o : Int64) {G : Int → Int64 → zSt → Prop} {K : Int → zSt → Prop} {KX : String → zSt → Prop} {p0 : Int} (hf : fX11_meanSpeed K KX σ p0) (hGK : ∀ v σ', K v σ' → G 0 (Int32.ofInt v).toInt64 σ') (hGX : ∀ E σ', KX E σ' → (E = eIO ∧ G 1 o σ')) : vx_Met l yL_meanSpeed (Cond.codeWith yL_meanSpeed cL_meanSpeed 4 (some .int) [(0, 9, 12, 13)] :: UW) ({ frames := 8, cells := 1, slots := 6, locals := 191 } : Room) (va_Pc [vR ad 0, vI p0, .ref od] (zHP D dA (zXX aL aG aI aK aV) ad od sz σ o)) (va_Qi (zHG G) (zHB D dA ad od) (zHA ad od sz)) (zHX (zHA ad od sz)) 1 6 (zHA ad od sz) := by
  refine zH_enter (cc := cL_meanSpeed) (maxL := 4) (hh := [(0, 9, 12, 13)]) (by decide) rfl (Nat.le_of_ble_eq_true rfl) ?_
  intro p e s m args below meth c hC hno hr htab hnc
  refine zn_aload_n hC dL_meanSpeed_0 2 rfl rfl ?_
  refine zn_iconst hC dL_meanSpeed_1 ?_
  refine zn_aload_n hC dL_meanSpeed_2 0 rfl rfl ?_
  refine zn_iload_n hC dL_meanSpeed_3 1 rfl rfl ?_
  refine zn_perm (List.perm_append_singleton _ _).symm ?_
  refine zn_callT hC [vI p0] (fun hinj sz2 => mX11_meanSpeed l hinj hst sz2 hf) (cwV 1 hC.1.2.2.2.2 (uV (uT _) u1332 u1333 u1334 u105 u1335) rfl rfl rfl (by decide +kernel) ⟨Nat.le_of_ble_eq_true rfl, Nat.le_of_ble_eq_true rfl⟩) rfl rfl (Nat.le_of_ble_eq_true rfl) ⟨Nat.le_of_ble_eq_true rfl, Nat.le_of_ble_eq_true rfl⟩ dL_meanSpeed_4 ?_ (fun z σ1 hk => ?_)
  · intro E σ1 hk H locs ls ce q9 hP hD hS hl h1 h2 h3
    replace hk := hGX _ _ hk
    obtain ⟨rfl, hk⟩ := hk
    refine vx_catch (own := RL) (name := eIO) hC.1.2.2.2.1 [] ⟨0, 9, 12, 13⟩ [] htab (fun z hz => absurd hz List.not_mem_nil) (by decide) (by decide) (hC.1.2.2.2.2 _ (uT _ _ u1056)) (zN_use hC.2.2.2.2.1 (by decide +kernel : Cond.castable eIO eIO ∈ zNest)) h1 h2 h3 ?_
    refine (?_ : zL p l e _ s m args below meth c 1 6 _ 4 D _ 12 [(0, vR ad 0), (1, vI p0), (2, Value.ref od)] [Value.ref q9] (zW NX ad (celX ad dA σ1) ++ [(od, .inl (dA 7, 1, .inr (.inl (fun _ => o))))])) H locs ls hP hD hS hl
    refine zn_astore_n hC [(3, Value.ref q9), (0, vR ad 0), (1, vI p0), (2, Value.ref od)] dL_meanSpeed_12 rfl (by decide) rfl ?_
    refine zn_iconst hC dL_meanSpeed_13 ?_
    refine zn_perm (List.perm_append_singleton _ _) ?_
    exact zn_hret hC hr rfl (σ1, o) ⟨1, rfl, hk⟩ ⟨Nat.le_refl _, Nat.le_refl _⟩ dL_meanSpeed_14
  replace hk := hGK _ _ hk
  refine zn_perm (List.perm_append_singleton _ _) ?_
  refine zn_i2l hC dL_meanSpeed_7 ?_
  refine zn_last hC dL_meanSpeed_8 ?_
  refine zn_goto (tgt := 15) hC dL_meanSpeed_9 (by decide) ?_
  refine zn_iconst hC dL_meanSpeed_15 ?_
  exact zn_hret hC hr rfl (σ1, _) ⟨0, rfl, hk⟩ ⟨Nat.le_refl _, Nat.le_refl _⟩ dL_meanSpeed_16
