/-! the law: its blocks 0 to 15 -/
section ZLD0
variable {p : Program} {l : Launch} {e : Env} {s : State} {m : MethodId} {args : Array Value} {below : List Frame} {meth : Method} {c : Code} {cells slots : Nat} {Q : State → Prop}
variable {D : va_G} {dA : Nat → ClassId} {aL aG aI : Nat} {aK aV : Nat → Nat} {b L : Nat} {xs : Nat → Int32} {ad bd : Nat → Nat} {od : Nat} {o : Int64} {σ τ : zSt}
variable {pc : Nat} {lv : List (Nat × Value)} {stk : List Value} {ws : va_W}
theorem lb_0 (hC : zLC p m c s args meth D dA (zXX aL aG aI aK aV) b L xs) {n : Nat} {μ : Int} (hst : l.stackTraces = false) (hT : TW σ τ μ) (hm : μ < 99999) (hn : 6 * n + 5 < L) (hcs : cells + 3 ≤ room_1.cells ∧ slots + 18 ≤ room_1.slots) (g : ∀ (o1 : Int64) (σ1 τ1 : zSt), TW σ1 τ1 (μ + 1) → zL p l e room_1 s m args below meth c (cells + 3) (slots + 18) Q 7 D (fun q => s.heap.size ≤ q) (3543) (zLV b ad bd od n) ([]) (zLW dA ad bd od o1 σ1 τ1)) : zL p l e room_1 s m args below meth c (cells) (slots) Q 7 D (fun q => s.heap.size ≤ q) (312) (zLV b ad bd od n) ([]) (zLW dA ad bd od o σ τ) := by
  have hcs0 : cells ≤ room_1.cells ∧ slots ≤ room_1.slots := ⟨Nat.le_trans (Nat.le_add_right _ _) hcs.1, Nat.le_trans (Nat.le_add_right _ _) hcs.2⟩
  refine zn_aload_n hC.1 dL_law_312 1 rfl rfl ?_
  refine zl_arg hC (n := n) 1 (by omega) 0 4 rfl rfl rfl dL_law_313 dL_law_314 dL_law_316 dL_law_317 dL_law_318 ?_
  refine zl_arg hC (n := n) 2 (by omega) 0 4 rfl rfl rfl dL_law_319 dL_law_320 dL_law_322 dL_law_323 dL_law_324 ?_
  refine zl_arg hC (n := n) 3 (by omega) 0 4 rfl rfl rfl dL_law_325 dL_law_326 dL_law_328 dL_law_329 dL_law_330 ?_
  refine zl_arg hC (n := n) 4 (by omega) 0 4 rfl rfl rfl dL_law_331 dL_law_332 dL_law_334 dL_law_335 dL_law_336 ?_
  refine zl_arg hC (n := n) 5 (by omega) 0 4 rfl rfl rfl dL_law_337 dL_law_338 dL_law_340 dL_law_341 dL_law_342 ?_
  refine zl_X hC [vI (sc xs (6 * n + 1)), vI (sc xs (6 * n + 2)), vI (sc xs (6 * n + 3)), vI (sc xs (6 * n + 4)), vI (sc xs (6 * n + 5))] (fun hinj sz => mX11_feed l hinj sz (cmd_feed hT (sc_rg xs (6 * n + 1)) (sc_rg xs (6 * n + 2)) (sc_rg xs (6 * n + 3)) (sc_rg xs (6 * n + 4)) (sc_rg xs (6 * n + 5)))) (cwV 5 hC.1.1.2.2.2.2 (uV uId u495 u496 u497 u105 u498) rfl rfl rfl (by decide +kernel) ⟨Nat.le_of_ble_eq_true rfl, Nat.le_of_ble_eq_true rfl⟩) rfl rfl (Nat.le_of_ble_eq_true rfl) hcs0 dL_law_343 (fun z σ1 hk => ?_)
  refine zn_aload_n hC.1 dL_law_346 2 rfl rfl ?_
  refine zl_arg hC (n := n) 1 (by omega) 0 4 rfl rfl rfl dL_law_347 dL_law_348 dL_law_350 dL_law_351 dL_law_352 ?_
  refine zl_arg hC (n := n) 2 (by omega) 0 4 rfl rfl rfl dL_law_353 dL_law_354 dL_law_356 dL_law_357 dL_law_358 ?_
  refine zl_arg hC (n := n) 3 (by omega) 0 4 rfl rfl rfl dL_law_359 dL_law_360 dL_law_362 dL_law_363 dL_law_364 ?_
  refine zl_arg hC (n := n) 4 (by omega) 0 4 rfl rfl rfl dL_law_365 dL_law_366 dL_law_368 dL_law_369 dL_law_370 ?_
  refine zl_arg hC (n := n) 5 (by omega) 0 4 rfl rfl rfl dL_law_371 dL_law_372 dL_law_374 dL_law_375 dL_law_376 ?_
  refine zl_M hC [vI (sc xs (6 * n + 1)), vI (sc xs (6 * n + 2)), vI (sc xs (6 * n + 3)), vI (sc xs (6 * n + 4)), vI (sc xs (6 * n + 5))] (fun hinj sz => mX12_feed l hinj sz hk) (cwV 5 hC.1.1.2.2.2.2 (uV uId u1684 u1685 u1686 u118 u1687) rfl rfl rfl (by decide +kernel) ⟨Nat.le_of_ble_eq_true rfl, Nat.le_of_ble_eq_true rfl⟩) rfl rfl (Nat.le_of_ble_eq_true rfl) hcs0 dL_law_377 (fun w τ1 hk2 => ?_)
  obtain ⟨rfl, hk2⟩ := hk2
  refine zn_eq_t (tgt := 3543) hC.1 dL_law_380 (by decide) ?_
  exact zn_widen (Nat.le_add_right _ _) (Nat.le_add_right _ _) (g o σ1 τ1 hk2)
theorem lb_1 (hC : zLC p m c s args meth D dA (zXX aL aG aI aK aV) b L xs) {n : Nat} {μ : Int} (hst : l.stackTraces = false) (hT : TW σ τ μ) (hm : μ < 99999) (hn : 6 * n + 5 < L) (hcs : cells + 3 ≤ room_1.cells ∧ slots + 18 ≤ room_1.slots) (g : ∀ (o1 : Int64) (σ1 τ1 : zSt), TW σ1 τ1 (μ + 1) → zL p l e room_1 s m args below meth c (cells + 3) (slots + 18) Q 7 D (fun q => s.heap.size ≤ q) (3543) (zLV b ad bd od n) ([]) (zLW dA ad bd od o1 σ1 τ1)) : zL p l e room_1 s m args below meth c (cells) (slots) Q 7 D (fun q => s.heap.size ≤ q) (385) (zLV b ad bd od n) ([]) (zLW dA ad bd od o σ τ) := by
  have hcs0 : cells ≤ room_1.cells ∧ slots ≤ room_1.slots := ⟨Nat.le_trans (Nat.le_add_right _ _) hcs.1, Nat.le_trans (Nat.le_add_right _ _) hcs.2⟩
  refine zn_aload_n hC.1 dL_law_385 1 rfl rfl ?_
  refine zl_arg hC (n := n) 1 (by omega) 0 4 rfl rfl rfl dL_law_386 dL_law_387 dL_law_389 dL_law_390 dL_law_391 ?_
  refine zl_X hC [vI (sc xs (6 * n + 1))] (fun hinj sz => mX11_load l hinj sz (cmd_load hT hm (sc_rg xs (6 * n + 1)))) (cwV 1 hC.1.1.2.2.2.2 (uV uId u503 u504 u505 u105 u506) rfl rfl rfl (by decide +kernel) ⟨Nat.le_of_ble_eq_true rfl, Nat.le_of_ble_eq_true rfl⟩) rfl rfl (Nat.le_of_ble_eq_true rfl) hcs0 dL_law_392 (fun z σ1 hk => ?_)
  refine zn_aload_n hC.1 dL_law_395 2 rfl rfl ?_
  refine zl_arg hC (n := n) 1 (by omega) 0 4 rfl rfl rfl dL_law_396 dL_law_397 dL_law_399 dL_law_400 dL_law_401 ?_
  refine zl_M hC [vI (sc xs (6 * n + 1))] (fun hinj sz => mX12_load l hinj sz hk) (cwV 1 hC.1.1.2.2.2.2 (uV uId u1696 u1697 u1698 u118 u1699) rfl rfl rfl (by decide +kernel) ⟨Nat.le_of_ble_eq_true rfl, Nat.le_of_ble_eq_true rfl⟩) rfl rfl (Nat.le_of_ble_eq_true rfl) hcs0 dL_law_402 (fun w τ1 hk2 => ?_)
  obtain ⟨rfl, hk2⟩ := hk2
  refine zn_eq_t (tgt := 3543) hC.1 dL_law_405 (by decide) ?_
  exact zn_widen (Nat.le_add_right _ _) (Nat.le_add_right _ _) (g o σ1 τ1 hk2)
theorem lb_2 (hC : zLC p m c s args meth D dA (zXX aL aG aI aK aV) b L xs) {n : Nat} {μ : Int} (hst : l.stackTraces = false) (hT : TW σ τ μ) (hm : μ < 99999) (hn : 6 * n + 5 < L) (hcs : cells + 3 ≤ room_1.cells ∧ slots + 18 ≤ room_1.slots) (g : ∀ (o1 : Int64) (σ1 τ1 : zSt), TW σ1 τ1 (μ + 1) → zL p l e room_1 s m args below meth c (cells + 3) (slots + 18) Q 7 D (fun q => s.heap.size ≤ q) (3543) (zLV b ad bd od n) ([]) (zLW dA ad bd od o1 σ1 τ1)) : zL p l e room_1 s m args below meth c (cells) (slots) Q 7 D (fun q => s.heap.size ≤ q) (410) (zLV b ad bd od n) ([]) (zLW dA ad bd od o σ τ) := by
  have hcs0 : cells ≤ room_1.cells ∧ slots ≤ room_1.slots := ⟨Nat.le_trans (Nat.le_add_right _ _) hcs.1, Nat.le_trans (Nat.le_add_right _ _) hcs.2⟩
  refine zn_aload_n hC.1 dL_law_410 1 rfl rfl ?_
  refine zl_X hC [] (fun hinj sz => mX11_errorPosition l hinj sz (cmd_errorPosition hT )) (cwV 0 hC.1.1.2.2.2.2 (uV uId u713 u714 u715 u105 u716) rfl rfl rfl (by decide +kernel) ⟨Nat.le_of_ble_eq_true rfl, Nat.le_of_ble_eq_true rfl⟩) rfl rfl (Nat.le_of_ble_eq_true rfl) hcs0 dL_law_411 (fun z σ1 hk => ?_)
  refine zn_aload_n hC.1 dL_law_414 2 rfl rfl ?_
  refine zl_M hC [] (fun hinj sz => mX12_errorPosition l hinj sz hk) (cwV 0 hC.1.1.2.2.2.2 (uV uId u1692 u1693 u1694 u118 u1695) rfl rfl rfl (by decide +kernel) ⟨Nat.le_of_ble_eq_true rfl, Nat.le_of_ble_eq_true rfl⟩) rfl rfl (Nat.le_of_ble_eq_true rfl) hcs0 dL_law_415 (fun w τ1 hk2 => ?_)
  obtain ⟨rfl, hk2⟩ := hk2
  refine zn_eq_t (tgt := 3543) hC.1 dL_law_418 (by decide) ?_
  exact zn_widen (Nat.le_add_right _ _) (Nat.le_add_right _ _) (g o σ1 τ1 hk2)
theorem lb_3 (hC : zLC p m c s args meth D dA (zXX aL aG aI aK aV) b L xs) {n : Nat} {μ : Int} (hst : l.stackTraces = false) (hT : TW σ τ μ) (hm : μ < 99999) (hn : 6 * n + 5 < L) (hcs : cells + 3 ≤ room_1.cells ∧ slots + 18 ≤ room_1.slots) (g : ∀ (o1 : Int64) (σ1 τ1 : zSt), TW σ1 τ1 (μ + 1) → zL p l e room_1 s m args below meth c (cells + 3) (slots + 18) Q 7 D (fun q => s.heap.size ≤ q) (3543) (zLV b ad bd od n) ([]) (zLW dA ad bd od o1 σ1 τ1)) : zL p l e room_1 s m args below meth c (cells) (slots) Q 7 D (fun q => s.heap.size ≤ q) (423) (zLV b ad bd od n) ([]) (zLW dA ad bd od o σ τ) := by
  have hcs0 : cells ≤ room_1.cells ∧ slots ≤ room_1.slots := ⟨Nat.le_trans (Nat.le_add_right _ _) hcs.1, Nat.le_trans (Nat.le_add_right _ _) hcs.2⟩
  refine zn_aload_n hC.1 dL_law_423 1 rfl rfl ?_
  refine zl_X hC [] (fun hinj sz => mX11_width l hinj sz (cmd_width hT )) (cwV 0 hC.1.1.2.2.2.2 (uV uId u717 u718 u719 u105 u720) rfl rfl rfl (by decide +kernel) ⟨Nat.le_of_ble_eq_true rfl, Nat.le_of_ble_eq_true rfl⟩) rfl rfl (Nat.le_of_ble_eq_true rfl) hcs0 dL_law_424 (fun z σ1 hk => ?_)
  refine zn_aload_n hC.1 dL_law_427 2 rfl rfl ?_
  refine zl_M hC [] (fun hinj sz => mX12_width l hinj sz hk) (cwV 0 hC.1.1.2.2.2.2 (uV uId u1781 u1782 u1783 u118 u1784) rfl rfl rfl (by decide +kernel) ⟨Nat.le_of_ble_eq_true rfl, Nat.le_of_ble_eq_true rfl⟩) rfl rfl (Nat.le_of_ble_eq_true rfl) hcs0 dL_law_428 (fun w τ1 hk2 => ?_)
  obtain ⟨rfl, hk2⟩ := hk2
  refine zn_eq_t (tgt := 3543) hC.1 dL_law_431 (by decide) ?_
  exact zn_widen (Nat.le_add_right _ _) (Nat.le_add_right _ _) (g o σ1 τ1 hk2)
theorem lb_4 (hC : zLC p m c s args meth D dA (zXX aL aG aI aK aV) b L xs) {n : Nat} {μ : Int} (hst : l.stackTraces = false) (hT : TW σ τ μ) (hm : μ < 99999) (hn : 6 * n + 5 < L) (hcs : cells + 3 ≤ room_1.cells ∧ slots + 18 ≤ room_1.slots) (g : ∀ (o1 : Int64) (σ1 τ1 : zSt), TW σ1 τ1 (μ + 1) → zL p l e room_1 s m args below meth c (cells + 3) (slots + 18) Q 7 D (fun q => s.heap.size ≤ q) (3543) (zLV b ad bd od n) ([]) (zLW dA ad bd od o1 σ1 τ1)) : zL p l e room_1 s m args below meth c (cells) (slots) Q 7 D (fun q => s.heap.size ≤ q) (436) (zLV b ad bd od n) ([]) (zLW dA ad bd od o σ τ) := by
  have hcs0 : cells ≤ room_1.cells ∧ slots ≤ room_1.slots := ⟨Nat.le_trans (Nat.le_add_right _ _) hcs.1, Nat.le_trans (Nat.le_add_right _ _) hcs.2⟩
  refine zn_aload_n hC.1 dL_law_436 1 rfl rfl ?_
  refine zl_X hC [] (fun hinj sz => mX11_height l hinj sz (cmd_height hT )) (cwV 0 hC.1.1.2.2.2.2 (uV uId u721 u722 u723 u105 u724) rfl rfl rfl (by decide +kernel) ⟨Nat.le_of_ble_eq_true rfl, Nat.le_of_ble_eq_true rfl⟩) rfl rfl (Nat.le_of_ble_eq_true rfl) hcs0 dL_law_437 (fun z σ1 hk => ?_)
  refine zn_aload_n hC.1 dL_law_440 2 rfl rfl ?_
  refine zl_M hC [] (fun hinj sz => mX12_height l hinj sz hk) (cwV 0 hC.1.1.2.2.2.2 (uV uId u1789 u1790 u1791 u118 u1792) rfl rfl rfl (by decide +kernel) ⟨Nat.le_of_ble_eq_true rfl, Nat.le_of_ble_eq_true rfl⟩) rfl rfl (Nat.le_of_ble_eq_true rfl) hcs0 dL_law_441 (fun w τ1 hk2 => ?_)
  obtain ⟨rfl, hk2⟩ := hk2
  refine zn_eq_t (tgt := 3543) hC.1 dL_law_444 (by decide) ?_
  exact zn_widen (Nat.le_add_right _ _) (Nat.le_add_right _ _) (g o σ1 τ1 hk2)
theorem lb_5 (hC : zLC p m c s args meth D dA (zXX aL aG aI aK aV) b L xs) {n : Nat} {μ : Int} (hst : l.stackTraces = false) (hT : TW σ τ μ) (hm : μ < 99999) (hn : 6 * n + 5 < L) (hcs : cells + 3 ≤ room_1.cells ∧ slots + 18 ≤ room_1.slots) (g : ∀ (o1 : Int64) (σ1 τ1 : zSt), TW σ1 τ1 (μ + 1) → zL p l e room_1 s m args below meth c (cells + 3) (slots + 18) Q 7 D (fun q => s.heap.size ≤ q) (3543) (zLV b ad bd od n) ([]) (zLW dA ad bd od o1 σ1 τ1)) : zL p l e room_1 s m args below meth c (cells) (slots) Q 7 D (fun q => s.heap.size ≤ q) (449) (zLV b ad bd od n) ([]) (zLW dA ad bd od o σ τ) := by
  have hcs0 : cells ≤ room_1.cells ∧ slots ≤ room_1.slots := ⟨Nat.le_trans (Nat.le_add_right _ _) hcs.1, Nat.le_trans (Nat.le_add_right _ _) hcs.2⟩
  refine zn_aload_n hC.1 dL_law_449 1 rfl rfl ?_
  refine zl_X hC [] (fun hinj sz => mX11_frameCount l hinj sz (cmd_frameCount hT )) (cwV 0 hC.1.1.2.2.2.2 (uV uId u725 u726 u727 u105 u728) rfl rfl rfl (by decide +kernel) ⟨Nat.le_of_ble_eq_true rfl, Nat.le_of_ble_eq_true rfl⟩) rfl rfl (Nat.le_of_ble_eq_true rfl) hcs0 dL_law_450 (fun z σ1 hk => ?_)
  refine zn_aload_n hC.1 dL_law_453 2 rfl rfl ?_
  refine zl_M hC [] (fun hinj sz => mX12_frameCount l hinj sz hk) (cwV 0 hC.1.1.2.2.2.2 (uV uId u1793 u1794 u1795 u118 u1796) rfl rfl rfl (by decide +kernel) ⟨Nat.le_of_ble_eq_true rfl, Nat.le_of_ble_eq_true rfl⟩) rfl rfl (Nat.le_of_ble_eq_true rfl) hcs0 dL_law_454 (fun w τ1 hk2 => ?_)
  obtain ⟨rfl, hk2⟩ := hk2
  refine zn_eq_t (tgt := 3543) hC.1 dL_law_457 (by decide) ?_
  exact zn_widen (Nat.le_add_right _ _) (Nat.le_add_right _ _) (g o σ1 τ1 hk2)
theorem lb_6 (hC : zLC p m c s args meth D dA (zXX aL aG aI aK aV) b L xs) {n : Nat} {μ : Int} (hst : l.stackTraces = false) (hT : TW σ τ μ) (hm : μ < 99999) (hn : 6 * n + 5 < L) (hcs : cells + 3 ≤ room_1.cells ∧ slots + 18 ≤ room_1.slots) (g : ∀ (o1 : Int64) (σ1 τ1 : zSt), TW σ1 τ1 (μ + 1) → zL p l e room_1 s m args below meth c (cells + 3) (slots + 18) Q 7 D (fun q => s.heap.size ≤ q) (3543) (zLV b ad bd od n) ([]) (zLW dA ad bd od o1 σ1 τ1)) : zL p l e room_1 s m args below meth c (cells) (slots) Q 7 D (fun q => s.heap.size ≤ q) (462) (zLV b ad bd od n) ([]) (zLW dA ad bd od o σ τ) := by
  have hcs0 : cells ≤ room_1.cells ∧ slots ≤ room_1.slots := ⟨Nat.le_trans (Nat.le_add_right _ _) hcs.1, Nat.le_trans (Nat.le_add_right _ _) hcs.2⟩
  refine zn_aload_n hC.1 dL_law_462 1 rfl rfl ?_
  refine zl_X hC [] (fun hinj sz => mX11_controlCount l hinj sz (cmd_controlCount hT )) (cwV 0 hC.1.1.2.2.2.2 (uV uId u729 u730 u731 u105 u732) rfl rfl rfl (by decide +kernel) ⟨Nat.le_of_ble_eq_true rfl, Nat.le_of_ble_eq_true rfl⟩) rfl rfl (Nat.le_of_ble_eq_true rfl) hcs0 dL_law_463 (fun z σ1 hk => ?_)
  refine zn_aload_n hC.1 dL_law_466 2 rfl rfl ?_
  refine zl_M hC [] (fun hinj sz => mX12_controlCount l hinj sz hk) (cwV 0 hC.1.1.2.2.2.2 (uV uId u1797 u1798 u1799 u118 u1800) rfl rfl rfl (by decide +kernel) ⟨Nat.le_of_ble_eq_true rfl, Nat.le_of_ble_eq_true rfl⟩) rfl rfl (Nat.le_of_ble_eq_true rfl) hcs0 dL_law_467 (fun w τ1 hk2 => ?_)
  obtain ⟨rfl, hk2⟩ := hk2
  refine zn_eq_t (tgt := 3543) hC.1 dL_law_470 (by decide) ?_
  exact zn_widen (Nat.le_add_right _ _) (Nat.le_add_right _ _) (g o σ1 τ1 hk2)
theorem lb_7 (hC : zLC p m c s args meth D dA (zXX aL aG aI aK aV) b L xs) {n : Nat} {μ : Int} (hst : l.stackTraces = false) (hT : TW σ τ μ) (hm : μ < 99999) (hn : 6 * n + 5 < L) (hcs : cells + 3 ≤ room_1.cells ∧ slots + 18 ≤ room_1.slots) (g : ∀ (o1 : Int64) (σ1 τ1 : zSt), TW σ1 τ1 (μ + 1) → zL p l e room_1 s m args below meth c (cells + 3) (slots + 18) Q 7 D (fun q => s.heap.size ≤ q) (3543) (zLV b ad bd od n) ([]) (zLW dA ad bd od o1 σ1 τ1)) : zL p l e room_1 s m args below meth c (cells) (slots) Q 7 D (fun q => s.heap.size ≤ q) (475) (zLV b ad bd od n) ([]) (zLW dA ad bd od o σ τ) := by
  have hcs0 : cells ≤ room_1.cells ∧ slots ≤ room_1.slots := ⟨Nat.le_trans (Nat.le_add_right _ _) hcs.1, Nat.le_trans (Nat.le_add_right _ _) hcs.2⟩
  refine zn_aload_n hC.1 dL_law_475 1 rfl rfl ?_
  refine zl_X hC [] (fun hinj sz => mX11_featureCount l hinj sz (cmd_featureCount hT )) (cwV 0 hC.1.1.2.2.2.2 (uV uId u733 u734 u735 u105 u736) rfl rfl rfl (by decide +kernel) ⟨Nat.le_of_ble_eq_true rfl, Nat.le_of_ble_eq_true rfl⟩) rfl rfl (Nat.le_of_ble_eq_true rfl) hcs0 dL_law_476 (fun z σ1 hk => ?_)
  refine zn_aload_n hC.1 dL_law_479 2 rfl rfl ?_
  refine zl_M hC [] (fun hinj sz => mX12_featureCount l hinj sz hk) (cwV 0 hC.1.1.2.2.2.2 (uV uId u1801 u1802 u1803 u118 u1804) rfl rfl rfl (by decide +kernel) ⟨Nat.le_of_ble_eq_true rfl, Nat.le_of_ble_eq_true rfl⟩) rfl rfl (Nat.le_of_ble_eq_true rfl) hcs0 dL_law_480 (fun w τ1 hk2 => ?_)
  obtain ⟨rfl, hk2⟩ := hk2
  refine zn_eq_t (tgt := 3543) hC.1 dL_law_483 (by decide) ?_
  exact zn_widen (Nat.le_add_right _ _) (Nat.le_add_right _ _) (g o σ1 τ1 hk2)
theorem lb_8 (hC : zLC p m c s args meth D dA (zXX aL aG aI aK aV) b L xs) {n : Nat} {μ : Int} (hst : l.stackTraces = false) (hT : TW σ τ μ) (hm : μ < 99999) (hn : 6 * n + 5 < L) (hcs : cells + 3 ≤ room_1.cells ∧ slots + 18 ≤ room_1.slots) (g : ∀ (o1 : Int64) (σ1 τ1 : zSt), TW σ1 τ1 (μ + 1) → zL p l e room_1 s m args below meth c (cells + 3) (slots + 18) Q 7 D (fun q => s.heap.size ≤ q) (3543) (zLV b ad bd od n) ([]) (zLW dA ad bd od o1 σ1 τ1)) : zL p l e room_1 s m args below meth c (cells) (slots) Q 7 D (fun q => s.heap.size ≤ q) (488) (zLV b ad bd od n) ([]) (zLW dA ad bd od o σ τ) := by
  have hcs0 : cells ≤ room_1.cells ∧ slots ≤ room_1.slots := ⟨Nat.le_trans (Nat.le_add_right _ _) hcs.1, Nat.le_trans (Nat.le_add_right _ _) hcs.2⟩
  refine zn_aload_n hC.1 dL_law_488 1 rfl rfl ?_
  refine zl_X hC [] (fun hinj sz => mX11_stakeCount l hinj sz (cmd_stakeCount hT )) (cwV 0 hC.1.1.2.2.2.2 (uV uId u737 u738 u739 u105 u740) rfl rfl rfl (by decide +kernel) ⟨Nat.le_of_ble_eq_true rfl, Nat.le_of_ble_eq_true rfl⟩) rfl rfl (Nat.le_of_ble_eq_true rfl) hcs0 dL_law_489 (fun z σ1 hk => ?_)
  refine zn_aload_n hC.1 dL_law_492 2 rfl rfl ?_
  refine zl_M hC [] (fun hinj sz => mX12_stakeCount l hinj sz hk) (cwV 0 hC.1.1.2.2.2.2 (uV uId u1805 u1806 u1807 u118 u1808) rfl rfl rfl (by decide +kernel) ⟨Nat.le_of_ble_eq_true rfl, Nat.le_of_ble_eq_true rfl⟩) rfl rfl (Nat.le_of_ble_eq_true rfl) hcs0 dL_law_493 (fun w τ1 hk2 => ?_)
  obtain ⟨rfl, hk2⟩ := hk2
  refine zn_eq_t (tgt := 3543) hC.1 dL_law_496 (by decide) ?_
  exact zn_widen (Nat.le_add_right _ _) (Nat.le_add_right _ _) (g o σ1 τ1 hk2)
theorem lb_9 (hC : zLC p m c s args meth D dA (zXX aL aG aI aK aV) b L xs) {n : Nat} {μ : Int} (hst : l.stackTraces = false) (hT : TW σ τ μ) (hm : μ < 99999) (hn : 6 * n + 5 < L) (hcs : cells + 3 ≤ room_1.cells ∧ slots + 18 ≤ room_1.slots) (g : ∀ (o1 : Int64) (σ1 τ1 : zSt), TW σ1 τ1 (μ + 1) → zL p l e room_1 s m args below meth c (cells + 3) (slots + 18) Q 7 D (fun q => s.heap.size ≤ q) (3543) (zLV b ad bd od n) ([]) (zLW dA ad bd od o1 σ1 τ1)) : zL p l e room_1 s m args below meth c (cells) (slots) Q 7 D (fun q => s.heap.size ≤ q) (501) (zLV b ad bd od n) ([]) (zLW dA ad bd od o σ τ) := by
  have hcs0 : cells ≤ room_1.cells ∧ slots ≤ room_1.slots := ⟨Nat.le_trans (Nat.le_add_right _ _) hcs.1, Nat.le_trans (Nat.le_add_right _ _) hcs.2⟩
  refine zn_aload_n hC.1 dL_law_501 1 rfl rfl ?_
  refine zl_arg hC (n := n) 1 (by omega) 0 4 rfl rfl rfl dL_law_502 dL_law_503 dL_law_505 dL_law_506 dL_law_507 ?_
  refine zl_X hC [vI (sc xs (6 * n + 1))] (fun hinj sz => mX11_getSetting l hinj sz (cmd_getSetting hT (sc_rg xs (6 * n + 1)))) (cwV 1 hC.1.1.2.2.2.2 (uV uId u741 u742 u743 u105 u744) rfl rfl rfl (by decide +kernel) ⟨Nat.le_of_ble_eq_true rfl, Nat.le_of_ble_eq_true rfl⟩) rfl rfl (Nat.le_of_ble_eq_true rfl) hcs0 dL_law_508 (fun z σ1 hk => ?_)
  refine zn_aload_n hC.1 dL_law_511 2 rfl rfl ?_
  refine zl_arg hC (n := n) 1 (by omega) 0 4 rfl rfl rfl dL_law_512 dL_law_513 dL_law_515 dL_law_516 dL_law_517 ?_
  refine zl_M hC [vI (sc xs (6 * n + 1))] (fun hinj sz => mX12_getSetting l hinj sz hk) (cwV 1 hC.1.1.2.2.2.2 (uV uId u1809 u1810 u1811 u118 u1812) rfl rfl rfl (by decide +kernel) ⟨Nat.le_of_ble_eq_true rfl, Nat.le_of_ble_eq_true rfl⟩) rfl rfl (Nat.le_of_ble_eq_true rfl) hcs0 dL_law_518 (fun w τ1 hk2 => ?_)
  obtain ⟨rfl, hk2⟩ := hk2
  refine zn_eq_t (tgt := 3543) hC.1 dL_law_521 (by decide) ?_
  exact zn_widen (Nat.le_add_right _ _) (Nat.le_add_right _ _) (g o σ1 τ1 hk2)
theorem lb_10 (hC : zLC p m c s args meth D dA (zXX aL aG aI aK aV) b L xs) {n : Nat} {μ : Int} (hst : l.stackTraces = false) (hT : TW σ τ μ) (hm : μ < 99999) (hn : 6 * n + 5 < L) (hcs : cells + 3 ≤ room_1.cells ∧ slots + 18 ≤ room_1.slots) (g : ∀ (o1 : Int64) (σ1 τ1 : zSt), TW σ1 τ1 (μ + 1) → zL p l e room_1 s m args below meth c (cells + 3) (slots + 18) Q 7 D (fun q => s.heap.size ≤ q) (3543) (zLV b ad bd od n) ([]) (zLW dA ad bd od o1 σ1 τ1)) : zL p l e room_1 s m args below meth c (cells) (slots) Q 7 D (fun q => s.heap.size ≤ q) (526) (zLV b ad bd od n) ([]) (zLW dA ad bd od o σ τ) := by
  have hcs0 : cells ≤ room_1.cells ∧ slots ≤ room_1.slots := ⟨Nat.le_trans (Nat.le_add_right _ _) hcs.1, Nat.le_trans (Nat.le_add_right _ _) hcs.2⟩
  refine zn_aload_n hC.1 dL_law_526 1 rfl rfl ?_
  refine zl_arg hC (n := n) 1 (by omega) 0 4 rfl rfl rfl dL_law_527 dL_law_528 dL_law_530 dL_law_531 dL_law_532 ?_
  refine zl_arg hC (n := n) 2 (by omega) 0 4 rfl rfl rfl dL_law_533 dL_law_534 dL_law_536 dL_law_537 dL_law_538 ?_
  refine zl_X hC [vI (sc xs (6 * n + 1)), vI (sc xs (6 * n + 2))] (fun hinj sz => mX11_setSetting l hinj sz (cmd_setSetting hT hm (sc_rg xs (6 * n + 1)) (sc_rg xs (6 * n + 2)))) (cwV 2 hC.1.1.2.2.2.2 (uV uId u746 u747 u748 u105 u749) rfl rfl rfl (by decide +kernel) ⟨Nat.le_of_ble_eq_true rfl, Nat.le_of_ble_eq_true rfl⟩) rfl rfl (Nat.le_of_ble_eq_true rfl) hcs0 dL_law_539 (fun z σ1 hk => ?_)
  refine zn_aload_n hC.1 dL_law_542 2 rfl rfl ?_
  refine zl_arg hC (n := n) 1 (by omega) 0 4 rfl rfl rfl dL_law_543 dL_law_544 dL_law_546 dL_law_547 dL_law_548 ?_
  refine zl_arg hC (n := n) 2 (by omega) 0 4 rfl rfl rfl dL_law_549 dL_law_550 dL_law_552 dL_law_553 dL_law_554 ?_
  refine zl_M hC [vI (sc xs (6 * n + 1)), vI (sc xs (6 * n + 2))] (fun hinj sz => mX12_setSetting l hinj sz hk) (cwV 2 hC.1.1.2.2.2.2 (uV uId u1817 u1818 u1819 u118 u1820) rfl rfl rfl (by decide +kernel) ⟨Nat.le_of_ble_eq_true rfl, Nat.le_of_ble_eq_true rfl⟩) rfl rfl (Nat.le_of_ble_eq_true rfl) hcs0 dL_law_555 (fun w τ1 hk2 => ?_)
  obtain ⟨rfl, hk2⟩ := hk2
  refine zn_eq_t (tgt := 3543) hC.1 dL_law_558 (by decide) ?_
  exact zn_widen (Nat.le_add_right _ _) (Nat.le_add_right _ _) (g o σ1 τ1 hk2)
theorem lb_11 (hC : zLC p m c s args meth D dA (zXX aL aG aI aK aV) b L xs) {n : Nat} {μ : Int} (hst : l.stackTraces = false) (hT : TW σ τ μ) (hm : μ < 99999) (hn : 6 * n + 5 < L) (hcs : cells + 3 ≤ room_1.cells ∧ slots + 18 ≤ room_1.slots) (g : ∀ (o1 : Int64) (σ1 τ1 : zSt), TW σ1 τ1 (μ + 1) → zL p l e room_1 s m args below meth c (cells + 3) (slots + 18) Q 7 D (fun q => s.heap.size ≤ q) (3543) (zLV b ad bd od n) ([]) (zLW dA ad bd od o1 σ1 τ1)) : zL p l e room_1 s m args below meth c (cells) (slots) Q 7 D (fun q => s.heap.size ≤ q) (563) (zLV b ad bd od n) ([]) (zLW dA ad bd od o σ τ) := by
  have hcs0 : cells ≤ room_1.cells ∧ slots ≤ room_1.slots := ⟨Nat.le_trans (Nat.le_add_right _ _) hcs.1, Nat.le_trans (Nat.le_add_right _ _) hcs.2⟩
  refine zn_aload_n hC.1 dL_law_563 1 rfl rfl ?_
  refine zl_arg hC (n := n) 1 (by omega) 0 4 rfl rfl rfl dL_law_564 dL_law_565 dL_law_567 dL_law_568 dL_law_569 ?_
  refine zn_aload_n hC.1 dL_law_570 3 rfl rfl ?_
  refine zl_H hC (G := fun z o1 σ1 => (∃ v : Int, z = 0 ∧ o1 = (Int32.ofInt v).toInt64 ∧ cE (μ + 1) (fun K => fX12_frameDay K τ (sc xs (6 * n + 1))) v σ1) ∨ ∃ k : Int, z = k ∧ (k = 1 ∨ k = 2) ∧ fX12_frameDay (fun _ τ1 => τ1 0 4 = k ∧ TW σ1 τ1 (μ + 1)) τ (sc xs (6 * n + 1))) [vI (sc xs (6 * n + 1)), .ref od] (fun sz => cH_frameDay l hst D dA aL aG aI aK aV ad od sz σ o (cmd_frameDay hT (sc_rg xs (6 * n + 1))) (fun v σ1 hk => Or.inl ⟨v, rfl, rfl, hk⟩) (fun E σ1 hk => ⟨hk.1, Or.inr ⟨1, rfl, Or.inl rfl, hk.2⟩⟩)) (vx_cwSW 3 hC.1.1.2.2.2.2 (uSW uId u1053 u1054 u104 uh_frameDay) rfl rfl rfl (by decide +kernel) ⟨Nat.le_of_ble_eq_true rfl, Nat.le_of_ble_eq_true rfl⟩) rfl rfl (Nat.le_of_ble_eq_true rfl) ⟨Nat.le_trans (Nat.add_le_add_left (by decide) cells) hcs.1, Nat.le_trans (Nat.add_le_add_left (by decide) slots) hcs.2⟩ dL_law_571 (fun z o1 σ1 hk => ?_)
  have hcs1 : cells + 1 ≤ room_1.cells ∧ slots + 6 ≤ room_1.slots := ⟨Nat.le_trans (Nat.add_le_add_left (by decide) cells) hcs.1, Nat.le_trans (Nat.add_le_add_left (by decide) slots) hcs.2⟩
  refine zn_istore hC.1 ((5, vI z) :: zLV b ad bd od n) dL_law_574 (by decide) rfl ?_
  refine zn_aload_n hC.1 dL_law_576 3 rfl rfl ?_
  refine zl_arg hC (n := n) 1 (by omega) 1 5 rfl rfl rfl dL_law_577 dL_law_578 dL_law_580 dL_law_581 dL_law_582 ?_
  rcases hk with ⟨v, rfl, rfl, hk⟩ | ⟨k, rfl, hk1, hk⟩
  · refine zl_M hC [vI (sc xs (6 * n + 1))] (fun hinj sz => mX12_frameDay l hinj sz hk) (cwV 1 hC.1.1.2.2.2.2 (uV uId u1825 u1826 u1827 u118 u1828) rfl rfl rfl (by decide +kernel) ⟨Nat.le_of_ble_eq_true rfl, Nat.le_of_ble_eq_true rfl⟩) rfl rfl (Nat.le_of_ble_eq_true rfl) hcs1 dL_law_583 (fun w τ1 hk2 => ?_)
    obtain ⟨h4, rfl, hk2⟩ := hk2
    refine zl_tailI hC dL_law_586 dL_law_588 dL_law_589 dL_law_592 dL_law_594 dL_law_599 dL_law_601 dL_law_604 dL_law_605 dL_law_606 dL_law_607 dL_law_609 dL_law_610 dL_law_611 dL_law_616 (by decide) hcs1 h4 (Or.inl ⟨rfl, rfl⟩) ?_
    exact zn_widen (Nat.add_le_add_left (by decide) cells) (Nat.add_le_add_left (by decide) slots) (g _ σ1 τ1 hk2)
  · refine zl_M hC [vI (sc xs (6 * n + 1))] (fun hinj sz => mX12_frameDay l hinj sz hk) (cwV 1 hC.1.1.2.2.2.2 (uV uId u1825 u1826 u1827 u118 u1828) rfl rfl rfl (by decide +kernel) ⟨Nat.le_of_ble_eq_true rfl, Nat.le_of_ble_eq_true rfl⟩) rfl rfl (Nat.le_of_ble_eq_true rfl) hcs1 dL_law_583 (fun w τ1 hk2 => ?_)
    obtain ⟨h4, hk2⟩ := hk2
    refine zl_tailI hC dL_law_586 dL_law_588 dL_law_589 dL_law_592 dL_law_594 dL_law_599 dL_law_601 dL_law_604 dL_law_605 dL_law_606 dL_law_607 dL_law_609 dL_law_610 dL_law_611 dL_law_616 (by decide) hcs1 h4 (Or.inr hk1) ?_
    exact zn_widen (Nat.add_le_add_left (by decide) cells) (Nat.add_le_add_left (by decide) slots) (g _ σ1 τ1 hk2)
theorem lb_12 (hC : zLC p m c s args meth D dA (zXX aL aG aI aK aV) b L xs) {n : Nat} {μ : Int} (hst : l.stackTraces = false) (hT : TW σ τ μ) (hm : μ < 99999) (hn : 6 * n + 5 < L) (hcs : cells + 3 ≤ room_1.cells ∧ slots + 18 ≤ room_1.slots) (g : ∀ (o1 : Int64) (σ1 τ1 : zSt), TW σ1 τ1 (μ + 1) → zL p l e room_1 s m args below meth c (cells + 3) (slots + 18) Q 7 D (fun q => s.heap.size ≤ q) (3543) (zLV b ad bd od n) ([]) (zLW dA ad bd od o1 σ1 τ1)) : zL p l e room_1 s m args below meth c (cells) (slots) Q 7 D (fun q => s.heap.size ≤ q) (619) (zLV b ad bd od n) ([]) (zLW dA ad bd od o σ τ) := by
  have hcs0 : cells ≤ room_1.cells ∧ slots ≤ room_1.slots := ⟨Nat.le_trans (Nat.le_add_right _ _) hcs.1, Nat.le_trans (Nat.le_add_right _ _) hcs.2⟩
  refine zn_aload_n hC.1 dL_law_619 1 rfl rfl ?_
  refine zl_arg hC (n := n) 1 (by omega) 0 4 rfl rfl rfl dL_law_620 dL_law_621 dL_law_623 dL_law_624 dL_law_625 ?_
  refine zl_arg hC (n := n) 2 (by omega) 0 4 rfl rfl rfl dL_law_626 dL_law_627 dL_law_629 dL_law_630 dL_law_631 ?_
  refine zl_arg hC (n := n) 3 (by omega) 0 4 rfl rfl rfl dL_law_632 dL_law_633 dL_law_635 dL_law_636 dL_law_637 ?_
  refine zn_aload_n hC.1 dL_law_638 3 rfl rfl ?_
  refine zl_H hC (G := fun z o1 σ1 => (∃ v : Int, z = 0 ∧ o1 = (Int32.ofInt v).toInt64 ∧ cE (μ + 1) (fun K => fX12_pixel K τ (sc xs (6 * n + 1)) (sc xs (6 * n + 2)) (sc xs (6 * n + 3))) v σ1) ∨ ∃ k : Int, z = k ∧ (k = 1 ∨ k = 2) ∧ fX12_pixel (fun _ τ1 => τ1 0 4 = k ∧ TW σ1 τ1 (μ + 1)) τ (sc xs (6 * n + 1)) (sc xs (6 * n + 2)) (sc xs (6 * n + 3))) [vI (sc xs (6 * n + 1)), vI (sc xs (6 * n + 2)), vI (sc xs (6 * n + 3)), .ref od] (fun sz => cH_pixel l hst D dA aL aG aI aK aV ad od sz σ o (cmd_pixel hT (sc_rg xs (6 * n + 1)) (sc_rg xs (6 * n + 2)) (sc_rg xs (6 * n + 3))) (fun v σ1 hk => Or.inl ⟨v, rfl, rfl, hk⟩) (fun E σ1 hk => ⟨hk.1, Or.inr ⟨1, rfl, Or.inl rfl, hk.2⟩⟩)) (vx_cwSW 5 hC.1.1.2.2.2.2 (uSW uId u1131 u1132 u104 uh_pixel) rfl rfl rfl (by decide +kernel) ⟨Nat.le_of_ble_eq_true rfl, Nat.le_of_ble_eq_true rfl⟩) rfl rfl (Nat.le_of_ble_eq_true rfl) ⟨Nat.le_trans (Nat.add_le_add_left (by decide) cells) hcs.1, Nat.le_trans (Nat.add_le_add_left (by decide) slots) hcs.2⟩ dL_law_639 (fun z o1 σ1 hk => ?_)
  have hcs1 : cells + 2 ≤ room_1.cells ∧ slots + 12 ≤ room_1.slots := ⟨Nat.le_trans (Nat.add_le_add_left (by decide) cells) hcs.1, Nat.le_trans (Nat.add_le_add_left (by decide) slots) hcs.2⟩
  refine zn_istore hC.1 ((5, vI z) :: zLV b ad bd od n) dL_law_642 (by decide) rfl ?_
  refine zn_aload_n hC.1 dL_law_644 3 rfl rfl ?_
  refine zl_arg hC (n := n) 1 (by omega) 1 5 rfl rfl rfl dL_law_645 dL_law_646 dL_law_648 dL_law_649 dL_law_650 ?_
  refine zl_arg hC (n := n) 2 (by omega) 1 5 rfl rfl rfl dL_law_651 dL_law_652 dL_law_654 dL_law_655 dL_law_656 ?_
  refine zl_arg hC (n := n) 3 (by omega) 1 5 rfl rfl rfl dL_law_657 dL_law_658 dL_law_660 dL_law_661 dL_law_662 ?_
  rcases hk with ⟨v, rfl, rfl, hk⟩ | ⟨k, rfl, hk1, hk⟩
  · refine zl_M hC [vI (sc xs (6 * n + 1)), vI (sc xs (6 * n + 2)), vI (sc xs (6 * n + 3))] (fun hinj sz => mX12_pixel l hinj sz hk) (cwV 3 hC.1.1.2.2.2.2 (uV uId u1841 u1842 u1843 u118 u1844) rfl rfl rfl (by decide +kernel) ⟨Nat.le_of_ble_eq_true rfl, Nat.le_of_ble_eq_true rfl⟩) rfl rfl (Nat.le_of_ble_eq_true rfl) hcs1 dL_law_663 (fun w τ1 hk2 => ?_)
    obtain ⟨h4, rfl, hk2⟩ := hk2
    refine zl_tailI hC dL_law_666 dL_law_668 dL_law_669 dL_law_672 dL_law_674 dL_law_679 dL_law_681 dL_law_684 dL_law_685 dL_law_686 dL_law_687 dL_law_689 dL_law_690 dL_law_691 dL_law_696 (by decide) hcs1 h4 (Or.inl ⟨rfl, rfl⟩) ?_
    exact zn_widen (Nat.add_le_add_left (by decide) cells) (Nat.add_le_add_left (by decide) slots) (g _ σ1 τ1 hk2)
  · refine zl_M hC [vI (sc xs (6 * n + 1)), vI (sc xs (6 * n + 2)), vI (sc xs (6 * n + 3))] (fun hinj sz => mX12_pixel l hinj sz hk) (cwV 3 hC.1.1.2.2.2.2 (uV uId u1841 u1842 u1843 u118 u1844) rfl rfl rfl (by decide +kernel) ⟨Nat.le_of_ble_eq_true rfl, Nat.le_of_ble_eq_true rfl⟩) rfl rfl (Nat.le_of_ble_eq_true rfl) hcs1 dL_law_663 (fun w τ1 hk2 => ?_)
    obtain ⟨h4, hk2⟩ := hk2
    refine zl_tailI hC dL_law_666 dL_law_668 dL_law_669 dL_law_672 dL_law_674 dL_law_679 dL_law_681 dL_law_684 dL_law_685 dL_law_686 dL_law_687 dL_law_689 dL_law_690 dL_law_691 dL_law_696 (by decide) hcs1 h4 (Or.inr hk1) ?_
    exact zn_widen (Nat.add_le_add_left (by decide) cells) (Nat.add_le_add_left (by decide) slots) (g _ σ1 τ1 hk2)
theorem lb_13 (hC : zLC p m c s args meth D dA (zXX aL aG aI aK aV) b L xs) {n : Nat} {μ : Int} (hst : l.stackTraces = false) (hT : TW σ τ μ) (hm : μ < 99999) (hn : 6 * n + 5 < L) (hcs : cells + 3 ≤ room_1.cells ∧ slots + 18 ≤ room_1.slots) (g : ∀ (o1 : Int64) (σ1 τ1 : zSt), TW σ1 τ1 (μ + 1) → zL p l e room_1 s m args below meth c (cells + 3) (slots + 18) Q 7 D (fun q => s.heap.size ≤ q) (3543) (zLV b ad bd od n) ([]) (zLW dA ad bd od o1 σ1 τ1)) : zL p l e room_1 s m args below meth c (cells) (slots) Q 7 D (fun q => s.heap.size ≤ q) (699) (zLV b ad bd od n) ([]) (zLW dA ad bd od o σ τ) := by
  have hcs0 : cells ≤ room_1.cells ∧ slots ≤ room_1.slots := ⟨Nat.le_trans (Nat.le_add_right _ _) hcs.1, Nat.le_trans (Nat.le_add_right _ _) hcs.2⟩
  refine zn_aload_n hC.1 dL_law_699 1 rfl rfl ?_
  refine zl_arg hC (n := n) 1 (by omega) 0 4 rfl rfl rfl dL_law_700 dL_law_701 dL_law_703 dL_law_704 dL_law_705 ?_
  refine zl_arg hC (n := n) 2 (by omega) 0 4 rfl rfl rfl dL_law_706 dL_law_707 dL_law_709 dL_law_710 dL_law_711 ?_
  refine zl_arg hC (n := n) 3 (by omega) 0 4 rfl rfl rfl dL_law_712 dL_law_713 dL_law_715 dL_law_716 dL_law_717 ?_
  refine zl_arg hC (n := n) 4 (by omega) 0 4 rfl rfl rfl dL_law_718 dL_law_719 dL_law_721 dL_law_722 dL_law_723 ?_
  refine zl_X hC [vI (sc xs (6 * n + 1)), vI (sc xs (6 * n + 2)), vI (sc xs (6 * n + 3)), vI (sc xs (6 * n + 4))] (fun hinj sz => mX11_setPixel l hinj sz (cmd_setPixel hT hm (sc_rg xs (6 * n + 1)) (sc_rg xs (6 * n + 2)) (sc_rg xs (6 * n + 3)) (sc_rg xs (6 * n + 4)))) (cwV 4 hC.1.1.2.2.2.2 (uV uId u768 u769 u770 u105 u771) rfl rfl rfl (by decide +kernel) ⟨Nat.le_of_ble_eq_true rfl, Nat.le_of_ble_eq_true rfl⟩) rfl rfl (Nat.le_of_ble_eq_true rfl) hcs0 dL_law_724 (fun z σ1 hk => ?_)
  refine zn_aload_n hC.1 dL_law_727 2 rfl rfl ?_
  refine zl_arg hC (n := n) 1 (by omega) 0 4 rfl rfl rfl dL_law_728 dL_law_729 dL_law_731 dL_law_732 dL_law_733 ?_
  refine zl_arg hC (n := n) 2 (by omega) 0 4 rfl rfl rfl dL_law_734 dL_law_735 dL_law_737 dL_law_738 dL_law_739 ?_
  refine zl_arg hC (n := n) 3 (by omega) 0 4 rfl rfl rfl dL_law_740 dL_law_741 dL_law_743 dL_law_744 dL_law_745 ?_
  refine zl_arg hC (n := n) 4 (by omega) 0 4 rfl rfl rfl dL_law_746 dL_law_747 dL_law_749 dL_law_750 dL_law_751 ?_
  refine zl_M hC [vI (sc xs (6 * n + 1)), vI (sc xs (6 * n + 2)), vI (sc xs (6 * n + 3)), vI (sc xs (6 * n + 4))] (fun hinj sz => mX12_setPixel l hinj sz hk) (cwV 4 hC.1.1.2.2.2.2 (uV uId u1853 u1854 u1855 u118 u1856) rfl rfl rfl (by decide +kernel) ⟨Nat.le_of_ble_eq_true rfl, Nat.le_of_ble_eq_true rfl⟩) rfl rfl (Nat.le_of_ble_eq_true rfl) hcs0 dL_law_752 (fun w τ1 hk2 => ?_)
  obtain ⟨rfl, hk2⟩ := hk2
  refine zn_eq_t (tgt := 3543) hC.1 dL_law_755 (by decide) ?_
  exact zn_widen (Nat.le_add_right _ _) (Nat.le_add_right _ _) (g o σ1 τ1 hk2)
theorem lb_14 (hC : zLC p m c s args meth D dA (zXX aL aG aI aK aV) b L xs) {n : Nat} {μ : Int} (hst : l.stackTraces = false) (hT : TW σ τ μ) (hm : μ < 99999) (hn : 6 * n + 5 < L) (hcs : cells + 3 ≤ room_1.cells ∧ slots + 18 ≤ room_1.slots) (g : ∀ (o1 : Int64) (σ1 τ1 : zSt), TW σ1 τ1 (μ + 1) → zL p l e room_1 s m args below meth c (cells + 3) (slots + 18) Q 7 D (fun q => s.heap.size ≤ q) (3543) (zLV b ad bd od n) ([]) (zLW dA ad bd od o1 σ1 τ1)) : zL p l e room_1 s m args below meth c (cells) (slots) Q 7 D (fun q => s.heap.size ≤ q) (760) (zLV b ad bd od n) ([]) (zLW dA ad bd od o σ τ) := by
  have hcs0 : cells ≤ room_1.cells ∧ slots ≤ room_1.slots := ⟨Nat.le_trans (Nat.le_add_right _ _) hcs.1, Nat.le_trans (Nat.le_add_right _ _) hcs.2⟩
  refine zn_aload_n hC.1 dL_law_760 1 rfl rfl ?_
  refine zl_arg hC (n := n) 1 (by omega) 0 4 rfl rfl rfl dL_law_761 dL_law_762 dL_law_764 dL_law_765 dL_law_766 ?_
  refine zl_X hC [vI (sc xs (6 * n + 1))] (fun hinj sz => mX11_removeFrame l hinj sz (cmd_removeFrame hT hm (sc_rg xs (6 * n + 1)))) (cwV 1 hC.1.1.2.2.2.2 (uV uId u779 u780 u781 u105 u782) rfl rfl rfl (by decide +kernel) ⟨Nat.le_of_ble_eq_true rfl, Nat.le_of_ble_eq_true rfl⟩) rfl rfl (Nat.le_of_ble_eq_true rfl) hcs0 dL_law_767 (fun z σ1 hk => ?_)
  refine zn_aload_n hC.1 dL_law_770 2 rfl rfl ?_
  refine zl_arg hC (n := n) 1 (by omega) 0 4 rfl rfl rfl dL_law_771 dL_law_772 dL_law_774 dL_law_775 dL_law_776 ?_
  refine zl_M hC [vI (sc xs (6 * n + 1))] (fun hinj sz => mX12_removeFrame l hinj sz hk) (cwV 1 hC.1.1.2.2.2.2 (uV uId u1857 u1858 u1859 u118 u1860) rfl rfl rfl (by decide +kernel) ⟨Nat.le_of_ble_eq_true rfl, Nat.le_of_ble_eq_true rfl⟩) rfl rfl (Nat.le_of_ble_eq_true rfl) hcs0 dL_law_777 (fun w τ1 hk2 => ?_)
  obtain ⟨rfl, hk2⟩ := hk2
  refine zn_eq_t (tgt := 3543) hC.1 dL_law_780 (by decide) ?_
  exact zn_widen (Nat.le_add_right _ _) (Nat.le_add_right _ _) (g o σ1 τ1 hk2)
theorem lb_15 (hC : zLC p m c s args meth D dA (zXX aL aG aI aK aV) b L xs) {n : Nat} {μ : Int} (hst : l.stackTraces = false) (hT : TW σ τ μ) (hm : μ < 99999) (hn : 6 * n + 5 < L) (hcs : cells + 3 ≤ room_1.cells ∧ slots + 18 ≤ room_1.slots) (g : ∀ (o1 : Int64) (σ1 τ1 : zSt), TW σ1 τ1 (μ + 1) → zL p l e room_1 s m args below meth c (cells + 3) (slots + 18) Q 7 D (fun q => s.heap.size ≤ q) (3543) (zLV b ad bd od n) ([]) (zLW dA ad bd od o1 σ1 τ1)) : zL p l e room_1 s m args below meth c (cells) (slots) Q 7 D (fun q => s.heap.size ≤ q) (785) (zLV b ad bd od n) ([]) (zLW dA ad bd od o σ τ) := by
  have hcs0 : cells ≤ room_1.cells ∧ slots ≤ room_1.slots := ⟨Nat.le_trans (Nat.le_add_right _ _) hcs.1, Nat.le_trans (Nat.le_add_right _ _) hcs.2⟩
  refine zn_aload_n hC.1 dL_law_785 1 rfl rfl ?_
  refine zl_arg hC (n := n) 1 (by omega) 0 4 rfl rfl rfl dL_law_786 dL_law_787 dL_law_789 dL_law_790 dL_law_791 ?_
  refine zn_aload_n hC.1 dL_law_792 3 rfl rfl ?_
  refine zl_H hC (G := fun z o1 σ1 => (∃ v : Int, z = 0 ∧ o1 = (Int32.ofInt v).toInt64 ∧ cE (μ + 1) (fun K => fX12_contrast K τ (sc xs (6 * n + 1))) v σ1) ∨ ∃ k : Int, z = k ∧ (k = 1 ∨ k = 2) ∧ fX12_contrast (fun _ τ1 => τ1 0 4 = k ∧ TW σ1 τ1 (μ + 1)) τ (sc xs (6 * n + 1))) [vI (sc xs (6 * n + 1)), .ref od] (fun sz => cH_contrast l hst D dA aL aG aI aK aV ad od sz σ o (cmd_contrast hT (sc_rg xs (6 * n + 1))) (fun v σ1 hk => Or.inl ⟨v, rfl, rfl, hk⟩) (fun E σ1 hk => ⟨hk.1, Or.inr ⟨1, rfl, Or.inl rfl, hk.2⟩⟩)) (vx_cwSW 3 hC.1.1.2.2.2.2 (uSW uId u1143 u1144 u104 uh_contrast) rfl rfl rfl (by decide +kernel) ⟨Nat.le_of_ble_eq_true rfl, Nat.le_of_ble_eq_true rfl⟩) rfl rfl (Nat.le_of_ble_eq_true rfl) ⟨Nat.le_trans (Nat.add_le_add_left (by decide) cells) hcs.1, Nat.le_trans (Nat.add_le_add_left (by decide) slots) hcs.2⟩ dL_law_793 (fun z o1 σ1 hk => ?_)
  have hcs1 : cells + 1 ≤ room_1.cells ∧ slots + 6 ≤ room_1.slots := ⟨Nat.le_trans (Nat.add_le_add_left (by decide) cells) hcs.1, Nat.le_trans (Nat.add_le_add_left (by decide) slots) hcs.2⟩
  refine zn_istore hC.1 ((5, vI z) :: zLV b ad bd od n) dL_law_796 (by decide) rfl ?_
  refine zn_aload_n hC.1 dL_law_798 3 rfl rfl ?_
  refine zl_arg hC (n := n) 1 (by omega) 1 5 rfl rfl rfl dL_law_799 dL_law_800 dL_law_802 dL_law_803 dL_law_804 ?_
  rcases hk with ⟨v, rfl, rfl, hk⟩ | ⟨k, rfl, hk1, hk⟩
  · refine zl_M hC [vI (sc xs (6 * n + 1))] (fun hinj sz => mX12_contrast l hinj sz hk) (cwV 1 hC.1.1.2.2.2.2 (uV uId u1869 u1870 u1871 u118 u1872) rfl rfl rfl (by decide +kernel) ⟨Nat.le_of_ble_eq_true rfl, Nat.le_of_ble_eq_true rfl⟩) rfl rfl (Nat.le_of_ble_eq_true rfl) hcs1 dL_law_805 (fun w τ1 hk2 => ?_)
    obtain ⟨h4, rfl, hk2⟩ := hk2
    refine zl_tailI hC dL_law_808 dL_law_810 dL_law_811 dL_law_814 dL_law_816 dL_law_821 dL_law_823 dL_law_826 dL_law_827 dL_law_828 dL_law_829 dL_law_831 dL_law_832 dL_law_833 dL_law_838 (by decide) hcs1 h4 (Or.inl ⟨rfl, rfl⟩) ?_
    exact zn_widen (Nat.add_le_add_left (by decide) cells) (Nat.add_le_add_left (by decide) slots) (g _ σ1 τ1 hk2)
  · refine zl_M hC [vI (sc xs (6 * n + 1))] (fun hinj sz => mX12_contrast l hinj sz hk) (cwV 1 hC.1.1.2.2.2.2 (uV uId u1869 u1870 u1871 u118 u1872) rfl rfl rfl (by decide +kernel) ⟨Nat.le_of_ble_eq_true rfl, Nat.le_of_ble_eq_true rfl⟩) rfl rfl (Nat.le_of_ble_eq_true rfl) hcs1 dL_law_805 (fun w τ1 hk2 => ?_)
    obtain ⟨h4, hk2⟩ := hk2
    refine zl_tailI hC dL_law_808 dL_law_810 dL_law_811 dL_law_814 dL_law_816 dL_law_821 dL_law_823 dL_law_826 dL_law_827 dL_law_828 dL_law_829 dL_law_831 dL_law_832 dL_law_833 dL_law_838 (by decide) hcs1 h4 (Or.inr hk1) ?_
    exact zn_widen (Nat.add_le_add_left (by decide) cells) (Nat.add_le_add_left (by decide) slots) (g _ σ1 τ1 hk2)
end ZLD0
