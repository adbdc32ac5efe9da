/-! the constructors of journal, scene, loader -/
set_option maxHeartbeats 600000 in
set_option maxRecDepth 20000 in
theorem cI3 (l : Launch) : zIM l yX3_init (Cond.code yX3_init cX3_init 2 none :: UW) ({ frames := 2, cells := 11, slots := 60, locals := 33 } : Room) 11 60 3 [vI 0, vI 0, .null] [] (tI3) := by
  refine zI_enter (cc := cX3_init) (maxL := 2) (plainFor_of_name (by decide)) rfl (fun _ => Nat.le_of_ble_eq_true rfl) ?_
  intro p e s m args below meth c D dA aL aG aI aK aV a hC hin hr
  refine zn_aload_n hC dX3_init_0 0 rfl rfl ?_
  refine zn_obj hC (uT _ _ u322) (uT _ _ u134) (uT _ _ u135) (Nat.le_of_ble_eq_true rfl) (Nat.le_of_ble_eq_true rfl) dX3_init_1 ?_
  refine zn_aload_n hC dX3_init_4 0 rfl rfl ?_
  refine zn_iconst hC dX3_init_5 ?_
  refine zn_put (ci := 3) hC (fun w h => uT _ w (uL3 w h)) tyX3 tyX3_ok nmX3 0 rfl rfl 0 (by decide) (uT _ _ u351) (fun _ h => h) rfl rfl rfl rfl (Nat.le_of_ble_eq_true rfl) dX3_init_6 ?_
  show zL p l e _ s m args below meth c 0 0 _ _ D _ 9 [(0, .ref a)] [] ((a, .inr (3, [vI 0, vI 0, .null])) :: [])
  refine zn_aload_n hC dX3_init_9 0 rfl rfl ?_
  refine zn_iconst hC dX3_init_10 ?_
  refine zn_put (ci := 3) hC (fun w h => uT _ w (uL3 w h)) tyX3 tyX3_ok nmX3 0 rfl rfl 1 (by decide) (uT _ _ u353) (fun _ h => h) rfl rfl rfl rfl (Nat.le_of_ble_eq_true rfl) dX3_init_11 ?_
  show zL p l e _ s m args below meth c 0 0 _ _ D _ 14 [(0, .ref a)] [] ((a, .inr (3, [vI 0, vI 0, .null])) :: [])
  refine zn_aload_n hC dX3_init_14 0 rfl rfl ?_
  refine zn_bipush hC dX3_init_15 (by decide) ?_
  refine zn_newq (C := "GlacierCamera$Change") (k := 3) (cB := dA 3) (N' := 10) hC (by decide) (uT _ _ u323) rfl (by decide) rfl (by decide) ⟨Nat.le_of_ble_eq_true rfl, Nat.le_of_ble_eq_true rfl⟩ dX3_init_17 (fun q1 => ?_)
  refine zn_perm (List.Perm.swap _ _ _) ?_
  show zL p l e _ s m args below meth c 1 10 _ _ D _ 20 [(0, .ref a)] [.ref q1, .ref a] ((a, .inr (3, [vI 0, vI 0, .null])) :: (q1, .inl (dA 3, 10, .inr (.inr (.inr (.inr (fun _ => none)))))) :: [])
  refine zn_putF (ci := 3) hC (fun w h => uT _ w (uL3 w h)) tyX3 tyX3_ok nmX3 0 rfl rfl 2 (by decide) (uT _ _ u354) (fun _ h => h) rfl hin rfl rfl rfl rfl (Nat.le_of_ble_eq_true rfl) dX3_init_20 ?_
  show zL p l e _ s m args below meth c 1 10 _ _ D _ 23 [(0, .ref a)] [] ((a, .inr (3, [vI 0, vI 0, .ref q1])) :: (q1, .inl (dA 3, 10, .inr (.inr (.inr (.inr (fun _ => none)))))) :: [])
  refine zn_iconst hC dX3_init_23 ?_
  refine zn_istore_n hC [(1, vI 0), (0, .ref a)] dX3_init_24 rfl (by decide) rfl ?_
  refine zn_iload_n hC dX3_init_25 0 rfl rfl ?_
  refine zn_bipush hC dX3_init_26 (by decide) ?_
  refine zn_ge_f (tgt := 50) hC dX3_init_28 (by decide) (by decide) (by decide) (by decide) ?_
  refine zn_aload_n hC dX3_init_31 1 rfl rfl ?_
  refine zn_get (ci := 3) hC (fun w h => uT _ w (uL3 w h)) 0 rfl rfl 2 (by decide) (uT _ _ u354) (fun _ h => h) rfl dX3_init_32 ?_
  refine zn_iload_n hC dX3_init_35 0 rfl rfl ?_
  refine zn_new (ci := 0) hC (fun w h => uT _ w (uL0 w h)) tyX0 tyX0_ok (uT _ _ u323) (uT _ _ ui_RX0) (uT _ _ u114) rfl [vI 0, vI 0, vI 0, vI 0, vI 0] (fun j hj => by rcases (show j = 0 ∨ j = 1 ∨ j = 2 ∨ j = 3 ∨ j = 4 by omega) with rfl | rfl | rfl | rfl | rfl <;> rfl) ⟨Nat.le_of_ble_eq_true rfl, Nat.le_of_ble_eq_true rfl⟩ dX3_init_36 (fun q2 => ?_)
  show zL p l e _ s m args below meth c 2 15 _ _ D _ 39 [(1, vI 0), (0, .ref a)] [.ref q2, vI 0, .ref q1] ((q2, .inr (0, [vI 0, vI 0, vI 0, vI 0, vI 0])) :: (a, .inr (3, [vI 0, vI 0, .ref q1])) :: (q1, .inl (dA 3, 10, .inr (.inr (.inr (.inr (fun _ => none)))))) :: [])
  refine zn_dup hC dX3_init_39 rfl ?_
  refine zn_initN (As := []) (T := tI0) hC (cI0 l) (⟨va_cnB (host := "GlacierCamera") 0 hC.1.2.2.2.2 (uP (uT _) u328) rfl rfl rfl ((hC.2.2.2.2.1.1 (.methodLinkNest RX3 24 yX0_init "GlacierCamera") (by decide +kernel : (Cond.methodLinkNest RX3 24 yX0_init "GlacierCamera") ∈ zNest)).1) (hC.1.2.2.2.2 _ (uT _ _ u114)) (by decide +kernel) ⟨Nat.le_of_ble_eq_true rfl, Nat.le_of_ble_eq_true rfl⟩, rfl, hC.1.2.2.2.2 _ (uT _ _ u327)⟩) rfl rfl (Nat.le_of_ble_eq_true rfl) ⟨Nat.le_of_ble_eq_true rfl, Nat.le_of_ble_eq_true rfl⟩ dX3_init_40 (fun u1 hu1 => ?_)
  subst hu1
  refine zn_perm List.perm_middle ?_
  show zL p l e _ s m args below meth c 2 15 _ _ D _ 43 [(1, vI 0), (0, .ref a)] [.ref (u1 0), vI 0, .ref q1] ((a, .inr (3, [vI 0, vI 0, .ref q1])) :: (tI0 dA u1 ++ ((q1, .inl (dA 3, 10, .inr (.inr (.inr (.inr (fun _ => none)))))) :: [])))
  refine zn_astq (iN := 0) hC 2 3 1 0 rfl rfl rfl rfl (by decide) (by decide) rfl dX3_init_43 ?_
  show zL p l e _ s m args below meth c 2 15 _ _ D _ 44 [(1, vI 0), (0, .ref a)] [] ((a, .inr (3, [vI 0, vI 0, .ref q1])) :: (tI0 dA u1 ++ ((q1, .inl (dA 3, 10, .inr (.inr (.inr (.inr (va_up (fun _ => none) 0 (some (u1 0)))))))) :: [])))
  refine zn_iinc hC [(1, vI (0 + 1)), (0, .ref a)] dX3_init_44 0 rfl (by decide) rfl ?_
  show zL p l e _ s m args below meth c 2 15 _ _ D _ 47 [(1, vI 1), (0, .ref a)] [] ((a, .inr (3, [vI 0, vI 0, .ref q1])) :: (tI0 dA u1 ++ ((q1, .inl (dA 3, 10, .inr (.inr (.inr (.inr (va_up (fun _ => none) 0 (some (u1 0)))))))) :: [])))
  refine zn_goto (tgt := 25) hC dX3_init_47 (by decide) ?_
  refine zn_iload_n hC dX3_init_25 0 rfl rfl ?_
  refine zn_bipush hC dX3_init_26 (by decide) ?_
  refine zn_ge_f (tgt := 50) hC dX3_init_28 (by decide) (by decide) (by decide) (by decide) ?_
  refine zn_aload_n hC dX3_init_31 1 rfl rfl ?_
  refine zn_get (ci := 3) hC (fun w h => uT _ w (uL3 w h)) 0 rfl rfl 2 (by decide) (uT _ _ u354) (fun _ h => h) rfl dX3_init_32 ?_
  refine zn_iload_n hC dX3_init_35 0 rfl rfl ?_
  refine zn_new (ci := 0) hC (fun w h => uT _ w (uL0 w h)) tyX0 tyX0_ok (uT _ _ u323) (uT _ _ ui_RX0) (uT _ _ u114) rfl [vI 0, vI 0, vI 0, vI 0, vI 0] (fun j hj => by rcases (show j = 0 ∨ j = 1 ∨ j = 2 ∨ j = 3 ∨ j = 4 by omega) with rfl | rfl | rfl | rfl | rfl <;> rfl) ⟨Nat.le_of_ble_eq_true rfl, Nat.le_of_ble_eq_true rfl⟩ dX3_init_36 (fun q3 => ?_)
  show zL p l e _ s m args below meth c 3 20 _ _ D _ 39 [(1, vI 1), (0, .ref a)] [.ref q3, vI 1, .ref q1] ((q3, .inr (0, [vI 0, vI 0, vI 0, vI 0, vI 0])) :: (a, .inr (3, [vI 0, vI 0, .ref q1])) :: (tI0 dA u1 ++ ((q1, .inl (dA 3, 10, .inr (.inr (.inr (.inr (va_up (fun _ => none) 0 (some (u1 0)))))))) :: [])))
  refine zn_dup hC dX3_init_39 rfl ?_
  refine zn_initN (As := []) (T := tI0) hC (cI0 l) (⟨va_cnB (host := "GlacierCamera") 0 hC.1.2.2.2.2 (uP (uT _) u328) rfl rfl rfl ((hC.2.2.2.2.1.1 (.methodLinkNest RX3 24 yX0_init "GlacierCamera") (by decide +kernel : (Cond.methodLinkNest RX3 24 yX0_init "GlacierCamera") ∈ zNest)).1) (hC.1.2.2.2.2 _ (uT _ _ u114)) (by decide +kernel) ⟨Nat.le_of_ble_eq_true rfl, Nat.le_of_ble_eq_true rfl⟩, rfl, hC.1.2.2.2.2 _ (uT _ _ u327)⟩) rfl rfl (Nat.le_of_ble_eq_true rfl) ⟨Nat.le_of_ble_eq_true rfl, Nat.le_of_ble_eq_true rfl⟩ dX3_init_40 (fun u2 hu2 => ?_)
  subst hu2
  refine zn_perm List.perm_middle ?_
  show zL p l e _ s m args below meth c 3 20 _ _ D _ 43 [(1, vI 1), (0, .ref a)] [.ref (u2 0), vI 1, .ref q1] ((a, .inr (3, [vI 0, vI 0, .ref q1])) :: (tI0 dA u2 ++ ((tI0 dA u1 ++ ((q1, .inl (dA 3, 10, .inr (.inr (.inr (.inr (va_up (fun _ => none) 0 (some (u1 0)))))))) :: [])))))
  refine zn_astq (iN := 1) hC 3 3 1 0 rfl rfl rfl rfl (by decide) (by decide) rfl dX3_init_43 ?_
  show zL p l e _ s m args below meth c 3 20 _ _ D _ 44 [(1, vI 1), (0, .ref a)] [] ((a, .inr (3, [vI 0, vI 0, .ref q1])) :: (tI0 dA u2 ++ ((tI0 dA u1 ++ ((q1, .inl (dA 3, 10, .inr (.inr (.inr (.inr (va_up (va_up (fun _ => none) 0 (some (u1 0))) 1 (some (u2 0)))))))) :: [])))))
  refine zn_iinc hC [(1, vI (1 + 1)), (0, .ref a)] dX3_init_44 0 rfl (by decide) rfl ?_
  show zL p l e _ s m args below meth c 3 20 _ _ D _ 47 [(1, vI 2), (0, .ref a)] [] ((a, .inr (3, [vI 0, vI 0, .ref q1])) :: (tI0 dA u2 ++ ((tI0 dA u1 ++ ((q1, .inl (dA 3, 10, .inr (.inr (.inr (.inr (va_up (va_up (fun _ => none) 0 (some (u1 0))) 1 (some (u2 0)))))))) :: [])))))
  refine zn_goto (tgt := 25) hC dX3_init_47 (by decide) ?_
  refine zn_iload_n hC dX3_init_25 0 rfl rfl ?_
  refine zn_bipush hC dX3_init_26 (by decide) ?_
  refine zn_ge_f (tgt := 50) hC dX3_init_28 (by decide) (by decide) (by decide) (by decide) ?_
  refine zn_aload_n hC dX3_init_31 1 rfl rfl ?_
  refine zn_get (ci := 3) hC (fun w h => uT _ w (uL3 w h)) 0 rfl rfl 2 (by decide) (uT _ _ u354) (fun _ h => h) rfl dX3_init_32 ?_
  refine zn_iload_n hC dX3_init_35 0 rfl rfl ?_
  refine zn_new (ci := 0) hC (fun w h => uT _ w (uL0 w h)) tyX0 tyX0_ok (uT _ _ u323) (uT _ _ ui_RX0) (uT _ _ u114) rfl [vI 0, vI 0, vI 0, vI 0, vI 0] (fun j hj => by rcases (show j = 0 ∨ j = 1 ∨ j = 2 ∨ j = 3 ∨ j = 4 by omega) with rfl | rfl | rfl | rfl | rfl <;> rfl) ⟨Nat.le_of_ble_eq_true rfl, Nat.le_of_ble_eq_true rfl⟩ dX3_init_36 (fun q4 => ?_)
  show zL p l e _ s m args below meth c 4 25 _ _ D _ 39 [(1, vI 2), (0, .ref a)] [.ref q4, vI 2, .ref q1] ((q4, .inr (0, [vI 0, vI 0, vI 0, vI 0, vI 0])) :: (a, .inr (3, [vI 0, vI 0, .ref q1])) :: (tI0 dA u2 ++ ((tI0 dA u1 ++ ((q1, .inl (dA 3, 10, .inr (.inr (.inr (.inr (va_up (va_up (fun _ => none) 0 (some (u1 0))) 1 (some (u2 0)))))))) :: [])))))
  refine zn_dup hC dX3_init_39 rfl ?_
  refine zn_initN (As := []) (T := tI0) hC (cI0 l) (⟨va_cnB (host := "GlacierCamera") 0 hC.1.2.2.2.2 (uP (uT _) u328) rfl rfl rfl ((hC.2.2.2.2.1.1 (.methodLinkNest RX3 24 yX0_init "GlacierCamera") (by decide +kernel : (Cond.methodLinkNest RX3 24 yX0_init "GlacierCamera") ∈ zNest)).1) (hC.1.2.2.2.2 _ (uT _ _ u114)) (by decide +kernel) ⟨Nat.le_of_ble_eq_true rfl, Nat.le_of_ble_eq_true rfl⟩, rfl, hC.1.2.2.2.2 _ (uT _ _ u327)⟩) rfl rfl (Nat.le_of_ble_eq_true rfl) ⟨Nat.le_of_ble_eq_true rfl, Nat.le_of_ble_eq_true rfl⟩ dX3_init_40 (fun u3 hu3 => ?_)
  subst hu3
  refine zn_perm List.perm_middle ?_
  show zL p l e _ s m args below meth c 4 25 _ _ D _ 43 [(1, vI 2), (0, .ref a)] [.ref (u3 0), vI 2, .ref q1] ((a, .inr (3, [vI 0, vI 0, .ref q1])) :: (tI0 dA u3 ++ ((tI0 dA u2 ++ ((tI0 dA u1 ++ ((q1, .inl (dA 3, 10, .inr (.inr (.inr (.inr (va_up (va_up (fun _ => none) 0 (some (u1 0))) 1 (some (u2 0)))))))) :: [])))))))
  refine zn_astq (iN := 2) hC 4 3 1 0 rfl rfl rfl rfl (by decide) (by decide) rfl dX3_init_43 ?_
  show zL p l e _ s m args below meth c 4 25 _ _ D _ 44 [(1, vI 2), (0, .ref a)] [] ((a, .inr (3, [vI 0, vI 0, .ref q1])) :: (tI0 dA u3 ++ ((tI0 dA u2 ++ ((tI0 dA u1 ++ ((q1, .inl (dA 3, 10, .inr (.inr (.inr (.inr (va_up (va_up (va_up (fun _ => none) 0 (some (u1 0))) 1 (some (u2 0))) 2 (some (u3 0)))))))) :: [])))))))
  refine zn_iinc hC [(1, vI (2 + 1)), (0, .ref a)] dX3_init_44 0 rfl (by decide) rfl ?_
  show zL p l e _ s m args below meth c 4 25 _ _ D _ 47 [(1, vI 3), (0, .ref a)] [] ((a, .inr (3, [vI 0, vI 0, .ref q1])) :: (tI0 dA u3 ++ ((tI0 dA u2 ++ ((tI0 dA u1 ++ ((q1, .inl (dA 3, 10, .inr (.inr (.inr (.inr (va_up (va_up (va_up (fun _ => none) 0 (some (u1 0))) 1 (some (u2 0))) 2 (some (u3 0)))))))) :: [])))))))
  refine zn_goto (tgt := 25) hC dX3_init_47 (by decide) ?_
  refine zn_iload_n hC dX3_init_25 0 rfl rfl ?_
  refine zn_bipush hC dX3_init_26 (by decide) ?_
  refine zn_ge_f (tgt := 50) hC dX3_init_28 (by decide) (by decide) (by decide) (by decide) ?_
  refine zn_aload_n hC dX3_init_31 1 rfl rfl ?_
  refine zn_get (ci := 3) hC (fun w h => uT _ w (uL3 w h)) 0 rfl rfl 2 (by decide) (uT _ _ u354) (fun _ h => h) rfl dX3_init_32 ?_
  refine zn_iload_n hC dX3_init_35 0 rfl rfl ?_
  refine zn_new (ci := 0) hC (fun w h => uT _ w (uL0 w h)) tyX0 tyX0_ok (uT _ _ u323) (uT _ _ ui_RX0) (uT _ _ u114) rfl [vI 0, vI 0, vI 0, vI 0, vI 0] (fun j hj => by rcases (show j = 0 ∨ j = 1 ∨ j = 2 ∨ j = 3 ∨ j = 4 by omega) with rfl | rfl | rfl | rfl | rfl <;> rfl) ⟨Nat.le_of_ble_eq_true rfl, Nat.le_of_ble_eq_true rfl⟩ dX3_init_36 (fun q5 => ?_)
  show zL p l e _ s m args below meth c 5 30 _ _ D _ 39 [(1, vI 3), (0, .ref a)] [.ref q5, vI 3, .ref q1] ((q5, .inr (0, [vI 0, vI 0, vI 0, vI 0, vI 0])) :: (a, .inr (3, [vI 0, vI 0, .ref q1])) :: (tI0 dA u3 ++ ((tI0 dA u2 ++ ((tI0 dA u1 ++ ((q1, .inl (dA 3, 10, .inr (.inr (.inr (.inr (va_up (va_up (va_up (fun _ => none) 0 (some (u1 0))) 1 (some (u2 0))) 2 (some (u3 0)))))))) :: [])))))))
  refine zn_dup hC dX3_init_39 rfl ?_
  refine zn_initN (As := []) (T := tI0) hC (cI0 l) (⟨va_cnB (host := "GlacierCamera") 0 hC.1.2.2.2.2 (uP (uT _) u328) rfl rfl rfl ((hC.2.2.2.2.1.1 (.methodLinkNest RX3 24 yX0_init "GlacierCamera") (by decide +kernel : (Cond.methodLinkNest RX3 24 yX0_init "GlacierCamera") ∈ zNest)).1) (hC.1.2.2.2.2 _ (uT _ _ u114)) (by decide +kernel) ⟨Nat.le_of_ble_eq_true rfl, Nat.le_of_ble_eq_true rfl⟩, rfl, hC.1.2.2.2.2 _ (uT _ _ u327)⟩) rfl rfl (Nat.le_of_ble_eq_true rfl) ⟨Nat.le_of_ble_eq_true rfl, Nat.le_of_ble_eq_true rfl⟩ dX3_init_40 (fun u4 hu4 => ?_)
  subst hu4
  refine zn_perm List.perm_middle ?_
  show zL p l e _ s m args below meth c 5 30 _ _ D _ 43 [(1, vI 3), (0, .ref a)] [.ref (u4 0), vI 3, .ref q1] ((a, .inr (3, [vI 0, vI 0, .ref q1])) :: (tI0 dA u4 ++ ((tI0 dA u3 ++ ((tI0 dA u2 ++ ((tI0 dA u1 ++ ((q1, .inl (dA 3, 10, .inr (.inr (.inr (.inr (va_up (va_up (va_up (fun _ => none) 0 (some (u1 0))) 1 (some (u2 0))) 2 (some (u3 0)))))))) :: [])))))))))
  refine zn_astq (iN := 3) hC 5 3 1 0 rfl rfl rfl rfl (by decide) (by decide) rfl dX3_init_43 ?_
  show zL p l e _ s m args below meth c 5 30 _ _ D _ 44 [(1, vI 3), (0, .ref a)] [] ((a, .inr (3, [vI 0, vI 0, .ref q1])) :: (tI0 dA u4 ++ ((tI0 dA u3 ++ ((tI0 dA u2 ++ ((tI0 dA u1 ++ ((q1, .inl (dA 3, 10, .inr (.inr (.inr (.inr (va_up (va_up (va_up (va_up (fun _ => none) 0 (some (u1 0))) 1 (some (u2 0))) 2 (some (u3 0))) 3 (some (u4 0)))))))) :: [])))))))))
  refine zn_iinc hC [(1, vI (3 + 1)), (0, .ref a)] dX3_init_44 0 rfl (by decide) rfl ?_
  show zL p l e _ s m args below meth c 5 30 _ _ D _ 47 [(1, vI 4), (0, .ref a)] [] ((a, .inr (3, [vI 0, vI 0, .ref q1])) :: (tI0 dA u4 ++ ((tI0 dA u3 ++ ((tI0 dA u2 ++ ((tI0 dA u1 ++ ((q1, .inl (dA 3, 10, .inr (.inr (.inr (.inr (va_up (va_up (va_up (va_up (fun _ => none) 0 (some (u1 0))) 1 (some (u2 0))) 2 (some (u3 0))) 3 (some (u4 0)))))))) :: [])))))))))
  refine zn_goto (tgt := 25) hC dX3_init_47 (by decide) ?_
  refine zn_iload_n hC dX3_init_25 0 rfl rfl ?_
  refine zn_bipush hC dX3_init_26 (by decide) ?_
  refine zn_ge_f (tgt := 50) hC dX3_init_28 (by decide) (by decide) (by decide) (by decide) ?_
  refine zn_aload_n hC dX3_init_31 1 rfl rfl ?_
  refine zn_get (ci := 3) hC (fun w h => uT _ w (uL3 w h)) 0 rfl rfl 2 (by decide) (uT _ _ u354) (fun _ h => h) rfl dX3_init_32 ?_
  refine zn_iload_n hC dX3_init_35 0 rfl rfl ?_
  refine zn_new (ci := 0) hC (fun w h => uT _ w (uL0 w h)) tyX0 tyX0_ok (uT _ _ u323) (uT _ _ ui_RX0) (uT _ _ u114) rfl [vI 0, vI 0, vI 0, vI 0, vI 0] (fun j hj => by rcases (show j = 0 ∨ j = 1 ∨ j = 2 ∨ j = 3 ∨ j = 4 by omega) with rfl | rfl | rfl | rfl | rfl <;> rfl) ⟨Nat.le_of_ble_eq_true rfl, Nat.le_of_ble_eq_true rfl⟩ dX3_init_36 (fun q6 => ?_)
  show zL p l e _ s m args below meth c 6 35 _ _ D _ 39 [(1, vI 4), (0, .ref a)] [.ref q6, vI 4, .ref q1] ((q6, .inr (0, [vI 0, vI 0, vI 0, vI 0, vI 0])) :: (a, .inr (3, [vI 0, vI 0, .ref q1])) :: (tI0 dA u4 ++ ((tI0 dA u3 ++ ((tI0 dA u2 ++ ((tI0 dA u1 ++ ((q1, .inl (dA 3, 10, .inr (.inr (.inr (.inr (va_up (va_up (va_up (va_up (fun _ => none) 0 (some (u1 0))) 1 (some (u2 0))) 2 (some (u3 0))) 3 (some (u4 0)))))))) :: [])))))))))
  refine zn_dup hC dX3_init_39 rfl ?_
  refine zn_initN (As := []) (T := tI0) hC (cI0 l) (⟨va_cnB (host := "GlacierCamera") 0 hC.1.2.2.2.2 (uP (uT _) u328) rfl rfl rfl ((hC.2.2.2.2.1.1 (.methodLinkNest RX3 24 yX0_init "GlacierCamera") (by decide +kernel : (Cond.methodLinkNest RX3 24 yX0_init "GlacierCamera") ∈ zNest)).1) (hC.1.2.2.2.2 _ (uT _ _ u114)) (by decide +kernel) ⟨Nat.le_of_ble_eq_true rfl, Nat.le_of_ble_eq_true rfl⟩, rfl, hC.1.2.2.2.2 _ (uT _ _ u327)⟩) rfl rfl (Nat.le_of_ble_eq_true rfl) ⟨Nat.le_of_ble_eq_true rfl, Nat.le_of_ble_eq_true rfl⟩ dX3_init_40 (fun u5 hu5 => ?_)
  subst hu5
  refine zn_perm List.perm_middle ?_
  show zL p l e _ s m args below meth c 6 35 _ _ D _ 43 [(1, vI 4), (0, .ref a)] [.ref (u5 0), vI 4, .ref q1] ((a, .inr (3, [vI 0, vI 0, .ref q1])) :: (tI0 dA u5 ++ ((tI0 dA u4 ++ ((tI0 dA u3 ++ ((tI0 dA u2 ++ ((tI0 dA u1 ++ ((q1, .inl (dA 3, 10, .inr (.inr (.inr (.inr (va_up (va_up (va_up (va_up (fun _ => none) 0 (some (u1 0))) 1 (some (u2 0))) 2 (some (u3 0))) 3 (some (u4 0)))))))) :: [])))))))))))
  refine zn_astq (iN := 4) hC 6 3 1 0 rfl rfl rfl rfl (by decide) (by decide) rfl dX3_init_43 ?_
  show zL p l e _ s m args below meth c 6 35 _ _ D _ 44 [(1, vI 4), (0, .ref a)] [] ((a, .inr (3, [vI 0, vI 0, .ref q1])) :: (tI0 dA u5 ++ ((tI0 dA u4 ++ ((tI0 dA u3 ++ ((tI0 dA u2 ++ ((tI0 dA u1 ++ ((q1, .inl (dA 3, 10, .inr (.inr (.inr (.inr (va_up (va_up (va_up (va_up (va_up (fun _ => none) 0 (some (u1 0))) 1 (some (u2 0))) 2 (some (u3 0))) 3 (some (u4 0))) 4 (some (u5 0)))))))) :: [])))))))))))
  refine zn_iinc hC [(1, vI (4 + 1)), (0, .ref a)] dX3_init_44 0 rfl (by decide) rfl ?_
  show zL p l e _ s m args below meth c 6 35 _ _ D _ 47 [(1, vI 5), (0, .ref a)] [] ((a, .inr (3, [vI 0, vI 0, .ref q1])) :: (tI0 dA u5 ++ ((tI0 dA u4 ++ ((tI0 dA u3 ++ ((tI0 dA u2 ++ ((tI0 dA u1 ++ ((q1, .inl (dA 3, 10, .inr (.inr (.inr (.inr (va_up (va_up (va_up (va_up (va_up (fun _ => none) 0 (some (u1 0))) 1 (some (u2 0))) 2 (some (u3 0))) 3 (some (u4 0))) 4 (some (u5 0)))))))) :: [])))))))))))
  refine zn_goto (tgt := 25) hC dX3_init_47 (by decide) ?_
  refine zn_iload_n hC dX3_init_25 0 rfl rfl ?_
  refine zn_bipush hC dX3_init_26 (by decide) ?_
  refine zn_ge_f (tgt := 50) hC dX3_init_28 (by decide) (by decide) (by decide) (by decide) ?_
  refine zn_aload_n hC dX3_init_31 1 rfl rfl ?_
  refine zn_get (ci := 3) hC (fun w h => uT _ w (uL3 w h)) 0 rfl rfl 2 (by decide) (uT _ _ u354) (fun _ h => h) rfl dX3_init_32 ?_
  refine zn_iload_n hC dX3_init_35 0 rfl rfl ?_
  refine zn_new (ci := 0) hC (fun w h => uT _ w (uL0 w h)) tyX0 tyX0_ok (uT _ _ u323) (uT _ _ ui_RX0) (uT _ _ u114) rfl [vI 0, vI 0, vI 0, vI 0, vI 0] (fun j hj => by rcases (show j = 0 ∨ j = 1 ∨ j = 2 ∨ j = 3 ∨ j = 4 by omega) with rfl | rfl | rfl | rfl | rfl <;> rfl) ⟨Nat.le_of_ble_eq_true rfl, Nat.le_of_ble_eq_true rfl⟩ dX3_init_36 (fun q7 => ?_)
  show zL p l e _ s m args below meth c 7 40 _ _ D _ 39 [(1, vI 5), (0, .ref a)] [.ref q7, vI 5, .ref q1] ((q7, .inr (0, [vI 0, vI 0, vI 0, vI 0, vI 0])) :: (a, .inr (3, [vI 0, vI 0, .ref q1])) :: (tI0 dA u5 ++ ((tI0 dA u4 ++ ((tI0 dA u3 ++ ((tI0 dA u2 ++ ((tI0 dA u1 ++ ((q1, .inl (dA 3, 10, .inr (.inr (.inr (.inr (va_up (va_up (va_up (va_up (va_up (fun _ => none) 0 (some (u1 0))) 1 (some (u2 0))) 2 (some (u3 0))) 3 (some (u4 0))) 4 (some (u5 0)))))))) :: [])))))))))))
  refine zn_dup hC dX3_init_39 rfl ?_
  refine zn_initN (As := []) (T := tI0) hC (cI0 l) (⟨va_cnB (host := "GlacierCamera") 0 hC.1.2.2.2.2 (uP (uT _) u328) rfl rfl rfl ((hC.2.2.2.2.1.1 (.methodLinkNest RX3 24 yX0_init "GlacierCamera") (by decide +kernel : (Cond.methodLinkNest RX3 24 yX0_init "GlacierCamera") ∈ zNest)).1) (hC.1.2.2.2.2 _ (uT _ _ u114)) (by decide +kernel) ⟨Nat.le_of_ble_eq_true rfl, Nat.le_of_ble_eq_true rfl⟩, rfl, hC.1.2.2.2.2 _ (uT _ _ u327)⟩) rfl rfl (Nat.le_of_ble_eq_true rfl) ⟨Nat.le_of_ble_eq_true rfl, Nat.le_of_ble_eq_true rfl⟩ dX3_init_40 (fun u6 hu6 => ?_)
  subst hu6
  refine zn_perm List.perm_middle ?_
  show zL p l e _ s m args below meth c 7 40 _ _ D _ 43 [(1, vI 5), (0, .ref a)] [.ref (u6 0), vI 5, .ref q1] ((a, .inr (3, [vI 0, vI 0, .ref q1])) :: (tI0 dA u6 ++ ((tI0 dA u5 ++ ((tI0 dA u4 ++ ((tI0 dA u3 ++ ((tI0 dA u2 ++ ((tI0 dA u1 ++ ((q1, .inl (dA 3, 10, .inr (.inr (.inr (.inr (va_up (va_up (va_up (va_up (va_up (fun _ => none) 0 (some (u1 0))) 1 (some (u2 0))) 2 (some (u3 0))) 3 (some (u4 0))) 4 (some (u5 0)))))))) :: [])))))))))))))
  refine zn_astq (iN := 5) hC 7 3 1 0 rfl rfl rfl rfl (by decide) (by decide) rfl dX3_init_43 ?_
  show zL p l e _ s m args below meth c 7 40 _ _ D _ 44 [(1, vI 5), (0, .ref a)] [] ((a, .inr (3, [vI 0, vI 0, .ref q1])) :: (tI0 dA u6 ++ ((tI0 dA u5 ++ ((tI0 dA u4 ++ ((tI0 dA u3 ++ ((tI0 dA u2 ++ ((tI0 dA u1 ++ ((q1, .inl (dA 3, 10, .inr (.inr (.inr (.inr (va_up (va_up (va_up (va_up (va_up (va_up (fun _ => none) 0 (some (u1 0))) 1 (some (u2 0))) 2 (some (u3 0))) 3 (some (u4 0))) 4 (some (u5 0))) 5 (some (u6 0)))))))) :: [])))))))))))))
  refine zn_iinc hC [(1, vI (5 + 1)), (0, .ref a)] dX3_init_44 0 rfl (by decide) rfl ?_
  show zL p l e _ s m args below meth c 7 40 _ _ D _ 47 [(1, vI 6), (0, .ref a)] [] ((a, .inr (3, [vI 0, vI 0, .ref q1])) :: (tI0 dA u6 ++ ((tI0 dA u5 ++ ((tI0 dA u4 ++ ((tI0 dA u3 ++ ((tI0 dA u2 ++ ((tI0 dA u1 ++ ((q1, .inl (dA 3, 10, .inr (.inr (.inr (.inr (va_up (va_up (va_up (va_up (va_up (va_up (fun _ => none) 0 (some (u1 0))) 1 (some (u2 0))) 2 (some (u3 0))) 3 (some (u4 0))) 4 (some (u5 0))) 5 (some (u6 0)))))))) :: [])))))))))))))
  refine zn_goto (tgt := 25) hC dX3_init_47 (by decide) ?_
  refine zn_iload_n hC dX3_init_25 0 rfl rfl ?_
  refine zn_bipush hC dX3_init_26 (by decide) ?_
  refine zn_ge_f (tgt := 50) hC dX3_init_28 (by decide) (by decide) (by decide) (by decide) ?_
  refine zn_aload_n hC dX3_init_31 1 rfl rfl ?_
  refine zn_get (ci := 3) hC (fun w h => uT _ w (uL3 w h)) 0 rfl rfl 2 (by decide) (uT _ _ u354) (fun _ h => h) rfl dX3_init_32 ?_
  refine zn_iload_n hC dX3_init_35 0 rfl rfl ?_
  refine zn_new (ci := 0) hC (fun w h => uT _ w (uL0 w h)) tyX0 tyX0_ok (uT _ _ u323) (uT _ _ ui_RX0) (uT _ _ u114) rfl [vI 0, vI 0, vI 0, vI 0, vI 0] (fun j hj => by rcases (show j = 0 ∨ j = 1 ∨ j = 2 ∨ j = 3 ∨ j = 4 by omega) with rfl | rfl | rfl | rfl | rfl <;> rfl) ⟨Nat.le_of_ble_eq_true rfl, Nat.le_of_ble_eq_true rfl⟩ dX3_init_36 (fun q8 => ?_)
  show zL p l e _ s m args below meth c 8 45 _ _ D _ 39 [(1, vI 6), (0, .ref a)] [.ref q8, vI 6, .ref q1] ((q8, .inr (0, [vI 0, vI 0, vI 0, vI 0, vI 0])) :: (a, .inr (3, [vI 0, vI 0, .ref q1])) :: (tI0 dA u6 ++ ((tI0 dA u5 ++ ((tI0 dA u4 ++ ((tI0 dA u3 ++ ((tI0 dA u2 ++ ((tI0 dA u1 ++ ((q1, .inl (dA 3, 10, .inr (.inr (.inr (.inr (va_up (va_up (va_up (va_up (va_up (va_up (fun _ => none) 0 (some (u1 0))) 1 (some (u2 0))) 2 (some (u3 0))) 3 (some (u4 0))) 4 (some (u5 0))) 5 (some (u6 0)))))))) :: [])))))))))))))
  refine zn_dup hC dX3_init_39 rfl ?_
  refine zn_initN (As := []) (T := tI0) hC (cI0 l) (⟨va_cnB (host := "GlacierCamera") 0 hC.1.2.2.2.2 (uP (uT _) u328) rfl rfl rfl ((hC.2.2.2.2.1.1 (.methodLinkNest RX3 24 yX0_init "GlacierCamera") (by decide +kernel : (Cond.methodLinkNest RX3 24 yX0_init "GlacierCamera") ∈ zNest)).1) (hC.1.2.2.2.2 _ (uT _ _ u114)) (by decide +kernel) ⟨Nat.le_of_ble_eq_true rfl, Nat.le_of_ble_eq_true rfl⟩, rfl, hC.1.2.2.2.2 _ (uT _ _ u327)⟩) rfl rfl (Nat.le_of_ble_eq_true rfl) ⟨Nat.le_of_ble_eq_true rfl, Nat.le_of_ble_eq_true rfl⟩ dX3_init_40 (fun u7 hu7 => ?_)
  subst hu7
  refine zn_perm List.perm_middle ?_
  show zL p l e _ s m args below meth c 8 45 _ _ D _ 43 [(1, vI 6), (0, .ref a)] [.ref (u7 0), vI 6, .ref q1] ((a, .inr (3, [vI 0, vI 0, .ref q1])) :: (tI0 dA u7 ++ ((tI0 dA u6 ++ ((tI0 dA u5 ++ ((tI0 dA u4 ++ ((tI0 dA u3 ++ ((tI0 dA u2 ++ ((tI0 dA u1 ++ ((q1, .inl (dA 3, 10, .inr (.inr (.inr (.inr (va_up (va_up (va_up (va_up (va_up (va_up (fun _ => none) 0 (some (u1 0))) 1 (some (u2 0))) 2 (some (u3 0))) 3 (some (u4 0))) 4 (some (u5 0))) 5 (some (u6 0)))))))) :: [])))))))))))))))
  refine zn_astq (iN := 6) hC 8 3 1 0 rfl rfl rfl rfl (by decide) (by decide) rfl dX3_init_43 ?_
  show zL p l e _ s m args below meth c 8 45 _ _ D _ 44 [(1, vI 6), (0, .ref a)] [] ((a, .inr (3, [vI 0, vI 0, .ref q1])) :: (tI0 dA u7 ++ ((tI0 dA u6 ++ ((tI0 dA u5 ++ ((tI0 dA u4 ++ ((tI0 dA u3 ++ ((tI0 dA u2 ++ ((tI0 dA u1 ++ ((q1, .inl (dA 3, 10, .inr (.inr (.inr (.inr (va_up (va_up (va_up (va_up (va_up (va_up (va_up (fun _ => none) 0 (some (u1 0))) 1 (some (u2 0))) 2 (some (u3 0))) 3 (some (u4 0))) 4 (some (u5 0))) 5 (some (u6 0))) 6 (some (u7 0)))))))) :: [])))))))))))))))
  refine zn_iinc hC [(1, vI (6 + 1)), (0, .ref a)] dX3_init_44 0 rfl (by decide) rfl ?_
  show zL p l e _ s m args below meth c 8 45 _ _ D _ 47 [(1, vI 7), (0, .ref a)] [] ((a, .inr (3, [vI 0, vI 0, .ref q1])) :: (tI0 dA u7 ++ ((tI0 dA u6 ++ ((tI0 dA u5 ++ ((tI0 dA u4 ++ ((tI0 dA u3 ++ ((tI0 dA u2 ++ ((tI0 dA u1 ++ ((q1, .inl (dA 3, 10, .inr (.inr (.inr (.inr (va_up (va_up (va_up (va_up (va_up (va_up (va_up (fun _ => none) 0 (some (u1 0))) 1 (some (u2 0))) 2 (some (u3 0))) 3 (some (u4 0))) 4 (some (u5 0))) 5 (some (u6 0))) 6 (some (u7 0)))))))) :: [])))))))))))))))
  refine zn_goto (tgt := 25) hC dX3_init_47 (by decide) ?_
  refine zn_iload_n hC dX3_init_25 0 rfl rfl ?_
  refine zn_bipush hC dX3_init_26 (by decide) ?_
  refine zn_ge_f (tgt := 50) hC dX3_init_28 (by decide) (by decide) (by decide) (by decide) ?_
  refine zn_aload_n hC dX3_init_31 1 rfl rfl ?_
  refine zn_get (ci := 3) hC (fun w h => uT _ w (uL3 w h)) 0 rfl rfl 2 (by decide) (uT _ _ u354) (fun _ h => h) rfl dX3_init_32 ?_
  refine zn_iload_n hC dX3_init_35 0 rfl rfl ?_
  refine zn_new (ci := 0) hC (fun w h => uT _ w (uL0 w h)) tyX0 tyX0_ok (uT _ _ u323) (uT _ _ ui_RX0) (uT _ _ u114) rfl [vI 0, vI 0, vI 0, vI 0, vI 0] (fun j hj => by rcases (show j = 0 ∨ j = 1 ∨ j = 2 ∨ j = 3 ∨ j = 4 by omega) with rfl | rfl | rfl | rfl | rfl <;> rfl) ⟨Nat.le_of_ble_eq_true rfl, Nat.le_of_ble_eq_true rfl⟩ dX3_init_36 (fun q9 => ?_)
  show zL p l e _ s m args below meth c 9 50 _ _ D _ 39 [(1, vI 7), (0, .ref a)] [.ref q9, vI 7, .ref q1] ((q9, .inr (0, [vI 0, vI 0, vI 0, vI 0, vI 0])) :: (a, .inr (3, [vI 0, vI 0, .ref q1])) :: (tI0 dA u7 ++ ((tI0 dA u6 ++ ((tI0 dA u5 ++ ((tI0 dA u4 ++ ((tI0 dA u3 ++ ((tI0 dA u2 ++ ((tI0 dA u1 ++ ((q1, .inl (dA 3, 10, .inr (.inr (.inr (.inr (va_up (va_up (va_up (va_up (va_up (va_up (va_up (fun _ => none) 0 (some (u1 0))) 1 (some (u2 0))) 2 (some (u3 0))) 3 (some (u4 0))) 4 (some (u5 0))) 5 (some (u6 0))) 6 (some (u7 0)))))))) :: [])))))))))))))))
  refine zn_dup hC dX3_init_39 rfl ?_
  refine zn_initN (As := []) (T := tI0) hC (cI0 l) (⟨va_cnB (host := "GlacierCamera") 0 hC.1.2.2.2.2 (uP (uT _) u328) rfl rfl rfl ((hC.2.2.2.2.1.1 (.methodLinkNest RX3 24 yX0_init "GlacierCamera") (by decide +kernel : (Cond.methodLinkNest RX3 24 yX0_init "GlacierCamera") ∈ zNest)).1) (hC.1.2.2.2.2 _ (uT _ _ u114)) (by decide +kernel) ⟨Nat.le_of_ble_eq_true rfl, Nat.le_of_ble_eq_true rfl⟩, rfl, hC.1.2.2.2.2 _ (uT _ _ u327)⟩) rfl rfl (Nat.le_of_ble_eq_true rfl) ⟨Nat.le_of_ble_eq_true rfl, Nat.le_of_ble_eq_true rfl⟩ dX3_init_40 (fun u8 hu8 => ?_)
  subst hu8
  refine zn_perm List.perm_middle ?_
  show zL p l e _ s m args below meth c 9 50 _ _ D _ 43 [(1, vI 7), (0, .ref a)] [.ref (u8 0), vI 7, .ref q1] ((a, .inr (3, [vI 0, vI 0, .ref q1])) :: (tI0 dA u8 ++ ((tI0 dA u7 ++ ((tI0 dA u6 ++ ((tI0 dA u5 ++ ((tI0 dA u4 ++ ((tI0 dA u3 ++ ((tI0 dA u2 ++ ((tI0 dA u1 ++ ((q1, .inl (dA 3, 10, .inr (.inr (.inr (.inr (va_up (va_up (va_up (va_up (va_up (va_up (va_up (fun _ => none) 0 (some (u1 0))) 1 (some (u2 0))) 2 (some (u3 0))) 3 (some (u4 0))) 4 (some (u5 0))) 5 (some (u6 0))) 6 (some (u7 0)))))))) :: [])))))))))))))))))
  refine zn_astq (iN := 7) hC 9 3 1 0 rfl rfl rfl rfl (by decide) (by decide) rfl dX3_init_43 ?_
  show zL p l e _ s m args below meth c 9 50 _ _ D _ 44 [(1, vI 7), (0, .ref a)] [] ((a, .inr (3, [vI 0, vI 0, .ref q1])) :: (tI0 dA u8 ++ ((tI0 dA u7 ++ ((tI0 dA u6 ++ ((tI0 dA u5 ++ ((tI0 dA u4 ++ ((tI0 dA u3 ++ ((tI0 dA u2 ++ ((tI0 dA u1 ++ ((q1, .inl (dA 3, 10, .inr (.inr (.inr (.inr (va_up (va_up (va_up (va_up (va_up (va_up (va_up (va_up (fun _ => none) 0 (some (u1 0))) 1 (some (u2 0))) 2 (some (u3 0))) 3 (some (u4 0))) 4 (some (u5 0))) 5 (some (u6 0))) 6 (some (u7 0))) 7 (some (u8 0)))))))) :: [])))))))))))))))))
  refine zn_iinc hC [(1, vI (7 + 1)), (0, .ref a)] dX3_init_44 0 rfl (by decide) rfl ?_
  show zL p l e _ s m args below meth c 9 50 _ _ D _ 47 [(1, vI 8), (0, .ref a)] [] ((a, .inr (3, [vI 0, vI 0, .ref q1])) :: (tI0 dA u8 ++ ((tI0 dA u7 ++ ((tI0 dA u6 ++ ((tI0 dA u5 ++ ((tI0 dA u4 ++ ((tI0 dA u3 ++ ((tI0 dA u2 ++ ((tI0 dA u1 ++ ((q1, .inl (dA 3, 10, .inr (.inr (.inr (.inr (va_up (va_up (va_up (va_up (va_up (va_up (va_up (va_up (fun _ => none) 0 (some (u1 0))) 1 (some (u2 0))) 2 (some (u3 0))) 3 (some (u4 0))) 4 (some (u5 0))) 5 (some (u6 0))) 6 (some (u7 0))) 7 (some (u8 0)))))))) :: [])))))))))))))))))
  refine zn_goto (tgt := 25) hC dX3_init_47 (by decide) ?_
  refine zn_iload_n hC dX3_init_25 0 rfl rfl ?_
  refine zn_bipush hC dX3_init_26 (by decide) ?_
  refine zn_ge_f (tgt := 50) hC dX3_init_28 (by decide) (by decide) (by decide) (by decide) ?_
  refine zn_aload_n hC dX3_init_31 1 rfl rfl ?_
  refine zn_get (ci := 3) hC (fun w h => uT _ w (uL3 w h)) 0 rfl rfl 2 (by decide) (uT _ _ u354) (fun _ h => h) rfl dX3_init_32 ?_
  refine zn_iload_n hC dX3_init_35 0 rfl rfl ?_
  refine zn_new (ci := 0) hC (fun w h => uT _ w (uL0 w h)) tyX0 tyX0_ok (uT _ _ u323) (uT _ _ ui_RX0) (uT _ _ u114) rfl [vI 0, vI 0, vI 0, vI 0, vI 0] (fun j hj => by rcases (show j = 0 ∨ j = 1 ∨ j = 2 ∨ j = 3 ∨ j = 4 by omega) with rfl | rfl | rfl | rfl | rfl <;> rfl) ⟨Nat.le_of_ble_eq_true rfl, Nat.le_of_ble_eq_true rfl⟩ dX3_init_36 (fun q10 => ?_)
  show zL p l e _ s m args below meth c 10 55 _ _ D _ 39 [(1, vI 8), (0, .ref a)] [.ref q10, vI 8, .ref q1] ((q10, .inr (0, [vI 0, vI 0, vI 0, vI 0, vI 0])) :: (a, .inr (3, [vI 0, vI 0, .ref q1])) :: (tI0 dA u8 ++ ((tI0 dA u7 ++ ((tI0 dA u6 ++ ((tI0 dA u5 ++ ((tI0 dA u4 ++ ((tI0 dA u3 ++ ((tI0 dA u2 ++ ((tI0 dA u1 ++ ((q1, .inl (dA 3, 10, .inr (.inr (.inr (.inr (va_up (va_up (va_up (va_up (va_up (va_up (va_up (va_up (fun _ => none) 0 (some (u1 0))) 1 (some (u2 0))) 2 (some (u3 0))) 3 (some (u4 0))) 4 (some (u5 0))) 5 (some (u6 0))) 6 (some (u7 0))) 7 (some (u8 0)))))))) :: [])))))))))))))))))
  refine zn_dup hC dX3_init_39 rfl ?_
  refine zn_initN (As := []) (T := tI0) hC (cI0 l) (⟨va_cnB (host := "GlacierCamera") 0 hC.1.2.2.2.2 (uP (uT _) u328) rfl rfl rfl ((hC.2.2.2.2.1.1 (.methodLinkNest RX3 24 yX0_init "GlacierCamera") (by decide +kernel : (Cond.methodLinkNest RX3 24 yX0_init "GlacierCamera") ∈ zNest)).1) (hC.1.2.2.2.2 _ (uT _ _ u114)) (by decide +kernel) ⟨Nat.le_of_ble_eq_true rfl, Nat.le_of_ble_eq_true rfl⟩, rfl, hC.1.2.2.2.2 _ (uT _ _ u327)⟩) rfl rfl (Nat.le_of_ble_eq_true rfl) ⟨Nat.le_of_ble_eq_true rfl, Nat.le_of_ble_eq_true rfl⟩ dX3_init_40 (fun u9 hu9 => ?_)
  subst hu9
  refine zn_perm List.perm_middle ?_
  show zL p l e _ s m args below meth c 10 55 _ _ D _ 43 [(1, vI 8), (0, .ref a)] [.ref (u9 0), vI 8, .ref q1] ((a, .inr (3, [vI 0, vI 0, .ref q1])) :: (tI0 dA u9 ++ ((tI0 dA u8 ++ ((tI0 dA u7 ++ ((tI0 dA u6 ++ ((tI0 dA u5 ++ ((tI0 dA u4 ++ ((tI0 dA u3 ++ ((tI0 dA u2 ++ ((tI0 dA u1 ++ ((q1, .inl (dA 3, 10, .inr (.inr (.inr (.inr (va_up (va_up (va_up (va_up (va_up (va_up (va_up (va_up (fun _ => none) 0 (some (u1 0))) 1 (some (u2 0))) 2 (some (u3 0))) 3 (some (u4 0))) 4 (some (u5 0))) 5 (some (u6 0))) 6 (some (u7 0))) 7 (some (u8 0)))))))) :: [])))))))))))))))))))
  refine zn_astq (iN := 8) hC 10 3 1 0 rfl rfl rfl rfl (by decide) (by decide) rfl dX3_init_43 ?_
  show zL p l e _ s m args below meth c 10 55 _ _ D _ 44 [(1, vI 8), (0, .ref a)] [] ((a, .inr (3, [vI 0, vI 0, .ref q1])) :: (tI0 dA u9 ++ ((tI0 dA u8 ++ ((tI0 dA u7 ++ ((tI0 dA u6 ++ ((tI0 dA u5 ++ ((tI0 dA u4 ++ ((tI0 dA u3 ++ ((tI0 dA u2 ++ ((tI0 dA u1 ++ ((q1, .inl (dA 3, 10, .inr (.inr (.inr (.inr (va_up (va_up (va_up (va_up (va_up (va_up (va_up (va_up (va_up (fun _ => none) 0 (some (u1 0))) 1 (some (u2 0))) 2 (some (u3 0))) 3 (some (u4 0))) 4 (some (u5 0))) 5 (some (u6 0))) 6 (some (u7 0))) 7 (some (u8 0))) 8 (some (u9 0)))))))) :: [])))))))))))))))))))
  refine zn_iinc hC [(1, vI (8 + 1)), (0, .ref a)] dX3_init_44 0 rfl (by decide) rfl ?_
  show zL p l e _ s m args below meth c 10 55 _ _ D _ 47 [(1, vI 9), (0, .ref a)] [] ((a, .inr (3, [vI 0, vI 0, .ref q1])) :: (tI0 dA u9 ++ ((tI0 dA u8 ++ ((tI0 dA u7 ++ ((tI0 dA u6 ++ ((tI0 dA u5 ++ ((tI0 dA u4 ++ ((tI0 dA u3 ++ ((tI0 dA u2 ++ ((tI0 dA u1 ++ ((q1, .inl (dA 3, 10, .inr (.inr (.inr (.inr (va_up (va_up (va_up (va_up (va_up (va_up (va_up (va_up (va_up (fun _ => none) 0 (some (u1 0))) 1 (some (u2 0))) 2 (some (u3 0))) 3 (some (u4 0))) 4 (some (u5 0))) 5 (some (u6 0))) 6 (some (u7 0))) 7 (some (u8 0))) 8 (some (u9 0)))))))) :: [])))))))))))))))))))
  refine zn_goto (tgt := 25) hC dX3_init_47 (by decide) ?_
  refine zn_iload_n hC dX3_init_25 0 rfl rfl ?_
  refine zn_bipush hC dX3_init_26 (by decide) ?_
  refine zn_ge_f (tgt := 50) hC dX3_init_28 (by decide) (by decide) (by decide) (by decide) ?_
  refine zn_aload_n hC dX3_init_31 1 rfl rfl ?_
  refine zn_get (ci := 3) hC (fun w h => uT _ w (uL3 w h)) 0 rfl rfl 2 (by decide) (uT _ _ u354) (fun _ h => h) rfl dX3_init_32 ?_
  refine zn_iload_n hC dX3_init_35 0 rfl rfl ?_
  refine zn_new (ci := 0) hC (fun w h => uT _ w (uL0 w h)) tyX0 tyX0_ok (uT _ _ u323) (uT _ _ ui_RX0) (uT _ _ u114) rfl [vI 0, vI 0, vI 0, vI 0, vI 0] (fun j hj => by rcases (show j = 0 ∨ j = 1 ∨ j = 2 ∨ j = 3 ∨ j = 4 by omega) with rfl | rfl | rfl | rfl | rfl <;> rfl) ⟨Nat.le_of_ble_eq_true rfl, Nat.le_of_ble_eq_true rfl⟩ dX3_init_36 (fun q11 => ?_)
  show zL p l e _ s m args below meth c 11 60 _ _ D _ 39 [(1, vI 9), (0, .ref a)] [.ref q11, vI 9, .ref q1] ((q11, .inr (0, [vI 0, vI 0, vI 0, vI 0, vI 0])) :: (a, .inr (3, [vI 0, vI 0, .ref q1])) :: (tI0 dA u9 ++ ((tI0 dA u8 ++ ((tI0 dA u7 ++ ((tI0 dA u6 ++ ((tI0 dA u5 ++ ((tI0 dA u4 ++ ((tI0 dA u3 ++ ((tI0 dA u2 ++ ((tI0 dA u1 ++ ((q1, .inl (dA 3, 10, .inr (.inr (.inr (.inr (va_up (va_up (va_up (va_up (va_up (va_up (va_up (va_up (va_up (fun _ => none) 0 (some (u1 0))) 1 (some (u2 0))) 2 (some (u3 0))) 3 (some (u4 0))) 4 (some (u5 0))) 5 (some (u6 0))) 6 (some (u7 0))) 7 (some (u8 0))) 8 (some (u9 0)))))))) :: [])))))))))))))))))))
  refine zn_dup hC dX3_init_39 rfl ?_
  refine zn_initN (As := []) (T := tI0) hC (cI0 l) (⟨va_cnB (host := "GlacierCamera") 0 hC.1.2.2.2.2 (uP (uT _) u328) rfl rfl rfl ((hC.2.2.2.2.1.1 (.methodLinkNest RX3 24 yX0_init "GlacierCamera") (by decide +kernel : (Cond.methodLinkNest RX3 24 yX0_init "GlacierCamera") ∈ zNest)).1) (hC.1.2.2.2.2 _ (uT _ _ u114)) (by decide +kernel) ⟨Nat.le_of_ble_eq_true rfl, Nat.le_of_ble_eq_true rfl⟩, rfl, hC.1.2.2.2.2 _ (uT _ _ u327)⟩) rfl rfl (Nat.le_of_ble_eq_true rfl) ⟨Nat.le_of_ble_eq_true rfl, Nat.le_of_ble_eq_true rfl⟩ dX3_init_40 (fun u10 hu10 => ?_)
  subst hu10
  refine zn_perm List.perm_middle ?_
  show zL p l e _ s m args below meth c 11 60 _ _ D _ 43 [(1, vI 9), (0, .ref a)] [.ref (u10 0), vI 9, .ref q1] ((a, .inr (3, [vI 0, vI 0, .ref q1])) :: (tI0 dA u10 ++ ((tI0 dA u9 ++ ((tI0 dA u8 ++ ((tI0 dA u7 ++ ((tI0 dA u6 ++ ((tI0 dA u5 ++ ((tI0 dA u4 ++ ((tI0 dA u3 ++ ((tI0 dA u2 ++ ((tI0 dA u1 ++ ((q1, .inl (dA 3, 10, .inr (.inr (.inr (.inr (va_up (va_up (va_up (va_up (va_up (va_up (va_up (va_up (va_up (fun _ => none) 0 (some (u1 0))) 1 (some (u2 0))) 2 (some (u3 0))) 3 (some (u4 0))) 4 (some (u5 0))) 5 (some (u6 0))) 6 (some (u7 0))) 7 (some (u8 0))) 8 (some (u9 0)))))))) :: [])))))))))))))))))))))
  refine zn_astq (iN := 9) hC 11 3 1 0 rfl rfl rfl rfl (by decide) (by decide) rfl dX3_init_43 ?_
  show zL p l e _ s m args below meth c 11 60 _ _ D _ 44 [(1, vI 9), (0, .ref a)] [] ((a, .inr (3, [vI 0, vI 0, .ref q1])) :: (tI0 dA u10 ++ ((tI0 dA u9 ++ ((tI0 dA u8 ++ ((tI0 dA u7 ++ ((tI0 dA u6 ++ ((tI0 dA u5 ++ ((tI0 dA u4 ++ ((tI0 dA u3 ++ ((tI0 dA u2 ++ ((tI0 dA u1 ++ ((q1, .inl (dA 3, 10, .inr (.inr (.inr (.inr (va_up (va_up (va_up (va_up (va_up (va_up (va_up (va_up (va_up (va_up (fun _ => none) 0 (some (u1 0))) 1 (some (u2 0))) 2 (some (u3 0))) 3 (some (u4 0))) 4 (some (u5 0))) 5 (some (u6 0))) 6 (some (u7 0))) 7 (some (u8 0))) 8 (some (u9 0))) 9 (some (u10 0)))))))) :: [])))))))))))))))))))))
  refine zn_iinc hC [(1, vI (9 + 1)), (0, .ref a)] dX3_init_44 0 rfl (by decide) rfl ?_
  show zL p l e _ s m args below meth c 11 60 _ _ D _ 47 [(1, vI 10), (0, .ref a)] [] ((a, .inr (3, [vI 0, vI 0, .ref q1])) :: (tI0 dA u10 ++ ((tI0 dA u9 ++ ((tI0 dA u8 ++ ((tI0 dA u7 ++ ((tI0 dA u6 ++ ((tI0 dA u5 ++ ((tI0 dA u4 ++ ((tI0 dA u3 ++ ((tI0 dA u2 ++ ((tI0 dA u1 ++ ((q1, .inl (dA 3, 10, .inr (.inr (.inr (.inr (va_up (va_up (va_up (va_up (va_up (va_up (va_up (va_up (va_up (va_up (fun _ => none) 0 (some (u1 0))) 1 (some (u2 0))) 2 (some (u3 0))) 3 (some (u4 0))) 4 (some (u5 0))) 5 (some (u6 0))) 6 (some (u7 0))) 7 (some (u8 0))) 8 (some (u9 0))) 9 (some (u10 0)))))))) :: [])))))))))))))))))))))
  refine zn_goto (tgt := 25) hC dX3_init_47 (by decide) ?_
  refine zn_iload_n hC dX3_init_25 0 rfl rfl ?_
  refine zn_bipush hC dX3_init_26 (by decide) ?_
  refine zn_ge_t (tgt := 50) hC dX3_init_28 (by decide) (by decide) (by decide) (by decide) ?_
  refine zn_ret hC hr rfl (T := tI3) (fun k => [a, q1, u1 0, u2 0, u3 0, u4 0, u5 0, u6 0, u7 0, u8 0, u9 0, u10 0].getD k 0) rfl dX3_init_50 (fun H hP hD => zCv.both (is := [0, 11, 10, 9, 8, 7, 6, 5, 4, 3, 2, 1]) (by decide) hP hD ?_)
  exact ⟨⟨_, rfl, Or.inl rfl⟩, ⟨_, rfl, Or.inr (Or.inr ⟨_, _, _, _, rfl, rfl, fun j hj => by rcases (show j = 0 ∨ j = 1 ∨ j = 2 ∨ j = 3 ∨ j = 4 ∨ j = 5 ∨ j = 6 ∨ j = 7 ∨ j = 8 ∨ j = 9 by omega) with rfl | rfl | rfl | rfl | rfl | rfl | rfl | rfl | rfl | rfl <;> rfl⟩)⟩, ⟨_, rfl, Or.inl rfl⟩, ⟨_, rfl, Or.inl rfl⟩, ⟨_, rfl, Or.inl rfl⟩, ⟨_, rfl, Or.inl rfl⟩, ⟨_, rfl, Or.inl rfl⟩, ⟨_, rfl, Or.inl rfl⟩, ⟨_, rfl, Or.inl rfl⟩, ⟨_, rfl, Or.inl rfl⟩, ⟨_, rfl, Or.inl rfl⟩, ⟨_, rfl, Or.inl rfl⟩, trivial⟩

set_option maxHeartbeats 600000 in
set_option maxRecDepth 20000 in
theorem cI8 (l : Launch) : zIM l yX8_init (Cond.code yX8_init cX8_init 2 none :: UW) ({ frames := 2, cells := 30, slots := 838, locals := 35 } : Room) 30 838 8 [vI 0, vI 0, vI 0, vI 0, .null, .null, .null, .null, .null] [] (tI8) := by
  refine zI_enter (cc := cX8_init) (maxL := 2) (plainFor_of_name (by decide)) rfl (fun _ => Nat.le_of_ble_eq_true rfl) ?_
  intro p e s m args below meth c D dA aL aG aI aK aV a hC hin hr
  refine zn_aload_n hC dX8_init_0 0 rfl rfl ?_
  refine zn_obj hC (uT _ _ u141) (uT _ _ u134) (uT _ _ u135) (Nat.le_of_ble_eq_true rfl) (Nat.le_of_ble_eq_true rfl) dX8_init_1 ?_
  refine zn_aload_n hC dX8_init_4 0 rfl rfl ?_
  refine zn_bipush hC dX8_init_5 (by decide) ?_
  refine zn_put (ci := 8) hC (fun w h => uT _ w (uL8 w h)) tyX8 tyX8_ok nmX8 0 rfl rfl 0 (by decide) (uT _ _ u213) (fun _ h => h) rfl rfl rfl rfl (Nat.le_of_ble_eq_true rfl) dX8_init_7 ?_
  show zL p l e _ s m args below meth c 0 0 _ _ D _ 10 [(0, .ref a)] [] ((a, .inr (8, [vI 12, vI 0, vI 0, vI 0, .null, .null, .null, .null, .null])) :: [])
  refine zn_aload_n hC dX8_init_10 0 rfl rfl ?_
  refine zn_bipush hC dX8_init_11 (by decide) ?_
  refine zn_put (ci := 8) hC (fun w h => uT _ w (uL8 w h)) tyX8 tyX8_ok nmX8 0 rfl rfl 1 (by decide) (uT _ _ u216) (fun _ h => h) rfl rfl rfl rfl (Nat.le_of_ble_eq_true rfl) dX8_init_13 ?_
  show zL p l e _ s m args below meth c 0 0 _ _ D _ 16 [(0, .ref a)] [] ((a, .inr (8, [vI 12, vI 8, vI 0, vI 0, .null, .null, .null, .null, .null])) :: [])
  refine zn_aload_n hC dX8_init_16 0 rfl rfl ?_
  refine zn_iconst hC dX8_init_17 ?_
  refine zn_put (ci := 8) hC (fun w h => uT _ w (uL8 w h)) tyX8 tyX8_ok nmX8 0 rfl rfl 2 (by decide) (uT _ _ u219) (fun _ h => h) rfl rfl rfl rfl (Nat.le_of_ble_eq_true rfl) dX8_init_18 ?_
  show zL p l e _ s m args below meth c 0 0 _ _ D _ 21 [(0, .ref a)] [] ((a, .inr (8, [vI 12, vI 8, vI 0, vI 0, .null, .null, .null, .null, .null])) :: [])
  refine zn_aload_n hC dX8_init_21 0 rfl rfl ?_
  refine zn_iconst hC dX8_init_22 ?_
  refine zn_put (ci := 8) hC (fun w h => uT _ w (uL8 w h)) tyX8 tyX8_ok nmX8 0 rfl rfl 3 (by decide) (uT _ _ u223) (fun _ h => h) rfl rfl rfl rfl (Nat.le_of_ble_eq_true rfl) dX8_init_23 ?_
  show zL p l e _ s m args below meth c 0 0 _ _ D _ 26 [(0, .ref a)] [] ((a, .inr (8, [vI 12, vI 8, vI 0, vI 0, .null, .null, .null, .null, .null])) :: [])
  refine zn_aload_n hC dX8_init_26 0 rfl rfl ?_
  refine zn_bipush hC dX8_init_27 (by decide) ?_
  refine zn_newa (atype := .int) (k := 1) (cB := dA 1) (N' := 8) hC (uT _ _ ua_int) rfl rfl (8, .inl (fun _ => Int32.ofInt 0)) (fun _ => rfl) (by decide) rfl (by decide) ⟨Nat.le_of_ble_eq_true rfl, Nat.le_of_ble_eq_true rfl⟩ dX8_init_29 (fun q1 => ?_)
  refine zn_perm (List.Perm.swap _ _ _) ?_
  show zL p l e _ s m args below meth c 1 8 _ _ D _ 31 [(0, .ref a)] [.ref q1, .ref a] ((a, .inr (8, [vI 12, vI 8, vI 0, vI 0, .null, .null, .null, .null, .null])) :: (q1, .inl (dA 1, 8, .inl (fun _ => Int32.ofInt 0))) :: [])
  refine zn_putF (ci := 8) hC (fun w h => uT _ w (uL8 w h)) tyX8 tyX8_ok nmX8 0 rfl rfl 4 (by decide) (uT _ _ u226) (fun _ h => h) rfl hin rfl rfl rfl rfl (Nat.le_of_ble_eq_true rfl) dX8_init_31 ?_
  show zL p l e _ s m args below meth c 1 8 _ _ D _ 34 [(0, .ref a)] [] ((a, .inr (8, [vI 12, vI 8, vI 0, vI 0, .ref q1, .null, .null, .null, .null])) :: (q1, .inl (dA 1, 8, .inl (fun _ => Int32.ofInt 0))) :: [])
  refine zn_aload_n hC dX8_init_34 0 rfl rfl ?_
  refine zn_bipush hC dX8_init_35 (by decide) ?_
  refine zn_newq (C := "GlacierCamera$Frame") (k := 4) (cB := dA 4) (N' := 6) hC (by decide) (uT _ _ u142) rfl (by decide) rfl (by decide) ⟨Nat.le_of_ble_eq_true rfl, Nat.le_of_ble_eq_true rfl⟩ dX8_init_37 (fun q2 => ?_)
  refine zn_perm (List.Perm.swap _ _ _) ?_
  show zL p l e _ s m args below meth c 2 14 _ _ D _ 40 [(0, .ref a)] [.ref q2, .ref a] ((a, .inr (8, [vI 12, vI 8, vI 0, vI 0, .ref q1, .null, .null, .null, .null])) :: (q2, .inl (dA 4, 6, .inr (.inr (.inr (.inr (fun _ => none)))))) :: (q1, .inl (dA 1, 8, .inl (fun _ => Int32.ofInt 0))) :: [])
  refine zn_putF (ci := 8) hC (fun w h => uT _ w (uL8 w h)) tyX8 tyX8_ok nmX8 0 rfl rfl 5 (by decide) (uT _ _ u232) (fun _ h => h) rfl hin rfl rfl rfl rfl (Nat.le_of_ble_eq_true rfl) dX8_init_40 ?_
  show zL p l e _ s m args below meth c 2 14 _ _ D _ 43 [(0, .ref a)] [] ((a, .inr (8, [vI 12, vI 8, vI 0, vI 0, .ref q1, .ref q2, .null, .null, .null])) :: (q2, .inl (dA 4, 6, .inr (.inr (.inr (.inr (fun _ => none)))))) :: (q1, .inl (dA 1, 8, .inl (fun _ => Int32.ofInt 0))) :: [])
  refine zn_aload_n hC dX8_init_43 0 rfl rfl ?_
  refine zn_iconst hC dX8_init_44 ?_
  refine zn_newq (C := "GlacierCamera$Stake") (k := 5) (cB := dA 5) (N' := 3) hC (by decide) (uT _ _ u144) rfl (by decide) rfl (by decide) ⟨Nat.le_of_ble_eq_true rfl, Nat.le_of_ble_eq_true rfl⟩ dX8_init_45 (fun q3 => ?_)
  refine zn_perm (List.Perm.swap _ _ _) ?_
  show zL p l e _ s m args below meth c 3 17 _ _ D _ 48 [(0, .ref a)] [.ref q3, .ref a] ((a, .inr (8, [vI 12, vI 8, vI 0, vI 0, .ref q1, .ref q2, .null, .null, .null])) :: (q3, .inl (dA 5, 3, .inr (.inr (.inr (.inr (fun _ => none)))))) :: (q2, .inl (dA 4, 6, .inr (.inr (.inr (.inr (fun _ => none)))))) :: (q1, .inl (dA 1, 8, .inl (fun _ => Int32.ofInt 0))) :: [])
  refine zn_putF (ci := 8) hC (fun w h => uT _ w (uL8 w h)) tyX8 tyX8_ok nmX8 0 rfl rfl 6 (by decide) (uT _ _ u233) (fun _ h => h) rfl hin rfl rfl rfl rfl (Nat.le_of_ble_eq_true rfl) dX8_init_48 ?_
  show zL p l e _ s m args below meth c 3 17 _ _ D _ 51 [(0, .ref a)] [] ((a, .inr (8, [vI 12, vI 8, vI 0, vI 0, .ref q1, .ref q2, .ref q3, .null, .null])) :: (q3, .inl (dA 5, 3, .inr (.inr (.inr (.inr (fun _ => none)))))) :: (q2, .inl (dA 4, 6, .inr (.inr (.inr (.inr (fun _ => none)))))) :: (q1, .inl (dA 1, 8, .inl (fun _ => Int32.ofInt 0))) :: [])
  refine zn_aload_n hC dX8_init_51 0 rfl rfl ?_
  refine zn_new (ci := 7) hC (fun w h => uT _ w (uL7 w h)) tyX7 tyX7_ok (uT _ _ u146) (uT _ _ ui_RX7) (uT _ _ u107) rfl [vI 0, .null, .null, vI 0] (fun j hj => by rcases (show j = 0 ∨ j = 1 ∨ j = 2 ∨ j = 3 by omega) with rfl | rfl | rfl | rfl <;> rfl) ⟨Nat.le_of_ble_eq_true rfl, Nat.le_of_ble_eq_true rfl⟩ dX8_init_52 (fun q4 => ?_)
  show zL p l e _ s m args below meth c 4 21 _ _ D _ 55 [(0, .ref a)] [.ref q4, .ref a] ((q4, .inr (7, [vI 0, .null, .null, vI 0])) :: (a, .inr (8, [vI 12, vI 8, vI 0, vI 0, .ref q1, .ref q2, .ref q3, .null, .null])) :: (q3, .inl (dA 5, 3, .inr (.inr (.inr (.inr (fun _ => none)))))) :: (q2, .inl (dA 4, 6, .inr (.inr (.inr (.inr (fun _ => none)))))) :: (q1, .inl (dA 1, 8, .inl (fun _ => Int32.ofInt 0))) :: [])
  refine zn_dup hC dX8_init_55 rfl ?_
  refine zn_iconst hC dX8_init_56 ?_
  refine zn_init (As := [vI 4]) (T := tI7 4) hC (cI7 l 4 (by decide) (by decide)) (cwI 1 hC.1.2.2.2.2 (uP (uT _) u150) rfl rfl rfl (hC.1.2.2.2.2 _ (uT _ _ u107)) (hC.1.2.2.2.2 _ (uT _ _ u148)) (hC.1.2.2.2.2 _ (uT _ _ u149)) rfl (by decide +kernel) ⟨Nat.le_of_ble_eq_true rfl, Nat.le_of_ble_eq_true rfl⟩) rfl rfl (Nat.le_of_ble_eq_true rfl) ⟨Nat.le_of_ble_eq_true rfl, Nat.le_of_ble_eq_true rfl⟩ dX8_init_57 (fun u1 hu1 => ?_)
  subst hu1
  refine zn_perm List.perm_middle ?_
  show zL p l e _ s m args below meth c 6 33 _ _ D _ 60 [(0, .ref a)] [.ref (u1 0), .ref a] ((a, .inr (8, [vI 12, vI 8, vI 0, vI 0, .ref q1, .ref q2, .ref q3, .null, .null])) :: (tI7 4 dA u1 ++ ((q3, .inl (dA 5, 3, .inr (.inr (.inr (.inr (fun _ => none)))))) :: (q2, .inl (dA 4, 6, .inr (.inr (.inr (.inr (fun _ => none)))))) :: (q1, .inl (dA 1, 8, .inl (fun _ => Int32.ofInt 0))) :: [])))
  refine zn_putF (ci := 8) hC (fun w h => uT _ w (uL8 w h)) tyX8 tyX8_ok nmX8 0 rfl rfl 7 (by decide) (uT _ _ u237) (fun _ h => h) rfl hin rfl rfl rfl rfl (Nat.le_of_ble_eq_true rfl) dX8_init_60 ?_
  show zL p l e _ s m args below meth c 6 33 _ _ D _ 63 [(0, .ref a)] [] ((a, .inr (8, [vI 12, vI 8, vI 0, vI 0, .ref q1, .ref q2, .ref q3, .ref (u1 0), .null])) :: (tI7 4 dA u1 ++ ((q3, .inl (dA 5, 3, .inr (.inr (.inr (.inr (fun _ => none)))))) :: (q2, .inl (dA 4, 6, .inr (.inr (.inr (.inr (fun _ => none)))))) :: (q1, .inl (dA 1, 8, .inl (fun _ => Int32.ofInt 0))) :: [])))
  refine zn_aload_n hC dX8_init_63 0 rfl rfl ?_
  refine zn_new (ci := 7) hC (fun w h => uT _ w (uL7 w h)) tyX7 tyX7_ok (uT _ _ u146) (uT _ _ ui_RX7) (uT _ _ u107) rfl [vI 0, .null, .null, vI 0] (fun j hj => by rcases (show j = 0 ∨ j = 1 ∨ j = 2 ∨ j = 3 by omega) with rfl | rfl | rfl | rfl <;> rfl) ⟨Nat.le_of_ble_eq_true rfl, Nat.le_of_ble_eq_true rfl⟩ dX8_init_64 (fun q5 => ?_)
  show zL p l e _ s m args below meth c 7 37 _ _ D _ 67 [(0, .ref a)] [.ref q5, .ref a] ((q5, .inr (7, [vI 0, .null, .null, vI 0])) :: (a, .inr (8, [vI 12, vI 8, vI 0, vI 0, .ref q1, .ref q2, .ref q3, .ref (u1 0), .null])) :: (tI7 4 dA u1 ++ ((q3, .inl (dA 5, 3, .inr (.inr (.inr (.inr (fun _ => none)))))) :: (q2, .inl (dA 4, 6, .inr (.inr (.inr (.inr (fun _ => none)))))) :: (q1, .inl (dA 1, 8, .inl (fun _ => Int32.ofInt 0))) :: [])))
  refine zn_dup hC dX8_init_67 rfl ?_
  refine zn_bipush hC dX8_init_68 (by decide) ?_
  refine zn_init (As := [vI 6]) (T := tI7 6) hC (cI7 l 6 (by decide) (by decide)) (cwI 1 hC.1.2.2.2.2 (uP (uT _) u150) rfl rfl rfl (hC.1.2.2.2.2 _ (uT _ _ u107)) (hC.1.2.2.2.2 _ (uT _ _ u148)) (hC.1.2.2.2.2 _ (uT _ _ u149)) rfl (by decide +kernel) ⟨Nat.le_of_ble_eq_true rfl, Nat.le_of_ble_eq_true rfl⟩) rfl rfl (Nat.le_of_ble_eq_true rfl) ⟨Nat.le_of_ble_eq_true rfl, Nat.le_of_ble_eq_true rfl⟩ dX8_init_70 (fun u2 hu2 => ?_)
  subst hu2
  refine zn_perm List.perm_middle ?_
  show zL p l e _ s m args below meth c 9 49 _ _ D _ 73 [(0, .ref a)] [.ref (u2 0), .ref a] ((a, .inr (8, [vI 12, vI 8, vI 0, vI 0, .ref q1, .ref q2, .ref q3, .ref (u1 0), .null])) :: (tI7 6 dA u2 ++ ((tI7 4 dA u1 ++ ((q3, .inl (dA 5, 3, .inr (.inr (.inr (.inr (fun _ => none)))))) :: (q2, .inl (dA 4, 6, .inr (.inr (.inr (.inr (fun _ => none)))))) :: (q1, .inl (dA 1, 8, .inl (fun _ => Int32.ofInt 0))) :: [])))))
  refine zn_putF (ci := 8) hC (fun w h => uT _ w (uL8 w h)) tyX8 tyX8_ok nmX8 0 rfl rfl 8 (by decide) (uT _ _ u240) (fun _ h => h) rfl hin rfl rfl rfl rfl (Nat.le_of_ble_eq_true rfl) dX8_init_73 ?_
  show zL p l e _ s m args below meth c 9 49 _ _ D _ 76 [(0, .ref a)] [] ((a, .inr (8, [vI 12, vI 8, vI 0, vI 0, .ref q1, .ref q2, .ref q3, .ref (u1 0), .ref (u2 0)])) :: (tI7 6 dA u2 ++ ((tI7 4 dA u1 ++ ((q3, .inl (dA 5, 3, .inr (.inr (.inr (.inr (fun _ => none)))))) :: (q2, .inl (dA 4, 6, .inr (.inr (.inr (.inr (fun _ => none)))))) :: (q1, .inl (dA 1, 8, .inl (fun _ => Int32.ofInt 0))) :: [])))))
  refine zn_iconst hC dX8_init_76 ?_
  refine zn_istore_n hC [(1, vI 0), (0, .ref a)] dX8_init_77 rfl (by decide) rfl ?_
  refine zn_iload_n hC dX8_init_78 0 rfl rfl ?_
  refine zn_bipush hC dX8_init_79 (by decide) ?_
  refine zn_ge_f (tgt := 103) hC dX8_init_81 (by decide) (by decide) (by decide) (by decide) ?_
  refine zn_aload_n hC dX8_init_84 1 rfl rfl ?_
  refine zn_get (ci := 8) hC (fun w h => uT _ w (uL8 w h)) 0 rfl rfl 5 (by decide) (uT _ _ u232) (fun _ h => h) rfl dX8_init_85 ?_
  refine zn_iload_n hC dX8_init_88 0 rfl rfl ?_
  refine zn_new (ci := 1) hC (fun w h => uT _ w (uL1 w h)) tyX1 tyX1_ok (uT _ _ u142) (uT _ _ ui_RX1) (uT _ _ u109) rfl [vI 0, .null] (fun j hj => by rcases (show j = 0 ∨ j = 1 by omega) with rfl | rfl <;> rfl) ⟨Nat.le_of_ble_eq_true rfl, Nat.le_of_ble_eq_true rfl⟩ dX8_init_89 (fun q6 => ?_)
  show zL p l e _ s m args below meth c 10 51 _ _ D _ 92 [(1, vI 0), (0, .ref a)] [.ref q6, vI 0, .ref q2] ((q6, .inr (1, [vI 0, .null])) :: (a, .inr (8, [vI 12, vI 8, vI 0, vI 0, .ref q1, .ref q2, .ref q3, .ref (u1 0), .ref (u2 0)])) :: (tI7 6 dA u2 ++ ((tI7 4 dA u1 ++ ((q3, .inl (dA 5, 3, .inr (.inr (.inr (.inr (fun _ => none)))))) :: (q2, .inl (dA 4, 6, .inr (.inr (.inr (.inr (fun _ => none)))))) :: (q1, .inl (dA 1, 8, .inl (fun _ => Int32.ofInt 0))) :: [])))))
  refine zn_dup hC dX8_init_92 rfl ?_
  refine zn_initN (As := []) (T := tI1) hC (cI1 l) (⟨va_cnB (host := "GlacierCamera") 0 hC.1.2.2.2.2 (uP (uT _) u180) rfl rfl rfl ((hC.2.2.2.2.1.1 (.methodLinkNest RX8 52 yX1_init "GlacierCamera") (by decide +kernel : (Cond.methodLinkNest RX8 52 yX1_init "GlacierCamera") ∈ zNest)).1) (hC.1.2.2.2.2 _ (uT _ _ u109)) (by decide +kernel) ⟨Nat.le_of_ble_eq_true rfl, Nat.le_of_ble_eq_true rfl⟩, rfl, hC.1.2.2.2.2 _ (uT _ _ u179)⟩) rfl rfl (Nat.le_of_ble_eq_true rfl) ⟨Nat.le_of_ble_eq_true rfl, Nat.le_of_ble_eq_true rfl⟩ dX8_init_93 (fun u3 hu3 => ?_)
  subst hu3
  refine zn_perm List.perm_middle ?_
  show zL p l e _ s m args below meth c 11 171 _ _ D _ 96 [(1, vI 0), (0, .ref a)] [.ref (u3 0), vI 0, .ref q2] ((a, .inr (8, [vI 12, vI 8, vI 0, vI 0, .ref q1, .ref q2, .ref q3, .ref (u1 0), .ref (u2 0)])) :: (tI1 dA u3 ++ ((tI7 6 dA u2 ++ ((tI7 4 dA u1 ++ ((q3, .inl (dA 5, 3, .inr (.inr (.inr (.inr (fun _ => none)))))) :: (q2, .inl (dA 4, 6, .inr (.inr (.inr (.inr (fun _ => none)))))) :: (q1, .inl (dA 1, 8, .inl (fun _ => Int32.ofInt 0))) :: [])))))))
  refine zn_astq (iN := 0) hC 10 4 1 1 rfl rfl rfl rfl (by decide) (by decide) rfl dX8_init_96 ?_
  show zL p l e _ s m args below meth c 11 171 _ _ D _ 97 [(1, vI 0), (0, .ref a)] [] ((a, .inr (8, [vI 12, vI 8, vI 0, vI 0, .ref q1, .ref q2, .ref q3, .ref (u1 0), .ref (u2 0)])) :: (tI1 dA u3 ++ ((tI7 6 dA u2 ++ ((tI7 4 dA u1 ++ ((q3, .inl (dA 5, 3, .inr (.inr (.inr (.inr (fun _ => none)))))) :: (q2, .inl (dA 4, 6, .inr (.inr (.inr (.inr (va_up (fun _ => none) 0 (some (u3 0)))))))) :: (q1, .inl (dA 1, 8, .inl (fun _ => Int32.ofInt 0))) :: [])))))))
  refine zn_iinc hC [(1, vI (0 + 1)), (0, .ref a)] dX8_init_97 0 rfl (by decide) rfl ?_
  show zL p l e _ s m args below meth c 11 171 _ _ D _ 100 [(1, vI 1), (0, .ref a)] [] ((a, .inr (8, [vI 12, vI 8, vI 0, vI 0, .ref q1, .ref q2, .ref q3, .ref (u1 0), .ref (u2 0)])) :: (tI1 dA u3 ++ ((tI7 6 dA u2 ++ ((tI7 4 dA u1 ++ ((q3, .inl (dA 5, 3, .inr (.inr (.inr (.inr (fun _ => none)))))) :: (q2, .inl (dA 4, 6, .inr (.inr (.inr (.inr (va_up (fun _ => none) 0 (some (u3 0)))))))) :: (q1, .inl (dA 1, 8, .inl (fun _ => Int32.ofInt 0))) :: [])))))))
  refine zn_goto (tgt := 78) hC dX8_init_100 (by decide) ?_
  refine zn_iload_n hC dX8_init_78 0 rfl rfl ?_
  refine zn_bipush hC dX8_init_79 (by decide) ?_
  refine zn_ge_f (tgt := 103) hC dX8_init_81 (by decide) (by decide) (by decide) (by decide) ?_
  refine zn_aload_n hC dX8_init_84 1 rfl rfl ?_
  refine zn_get (ci := 8) hC (fun w h => uT _ w (uL8 w h)) 0 rfl rfl 5 (by decide) (uT _ _ u232) (fun _ h => h) rfl dX8_init_85 ?_
  refine zn_iload_n hC dX8_init_88 0 rfl rfl ?_
  refine zn_new (ci := 1) hC (fun w h => uT _ w (uL1 w h)) tyX1 tyX1_ok (uT _ _ u142) (uT _ _ ui_RX1) (uT _ _ u109) rfl [vI 0, .null] (fun j hj => by rcases (show j = 0 ∨ j = 1 by omega) with rfl | rfl <;> rfl) ⟨Nat.le_of_ble_eq_true rfl, Nat.le_of_ble_eq_true rfl⟩ dX8_init_89 (fun q7 => ?_)
  show zL p l e _ s m args below meth c 12 173 _ _ D _ 92 [(1, vI 1), (0, .ref a)] [.ref q7, vI 1, .ref q2] ((q7, .inr (1, [vI 0, .null])) :: (a, .inr (8, [vI 12, vI 8, vI 0, vI 0, .ref q1, .ref q2, .ref q3, .ref (u1 0), .ref (u2 0)])) :: (tI1 dA u3 ++ ((tI7 6 dA u2 ++ ((tI7 4 dA u1 ++ ((q3, .inl (dA 5, 3, .inr (.inr (.inr (.inr (fun _ => none)))))) :: (q2, .inl (dA 4, 6, .inr (.inr (.inr (.inr (va_up (fun _ => none) 0 (some (u3 0)))))))) :: (q1, .inl (dA 1, 8, .inl (fun _ => Int32.ofInt 0))) :: [])))))))
  refine zn_dup hC dX8_init_92 rfl ?_
  refine zn_initN (As := []) (T := tI1) hC (cI1 l) (⟨va_cnB (host := "GlacierCamera") 0 hC.1.2.2.2.2 (uP (uT _) u180) rfl rfl rfl ((hC.2.2.2.2.1.1 (.methodLinkNest RX8 52 yX1_init "GlacierCamera") (by decide +kernel : (Cond.methodLinkNest RX8 52 yX1_init "GlacierCamera") ∈ zNest)).1) (hC.1.2.2.2.2 _ (uT _ _ u109)) (by decide +kernel) ⟨Nat.le_of_ble_eq_true rfl, Nat.le_of_ble_eq_true rfl⟩, rfl, hC.1.2.2.2.2 _ (uT _ _ u179)⟩) rfl rfl (Nat.le_of_ble_eq_true rfl) ⟨Nat.le_of_ble_eq_true rfl, Nat.le_of_ble_eq_true rfl⟩ dX8_init_93 (fun u4 hu4 => ?_)
  subst hu4
  refine zn_perm List.perm_middle ?_
  show zL p l e _ s m args below meth c 13 293 _ _ D _ 96 [(1, vI 1), (0, .ref a)] [.ref (u4 0), vI 1, .ref q2] ((a, .inr (8, [vI 12, vI 8, vI 0, vI 0, .ref q1, .ref q2, .ref q3, .ref (u1 0), .ref (u2 0)])) :: (tI1 dA u4 ++ ((tI1 dA u3 ++ ((tI7 6 dA u2 ++ ((tI7 4 dA u1 ++ ((q3, .inl (dA 5, 3, .inr (.inr (.inr (.inr (fun _ => none)))))) :: (q2, .inl (dA 4, 6, .inr (.inr (.inr (.inr (va_up (fun _ => none) 0 (some (u3 0)))))))) :: (q1, .inl (dA 1, 8, .inl (fun _ => Int32.ofInt 0))) :: [])))))))))
  refine zn_astq (iN := 1) hC 12 4 1 1 rfl rfl rfl rfl (by decide) (by decide) rfl dX8_init_96 ?_
  show zL p l e _ s m args below meth c 13 293 _ _ D _ 97 [(1, vI 1), (0, .ref a)] [] ((a, .inr (8, [vI 12, vI 8, vI 0, vI 0, .ref q1, .ref q2, .ref q3, .ref (u1 0), .ref (u2 0)])) :: (tI1 dA u4 ++ ((tI1 dA u3 ++ ((tI7 6 dA u2 ++ ((tI7 4 dA u1 ++ ((q3, .inl (dA 5, 3, .inr (.inr (.inr (.inr (fun _ => none)))))) :: (q2, .inl (dA 4, 6, .inr (.inr (.inr (.inr (va_up (va_up (fun _ => none) 0 (some (u3 0))) 1 (some (u4 0)))))))) :: (q1, .inl (dA 1, 8, .inl (fun _ => Int32.ofInt 0))) :: [])))))))))
  refine zn_iinc hC [(1, vI (1 + 1)), (0, .ref a)] dX8_init_97 0 rfl (by decide) rfl ?_
  show zL p l e _ s m args below meth c 13 293 _ _ D _ 100 [(1, vI 2), (0, .ref a)] [] ((a, .inr (8, [vI 12, vI 8, vI 0, vI 0, .ref q1, .ref q2, .ref q3, .ref (u1 0), .ref (u2 0)])) :: (tI1 dA u4 ++ ((tI1 dA u3 ++ ((tI7 6 dA u2 ++ ((tI7 4 dA u1 ++ ((q3, .inl (dA 5, 3, .inr (.inr (.inr (.inr (fun _ => none)))))) :: (q2, .inl (dA 4, 6, .inr (.inr (.inr (.inr (va_up (va_up (fun _ => none) 0 (some (u3 0))) 1 (some (u4 0)))))))) :: (q1, .inl (dA 1, 8, .inl (fun _ => Int32.ofInt 0))) :: [])))))))))
  refine zn_goto (tgt := 78) hC dX8_init_100 (by decide) ?_
  refine zn_iload_n hC dX8_init_78 0 rfl rfl ?_
  refine zn_bipush hC dX8_init_79 (by decide) ?_
  refine zn_ge_f (tgt := 103) hC dX8_init_81 (by decide) (by decide) (by decide) (by decide) ?_
  refine zn_aload_n hC dX8_init_84 1 rfl rfl ?_
  refine zn_get (ci := 8) hC (fun w h => uT _ w (uL8 w h)) 0 rfl rfl 5 (by decide) (uT _ _ u232) (fun _ h => h) rfl dX8_init_85 ?_
  refine zn_iload_n hC dX8_init_88 0 rfl rfl ?_
  refine zn_new (ci := 1) hC (fun w h => uT _ w (uL1 w h)) tyX1 tyX1_ok (uT _ _ u142) (uT _ _ ui_RX1) (uT _ _ u109) rfl [vI 0, .null] (fun j hj => by rcases (show j = 0 ∨ j = 1 by omega) with rfl | rfl <;> rfl) ⟨Nat.le_of_ble_eq_true rfl, Nat.le_of_ble_eq_true rfl⟩ dX8_init_89 (fun q8 => ?_)
  show zL p l e _ s m args below meth c 14 295 _ _ D _ 92 [(1, vI 2), (0, .ref a)] [.ref q8, vI 2, .ref q2] ((q8, .inr (1, [vI 0, .null])) :: (a, .inr (8, [vI 12, vI 8, vI 0, vI 0, .ref q1, .ref q2, .ref q3, .ref (u1 0), .ref (u2 0)])) :: (tI1 dA u4 ++ ((tI1 dA u3 ++ ((tI7 6 dA u2 ++ ((tI7 4 dA u1 ++ ((q3, .inl (dA 5, 3, .inr (.inr (.inr (.inr (fun _ => none)))))) :: (q2, .inl (dA 4, 6, .inr (.inr (.inr (.inr (va_up (va_up (fun _ => none) 0 (some (u3 0))) 1 (some (u4 0)))))))) :: (q1, .inl (dA 1, 8, .inl (fun _ => Int32.ofInt 0))) :: [])))))))))
  refine zn_dup hC dX8_init_92 rfl ?_
  refine zn_initN (As := []) (T := tI1) hC (cI1 l) (⟨va_cnB (host := "GlacierCamera") 0 hC.1.2.2.2.2 (uP (uT _) u180) rfl rfl rfl ((hC.2.2.2.2.1.1 (.methodLinkNest RX8 52 yX1_init "GlacierCamera") (by decide +kernel : (Cond.methodLinkNest RX8 52 yX1_init "GlacierCamera") ∈ zNest)).1) (hC.1.2.2.2.2 _ (uT _ _ u109)) (by decide +kernel) ⟨Nat.le_of_ble_eq_true rfl, Nat.le_of_ble_eq_true rfl⟩, rfl, hC.1.2.2.2.2 _ (uT _ _ u179)⟩) rfl rfl (Nat.le_of_ble_eq_true rfl) ⟨Nat.le_of_ble_eq_true rfl, Nat.le_of_ble_eq_true rfl⟩ dX8_init_93 (fun u5 hu5 => ?_)
  subst hu5
  refine zn_perm List.perm_middle ?_
  show zL p l e _ s m args below meth c 15 415 _ _ D _ 96 [(1, vI 2), (0, .ref a)] [.ref (u5 0), vI 2, .ref q2] ((a, .inr (8, [vI 12, vI 8, vI 0, vI 0, .ref q1, .ref q2, .ref q3, .ref (u1 0), .ref (u2 0)])) :: (tI1 dA u5 ++ ((tI1 dA u4 ++ ((tI1 dA u3 ++ ((tI7 6 dA u2 ++ ((tI7 4 dA u1 ++ ((q3, .inl (dA 5, 3, .inr (.inr (.inr (.inr (fun _ => none)))))) :: (q2, .inl (dA 4, 6, .inr (.inr (.inr (.inr (va_up (va_up (fun _ => none) 0 (some (u3 0))) 1 (some (u4 0)))))))) :: (q1, .inl (dA 1, 8, .inl (fun _ => Int32.ofInt 0))) :: [])))))))))))
  refine zn_astq (iN := 2) hC 14 4 1 1 rfl rfl rfl rfl (by decide) (by decide) rfl dX8_init_96 ?_
  show zL p l e _ s m args below meth c 15 415 _ _ D _ 97 [(1, vI 2), (0, .ref a)] [] ((a, .inr (8, [vI 12, vI 8, vI 0, vI 0, .ref q1, .ref q2, .ref q3, .ref (u1 0), .ref (u2 0)])) :: (tI1 dA u5 ++ ((tI1 dA u4 ++ ((tI1 dA u3 ++ ((tI7 6 dA u2 ++ ((tI7 4 dA u1 ++ ((q3, .inl (dA 5, 3, .inr (.inr (.inr (.inr (fun _ => none)))))) :: (q2, .inl (dA 4, 6, .inr (.inr (.inr (.inr (va_up (va_up (va_up (fun _ => none) 0 (some (u3 0))) 1 (some (u4 0))) 2 (some (u5 0)))))))) :: (q1, .inl (dA 1, 8, .inl (fun _ => Int32.ofInt 0))) :: [])))))))))))
  refine zn_iinc hC [(1, vI (2 + 1)), (0, .ref a)] dX8_init_97 0 rfl (by decide) rfl ?_
  show zL p l e _ s m args below meth c 15 415 _ _ D _ 100 [(1, vI 3), (0, .ref a)] [] ((a, .inr (8, [vI 12, vI 8, vI 0, vI 0, .ref q1, .ref q2, .ref q3, .ref (u1 0), .ref (u2 0)])) :: (tI1 dA u5 ++ ((tI1 dA u4 ++ ((tI1 dA u3 ++ ((tI7 6 dA u2 ++ ((tI7 4 dA u1 ++ ((q3, .inl (dA 5, 3, .inr (.inr (.inr (.inr (fun _ => none)))))) :: (q2, .inl (dA 4, 6, .inr (.inr (.inr (.inr (va_up (va_up (va_up (fun _ => none) 0 (some (u3 0))) 1 (some (u4 0))) 2 (some (u5 0)))))))) :: (q1, .inl (dA 1, 8, .inl (fun _ => Int32.ofInt 0))) :: [])))))))))))
  refine zn_goto (tgt := 78) hC dX8_init_100 (by decide) ?_
  refine zn_iload_n hC dX8_init_78 0 rfl rfl ?_
  refine zn_bipush hC dX8_init_79 (by decide) ?_
  refine zn_ge_f (tgt := 103) hC dX8_init_81 (by decide) (by decide) (by decide) (by decide) ?_
  refine zn_aload_n hC dX8_init_84 1 rfl rfl ?_
  refine zn_get (ci := 8) hC (fun w h => uT _ w (uL8 w h)) 0 rfl rfl 5 (by decide) (uT _ _ u232) (fun _ h => h) rfl dX8_init_85 ?_
  refine zn_iload_n hC dX8_init_88 0 rfl rfl ?_
  refine zn_new (ci := 1) hC (fun w h => uT _ w (uL1 w h)) tyX1 tyX1_ok (uT _ _ u142) (uT _ _ ui_RX1) (uT _ _ u109) rfl [vI 0, .null] (fun j hj => by rcases (show j = 0 ∨ j = 1 by omega) with rfl | rfl <;> rfl) ⟨Nat.le_of_ble_eq_true rfl, Nat.le_of_ble_eq_true rfl⟩ dX8_init_89 (fun q9 => ?_)
  show zL p l e _ s m args below meth c 16 417 _ _ D _ 92 [(1, vI 3), (0, .ref a)] [.ref q9, vI 3, .ref q2] ((q9, .inr (1, [vI 0, .null])) :: (a, .inr (8, [vI 12, vI 8, vI 0, vI 0, .ref q1, .ref q2, .ref q3, .ref (u1 0), .ref (u2 0)])) :: (tI1 dA u5 ++ ((tI1 dA u4 ++ ((tI1 dA u3 ++ ((tI7 6 dA u2 ++ ((tI7 4 dA u1 ++ ((q3, .inl (dA 5, 3, .inr (.inr (.inr (.inr (fun _ => none)))))) :: (q2, .inl (dA 4, 6, .inr (.inr (.inr (.inr (va_up (va_up (va_up (fun _ => none) 0 (some (u3 0))) 1 (some (u4 0))) 2 (some (u5 0)))))))) :: (q1, .inl (dA 1, 8, .inl (fun _ => Int32.ofInt 0))) :: [])))))))))))
  refine zn_dup hC dX8_init_92 rfl ?_
  refine zn_initN (As := []) (T := tI1) hC (cI1 l) (⟨va_cnB (host := "GlacierCamera") 0 hC.1.2.2.2.2 (uP (uT _) u180) rfl rfl rfl ((hC.2.2.2.2.1.1 (.methodLinkNest RX8 52 yX1_init "GlacierCamera") (by decide +kernel : (Cond.methodLinkNest RX8 52 yX1_init "GlacierCamera") ∈ zNest)).1) (hC.1.2.2.2.2 _ (uT _ _ u109)) (by decide +kernel) ⟨Nat.le_of_ble_eq_true rfl, Nat.le_of_ble_eq_true rfl⟩, rfl, hC.1.2.2.2.2 _ (uT _ _ u179)⟩) rfl rfl (Nat.le_of_ble_eq_true rfl) ⟨Nat.le_of_ble_eq_true rfl, Nat.le_of_ble_eq_true rfl⟩ dX8_init_93 (fun u6 hu6 => ?_)
  subst hu6
  refine zn_perm List.perm_middle ?_
  show zL p l e _ s m args below meth c 17 537 _ _ D _ 96 [(1, vI 3), (0, .ref a)] [.ref (u6 0), vI 3, .ref q2] ((a, .inr (8, [vI 12, vI 8, vI 0, vI 0, .ref q1, .ref q2, .ref q3, .ref (u1 0), .ref (u2 0)])) :: (tI1 dA u6 ++ ((tI1 dA u5 ++ ((tI1 dA u4 ++ ((tI1 dA u3 ++ ((tI7 6 dA u2 ++ ((tI7 4 dA u1 ++ ((q3, .inl (dA 5, 3, .inr (.inr (.inr (.inr (fun _ => none)))))) :: (q2, .inl (dA 4, 6, .inr (.inr (.inr (.inr (va_up (va_up (va_up (fun _ => none) 0 (some (u3 0))) 1 (some (u4 0))) 2 (some (u5 0)))))))) :: (q1, .inl (dA 1, 8, .inl (fun _ => Int32.ofInt 0))) :: [])))))))))))))
  refine zn_astq (iN := 3) hC 16 4 1 1 rfl rfl rfl rfl (by decide) (by decide) rfl dX8_init_96 ?_
  show zL p l e _ s m args below meth c 17 537 _ _ D _ 97 [(1, vI 3), (0, .ref a)] [] ((a, .inr (8, [vI 12, vI 8, vI 0, vI 0, .ref q1, .ref q2, .ref q3, .ref (u1 0), .ref (u2 0)])) :: (tI1 dA u6 ++ ((tI1 dA u5 ++ ((tI1 dA u4 ++ ((tI1 dA u3 ++ ((tI7 6 dA u2 ++ ((tI7 4 dA u1 ++ ((q3, .inl (dA 5, 3, .inr (.inr (.inr (.inr (fun _ => none)))))) :: (q2, .inl (dA 4, 6, .inr (.inr (.inr (.inr (va_up (va_up (va_up (va_up (fun _ => none) 0 (some (u3 0))) 1 (some (u4 0))) 2 (some (u5 0))) 3 (some (u6 0)))))))) :: (q1, .inl (dA 1, 8, .inl (fun _ => Int32.ofInt 0))) :: [])))))))))))))
  refine zn_iinc hC [(1, vI (3 + 1)), (0, .ref a)] dX8_init_97 0 rfl (by decide) rfl ?_
  show zL p l e _ s m args below meth c 17 537 _ _ D _ 100 [(1, vI 4), (0, .ref a)] [] ((a, .inr (8, [vI 12, vI 8, vI 0, vI 0, .ref q1, .ref q2, .ref q3, .ref (u1 0), .ref (u2 0)])) :: (tI1 dA u6 ++ ((tI1 dA u5 ++ ((tI1 dA u4 ++ ((tI1 dA u3 ++ ((tI7 6 dA u2 ++ ((tI7 4 dA u1 ++ ((q3, .inl (dA 5, 3, .inr (.inr (.inr (.inr (fun _ => none)))))) :: (q2, .inl (dA 4, 6, .inr (.inr (.inr (.inr (va_up (va_up (va_up (va_up (fun _ => none) 0 (some (u3 0))) 1 (some (u4 0))) 2 (some (u5 0))) 3 (some (u6 0)))))))) :: (q1, .inl (dA 1, 8, .inl (fun _ => Int32.ofInt 0))) :: [])))))))))))))
  refine zn_goto (tgt := 78) hC dX8_init_100 (by decide) ?_
  refine zn_iload_n hC dX8_init_78 0 rfl rfl ?_
  refine zn_bipush hC dX8_init_79 (by decide) ?_
  refine zn_ge_f (tgt := 103) hC dX8_init_81 (by decide) (by decide) (by decide) (by decide) ?_
  refine zn_aload_n hC dX8_init_84 1 rfl rfl ?_
  refine zn_get (ci := 8) hC (fun w h => uT _ w (uL8 w h)) 0 rfl rfl 5 (by decide) (uT _ _ u232) (fun _ h => h) rfl dX8_init_85 ?_
  refine zn_iload_n hC dX8_init_88 0 rfl rfl ?_
  refine zn_new (ci := 1) hC (fun w h => uT _ w (uL1 w h)) tyX1 tyX1_ok (uT _ _ u142) (uT _ _ ui_RX1) (uT _ _ u109) rfl [vI 0, .null] (fun j hj => by rcases (show j = 0 ∨ j = 1 by omega) with rfl | rfl <;> rfl) ⟨Nat.le_of_ble_eq_true rfl, Nat.le_of_ble_eq_true rfl⟩ dX8_init_89 (fun q10 => ?_)
  show zL p l e _ s m args below meth c 18 539 _ _ D _ 92 [(1, vI 4), (0, .ref a)] [.ref q10, vI 4, .ref q2] ((q10, .inr (1, [vI 0, .null])) :: (a, .inr (8, [vI 12, vI 8, vI 0, vI 0, .ref q1, .ref q2, .ref q3, .ref (u1 0), .ref (u2 0)])) :: (tI1 dA u6 ++ ((tI1 dA u5 ++ ((tI1 dA u4 ++ ((tI1 dA u3 ++ ((tI7 6 dA u2 ++ ((tI7 4 dA u1 ++ ((q3, .inl (dA 5, 3, .inr (.inr (.inr (.inr (fun _ => none)))))) :: (q2, .inl (dA 4, 6, .inr (.inr (.inr (.inr (va_up (va_up (va_up (va_up (fun _ => none) 0 (some (u3 0))) 1 (some (u4 0))) 2 (some (u5 0))) 3 (some (u6 0)))))))) :: (q1, .inl (dA 1, 8, .inl (fun _ => Int32.ofInt 0))) :: [])))))))))))))
  refine zn_dup hC dX8_init_92 rfl ?_
  refine zn_initN (As := []) (T := tI1) hC (cI1 l) (⟨va_cnB (host := "GlacierCamera") 0 hC.1.2.2.2.2 (uP (uT _) u180) rfl rfl rfl ((hC.2.2.2.2.1.1 (.methodLinkNest RX8 52 yX1_init "GlacierCamera") (by decide +kernel : (Cond.methodLinkNest RX8 52 yX1_init "GlacierCamera") ∈ zNest)).1) (hC.1.2.2.2.2 _ (uT _ _ u109)) (by decide +kernel) ⟨Nat.le_of_ble_eq_true rfl, Nat.le_of_ble_eq_true rfl⟩, rfl, hC.1.2.2.2.2 _ (uT _ _ u179)⟩) rfl rfl (Nat.le_of_ble_eq_true rfl) ⟨Nat.le_of_ble_eq_true rfl, Nat.le_of_ble_eq_true rfl⟩ dX8_init_93 (fun u7 hu7 => ?_)
  subst hu7
  refine zn_perm List.perm_middle ?_
  show zL p l e _ s m args below meth c 19 659 _ _ D _ 96 [(1, vI 4), (0, .ref a)] [.ref (u7 0), vI 4, .ref q2] ((a, .inr (8, [vI 12, vI 8, vI 0, vI 0, .ref q1, .ref q2, .ref q3, .ref (u1 0), .ref (u2 0)])) :: (tI1 dA u7 ++ ((tI1 dA u6 ++ ((tI1 dA u5 ++ ((tI1 dA u4 ++ ((tI1 dA u3 ++ ((tI7 6 dA u2 ++ ((tI7 4 dA u1 ++ ((q3, .inl (dA 5, 3, .inr (.inr (.inr (.inr (fun _ => none)))))) :: (q2, .inl (dA 4, 6, .inr (.inr (.inr (.inr (va_up (va_up (va_up (va_up (fun _ => none) 0 (some (u3 0))) 1 (some (u4 0))) 2 (some (u5 0))) 3 (some (u6 0)))))))) :: (q1, .inl (dA 1, 8, .inl (fun _ => Int32.ofInt 0))) :: [])))))))))))))))
  refine zn_astq (iN := 4) hC 18 4 1 1 rfl rfl rfl rfl (by decide) (by decide) rfl dX8_init_96 ?_
  show zL p l e _ s m args below meth c 19 659 _ _ D _ 97 [(1, vI 4), (0, .ref a)] [] ((a, .inr (8, [vI 12, vI 8, vI 0, vI 0, .ref q1, .ref q2, .ref q3, .ref (u1 0), .ref (u2 0)])) :: (tI1 dA u7 ++ ((tI1 dA u6 ++ ((tI1 dA u5 ++ ((tI1 dA u4 ++ ((tI1 dA u3 ++ ((tI7 6 dA u2 ++ ((tI7 4 dA u1 ++ ((q3, .inl (dA 5, 3, .inr (.inr (.inr (.inr (fun _ => none)))))) :: (q2, .inl (dA 4, 6, .inr (.inr (.inr (.inr (va_up (va_up (va_up (va_up (va_up (fun _ => none) 0 (some (u3 0))) 1 (some (u4 0))) 2 (some (u5 0))) 3 (some (u6 0))) 4 (some (u7 0)))))))) :: (q1, .inl (dA 1, 8, .inl (fun _ => Int32.ofInt 0))) :: [])))))))))))))))
  refine zn_iinc hC [(1, vI (4 + 1)), (0, .ref a)] dX8_init_97 0 rfl (by decide) rfl ?_
  show zL p l e _ s m args below meth c 19 659 _ _ D _ 100 [(1, vI 5), (0, .ref a)] [] ((a, .inr (8, [vI 12, vI 8, vI 0, vI 0, .ref q1, .ref q2, .ref q3, .ref (u1 0), .ref (u2 0)])) :: (tI1 dA u7 ++ ((tI1 dA u6 ++ ((tI1 dA u5 ++ ((tI1 dA u4 ++ ((tI1 dA u3 ++ ((tI7 6 dA u2 ++ ((tI7 4 dA u1 ++ ((q3, .inl (dA 5, 3, .inr (.inr (.inr (.inr (fun _ => none)))))) :: (q2, .inl (dA 4, 6, .inr (.inr (.inr (.inr (va_up (va_up (va_up (va_up (va_up (fun _ => none) 0 (some (u3 0))) 1 (some (u4 0))) 2 (some (u5 0))) 3 (some (u6 0))) 4 (some (u7 0)))))))) :: (q1, .inl (dA 1, 8, .inl (fun _ => Int32.ofInt 0))) :: [])))))))))))))))
  refine zn_goto (tgt := 78) hC dX8_init_100 (by decide) ?_
  refine zn_iload_n hC dX8_init_78 0 rfl rfl ?_
  refine zn_bipush hC dX8_init_79 (by decide) ?_
  refine zn_ge_f (tgt := 103) hC dX8_init_81 (by decide) (by decide) (by decide) (by decide) ?_
  refine zn_aload_n hC dX8_init_84 1 rfl rfl ?_
  refine zn_get (ci := 8) hC (fun w h => uT _ w (uL8 w h)) 0 rfl rfl 5 (by decide) (uT _ _ u232) (fun _ h => h) rfl dX8_init_85 ?_
  refine zn_iload_n hC dX8_init_88 0 rfl rfl ?_
  refine zn_new (ci := 1) hC (fun w h => uT _ w (uL1 w h)) tyX1 tyX1_ok (uT _ _ u142) (uT _ _ ui_RX1) (uT _ _ u109) rfl [vI 0, .null] (fun j hj => by rcases (show j = 0 ∨ j = 1 by omega) with rfl | rfl <;> rfl) ⟨Nat.le_of_ble_eq_true rfl, Nat.le_of_ble_eq_true rfl⟩ dX8_init_89 (fun q11 => ?_)
  show zL p l e _ s m args below meth c 20 661 _ _ D _ 92 [(1, vI 5), (0, .ref a)] [.ref q11, vI 5, .ref q2] ((q11, .inr (1, [vI 0, .null])) :: (a, .inr (8, [vI 12, vI 8, vI 0, vI 0, .ref q1, .ref q2, .ref q3, .ref (u1 0), .ref (u2 0)])) :: (tI1 dA u7 ++ ((tI1 dA u6 ++ ((tI1 dA u5 ++ ((tI1 dA u4 ++ ((tI1 dA u3 ++ ((tI7 6 dA u2 ++ ((tI7 4 dA u1 ++ ((q3, .inl (dA 5, 3, .inr (.inr (.inr (.inr (fun _ => none)))))) :: (q2, .inl (dA 4, 6, .inr (.inr (.inr (.inr (va_up (va_up (va_up (va_up (va_up (fun _ => none) 0 (some (u3 0))) 1 (some (u4 0))) 2 (some (u5 0))) 3 (some (u6 0))) 4 (some (u7 0)))))))) :: (q1, .inl (dA 1, 8, .inl (fun _ => Int32.ofInt 0))) :: [])))))))))))))))
  refine zn_dup hC dX8_init_92 rfl ?_
  refine zn_initN (As := []) (T := tI1) hC (cI1 l) (⟨va_cnB (host := "GlacierCamera") 0 hC.1.2.2.2.2 (uP (uT _) u180) rfl rfl rfl ((hC.2.2.2.2.1.1 (.methodLinkNest RX8 52 yX1_init "GlacierCamera") (by decide +kernel : (Cond.methodLinkNest RX8 52 yX1_init "GlacierCamera") ∈ zNest)).1) (hC.1.2.2.2.2 _ (uT _ _ u109)) (by decide +kernel) ⟨Nat.le_of_ble_eq_true rfl, Nat.le_of_ble_eq_true rfl⟩, rfl, hC.1.2.2.2.2 _ (uT _ _ u179)⟩) rfl rfl (Nat.le_of_ble_eq_true rfl) ⟨Nat.le_of_ble_eq_true rfl, Nat.le_of_ble_eq_true rfl⟩ dX8_init_93 (fun u8 hu8 => ?_)
  subst hu8
  refine zn_perm List.perm_middle ?_
  show zL p l e _ s m args below meth c 21 781 _ _ D _ 96 [(1, vI 5), (0, .ref a)] [.ref (u8 0), vI 5, .ref q2] ((a, .inr (8, [vI 12, vI 8, vI 0, vI 0, .ref q1, .ref q2, .ref q3, .ref (u1 0), .ref (u2 0)])) :: (tI1 dA u8 ++ ((tI1 dA u7 ++ ((tI1 dA u6 ++ ((tI1 dA u5 ++ ((tI1 dA u4 ++ ((tI1 dA u3 ++ ((tI7 6 dA u2 ++ ((tI7 4 dA u1 ++ ((q3, .inl (dA 5, 3, .inr (.inr (.inr (.inr (fun _ => none)))))) :: (q2, .inl (dA 4, 6, .inr (.inr (.inr (.inr (va_up (va_up (va_up (va_up (va_up (fun _ => none) 0 (some (u3 0))) 1 (some (u4 0))) 2 (some (u5 0))) 3 (some (u6 0))) 4 (some (u7 0)))))))) :: (q1, .inl (dA 1, 8, .inl (fun _ => Int32.ofInt 0))) :: [])))))))))))))))))
  refine zn_astq (iN := 5) hC 20 4 1 1 rfl rfl rfl rfl (by decide) (by decide) rfl dX8_init_96 ?_
  show zL p l e _ s m args below meth c 21 781 _ _ D _ 97 [(1, vI 5), (0, .ref a)] [] ((a, .inr (8, [vI 12, vI 8, vI 0, vI 0, .ref q1, .ref q2, .ref q3, .ref (u1 0), .ref (u2 0)])) :: (tI1 dA u8 ++ ((tI1 dA u7 ++ ((tI1 dA u6 ++ ((tI1 dA u5 ++ ((tI1 dA u4 ++ ((tI1 dA u3 ++ ((tI7 6 dA u2 ++ ((tI7 4 dA u1 ++ ((q3, .inl (dA 5, 3, .inr (.inr (.inr (.inr (fun _ => none)))))) :: (q2, .inl (dA 4, 6, .inr (.inr (.inr (.inr (va_up (va_up (va_up (va_up (va_up (va_up (fun _ => none) 0 (some (u3 0))) 1 (some (u4 0))) 2 (some (u5 0))) 3 (some (u6 0))) 4 (some (u7 0))) 5 (some (u8 0)))))))) :: (q1, .inl (dA 1, 8, .inl (fun _ => Int32.ofInt 0))) :: [])))))))))))))))))
  refine zn_iinc hC [(1, vI (5 + 1)), (0, .ref a)] dX8_init_97 0 rfl (by decide) rfl ?_
  show zL p l e _ s m args below meth c 21 781 _ _ D _ 100 [(1, vI 6), (0, .ref a)] [] ((a, .inr (8, [vI 12, vI 8, vI 0, vI 0, .ref q1, .ref q2, .ref q3, .ref (u1 0), .ref (u2 0)])) :: (tI1 dA u8 ++ ((tI1 dA u7 ++ ((tI1 dA u6 ++ ((tI1 dA u5 ++ ((tI1 dA u4 ++ ((tI1 dA u3 ++ ((tI7 6 dA u2 ++ ((tI7 4 dA u1 ++ ((q3, .inl (dA 5, 3, .inr (.inr (.inr (.inr (fun _ => none)))))) :: (q2, .inl (dA 4, 6, .inr (.inr (.inr (.inr (va_up (va_up (va_up (va_up (va_up (va_up (fun _ => none) 0 (some (u3 0))) 1 (some (u4 0))) 2 (some (u5 0))) 3 (some (u6 0))) 4 (some (u7 0))) 5 (some (u8 0)))))))) :: (q1, .inl (dA 1, 8, .inl (fun _ => Int32.ofInt 0))) :: [])))))))))))))))))
  refine zn_goto (tgt := 78) hC dX8_init_100 (by decide) ?_
  refine zn_iload_n hC dX8_init_78 0 rfl rfl ?_
  refine zn_bipush hC dX8_init_79 (by decide) ?_
  refine zn_ge_t (tgt := 103) hC dX8_init_81 (by decide) (by decide) (by decide) (by decide) ?_
  refine zn_iconst hC dX8_init_103 ?_
  refine zn_istore_n hC [(1, vI 0), (0, .ref a)] dX8_init_104 rfl (by decide) rfl ?_
  refine zn_iload_n hC dX8_init_105 0 rfl rfl ?_
  refine zn_iconst hC dX8_init_106 ?_
  refine zn_ge_f (tgt := 129) hC dX8_init_107 (by decide) (by decide) (by decide) (by decide) ?_
  refine zn_aload_n hC dX8_init_110 1 rfl rfl ?_
  refine zn_get (ci := 8) hC (fun w h => uT _ w (uL8 w h)) 0 rfl rfl 6 (by decide) (uT _ _ u233) (fun _ h => h) rfl dX8_init_111 ?_
  refine zn_iload_n hC dX8_init_114 0 rfl rfl ?_
  refine zn_new (ci := 9) hC (fun w h => uT _ w (uL9 w h)) tyX9 tyX9_ok (uT _ _ u144) (uT _ _ ui_RX9) (uT _ _ u110) rfl [vI 0, .null, .null] (fun j hj => by rcases (show j = 0 ∨ j = 1 ∨ j = 2 by omega) with rfl | rfl | rfl <;> rfl) ⟨Nat.le_of_ble_eq_true rfl, Nat.le_of_ble_eq_true rfl⟩ dX8_init_115 (fun q12 => ?_)
  show zL p l e _ s m args below meth c 22 784 _ _ D _ 118 [(1, vI 0), (0, .ref a)] [.ref q12, vI 0, .ref q3] ((q12, .inr (9, [vI 0, .null, .null])) :: (a, .inr (8, [vI 12, vI 8, vI 0, vI 0, .ref q1, .ref q2, .ref q3, .ref (u1 0), .ref (u2 0)])) :: (tI1 dA u8 ++ ((tI1 dA u7 ++ ((tI1 dA u6 ++ ((tI1 dA u5 ++ ((tI1 dA u4 ++ ((tI1 dA u3 ++ ((tI7 6 dA u2 ++ ((tI7 4 dA u1 ++ ((q3, .inl (dA 5, 3, .inr (.inr (.inr (.inr (fun _ => none)))))) :: (q2, .inl (dA 4, 6, .inr (.inr (.inr (.inr (va_up (va_up (va_up (va_up (va_up (va_up (fun _ => none) 0 (some (u3 0))) 1 (some (u4 0))) 2 (some (u5 0))) 3 (some (u6 0))) 4 (some (u7 0))) 5 (some (u8 0)))))))) :: (q1, .inl (dA 1, 8, .inl (fun _ => Int32.ofInt 0))) :: [])))))))))))))))))
  refine zn_dup hC dX8_init_118 rfl ?_
  refine zn_initN (As := []) (T := tI9) hC (cI9 l) (⟨va_cnB (host := "GlacierCamera") 0 hC.1.2.2.2.2 (uP (uT _) u194) rfl rfl rfl ((hC.2.2.2.2.1.1 (.methodLinkNest RX8 53 yX9_init "GlacierCamera") (by decide +kernel : (Cond.methodLinkNest RX8 53 yX9_init "GlacierCamera") ∈ zNest)).1) (hC.1.2.2.2.2 _ (uT _ _ u110)) (by decide +kernel) ⟨Nat.le_of_ble_eq_true rfl, Nat.le_of_ble_eq_true rfl⟩, rfl, hC.1.2.2.2.2 _ (uT _ _ u193)⟩) rfl rfl (Nat.le_of_ble_eq_true rfl) ⟨Nat.le_of_ble_eq_true rfl, Nat.le_of_ble_eq_true rfl⟩ dX8_init_119 (fun u9 hu9 => ?_)
  subst hu9
  refine zn_perm List.perm_middle ?_
  show zL p l e _ s m args below meth c 24 800 _ _ D _ 122 [(1, vI 0), (0, .ref a)] [.ref (u9 0), vI 0, .ref q3] ((a, .inr (8, [vI 12, vI 8, vI 0, vI 0, .ref q1, .ref q2, .ref q3, .ref (u1 0), .ref (u2 0)])) :: (tI9 dA u9 ++ ((tI1 dA u8 ++ ((tI1 dA u7 ++ ((tI1 dA u6 ++ ((tI1 dA u5 ++ ((tI1 dA u4 ++ ((tI1 dA u3 ++ ((tI7 6 dA u2 ++ ((tI7 4 dA u1 ++ ((q3, .inl (dA 5, 3, .inr (.inr (.inr (.inr (fun _ => none)))))) :: (q2, .inl (dA 4, 6, .inr (.inr (.inr (.inr (va_up (va_up (va_up (va_up (va_up (va_up (fun _ => none) 0 (some (u3 0))) 1 (some (u4 0))) 2 (some (u5 0))) 3 (some (u6 0))) 4 (some (u7 0))) 5 (some (u8 0)))))))) :: (q1, .inl (dA 1, 8, .inl (fun _ => Int32.ofInt 0))) :: [])))))))))))))))))))
  refine zn_astq (iN := 0) hC 22 5 1 9 rfl rfl rfl rfl (by decide) (by decide) rfl dX8_init_122 ?_
  show zL p l e _ s m args below meth c 24 800 _ _ D _ 123 [(1, vI 0), (0, .ref a)] [] ((a, .inr (8, [vI 12, vI 8, vI 0, vI 0, .ref q1, .ref q2, .ref q3, .ref (u1 0), .ref (u2 0)])) :: (tI9 dA u9 ++ ((tI1 dA u8 ++ ((tI1 dA u7 ++ ((tI1 dA u6 ++ ((tI1 dA u5 ++ ((tI1 dA u4 ++ ((tI1 dA u3 ++ ((tI7 6 dA u2 ++ ((tI7 4 dA u1 ++ ((q3, .inl (dA 5, 3, .inr (.inr (.inr (.inr (va_up (fun _ => none) 0 (some (u9 0)))))))) :: (q2, .inl (dA 4, 6, .inr (.inr (.inr (.inr (va_up (va_up (va_up (va_up (va_up (va_up (fun _ => none) 0 (some (u3 0))) 1 (some (u4 0))) 2 (some (u5 0))) 3 (some (u6 0))) 4 (some (u7 0))) 5 (some (u8 0)))))))) :: (q1, .inl (dA 1, 8, .inl (fun _ => Int32.ofInt 0))) :: [])))))))))))))))))))
  refine zn_iinc hC [(1, vI (0 + 1)), (0, .ref a)] dX8_init_123 0 rfl (by decide) rfl ?_
  show zL p l e _ s m args below meth c 24 800 _ _ D _ 126 [(1, vI 1), (0, .ref a)] [] ((a, .inr (8, [vI 12, vI 8, vI 0, vI 0, .ref q1, .ref q2, .ref q3, .ref (u1 0), .ref (u2 0)])) :: (tI9 dA u9 ++ ((tI1 dA u8 ++ ((tI1 dA u7 ++ ((tI1 dA u6 ++ ((tI1 dA u5 ++ ((tI1 dA u4 ++ ((tI1 dA u3 ++ ((tI7 6 dA u2 ++ ((tI7 4 dA u1 ++ ((q3, .inl (dA 5, 3, .inr (.inr (.inr (.inr (va_up (fun _ => none) 0 (some (u9 0)))))))) :: (q2, .inl (dA 4, 6, .inr (.inr (.inr (.inr (va_up (va_up (va_up (va_up (va_up (va_up (fun _ => none) 0 (some (u3 0))) 1 (some (u4 0))) 2 (some (u5 0))) 3 (some (u6 0))) 4 (some (u7 0))) 5 (some (u8 0)))))))) :: (q1, .inl (dA 1, 8, .inl (fun _ => Int32.ofInt 0))) :: [])))))))))))))))))))
  refine zn_goto (tgt := 105) hC dX8_init_126 (by decide) ?_
  refine zn_iload_n hC dX8_init_105 0 rfl rfl ?_
  refine zn_iconst hC dX8_init_106 ?_
  refine zn_ge_f (tgt := 129) hC dX8_init_107 (by decide) (by decide) (by decide) (by decide) ?_
  refine zn_aload_n hC dX8_init_110 1 rfl rfl ?_
  refine zn_get (ci := 8) hC (fun w h => uT _ w (uL8 w h)) 0 rfl rfl 6 (by decide) (uT _ _ u233) (fun _ h => h) rfl dX8_init_111 ?_
  refine zn_iload_n hC dX8_init_114 0 rfl rfl ?_
  refine zn_new (ci := 9) hC (fun w h => uT _ w (uL9 w h)) tyX9 tyX9_ok (uT _ _ u144) (uT _ _ ui_RX9) (uT _ _ u110) rfl [vI 0, .null, .null] (fun j hj => by rcases (show j = 0 ∨ j = 1 ∨ j = 2 by omega) with rfl | rfl | rfl <;> rfl) ⟨Nat.le_of_ble_eq_true rfl, Nat.le_of_ble_eq_true rfl⟩ dX8_init_115 (fun q13 => ?_)
  show zL p l e _ s m args below meth c 25 803 _ _ D _ 118 [(1, vI 1), (0, .ref a)] [.ref q13, vI 1, .ref q3] ((q13, .inr (9, [vI 0, .null, .null])) :: (a, .inr (8, [vI 12, vI 8, vI 0, vI 0, .ref q1, .ref q2, .ref q3, .ref (u1 0), .ref (u2 0)])) :: (tI9 dA u9 ++ ((tI1 dA u8 ++ ((tI1 dA u7 ++ ((tI1 dA u6 ++ ((tI1 dA u5 ++ ((tI1 dA u4 ++ ((tI1 dA u3 ++ ((tI7 6 dA u2 ++ ((tI7 4 dA u1 ++ ((q3, .inl (dA 5, 3, .inr (.inr (.inr (.inr (va_up (fun _ => none) 0 (some (u9 0)))))))) :: (q2, .inl (dA 4, 6, .inr (.inr (.inr (.inr (va_up (va_up (va_up (va_up (va_up (va_up (fun _ => none) 0 (some (u3 0))) 1 (some (u4 0))) 2 (some (u5 0))) 3 (some (u6 0))) 4 (some (u7 0))) 5 (some (u8 0)))))))) :: (q1, .inl (dA 1, 8, .inl (fun _ => Int32.ofInt 0))) :: [])))))))))))))))))))
  refine zn_dup hC dX8_init_118 rfl ?_
  refine zn_initN (As := []) (T := tI9) hC (cI9 l) (⟨va_cnB (host := "GlacierCamera") 0 hC.1.2.2.2.2 (uP (uT _) u194) rfl rfl rfl ((hC.2.2.2.2.1.1 (.methodLinkNest RX8 53 yX9_init "GlacierCamera") (by decide +kernel : (Cond.methodLinkNest RX8 53 yX9_init "GlacierCamera") ∈ zNest)).1) (hC.1.2.2.2.2 _ (uT _ _ u110)) (by decide +kernel) ⟨Nat.le_of_ble_eq_true rfl, Nat.le_of_ble_eq_true rfl⟩, rfl, hC.1.2.2.2.2 _ (uT _ _ u193)⟩) rfl rfl (Nat.le_of_ble_eq_true rfl) ⟨Nat.le_of_ble_eq_true rfl, Nat.le_of_ble_eq_true rfl⟩ dX8_init_119 (fun u10 hu10 => ?_)
  subst hu10
  refine zn_perm List.perm_middle ?_
  show zL p l e _ s m args below meth c 27 819 _ _ D _ 122 [(1, vI 1), (0, .ref a)] [.ref (u10 0), vI 1, .ref q3] ((a, .inr (8, [vI 12, vI 8, vI 0, vI 0, .ref q1, .ref q2, .ref q3, .ref (u1 0), .ref (u2 0)])) :: (tI9 dA u10 ++ ((tI9 dA u9 ++ ((tI1 dA u8 ++ ((tI1 dA u7 ++ ((tI1 dA u6 ++ ((tI1 dA u5 ++ ((tI1 dA u4 ++ ((tI1 dA u3 ++ ((tI7 6 dA u2 ++ ((tI7 4 dA u1 ++ ((q3, .inl (dA 5, 3, .inr (.inr (.inr (.inr (va_up (fun _ => none) 0 (some (u9 0)))))))) :: (q2, .inl (dA 4, 6, .inr (.inr (.inr (.inr (va_up (va_up (va_up (va_up (va_up (va_up (fun _ => none) 0 (some (u3 0))) 1 (some (u4 0))) 2 (some (u5 0))) 3 (some (u6 0))) 4 (some (u7 0))) 5 (some (u8 0)))))))) :: (q1, .inl (dA 1, 8, .inl (fun _ => Int32.ofInt 0))) :: [])))))))))))))))))))))
  refine zn_astq (iN := 1) hC 25 5 1 9 rfl rfl rfl rfl (by decide) (by decide) rfl dX8_init_122 ?_
  show zL p l e _ s m args below meth c 27 819 _ _ D _ 123 [(1, vI 1), (0, .ref a)] [] ((a, .inr (8, [vI 12, vI 8, vI 0, vI 0, .ref q1, .ref q2, .ref q3, .ref (u1 0), .ref (u2 0)])) :: (tI9 dA u10 ++ ((tI9 dA u9 ++ ((tI1 dA u8 ++ ((tI1 dA u7 ++ ((tI1 dA u6 ++ ((tI1 dA u5 ++ ((tI1 dA u4 ++ ((tI1 dA u3 ++ ((tI7 6 dA u2 ++ ((tI7 4 dA u1 ++ ((q3, .inl (dA 5, 3, .inr (.inr (.inr (.inr (va_up (va_up (fun _ => none) 0 (some (u9 0))) 1 (some (u10 0)))))))) :: (q2, .inl (dA 4, 6, .inr (.inr (.inr (.inr (va_up (va_up (va_up (va_up (va_up (va_up (fun _ => none) 0 (some (u3 0))) 1 (some (u4 0))) 2 (some (u5 0))) 3 (some (u6 0))) 4 (some (u7 0))) 5 (some (u8 0)))))))) :: (q1, .inl (dA 1, 8, .inl (fun _ => Int32.ofInt 0))) :: [])))))))))))))))))))))
  refine zn_iinc hC [(1, vI (1 + 1)), (0, .ref a)] dX8_init_123 0 rfl (by decide) rfl ?_
  show zL p l e _ s m args below meth c 27 819 _ _ D _ 126 [(1, vI 2), (0, .ref a)] [] ((a, .inr (8, [vI 12, vI 8, vI 0, vI 0, .ref q1, .ref q2, .ref q3, .ref (u1 0), .ref (u2 0)])) :: (tI9 dA u10 ++ ((tI9 dA u9 ++ ((tI1 dA u8 ++ ((tI1 dA u7 ++ ((tI1 dA u6 ++ ((tI1 dA u5 ++ ((tI1 dA u4 ++ ((tI1 dA u3 ++ ((tI7 6 dA u2 ++ ((tI7 4 dA u1 ++ ((q3, .inl (dA 5, 3, .inr (.inr (.inr (.inr (va_up (va_up (fun _ => none) 0 (some (u9 0))) 1 (some (u10 0)))))))) :: (q2, .inl (dA 4, 6, .inr (.inr (.inr (.inr (va_up (va_up (va_up (va_up (va_up (va_up (fun _ => none) 0 (some (u3 0))) 1 (some (u4 0))) 2 (some (u5 0))) 3 (some (u6 0))) 4 (some (u7 0))) 5 (some (u8 0)))))))) :: (q1, .inl (dA 1, 8, .inl (fun _ => Int32.ofInt 0))) :: [])))))))))))))))))))))
  refine zn_goto (tgt := 105) hC dX8_init_126 (by decide) ?_
  refine zn_iload_n hC dX8_init_105 0 rfl rfl ?_
  refine zn_iconst hC dX8_init_106 ?_
  refine zn_ge_f (tgt := 129) hC dX8_init_107 (by decide) (by decide) (by decide) (by decide) ?_
  refine zn_aload_n hC dX8_init_110 1 rfl rfl ?_
  refine zn_get (ci := 8) hC (fun w h => uT _ w (uL8 w h)) 0 rfl rfl 6 (by decide) (uT _ _ u233) (fun _ h => h) rfl dX8_init_111 ?_
  refine zn_iload_n hC dX8_init_114 0 rfl rfl ?_
  refine zn_new (ci := 9) hC (fun w h => uT _ w (uL9 w h)) tyX9 tyX9_ok (uT _ _ u144) (uT _ _ ui_RX9) (uT _ _ u110) rfl [vI 0, .null, .null] (fun j hj => by rcases (show j = 0 ∨ j = 1 ∨ j = 2 by omega) with rfl | rfl | rfl <;> rfl) ⟨Nat.le_of_ble_eq_true rfl, Nat.le_of_ble_eq_true rfl⟩ dX8_init_115 (fun q14 => ?_)
  show zL p l e _ s m args below meth c 28 822 _ _ D _ 118 [(1, vI 2), (0, .ref a)] [.ref q14, vI 2, .ref q3] ((q14, .inr (9, [vI 0, .null, .null])) :: (a, .inr (8, [vI 12, vI 8, vI 0, vI 0, .ref q1, .ref q2, .ref q3, .ref (u1 0), .ref (u2 0)])) :: (tI9 dA u10 ++ ((tI9 dA u9 ++ ((tI1 dA u8 ++ ((tI1 dA u7 ++ ((tI1 dA u6 ++ ((tI1 dA u5 ++ ((tI1 dA u4 ++ ((tI1 dA u3 ++ ((tI7 6 dA u2 ++ ((tI7 4 dA u1 ++ ((q3, .inl (dA 5, 3, .inr (.inr (.inr (.inr (va_up (va_up (fun _ => none) 0 (some (u9 0))) 1 (some (u10 0)))))))) :: (q2, .inl (dA 4, 6, .inr (.inr (.inr (.inr (va_up (va_up (va_up (va_up (va_up (va_up (fun _ => none) 0 (some (u3 0))) 1 (some (u4 0))) 2 (some (u5 0))) 3 (some (u6 0))) 4 (some (u7 0))) 5 (some (u8 0)))))))) :: (q1, .inl (dA 1, 8, .inl (fun _ => Int32.ofInt 0))) :: [])))))))))))))))))))))
  refine zn_dup hC dX8_init_118 rfl ?_
  refine zn_initN (As := []) (T := tI9) hC (cI9 l) (⟨va_cnB (host := "GlacierCamera") 0 hC.1.2.2.2.2 (uP (uT _) u194) rfl rfl rfl ((hC.2.2.2.2.1.1 (.methodLinkNest RX8 53 yX9_init "GlacierCamera") (by decide +kernel : (Cond.methodLinkNest RX8 53 yX9_init "GlacierCamera") ∈ zNest)).1) (hC.1.2.2.2.2 _ (uT _ _ u110)) (by decide +kernel) ⟨Nat.le_of_ble_eq_true rfl, Nat.le_of_ble_eq_true rfl⟩, rfl, hC.1.2.2.2.2 _ (uT _ _ u193)⟩) rfl rfl (Nat.le_of_ble_eq_true rfl) ⟨Nat.le_of_ble_eq_true rfl, Nat.le_of_ble_eq_true rfl⟩ dX8_init_119 (fun u11 hu11 => ?_)
  subst hu11
  refine zn_perm List.perm_middle ?_
  show zL p l e _ s m args below meth c 30 838 _ _ D _ 122 [(1, vI 2), (0, .ref a)] [.ref (u11 0), vI 2, .ref q3] ((a, .inr (8, [vI 12, vI 8, vI 0, vI 0, .ref q1, .ref q2, .ref q3, .ref (u1 0), .ref (u2 0)])) :: (tI9 dA u11 ++ ((tI9 dA u10 ++ ((tI9 dA u9 ++ ((tI1 dA u8 ++ ((tI1 dA u7 ++ ((tI1 dA u6 ++ ((tI1 dA u5 ++ ((tI1 dA u4 ++ ((tI1 dA u3 ++ ((tI7 6 dA u2 ++ ((tI7 4 dA u1 ++ ((q3, .inl (dA 5, 3, .inr (.inr (.inr (.inr (va_up (va_up (fun _ => none) 0 (some (u9 0))) 1 (some (u10 0)))))))) :: (q2, .inl (dA 4, 6, .inr (.inr (.inr (.inr (va_up (va_up (va_up (va_up (va_up (va_up (fun _ => none) 0 (some (u3 0))) 1 (some (u4 0))) 2 (some (u5 0))) 3 (some (u6 0))) 4 (some (u7 0))) 5 (some (u8 0)))))))) :: (q1, .inl (dA 1, 8, .inl (fun _ => Int32.ofInt 0))) :: [])))))))))))))))))))))))
  refine zn_astq (iN := 2) hC 28 5 1 9 rfl rfl rfl rfl (by decide) (by decide) rfl dX8_init_122 ?_
  show zL p l e _ s m args below meth c 30 838 _ _ D _ 123 [(1, vI 2), (0, .ref a)] [] ((a, .inr (8, [vI 12, vI 8, vI 0, vI 0, .ref q1, .ref q2, .ref q3, .ref (u1 0), .ref (u2 0)])) :: (tI9 dA u11 ++ ((tI9 dA u10 ++ ((tI9 dA u9 ++ ((tI1 dA u8 ++ ((tI1 dA u7 ++ ((tI1 dA u6 ++ ((tI1 dA u5 ++ ((tI1 dA u4 ++ ((tI1 dA u3 ++ ((tI7 6 dA u2 ++ ((tI7 4 dA u1 ++ ((q3, .inl (dA 5, 3, .inr (.inr (.inr (.inr (va_up (va_up (va_up (fun _ => none) 0 (some (u9 0))) 1 (some (u10 0))) 2 (some (u11 0)))))))) :: (q2, .inl (dA 4, 6, .inr (.inr (.inr (.inr (va_up (va_up (va_up (va_up (va_up (va_up (fun _ => none) 0 (some (u3 0))) 1 (some (u4 0))) 2 (some (u5 0))) 3 (some (u6 0))) 4 (some (u7 0))) 5 (some (u8 0)))))))) :: (q1, .inl (dA 1, 8, .inl (fun _ => Int32.ofInt 0))) :: [])))))))))))))))))))))))
  refine zn_iinc hC [(1, vI (2 + 1)), (0, .ref a)] dX8_init_123 0 rfl (by decide) rfl ?_
  show zL p l e _ s m args below meth c 30 838 _ _ D _ 126 [(1, vI 3), (0, .ref a)] [] ((a, .inr (8, [vI 12, vI 8, vI 0, vI 0, .ref q1, .ref q2, .ref q3, .ref (u1 0), .ref (u2 0)])) :: (tI9 dA u11 ++ ((tI9 dA u10 ++ ((tI9 dA u9 ++ ((tI1 dA u8 ++ ((tI1 dA u7 ++ ((tI1 dA u6 ++ ((tI1 dA u5 ++ ((tI1 dA u4 ++ ((tI1 dA u3 ++ ((tI7 6 dA u2 ++ ((tI7 4 dA u1 ++ ((q3, .inl (dA 5, 3, .inr (.inr (.inr (.inr (va_up (va_up (va_up (fun _ => none) 0 (some (u9 0))) 1 (some (u10 0))) 2 (some (u11 0)))))))) :: (q2, .inl (dA 4, 6, .inr (.inr (.inr (.inr (va_up (va_up (va_up (va_up (va_up (va_up (fun _ => none) 0 (some (u3 0))) 1 (some (u4 0))) 2 (some (u5 0))) 3 (some (u6 0))) 4 (some (u7 0))) 5 (some (u8 0)))))))) :: (q1, .inl (dA 1, 8, .inl (fun _ => Int32.ofInt 0))) :: [])))))))))))))))))))))))
  refine zn_goto (tgt := 105) hC dX8_init_126 (by decide) ?_
  refine zn_iload_n hC dX8_init_105 0 rfl rfl ?_
  refine zn_iconst hC dX8_init_106 ?_
  refine zn_ge_t (tgt := 129) hC dX8_init_107 (by decide) (by decide) (by decide) (by decide) ?_
  refine zn_iconst hC dX8_init_129 ?_
  refine zn_istore_n hC [(1, vI 0), (0, .ref a)] dX8_init_130 rfl (by decide) rfl ?_
  refine zn_iload_n hC dX8_init_131 0 rfl rfl ?_
  refine zn_bipush hC dX8_init_132 (by decide) ?_
  refine zn_ge_f (tgt := 154) hC dX8_init_134 (by decide) (by decide) (by decide) (by decide) ?_
  refine zn_aload_n hC dX8_init_137 1 rfl rfl ?_
  refine zn_get (ci := 8) hC (fun w h => uT _ w (uL8 w h)) 0 rfl rfl 4 (by decide) (uT _ _ u226) (fun _ h => h) rfl dX8_init_138 ?_
  refine zn_iload_n hC dX8_init_141 0 rfl rfl ?_
  refine zn_getsN hC (q := aI) (n := "INITIAL_VALUE") (List.mem_of_getElem? (i := 2) rfl) (by decide +kernel : (Cond.fieldLinkNest RX8 54 "GlacierCamera" "INITIAL_VALUE" "[I" "GlacierCamera") ∈ zNest) dX8_init_142 ?_
  refine zn_iload_n hC dX8_init_145 0 rfl rfl ?_
  refine zn_sald hC (q := aI) (n := "INITIAL_VALUE") (F := cINIT) (List.mem_of_getElem? (i := 2) rfl) (fun _ _ => rfl) (by decide) dX8_init_146 ?_
  refine zn_iast (iN := 0) hC 30 1 rfl rfl (by decide) (by decide) rfl dX8_init_147 ?_
  show zL p l e _ s m args below meth c 30 838 _ _ D _ 148 [(1, vI 0), (0, .ref a)] [] ((a, .inr (8, [vI 12, vI 8, vI 0, vI 0, .ref q1, .ref q2, .ref q3, .ref (u1 0), .ref (u2 0)])) :: (tI9 dA u11 ++ ((tI9 dA u10 ++ ((tI9 dA u9 ++ ((tI1 dA u8 ++ ((tI1 dA u7 ++ ((tI1 dA u6 ++ ((tI1 dA u5 ++ ((tI1 dA u4 ++ ((tI1 dA u3 ++ ((tI7 6 dA u2 ++ ((tI7 4 dA u1 ++ ((q3, .inl (dA 5, 3, .inr (.inr (.inr (.inr (va_up (va_up (va_up (fun _ => none) 0 (some (u9 0))) 1 (some (u10 0))) 2 (some (u11 0)))))))) :: (q2, .inl (dA 4, 6, .inr (.inr (.inr (.inr (va_up (va_up (va_up (va_up (va_up (va_up (fun _ => none) 0 (some (u3 0))) 1 (some (u4 0))) 2 (some (u5 0))) 3 (some (u6 0))) 4 (some (u7 0))) 5 (some (u8 0)))))))) :: (q1, .inl (dA 1, 8, .inl (upd (fun _ => Int32.ofInt 0) 0 (Int32.ofInt (cINIT 0))))) :: [])))))))))))))))))))))))
  refine zn_iinc hC [(1, vI (0 + 1)), (0, .ref a)] dX8_init_148 0 rfl (by decide) rfl ?_
  show zL p l e _ s m args below meth c 30 838 _ _ D _ 151 [(1, vI 1), (0, .ref a)] [] ((a, .inr (8, [vI 12, vI 8, vI 0, vI 0, .ref q1, .ref q2, .ref q3, .ref (u1 0), .ref (u2 0)])) :: (tI9 dA u11 ++ ((tI9 dA u10 ++ ((tI9 dA u9 ++ ((tI1 dA u8 ++ ((tI1 dA u7 ++ ((tI1 dA u6 ++ ((tI1 dA u5 ++ ((tI1 dA u4 ++ ((tI1 dA u3 ++ ((tI7 6 dA u2 ++ ((tI7 4 dA u1 ++ ((q3, .inl (dA 5, 3, .inr (.inr (.inr (.inr (va_up (va_up (va_up (fun _ => none) 0 (some (u9 0))) 1 (some (u10 0))) 2 (some (u11 0)))))))) :: (q2, .inl (dA 4, 6, .inr (.inr (.inr (.inr (va_up (va_up (va_up (va_up (va_up (va_up (fun _ => none) 0 (some (u3 0))) 1 (some (u4 0))) 2 (some (u5 0))) 3 (some (u6 0))) 4 (some (u7 0))) 5 (some (u8 0)))))))) :: (q1, .inl (dA 1, 8, .inl (upd (fun _ => Int32.ofInt 0) 0 (Int32.ofInt (cINIT 0))))) :: [])))))))))))))))))))))))
  refine zn_goto (tgt := 131) hC dX8_init_151 (by decide) ?_
  refine zn_iload_n hC dX8_init_131 0 rfl rfl ?_
  refine zn_bipush hC dX8_init_132 (by decide) ?_
  refine zn_ge_f (tgt := 154) hC dX8_init_134 (by decide) (by decide) (by decide) (by decide) ?_
  refine zn_aload_n hC dX8_init_137 1 rfl rfl ?_
  refine zn_get (ci := 8) hC (fun w h => uT _ w (uL8 w h)) 0 rfl rfl 4 (by decide) (uT _ _ u226) (fun _ h => h) rfl dX8_init_138 ?_
  refine zn_iload_n hC dX8_init_141 0 rfl rfl ?_
  refine zn_getsN hC (q := aI) (n := "INITIAL_VALUE") (List.mem_of_getElem? (i := 2) rfl) (by decide +kernel : (Cond.fieldLinkNest RX8 54 "GlacierCamera" "INITIAL_VALUE" "[I" "GlacierCamera") ∈ zNest) dX8_init_142 ?_
  refine zn_iload_n hC dX8_init_145 0 rfl rfl ?_
  refine zn_sald hC (q := aI) (n := "INITIAL_VALUE") (F := cINIT) (List.mem_of_getElem? (i := 2) rfl) (fun _ _ => rfl) (by decide) dX8_init_146 ?_
  refine zn_iast (iN := 1) hC 30 1 rfl rfl (by decide) (by decide) rfl dX8_init_147 ?_
  show zL p l e _ s m args below meth c 30 838 _ _ D _ 148 [(1, vI 1), (0, .ref a)] [] ((a, .inr (8, [vI 12, vI 8, vI 0, vI 0, .ref q1, .ref q2, .ref q3, .ref (u1 0), .ref (u2 0)])) :: (tI9 dA u11 ++ ((tI9 dA u10 ++ ((tI9 dA u9 ++ ((tI1 dA u8 ++ ((tI1 dA u7 ++ ((tI1 dA u6 ++ ((tI1 dA u5 ++ ((tI1 dA u4 ++ ((tI1 dA u3 ++ ((tI7 6 dA u2 ++ ((tI7 4 dA u1 ++ ((q3, .inl (dA 5, 3, .inr (.inr (.inr (.inr (va_up (va_up (va_up (fun _ => none) 0 (some (u9 0))) 1 (some (u10 0))) 2 (some (u11 0)))))))) :: (q2, .inl (dA 4, 6, .inr (.inr (.inr (.inr (va_up (va_up (va_up (va_up (va_up (va_up (fun _ => none) 0 (some (u3 0))) 1 (some (u4 0))) 2 (some (u5 0))) 3 (some (u6 0))) 4 (some (u7 0))) 5 (some (u8 0)))))))) :: (q1, .inl (dA 1, 8, .inl (upd (upd (fun _ => Int32.ofInt 0) 0 (Int32.ofInt (cINIT 0))) 1 (Int32.ofInt (cINIT 1))))) :: [])))))))))))))))))))))))
  refine zn_iinc hC [(1, vI (1 + 1)), (0, .ref a)] dX8_init_148 0 rfl (by decide) rfl ?_
  show zL p l e _ s m args below meth c 30 838 _ _ D _ 151 [(1, vI 2), (0, .ref a)] [] ((a, .inr (8, [vI 12, vI 8, vI 0, vI 0, .ref q1, .ref q2, .ref q3, .ref (u1 0), .ref (u2 0)])) :: (tI9 dA u11 ++ ((tI9 dA u10 ++ ((tI9 dA u9 ++ ((tI1 dA u8 ++ ((tI1 dA u7 ++ ((tI1 dA u6 ++ ((tI1 dA u5 ++ ((tI1 dA u4 ++ ((tI1 dA u3 ++ ((tI7 6 dA u2 ++ ((tI7 4 dA u1 ++ ((q3, .inl (dA 5, 3, .inr (.inr (.inr (.inr (va_up (va_up (va_up (fun _ => none) 0 (some (u9 0))) 1 (some (u10 0))) 2 (some (u11 0)))))))) :: (q2, .inl (dA 4, 6, .inr (.inr (.inr (.inr (va_up (va_up (va_up (va_up (va_up (va_up (fun _ => none) 0 (some (u3 0))) 1 (some (u4 0))) 2 (some (u5 0))) 3 (some (u6 0))) 4 (some (u7 0))) 5 (some (u8 0)))))))) :: (q1, .inl (dA 1, 8, .inl (upd (upd (fun _ => Int32.ofInt 0) 0 (Int32.ofInt (cINIT 0))) 1 (Int32.ofInt (cINIT 1))))) :: [])))))))))))))))))))))))
  refine zn_goto (tgt := 131) hC dX8_init_151 (by decide) ?_
  refine zn_iload_n hC dX8_init_131 0 rfl rfl ?_
  refine zn_bipush hC dX8_init_132 (by decide) ?_
  refine zn_ge_f (tgt := 154) hC dX8_init_134 (by decide) (by decide) (by decide) (by decide) ?_
  refine zn_aload_n hC dX8_init_137 1 rfl rfl ?_
  refine zn_get (ci := 8) hC (fun w h => uT _ w (uL8 w h)) 0 rfl rfl 4 (by decide) (uT _ _ u226) (fun _ h => h) rfl dX8_init_138 ?_
  refine zn_iload_n hC dX8_init_141 0 rfl rfl ?_
  refine zn_getsN hC (q := aI) (n := "INITIAL_VALUE") (List.mem_of_getElem? (i := 2) rfl) (by decide +kernel : (Cond.fieldLinkNest RX8 54 "GlacierCamera" "INITIAL_VALUE" "[I" "GlacierCamera") ∈ zNest) dX8_init_142 ?_
  refine zn_iload_n hC dX8_init_145 0 rfl rfl ?_
  refine zn_sald hC (q := aI) (n := "INITIAL_VALUE") (F := cINIT) (List.mem_of_getElem? (i := 2) rfl) (fun _ _ => rfl) (by decide) dX8_init_146 ?_
  refine zn_iast (iN := 2) hC 30 1 rfl rfl (by decide) (by decide) rfl dX8_init_147 ?_
  show zL p l e _ s m args below meth c 30 838 _ _ D _ 148 [(1, vI 2), (0, .ref a)] [] ((a, .inr (8, [vI 12, vI 8, vI 0, vI 0, .ref q1, .ref q2, .ref q3, .ref (u1 0), .ref (u2 0)])) :: (tI9 dA u11 ++ ((tI9 dA u10 ++ ((tI9 dA u9 ++ ((tI1 dA u8 ++ ((tI1 dA u7 ++ ((tI1 dA u6 ++ ((tI1 dA u5 ++ ((tI1 dA u4 ++ ((tI1 dA u3 ++ ((tI7 6 dA u2 ++ ((tI7 4 dA u1 ++ ((q3, .inl (dA 5, 3, .inr (.inr (.inr (.inr (va_up (va_up (va_up (fun _ => none) 0 (some (u9 0))) 1 (some (u10 0))) 2 (some (u11 0)))))))) :: (q2, .inl (dA 4, 6, .inr (.inr (.inr (.inr (va_up (va_up (va_up (va_up (va_up (va_up (fun _ => none) 0 (some (u3 0))) 1 (some (u4 0))) 2 (some (u5 0))) 3 (some (u6 0))) 4 (some (u7 0))) 5 (some (u8 0)))))))) :: (q1, .inl (dA 1, 8, .inl (upd (upd (upd (fun _ => Int32.ofInt 0) 0 (Int32.ofInt (cINIT 0))) 1 (Int32.ofInt (cINIT 1))) 2 (Int32.ofInt (cINIT 2))))) :: [])))))))))))))))))))))))
  refine zn_iinc hC [(1, vI (2 + 1)), (0, .ref a)] dX8_init_148 0 rfl (by decide) rfl ?_
  show zL p l e _ s m args below meth c 30 838 _ _ D _ 151 [(1, vI 3), (0, .ref a)] [] ((a, .inr (8, [vI 12, vI 8, vI 0, vI 0, .ref q1, .ref q2, .ref q3, .ref (u1 0), .ref (u2 0)])) :: (tI9 dA u11 ++ ((tI9 dA u10 ++ ((tI9 dA u9 ++ ((tI1 dA u8 ++ ((tI1 dA u7 ++ ((tI1 dA u6 ++ ((tI1 dA u5 ++ ((tI1 dA u4 ++ ((tI1 dA u3 ++ ((tI7 6 dA u2 ++ ((tI7 4 dA u1 ++ ((q3, .inl (dA 5, 3, .inr (.inr (.inr (.inr (va_up (va_up (va_up (fun _ => none) 0 (some (u9 0))) 1 (some (u10 0))) 2 (some (u11 0)))))))) :: (q2, .inl (dA 4, 6, .inr (.inr (.inr (.inr (va_up (va_up (va_up (va_up (va_up (va_up (fun _ => none) 0 (some (u3 0))) 1 (some (u4 0))) 2 (some (u5 0))) 3 (some (u6 0))) 4 (some (u7 0))) 5 (some (u8 0)))))))) :: (q1, .inl (dA 1, 8, .inl (upd (upd (upd (fun _ => Int32.ofInt 0) 0 (Int32.ofInt (cINIT 0))) 1 (Int32.ofInt (cINIT 1))) 2 (Int32.ofInt (cINIT 2))))) :: [])))))))))))))))))))))))
  refine zn_goto (tgt := 131) hC dX8_init_151 (by decide) ?_
  refine zn_iload_n hC dX8_init_131 0 rfl rfl ?_
  refine zn_bipush hC dX8_init_132 (by decide) ?_
  refine zn_ge_f (tgt := 154) hC dX8_init_134 (by decide) (by decide) (by decide) (by decide) ?_
  refine zn_aload_n hC dX8_init_137 1 rfl rfl ?_
  refine zn_get (ci := 8) hC (fun w h => uT _ w (uL8 w h)) 0 rfl rfl 4 (by decide) (uT _ _ u226) (fun _ h => h) rfl dX8_init_138 ?_
  refine zn_iload_n hC dX8_init_141 0 rfl rfl ?_
  refine zn_getsN hC (q := aI) (n := "INITIAL_VALUE") (List.mem_of_getElem? (i := 2) rfl) (by decide +kernel : (Cond.fieldLinkNest RX8 54 "GlacierCamera" "INITIAL_VALUE" "[I" "GlacierCamera") ∈ zNest) dX8_init_142 ?_
  refine zn_iload_n hC dX8_init_145 0 rfl rfl ?_
  refine zn_sald hC (q := aI) (n := "INITIAL_VALUE") (F := cINIT) (List.mem_of_getElem? (i := 2) rfl) (fun _ _ => rfl) (by decide) dX8_init_146 ?_
  refine zn_iast (iN := 3) hC 30 1 rfl rfl (by decide) (by decide) rfl dX8_init_147 ?_
  show zL p l e _ s m args below meth c 30 838 _ _ D _ 148 [(1, vI 3), (0, .ref a)] [] ((a, .inr (8, [vI 12, vI 8, vI 0, vI 0, .ref q1, .ref q2, .ref q3, .ref (u1 0), .ref (u2 0)])) :: (tI9 dA u11 ++ ((tI9 dA u10 ++ ((tI9 dA u9 ++ ((tI1 dA u8 ++ ((tI1 dA u7 ++ ((tI1 dA u6 ++ ((tI1 dA u5 ++ ((tI1 dA u4 ++ ((tI1 dA u3 ++ ((tI7 6 dA u2 ++ ((tI7 4 dA u1 ++ ((q3, .inl (dA 5, 3, .inr (.inr (.inr (.inr (va_up (va_up (va_up (fun _ => none) 0 (some (u9 0))) 1 (some (u10 0))) 2 (some (u11 0)))))))) :: (q2, .inl (dA 4, 6, .inr (.inr (.inr (.inr (va_up (va_up (va_up (va_up (va_up (va_up (fun _ => none) 0 (some (u3 0))) 1 (some (u4 0))) 2 (some (u5 0))) 3 (some (u6 0))) 4 (some (u7 0))) 5 (some (u8 0)))))))) :: (q1, .inl (dA 1, 8, .inl (upd (upd (upd (upd (fun _ => Int32.ofInt 0) 0 (Int32.ofInt (cINIT 0))) 1 (Int32.ofInt (cINIT 1))) 2 (Int32.ofInt (cINIT 2))) 3 (Int32.ofInt (cINIT 3))))) :: [])))))))))))))))))))))))
  refine zn_iinc hC [(1, vI (3 + 1)), (0, .ref a)] dX8_init_148 0 rfl (by decide) rfl ?_
  show zL p l e _ s m args below meth c 30 838 _ _ D _ 151 [(1, vI 4), (0, .ref a)] [] ((a, .inr (8, [vI 12, vI 8, vI 0, vI 0, .ref q1, .ref q2, .ref q3, .ref (u1 0), .ref (u2 0)])) :: (tI9 dA u11 ++ ((tI9 dA u10 ++ ((tI9 dA u9 ++ ((tI1 dA u8 ++ ((tI1 dA u7 ++ ((tI1 dA u6 ++ ((tI1 dA u5 ++ ((tI1 dA u4 ++ ((tI1 dA u3 ++ ((tI7 6 dA u2 ++ ((tI7 4 dA u1 ++ ((q3, .inl (dA 5, 3, .inr (.inr (.inr (.inr (va_up (va_up (va_up (fun _ => none) 0 (some (u9 0))) 1 (some (u10 0))) 2 (some (u11 0)))))))) :: (q2, .inl (dA 4, 6, .inr (.inr (.inr (.inr (va_up (va_up (va_up (va_up (va_up (va_up (fun _ => none) 0 (some (u3 0))) 1 (some (u4 0))) 2 (some (u5 0))) 3 (some (u6 0))) 4 (some (u7 0))) 5 (some (u8 0)))))))) :: (q1, .inl (dA 1, 8, .inl (upd (upd (upd (upd (fun _ => Int32.ofInt 0) 0 (Int32.ofInt (cINIT 0))) 1 (Int32.ofInt (cINIT 1))) 2 (Int32.ofInt (cINIT 2))) 3 (Int32.ofInt (cINIT 3))))) :: [])))))))))))))))))))))))
  refine zn_goto (tgt := 131) hC dX8_init_151 (by decide) ?_
  refine zn_iload_n hC dX8_init_131 0 rfl rfl ?_
  refine zn_bipush hC dX8_init_132 (by decide) ?_
  refine zn_ge_f (tgt := 154) hC dX8_init_134 (by decide) (by decide) (by decide) (by decide) ?_
  refine zn_aload_n hC dX8_init_137 1 rfl rfl ?_
  refine zn_get (ci := 8) hC (fun w h => uT _ w (uL8 w h)) 0 rfl rfl 4 (by decide) (uT _ _ u226) (fun _ h => h) rfl dX8_init_138 ?_
  refine zn_iload_n hC dX8_init_141 0 rfl rfl ?_
  refine zn_getsN hC (q := aI) (n := "INITIAL_VALUE") (List.mem_of_getElem? (i := 2) rfl) (by decide +kernel : (Cond.fieldLinkNest RX8 54 "GlacierCamera" "INITIAL_VALUE" "[I" "GlacierCamera") ∈ zNest) dX8_init_142 ?_
  refine zn_iload_n hC dX8_init_145 0 rfl rfl ?_
  refine zn_sald hC (q := aI) (n := "INITIAL_VALUE") (F := cINIT) (List.mem_of_getElem? (i := 2) rfl) (fun _ _ => rfl) (by decide) dX8_init_146 ?_
  refine zn_iast (iN := 4) hC 30 1 rfl rfl (by decide) (by decide) rfl dX8_init_147 ?_
  show zL p l e _ s m args below meth c 30 838 _ _ D _ 148 [(1, vI 4), (0, .ref a)] [] ((a, .inr (8, [vI 12, vI 8, vI 0, vI 0, .ref q1, .ref q2, .ref q3, .ref (u1 0), .ref (u2 0)])) :: (tI9 dA u11 ++ ((tI9 dA u10 ++ ((tI9 dA u9 ++ ((tI1 dA u8 ++ ((tI1 dA u7 ++ ((tI1 dA u6 ++ ((tI1 dA u5 ++ ((tI1 dA u4 ++ ((tI1 dA u3 ++ ((tI7 6 dA u2 ++ ((tI7 4 dA u1 ++ ((q3, .inl (dA 5, 3, .inr (.inr (.inr (.inr (va_up (va_up (va_up (fun _ => none) 0 (some (u9 0))) 1 (some (u10 0))) 2 (some (u11 0)))))))) :: (q2, .inl (dA 4, 6, .inr (.inr (.inr (.inr (va_up (va_up (va_up (va_up (va_up (va_up (fun _ => none) 0 (some (u3 0))) 1 (some (u4 0))) 2 (some (u5 0))) 3 (some (u6 0))) 4 (some (u7 0))) 5 (some (u8 0)))))))) :: (q1, .inl (dA 1, 8, .inl (upd (upd (upd (upd (upd (fun _ => Int32.ofInt 0) 0 (Int32.ofInt (cINIT 0))) 1 (Int32.ofInt (cINIT 1))) 2 (Int32.ofInt (cINIT 2))) 3 (Int32.ofInt (cINIT 3))) 4 (Int32.ofInt (cINIT 4))))) :: [])))))))))))))))))))))))
  refine zn_iinc hC [(1, vI (4 + 1)), (0, .ref a)] dX8_init_148 0 rfl (by decide) rfl ?_
  show zL p l e _ s m args below meth c 30 838 _ _ D _ 151 [(1, vI 5), (0, .ref a)] [] ((a, .inr (8, [vI 12, vI 8, vI 0, vI 0, .ref q1, .ref q2, .ref q3, .ref (u1 0), .ref (u2 0)])) :: (tI9 dA u11 ++ ((tI9 dA u10 ++ ((tI9 dA u9 ++ ((tI1 dA u8 ++ ((tI1 dA u7 ++ ((tI1 dA u6 ++ ((tI1 dA u5 ++ ((tI1 dA u4 ++ ((tI1 dA u3 ++ ((tI7 6 dA u2 ++ ((tI7 4 dA u1 ++ ((q3, .inl (dA 5, 3, .inr (.inr (.inr (.inr (va_up (va_up (va_up (fun _ => none) 0 (some (u9 0))) 1 (some (u10 0))) 2 (some (u11 0)))))))) :: (q2, .inl (dA 4, 6, .inr (.inr (.inr (.inr (va_up (va_up (va_up (va_up (va_up (va_up (fun _ => none) 0 (some (u3 0))) 1 (some (u4 0))) 2 (some (u5 0))) 3 (some (u6 0))) 4 (some (u7 0))) 5 (some (u8 0)))))))) :: (q1, .inl (dA 1, 8, .inl (upd (upd (upd (upd (upd (fun _ => Int32.ofInt 0) 0 (Int32.ofInt (cINIT 0))) 1 (Int32.ofInt (cINIT 1))) 2 (Int32.ofInt (cINIT 2))) 3 (Int32.ofInt (cINIT 3))) 4 (Int32.ofInt (cINIT 4))))) :: [])))))))))))))))))))))))
  refine zn_goto (tgt := 131) hC dX8_init_151 (by decide) ?_
  refine zn_iload_n hC dX8_init_131 0 rfl rfl ?_
  refine zn_bipush hC dX8_init_132 (by decide) ?_
  refine zn_ge_f (tgt := 154) hC dX8_init_134 (by decide) (by decide) (by decide) (by decide) ?_
  refine zn_aload_n hC dX8_init_137 1 rfl rfl ?_
  refine zn_get (ci := 8) hC (fun w h => uT _ w (uL8 w h)) 0 rfl rfl 4 (by decide) (uT _ _ u226) (fun _ h => h) rfl dX8_init_138 ?_
  refine zn_iload_n hC dX8_init_141 0 rfl rfl ?_
  refine zn_getsN hC (q := aI) (n := "INITIAL_VALUE") (List.mem_of_getElem? (i := 2) rfl) (by decide +kernel : (Cond.fieldLinkNest RX8 54 "GlacierCamera" "INITIAL_VALUE" "[I" "GlacierCamera") ∈ zNest) dX8_init_142 ?_
  refine zn_iload_n hC dX8_init_145 0 rfl rfl ?_
  refine zn_sald hC (q := aI) (n := "INITIAL_VALUE") (F := cINIT) (List.mem_of_getElem? (i := 2) rfl) (fun _ _ => rfl) (by decide) dX8_init_146 ?_
  refine zn_iast (iN := 5) hC 30 1 rfl rfl (by decide) (by decide) rfl dX8_init_147 ?_
  show zL p l e _ s m args below meth c 30 838 _ _ D _ 148 [(1, vI 5), (0, .ref a)] [] ((a, .inr (8, [vI 12, vI 8, vI 0, vI 0, .ref q1, .ref q2, .ref q3, .ref (u1 0), .ref (u2 0)])) :: (tI9 dA u11 ++ ((tI9 dA u10 ++ ((tI9 dA u9 ++ ((tI1 dA u8 ++ ((tI1 dA u7 ++ ((tI1 dA u6 ++ ((tI1 dA u5 ++ ((tI1 dA u4 ++ ((tI1 dA u3 ++ ((tI7 6 dA u2 ++ ((tI7 4 dA u1 ++ ((q3, .inl (dA 5, 3, .inr (.inr (.inr (.inr (va_up (va_up (va_up (fun _ => none) 0 (some (u9 0))) 1 (some (u10 0))) 2 (some (u11 0)))))))) :: (q2, .inl (dA 4, 6, .inr (.inr (.inr (.inr (va_up (va_up (va_up (va_up (va_up (va_up (fun _ => none) 0 (some (u3 0))) 1 (some (u4 0))) 2 (some (u5 0))) 3 (some (u6 0))) 4 (some (u7 0))) 5 (some (u8 0)))))))) :: (q1, .inl (dA 1, 8, .inl (upd (upd (upd (upd (upd (upd (fun _ => Int32.ofInt 0) 0 (Int32.ofInt (cINIT 0))) 1 (Int32.ofInt (cINIT 1))) 2 (Int32.ofInt (cINIT 2))) 3 (Int32.ofInt (cINIT 3))) 4 (Int32.ofInt (cINIT 4))) 5 (Int32.ofInt (cINIT 5))))) :: [])))))))))))))))))))))))
  refine zn_iinc hC [(1, vI (5 + 1)), (0, .ref a)] dX8_init_148 0 rfl (by decide) rfl ?_
  show zL p l e _ s m args below meth c 30 838 _ _ D _ 151 [(1, vI 6), (0, .ref a)] [] ((a, .inr (8, [vI 12, vI 8, vI 0, vI 0, .ref q1, .ref q2, .ref q3, .ref (u1 0), .ref (u2 0)])) :: (tI9 dA u11 ++ ((tI9 dA u10 ++ ((tI9 dA u9 ++ ((tI1 dA u8 ++ ((tI1 dA u7 ++ ((tI1 dA u6 ++ ((tI1 dA u5 ++ ((tI1 dA u4 ++ ((tI1 dA u3 ++ ((tI7 6 dA u2 ++ ((tI7 4 dA u1 ++ ((q3, .inl (dA 5, 3, .inr (.inr (.inr (.inr (va_up (va_up (va_up (fun _ => none) 0 (some (u9 0))) 1 (some (u10 0))) 2 (some (u11 0)))))))) :: (q2, .inl (dA 4, 6, .inr (.inr (.inr (.inr (va_up (va_up (va_up (va_up (va_up (va_up (fun _ => none) 0 (some (u3 0))) 1 (some (u4 0))) 2 (some (u5 0))) 3 (some (u6 0))) 4 (some (u7 0))) 5 (some (u8 0)))))))) :: (q1, .inl (dA 1, 8, .inl (upd (upd (upd (upd (upd (upd (fun _ => Int32.ofInt 0) 0 (Int32.ofInt (cINIT 0))) 1 (Int32.ofInt (cINIT 1))) 2 (Int32.ofInt (cINIT 2))) 3 (Int32.ofInt (cINIT 3))) 4 (Int32.ofInt (cINIT 4))) 5 (Int32.ofInt (cINIT 5))))) :: [])))))))))))))))))))))))
  refine zn_goto (tgt := 131) hC dX8_init_151 (by decide) ?_
  refine zn_iload_n hC dX8_init_131 0 rfl rfl ?_
  refine zn_bipush hC dX8_init_132 (by decide) ?_
  refine zn_ge_f (tgt := 154) hC dX8_init_134 (by decide) (by decide) (by decide) (by decide) ?_
  refine zn_aload_n hC dX8_init_137 1 rfl rfl ?_
  refine zn_get (ci := 8) hC (fun w h => uT _ w (uL8 w h)) 0 rfl rfl 4 (by decide) (uT _ _ u226) (fun _ h => h) rfl dX8_init_138 ?_
  refine zn_iload_n hC dX8_init_141 0 rfl rfl ?_
  refine zn_getsN hC (q := aI) (n := "INITIAL_VALUE") (List.mem_of_getElem? (i := 2) rfl) (by decide +kernel : (Cond.fieldLinkNest RX8 54 "GlacierCamera" "INITIAL_VALUE" "[I" "GlacierCamera") ∈ zNest) dX8_init_142 ?_
  refine zn_iload_n hC dX8_init_145 0 rfl rfl ?_
  refine zn_sald hC (q := aI) (n := "INITIAL_VALUE") (F := cINIT) (List.mem_of_getElem? (i := 2) rfl) (fun _ _ => rfl) (by decide) dX8_init_146 ?_
  refine zn_iast (iN := 6) hC 30 1 rfl rfl (by decide) (by decide) rfl dX8_init_147 ?_
  show zL p l e _ s m args below meth c 30 838 _ _ D _ 148 [(1, vI 6), (0, .ref a)] [] ((a, .inr (8, [vI 12, vI 8, vI 0, vI 0, .ref q1, .ref q2, .ref q3, .ref (u1 0), .ref (u2 0)])) :: (tI9 dA u11 ++ ((tI9 dA u10 ++ ((tI9 dA u9 ++ ((tI1 dA u8 ++ ((tI1 dA u7 ++ ((tI1 dA u6 ++ ((tI1 dA u5 ++ ((tI1 dA u4 ++ ((tI1 dA u3 ++ ((tI7 6 dA u2 ++ ((tI7 4 dA u1 ++ ((q3, .inl (dA 5, 3, .inr (.inr (.inr (.inr (va_up (va_up (va_up (fun _ => none) 0 (some (u9 0))) 1 (some (u10 0))) 2 (some (u11 0)))))))) :: (q2, .inl (dA 4, 6, .inr (.inr (.inr (.inr (va_up (va_up (va_up (va_up (va_up (va_up (fun _ => none) 0 (some (u3 0))) 1 (some (u4 0))) 2 (some (u5 0))) 3 (some (u6 0))) 4 (some (u7 0))) 5 (some (u8 0)))))))) :: (q1, .inl (dA 1, 8, .inl (upd (upd (upd (upd (upd (upd (upd (fun _ => Int32.ofInt 0) 0 (Int32.ofInt (cINIT 0))) 1 (Int32.ofInt (cINIT 1))) 2 (Int32.ofInt (cINIT 2))) 3 (Int32.ofInt (cINIT 3))) 4 (Int32.ofInt (cINIT 4))) 5 (Int32.ofInt (cINIT 5))) 6 (Int32.ofInt (cINIT 6))))) :: [])))))))))))))))))))))))
  refine zn_iinc hC [(1, vI (6 + 1)), (0, .ref a)] dX8_init_148 0 rfl (by decide) rfl ?_
  show zL p l e _ s m args below meth c 30 838 _ _ D _ 151 [(1, vI 7), (0, .ref a)] [] ((a, .inr (8, [vI 12, vI 8, vI 0, vI 0, .ref q1, .ref q2, .ref q3, .ref (u1 0), .ref (u2 0)])) :: (tI9 dA u11 ++ ((tI9 dA u10 ++ ((tI9 dA u9 ++ ((tI1 dA u8 ++ ((tI1 dA u7 ++ ((tI1 dA u6 ++ ((tI1 dA u5 ++ ((tI1 dA u4 ++ ((tI1 dA u3 ++ ((tI7 6 dA u2 ++ ((tI7 4 dA u1 ++ ((q3, .inl (dA 5, 3, .inr (.inr (.inr (.inr (va_up (va_up (va_up (fun _ => none) 0 (some (u9 0))) 1 (some (u10 0))) 2 (some (u11 0)))))))) :: (q2, .inl (dA 4, 6, .inr (.inr (.inr (.inr (va_up (va_up (va_up (va_up (va_up (va_up (fun _ => none) 0 (some (u3 0))) 1 (some (u4 0))) 2 (some (u5 0))) 3 (some (u6 0))) 4 (some (u7 0))) 5 (some (u8 0)))))))) :: (q1, .inl (dA 1, 8, .inl (upd (upd (upd (upd (upd (upd (upd (fun _ => Int32.ofInt 0) 0 (Int32.ofInt (cINIT 0))) 1 (Int32.ofInt (cINIT 1))) 2 (Int32.ofInt (cINIT 2))) 3 (Int32.ofInt (cINIT 3))) 4 (Int32.ofInt (cINIT 4))) 5 (Int32.ofInt (cINIT 5))) 6 (Int32.ofInt (cINIT 6))))) :: [])))))))))))))))))))))))
  refine zn_goto (tgt := 131) hC dX8_init_151 (by decide) ?_
  refine zn_iload_n hC dX8_init_131 0 rfl rfl ?_
  refine zn_bipush hC dX8_init_132 (by decide) ?_
  refine zn_ge_f (tgt := 154) hC dX8_init_134 (by decide) (by decide) (by decide) (by decide) ?_
  refine zn_aload_n hC dX8_init_137 1 rfl rfl ?_
  refine zn_get (ci := 8) hC (fun w h => uT _ w (uL8 w h)) 0 rfl rfl 4 (by decide) (uT _ _ u226) (fun _ h => h) rfl dX8_init_138 ?_
  refine zn_iload_n hC dX8_init_141 0 rfl rfl ?_
  refine zn_getsN hC (q := aI) (n := "INITIAL_VALUE") (List.mem_of_getElem? (i := 2) rfl) (by decide +kernel : (Cond.fieldLinkNest RX8 54 "GlacierCamera" "INITIAL_VALUE" "[I" "GlacierCamera") ∈ zNest) dX8_init_142 ?_
  refine zn_iload_n hC dX8_init_145 0 rfl rfl ?_
  refine zn_sald hC (q := aI) (n := "INITIAL_VALUE") (F := cINIT) (List.mem_of_getElem? (i := 2) rfl) (fun _ _ => rfl) (by decide) dX8_init_146 ?_
  refine zn_iast (iN := 7) hC 30 1 rfl rfl (by decide) (by decide) rfl dX8_init_147 ?_
  show zL p l e _ s m args below meth c 30 838 _ _ D _ 148 [(1, vI 7), (0, .ref a)] [] ((a, .inr (8, [vI 12, vI 8, vI 0, vI 0, .ref q1, .ref q2, .ref q3, .ref (u1 0), .ref (u2 0)])) :: (tI9 dA u11 ++ ((tI9 dA u10 ++ ((tI9 dA u9 ++ ((tI1 dA u8 ++ ((tI1 dA u7 ++ ((tI1 dA u6 ++ ((tI1 dA u5 ++ ((tI1 dA u4 ++ ((tI1 dA u3 ++ ((tI7 6 dA u2 ++ ((tI7 4 dA u1 ++ ((q3, .inl (dA 5, 3, .inr (.inr (.inr (.inr (va_up (va_up (va_up (fun _ => none) 0 (some (u9 0))) 1 (some (u10 0))) 2 (some (u11 0)))))))) :: (q2, .inl (dA 4, 6, .inr (.inr (.inr (.inr (va_up (va_up (va_up (va_up (va_up (va_up (fun _ => none) 0 (some (u3 0))) 1 (some (u4 0))) 2 (some (u5 0))) 3 (some (u6 0))) 4 (some (u7 0))) 5 (some (u8 0)))))))) :: (q1, .inl (dA 1, 8, .inl (upd (upd (upd (upd (upd (upd (upd (upd (fun _ => Int32.ofInt 0) 0 (Int32.ofInt (cINIT 0))) 1 (Int32.ofInt (cINIT 1))) 2 (Int32.ofInt (cINIT 2))) 3 (Int32.ofInt (cINIT 3))) 4 (Int32.ofInt (cINIT 4))) 5 (Int32.ofInt (cINIT 5))) 6 (Int32.ofInt (cINIT 6))) 7 (Int32.ofInt (cINIT 7))))) :: [])))))))))))))))))))))))
  refine zn_iinc hC [(1, vI (7 + 1)), (0, .ref a)] dX8_init_148 0 rfl (by decide) rfl ?_
  show zL p l e _ s m args below meth c 30 838 _ _ D _ 151 [(1, vI 8), (0, .ref a)] [] ((a, .inr (8, [vI 12, vI 8, vI 0, vI 0, .ref q1, .ref q2, .ref q3, .ref (u1 0), .ref (u2 0)])) :: (tI9 dA u11 ++ ((tI9 dA u10 ++ ((tI9 dA u9 ++ ((tI1 dA u8 ++ ((tI1 dA u7 ++ ((tI1 dA u6 ++ ((tI1 dA u5 ++ ((tI1 dA u4 ++ ((tI1 dA u3 ++ ((tI7 6 dA u2 ++ ((tI7 4 dA u1 ++ ((q3, .inl (dA 5, 3, .inr (.inr (.inr (.inr (va_up (va_up (va_up (fun _ => none) 0 (some (u9 0))) 1 (some (u10 0))) 2 (some (u11 0)))))))) :: (q2, .inl (dA 4, 6, .inr (.inr (.inr (.inr (va_up (va_up (va_up (va_up (va_up (va_up (fun _ => none) 0 (some (u3 0))) 1 (some (u4 0))) 2 (some (u5 0))) 3 (some (u6 0))) 4 (some (u7 0))) 5 (some (u8 0)))))))) :: (q1, .inl (dA 1, 8, .inl (upd (upd (upd (upd (upd (upd (upd (upd (fun _ => Int32.ofInt 0) 0 (Int32.ofInt (cINIT 0))) 1 (Int32.ofInt (cINIT 1))) 2 (Int32.ofInt (cINIT 2))) 3 (Int32.ofInt (cINIT 3))) 4 (Int32.ofInt (cINIT 4))) 5 (Int32.ofInt (cINIT 5))) 6 (Int32.ofInt (cINIT 6))) 7 (Int32.ofInt (cINIT 7))))) :: [])))))))))))))))))))))))
  refine zn_goto (tgt := 131) hC dX8_init_151 (by decide) ?_
  refine zn_iload_n hC dX8_init_131 0 rfl rfl ?_
  refine zn_bipush hC dX8_init_132 (by decide) ?_
  refine zn_ge_t (tgt := 154) hC dX8_init_134 (by decide) (by decide) (by decide) (by decide) ?_
  refine zn_ret hC hr rfl (T := tI8) (fun k => [a, q1, q2, q3, u1 0, u1 1, u1 2, u2 0, u2 1, u2 2, u3 0, u4 0, u5 0, u6 0, u7 0, u8 0, u3 1, u4 1, u5 1, u6 1, u7 1, u8 1, u9 0, u10 0, u11 0, u9 1, u10 1, u11 1, u9 2, u10 2, u11 2].getD k 0) rfl dX8_init_154 (fun H hP hD => zCv.both (is := [0, 30, 29, 28, 25, 26, 27, 22, 23, 24, 20, 18, 16, 14, 12, 10, 21, 19, 17, 15, 13, 11, 7, 4, 1, 8, 5, 2, 9, 6, 3]) (by decide) hP hD ?_)
  exact ⟨⟨_, rfl, Or.inl rfl⟩, ⟨_, rfl, Or.inr (Or.inl ⟨_, _, _, _, rfl, rfl, fun j hj => by rcases (show j = 0 ∨ j = 1 ∨ j = 2 ∨ j = 3 ∨ j = 4 ∨ j = 5 ∨ j = 6 ∨ j = 7 by omega) with rfl | rfl | rfl | rfl | rfl | rfl | rfl | rfl <;> rfl⟩)⟩, ⟨_, rfl, Or.inr (Or.inr ⟨_, _, _, _, rfl, rfl, fun j hj => by rcases (show j = 0 ∨ j = 1 ∨ j = 2 ∨ j = 3 ∨ j = 4 ∨ j = 5 by omega) with rfl | rfl | rfl | rfl | rfl | rfl <;> rfl⟩)⟩, ⟨_, rfl, Or.inr (Or.inr ⟨_, _, _, _, rfl, rfl, fun j hj => by rcases (show j = 0 ∨ j = 1 ∨ j = 2 by omega) with rfl | rfl | rfl <;> rfl⟩)⟩, ⟨_, rfl, Or.inl rfl⟩, ⟨_, rfl, Or.inl rfl⟩, ⟨_, rfl, Or.inl rfl⟩, ⟨_, rfl, Or.inl rfl⟩, ⟨_, rfl, Or.inl rfl⟩, ⟨_, rfl, Or.inl rfl⟩, ⟨_, rfl, Or.inl rfl⟩, ⟨_, rfl, Or.inl rfl⟩, ⟨_, rfl, Or.inl rfl⟩, ⟨_, rfl, Or.inl rfl⟩, ⟨_, rfl, Or.inl rfl⟩, ⟨_, rfl, Or.inl rfl⟩, ⟨_, rfl, Or.inl rfl⟩, ⟨_, rfl, Or.inl rfl⟩, ⟨_, rfl, Or.inl rfl⟩, ⟨_, rfl, Or.inl rfl⟩, ⟨_, rfl, Or.inl rfl⟩, ⟨_, rfl, Or.inl rfl⟩, ⟨_, rfl, Or.inl rfl⟩, ⟨_, rfl, Or.inl rfl⟩, ⟨_, rfl, Or.inl rfl⟩, ⟨_, rfl, Or.inl rfl⟩, ⟨_, rfl, Or.inl rfl⟩, ⟨_, rfl, Or.inl rfl⟩, ⟨_, rfl, Or.inl rfl⟩, ⟨_, rfl, Or.inl rfl⟩, ⟨_, rfl, Or.inl rfl⟩, trivial⟩

set_option maxHeartbeats 600000 in
set_option maxRecDepth 20000 in
theorem cI4 (l : Launch) : zIM l yX4_init (Cond.code yX4_init cX4_init 1 none :: UW) ({ frames := 3, cells := 34, slots := 2262, locals := 56 } : Room) 34 2262 4 [.null, .null, .null] [] (tI4) := by
  refine zI_enter (cc := cX4_init) (maxL := 1) (plainFor_of_name (by decide)) rfl (fun _ => Nat.le_of_ble_eq_true rfl) ?_
  intro p e s m args below meth c D dA aL aG aI aK aV a hC hin hr
  refine zn_aload_n hC dX4_init_0 0 rfl rfl ?_
  refine zn_obj hC (uT _ _ u269) (uT _ _ u134) (uT _ _ u135) (Nat.le_of_ble_eq_true rfl) (Nat.le_of_ble_eq_true rfl) dX4_init_1 ?_
  refine zn_aload_n hC dX4_init_4 0 rfl rfl ?_
  refine zn_new (ci := 2) hC (fun w h => uT _ w (uL2 w h)) tyX2 tyX2_ok (uT _ _ u270) (uT _ _ ui_RX2) (uT _ _ u112) rfl [vI 0, vI 0, vI 0, vI 0, .null, vI 0, vI 0] (fun j hj => by rcases (show j = 0 ∨ j = 1 ∨ j = 2 ∨ j = 3 ∨ j = 4 ∨ j = 5 ∨ j = 6 by omega) with rfl | rfl | rfl | rfl | rfl | rfl | rfl <;> rfl) ⟨Nat.le_of_ble_eq_true rfl, Nat.le_of_ble_eq_true rfl⟩ dX4_init_5 (fun q1 => ?_)
  show zL p l e _ s m args below meth c 1 7 _ _ D _ 8 [(0, .ref a)] [.ref q1, .ref a] ((q1, .inr (2, [vI 0, vI 0, vI 0, vI 0, .null, vI 0, vI 0])) :: (a, .inr (4, [.null, .null, .null])) :: [])
  refine zn_dup hC dX4_init_8 rfl ?_
  refine zn_initN (As := []) (T := tI2) hC (cI2 l) (⟨va_cnB (host := "GlacierCamera") 0 hC.1.2.2.2.2 (uP (uT _) u274) rfl rfl rfl ((hC.2.2.2.2.1.1 (.methodLinkNest RX4 11 yX2_init "GlacierCamera") (by decide +kernel : (Cond.methodLinkNest RX4 11 yX2_init "GlacierCamera") ∈ zNest)).1) (hC.1.2.2.2.2 _ (uT _ _ u112)) (by decide +kernel) ⟨Nat.le_of_ble_eq_true rfl, Nat.le_of_ble_eq_true rfl⟩, rfl, hC.1.2.2.2.2 _ (uT _ _ u273)⟩) rfl rfl (Nat.le_of_ble_eq_true rfl) ⟨Nat.le_of_ble_eq_true rfl, Nat.le_of_ble_eq_true rfl⟩ dX4_init_9 (fun u1 hu1 => ?_)
  subst hu1
  refine zn_perm List.perm_middle ?_
  show zL p l e _ s m args below meth c 2 1407 _ _ D _ 12 [(0, .ref a)] [.ref (u1 0), .ref a] ((a, .inr (4, [.null, .null, .null])) :: (tI2 dA u1 ++ ([])))
  refine zn_putF (ci := 4) hC (fun w h => uT _ w (uL4 w h)) tyX4 tyX4_ok nmX4 0 rfl rfl 0 (by decide) (uT _ _ u305) (fun _ h => h) rfl hin rfl rfl rfl rfl (Nat.le_of_ble_eq_true rfl) dX4_init_12 ?_
  show zL p l e _ s m args below meth c 2 1407 _ _ D _ 15 [(0, .ref a)] [] ((a, .inr (4, [.ref (u1 0), .null, .null])) :: (tI2 dA u1 ++ ([])))
  refine zn_aload_n hC dX4_init_15 0 rfl rfl ?_
  refine zn_new (ci := 8) hC (fun w h => uT _ w (uL8 w h)) tyX8 tyX8_ok (uT _ _ u303) (uT _ _ ui_RX8) (uT _ _ u106) rfl [vI 0, vI 0, vI 0, vI 0, .null, .null, .null, .null, .null] (fun j hj => by rcases (show j = 0 ∨ j = 1 ∨ j = 2 ∨ j = 3 ∨ j = 4 ∨ j = 5 ∨ j = 6 ∨ j = 7 ∨ j = 8 by omega) with rfl | rfl | rfl | rfl | rfl | rfl | rfl | rfl | rfl <;> rfl) ⟨Nat.le_of_ble_eq_true rfl, Nat.le_of_ble_eq_true rfl⟩ dX4_init_16 (fun q2 => ?_)
  show zL p l e _ s m args below meth c 3 1416 _ _ D _ 19 [(0, .ref a)] [.ref q2, .ref a] ((q2, .inr (8, [vI 0, vI 0, vI 0, vI 0, .null, .null, .null, .null, .null])) :: (a, .inr (4, [.ref (u1 0), .null, .null])) :: (tI2 dA u1 ++ ([])))
  refine zn_dup hC dX4_init_19 rfl ?_
  refine zn_init (As := []) (T := tI8) hC (cI8 l) (cwI 0 hC.1.2.2.2.2 (uP (uT _) u140) rfl rfl rfl (hC.1.2.2.2.2 _ (uT _ _ u106)) (hC.1.2.2.2.2 _ (uT _ _ u304)) (hC.1.2.2.2.2 _ (uT _ _ u139)) rfl (by decide +kernel) ⟨Nat.le_of_ble_eq_true rfl, Nat.le_of_ble_eq_true rfl⟩) rfl rfl (Nat.le_of_ble_eq_true rfl) ⟨Nat.le_of_ble_eq_true rfl, Nat.le_of_ble_eq_true rfl⟩ dX4_init_20 (fun u2 hu2 => ?_)
  subst hu2
  refine zn_perm List.perm_middle ?_
  show zL p l e _ s m args below meth c 33 2254 _ _ D _ 23 [(0, .ref a)] [.ref (u2 0), .ref a] ((a, .inr (4, [.ref (u1 0), .null, .null])) :: (tI8 dA u2 ++ ((tI2 dA u1 ++ ([])))))
  refine zn_put (ci := 4) hC (fun w h => uT _ w (uL4 w h)) tyX4 tyX4_ok nmX4 0 rfl rfl 1 (by decide) (uT _ _ u307) (fun _ h => h) rfl rfl rfl rfl (Nat.le_of_ble_eq_true rfl) dX4_init_23 ?_
  show zL p l e _ s m args below meth c 33 2254 _ _ D _ 26 [(0, .ref a)] [] ((a, .inr (4, [.ref (u1 0), .ref (u2 0), .null])) :: (tI8 dA u2 ++ ((tI2 dA u1 ++ ([])))))
  refine zn_aload_n hC dX4_init_26 0 rfl rfl ?_
  refine zn_bipush hC dX4_init_27 (by decide) ?_
  refine zn_newa (atype := .boolean) (k := 2) (cB := dA 2) (N' := 8) hC (uT _ _ ua_boolean) rfl rfl (8, .inl (fun _ => Int32.ofInt 0)) (fun _ => rfl) (by decide) rfl (by decide) ⟨Nat.le_of_ble_eq_true rfl, Nat.le_of_ble_eq_true rfl⟩ dX4_init_29 (fun q3 => ?_)
  refine zn_perm (List.Perm.swap _ _ _) ?_
  show zL p l e _ s m args below meth c 34 2262 _ _ D _ 31 [(0, .ref a)] [.ref q3, .ref a] ((a, .inr (4, [.ref (u1 0), .ref (u2 0), .null])) :: (q3, .inl (dA 2, 8, .inl (fun _ => Int32.ofInt 0))) :: (tI8 dA u2 ++ ((tI2 dA u1 ++ ([])))))
  refine zn_putF (ci := 4) hC (fun w h => uT _ w (uL4 w h)) tyX4 tyX4_ok nmX4 0 rfl rfl 2 (by decide) (uT _ _ u308) (fun _ h => h) rfl hin rfl rfl rfl rfl (Nat.le_of_ble_eq_true rfl) dX4_init_31 ?_
  show zL p l e _ s m args below meth c 34 2262 _ _ D _ 34 [(0, .ref a)] [] ((a, .inr (4, [.ref (u1 0), .ref (u2 0), .ref q3])) :: (q3, .inl (dA 2, 8, .inl (fun _ => Int32.ofInt 0))) :: (tI8 dA u2 ++ ((tI2 dA u1 ++ ([])))))
  refine zn_ret hC hr rfl (T := tI4) (fun k => if k < 4 then [a, u1 0, u1 1, q3].getD k 0 else u2 (k - 4)) rfl dX4_init_34 (fun H hP hD => zCv.both (is := [0, 33, 34, 1, 2, 3, 4, 5, 6, 7, 8, 9, 10, 11, 12, 13, 14, 15, 16, 17, 18, 19, 20, 21, 22, 23, 24, 25, 26, 27, 28, 29, 30, 31, 32]) (by decide) hP hD ?_)
  exact ⟨⟨_, rfl, Or.inl rfl⟩, ⟨_, rfl, Or.inl rfl⟩, ⟨_, rfl, Or.inl rfl⟩, ⟨_, rfl, Or.inl rfl⟩, ⟨_, rfl, Or.inl rfl⟩, ⟨_, rfl, Or.inl rfl⟩, ⟨_, rfl, Or.inr (Or.inr ⟨_, _, _, _, rfl, rfl, fun j hj => by rcases (show j = 0 ∨ j = 1 ∨ j = 2 ∨ j = 3 ∨ j = 4 ∨ j = 5 by omega) with rfl | rfl | rfl | rfl | rfl | rfl <;> rfl⟩)⟩, ⟨_, rfl, Or.inr (Or.inr ⟨_, _, _, _, rfl, rfl, fun j hj => by rcases (show j = 0 ∨ j = 1 ∨ j = 2 by omega) with rfl | rfl | rfl <;> rfl⟩)⟩, ⟨_, rfl, Or.inl rfl⟩, ⟨_, rfl, Or.inl rfl⟩, ⟨_, rfl, Or.inl rfl⟩, ⟨_, rfl, Or.inl rfl⟩, ⟨_, rfl, Or.inl rfl⟩, ⟨_, rfl, Or.inl rfl⟩, ⟨_, rfl, Or.inl rfl⟩, ⟨_, rfl, Or.inl rfl⟩, ⟨_, rfl, Or.inl rfl⟩, ⟨_, rfl, Or.inl rfl⟩, ⟨_, rfl, Or.inl rfl⟩, ⟨_, rfl, Or.inl rfl⟩, ⟨_, rfl, Or.inl rfl⟩, ⟨_, rfl, Or.inl rfl⟩, ⟨_, rfl, Or.inl rfl⟩, ⟨_, rfl, Or.inl rfl⟩, ⟨_, rfl, Or.inl rfl⟩, ⟨_, rfl, Or.inl rfl⟩, ⟨_, rfl, Or.inl rfl⟩, ⟨_, rfl, Or.inl rfl⟩, ⟨_, rfl, Or.inl rfl⟩, ⟨_, rfl, Or.inl rfl⟩, ⟨_, rfl, Or.inl rfl⟩, ⟨_, rfl, Or.inl rfl⟩, ⟨_, rfl, Or.inl rfl⟩, ⟨_, rfl, Or.inl rfl⟩, ⟨_, rfl, Or.inl rfl⟩, trivial⟩

