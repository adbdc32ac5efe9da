/-! the statement that gives a frame -/
section FM
variable {σ τ : zSt} {T : Int}
theorem Sm_frame (h : BI σ τ T) (hb : RBc σ) : Sm (fun K => kX (σ 1 1) = 8 ∧ zrg (σ (σ 1 1) 2) ∧ ((6 ≤ σ (σ 1 1) 2 → K (-15) σ) ∧ (¬ 6 ≤ σ (σ 1 1) 2 → fX4_readFrame K σ))) (fun K => fX12_parseFrame K τ) σ τ T := by
  have h0 := h
  obtain ⟨⟨hT, h11⟩, hQ, ⟨hn, hn5⟩, hM, hL, h13⟩ := h
  have kT : kX T = 8 := by rw [kX_8]; exact hT
  have z0 := hQ.1
  unfold Q0 at z0
  have r0 := hL.r
  have A2 := hQ.2.2.1
  have a2r := A2.2.1
  have wd1 := A2.2.2.2.1.1
  have wd2 := A2.2.2.2.1.2
  have dd := A2.2.2.1
  generalize en : τ 2 2 = n at hn a2r wd1 wd2 dd
  have lastr : 0 < n → zrg (τ 2 (6 + n - 1)) := fun z => by
    have := wd1 (n - 1) (by omega) (by omega)
    rw [show 6 + n - 1 = 6 + (n - 1) by omega]
    omega
  by_cases full : 6 ≤ n
  · have b := bad_v (τ := τ) (e := -15)
    have n13 : bad τ (-15) 0 13 ≠ 0 := by rw [b.1]; decide
    have z13 : zrg (bad τ (-15) 0 13) := by rw [b.1]; decide
    refine ⟨-15, σ, bad τ (-15), fun K hK => ⟨by rw [h11]; exact kT, by rw [h11, hn]; omega, fun _ => hK, fun z => by rw [h11, hn] at z; omega⟩, fun K hK => ?_, frm.rf, bad_f, Or.inr (bad_BD hL (by decide) frm.rf)⟩
    have q := pf42 (K := K) (n := n) n13 z13 (by omega) (by rw [b.2.2.2.1]; omega) (by rw [b.2.2.2.2.1]; exact lastr) hK
    unfold fX12_parseFrame
    rw [en]
    exact ⟨by omega, fun _ => sM_check0 h13 (sM_aigN n13 z13 ⟨by rw [b.2.2.1]; omega, fun _ => sM_checkN (by decide) n13 z13 q, fun _ => sM_checkN (by decide) n13 z13 q⟩), fun z => by omega⟩
  obtain ⟨σ1, τ1, a1, b1, t1, u1, v1, q1⟩ := adv hL.1.1
  have g11 : σ1 1 1 = T := by rw [u1 1 1 (by omega)]; exact h11
  have g13 : τ1 0 13 = 0 := by rw [v1 0 13 (by omega)]; exact h13
  have r1 := t1.r
  have d1 : τ1 2 = τ 2 := by funext i; exact v1 2 i (by omega)
  have m1 : σ 2 6 ≤ σ1 2 6 := by omega
  have rf1 : ∀ K : zSt → Prop, (zrg (τ1 0 10) ∧ ((τ1 0 10 = 2 → fX12_parseFrame_B42 K τ1 n 1) ∧ (¬ τ1 0 10 = 2 → fX12_parseFrame_B42 K τ1 n 0))) → fX12_parseFrame K τ := fun K g => by
    unfold fX12_parseFrame
    rw [en]
    exact ⟨by omega, fun z => by omega, fun _ => sM_check1 (by decide) (by decide) (sM_aig h13 (b1 _ g))⟩
  have cl1 : ∀ K : Int → zSt → Prop, fX4_checkNumber (fun r1 σ1 => zrg r1 ∧ ((r1 = 0 → kX (σ1 1 1) = 8 ∧ fX8_dayOf (fun r4 σ4 => zrg (σ1 2 3) ∧ zrg r4 ∧ ((r4 < σ1 2 3 → kX (σ4 1 1) = 8 ∧ fX8_addFrame (fun r8 σ8 => fX2_advance (fun σ9 => (∃ n, fX4_readFrame_B68 K n σ9 r8 0)) σ8 ) σ4 (σ4 1 1) (σ4 2 3)) ∧ (¬ r4 < σ1 2 3 → K (-14) σ4))) σ1 (σ1 1 1) ((σ1 (σ1 1 1) 2) - 1)) ∧ (¬ r1 = 0 → K r1 σ1))) σ1 0 9999 → (kX (σ 1 1) = 8 ∧ zrg (σ (σ 1 1) 2) ∧ ((6 ≤ σ (σ 1 1) 2 → K (-15) σ) ∧ (¬ 6 ≤ σ (σ 1 1) 2 → fX4_readFrame K σ))) := fun K g => ⟨by rw [h11]; exact kT, by rw [h11, hn]; omega, fun z => by rw [h11, hn] at z; omega, fun _ => a1 _ g⟩
  have fin : ∀ e, (-15 ≤ e ∧ e ≤ -11) → (∀ K : Int → zSt → Prop, K e σ1 → (kX (σ 1 1) = 8 ∧ zrg (σ (σ 1 1) 2) ∧ ((6 ≤ σ (σ 1 1) 2 → K (-15) σ) ∧ (¬ 6 ≤ σ (σ 1 1) 2 → fX4_readFrame K σ)))) → (∀ K : zSt → Prop, K (bad τ1 e) → fX12_parseFrame K τ) → Sm (fun K => kX (σ 1 1) = 8 ∧ zrg (σ (σ 1 1) 2) ∧ ((6 ≤ σ (σ 1 1) 2 → K (-15) σ) ∧ (¬ 6 ≤ σ (σ 1 1) 2 → fX4_readFrame K σ))) (fun K => fX12_parseFrame K τ) σ τ T := fun e he a b => ⟨e, σ1, bad τ1 e, a, b, pA_L u1, (pB_R v1).tr bad_f, Or.inr (bad_BD t1 he frm.rf)⟩
  have fl : ∀ e, (-15 ≤ e ∧ e ≤ -11) → bad τ1 e 0 13 ≠ 0 ∧ zrg (bad τ1 e 0 13) ∧ zrg (bad τ1 e 0 12) ∧ (0 < n → zrg (bad τ1 e 2 (6 + n - 1))) := fun e he => by
    have b := bad_v (τ := τ1) (e := e)
    rw [b.1, b.2.2.2.1, b.2.2.2.2.1, d1]
    exact ⟨by omega, by omega, by omega, lastr⟩
  by_cases k2 : τ1 0 10 = 2
  · have rf2 : ∀ K : zSt → Prop, (zrg (τ1 0 12) ∧ ((9999 < τ1 0 12 → fX12_parseFrame_B63 K τ1 n 0) ∧ (¬ 9999 < τ1 0 12 → fX12_parseFrame_B63 K τ1 n 1))) → fX12_parseFrame K τ := fun K g => rf1 K ⟨by omega, fun _ => sM_check1 (by decide) (by decide) g, fun z => (z k2).elim⟩
    by_cases big : 9999 < τ1 0 12
    · refine fin (-12) (by decide) (fun K hK => cl1 K ⟨by omega, fun _ => sX11_isBetween (by omega) (by decide) (by decide) (fun _ _ => by omega) (fun _ => ⟨by decide, fun _ => ⟨by decide, fun z => absurd z (by decide), fun _ => hK⟩, fun z => absurd rfl z⟩), fun z => by omega⟩) (fun K hK => rf2 K ⟨by omega, fun _ => sM_check0 g13 ?_, fun z => (z big).elim⟩)
      obtain ⟨q1, q2, q3, q4⟩ := fl (-12) (by decide)
      exact pf63 q1 q2 (by omega) q3 q4 hK
    · have rf3 : ∀ K : zSt → Prop, (zrg n ∧ ((n = 0 → fX12_parseFrame_B91 K τ1 n) ∧ (¬ n = 0 → (0 ≤ (6 + n) - 1 ∧ (6 + n) - 1 < 811) ∧ zrg (τ1 0 12) ∧ zrg (τ1 2 ((6 + n) - 1)) ∧ ((τ1 0 12 ≤ τ1 2 ((6 + n) - 1) → fX12_parseFrame_B96 K τ1 n 0) ∧ (¬ τ1 0 12 ≤ τ1 2 ((6 + n) - 1) → fX12_parseFrame_B91 K τ1 n))))) → fX12_parseFrame K τ := fun K g => rf2 K ⟨by omega, fun z => (big z).elim, fun _ => sM_check1 (by decide) (by decide) g⟩
      -- the day before
      have ld : ∃ L : Int, (L = if n = 0 then -1 else τ 2 (6 + n - 1)) := ⟨_, rfl⟩
      obtain ⟨L, eL⟩ := ld
      have zL : -1 ≤ L ∧ L ≤ 9999 := by
        rw [eL]
        split
        · omega
        · have := wd1 (n - 1) (by omega) (by omega)
          rw [show 6 + n - 1 = 6 + (n - 1) by omega]; omega
      have e3 : σ1 2 3 = τ1 0 12 := by omega
      have cT2 : σ1 T 2 = n := by rw [u1 T 2 (by omega)]; exact hn
      have cl2 : ∀ K : Int → zSt → Prop, ((L < τ1 0 12 → kX (σ1 1 1) = 8 ∧ fX8_addFrame (fun r8 σ8 => fX2_advance (fun σ9 => (∃ n, fX4_readFrame_B68 K n σ9 r8 0)) σ8 ) σ1 (σ1 1 1) (σ1 2 3)) ∧ (¬ L < τ1 0 12 → K (-14) σ1)) → (kX (σ 1 1) = 8 ∧ zrg (σ (σ 1 1) 2) ∧ ((6 ≤ σ (σ 1 1) 2 → K (-15) σ) ∧ (¬ 6 ≤ σ (σ 1 1) 2 → fX4_readFrame K σ))) := fun K g => cl1 K ⟨by omega, fun _ => sX11_isBetween (by omega) (by decide) (by decide) (fun _ _ => ⟨by decide, fun z => absurd z (by decide), fun _ => ⟨by decide, fun _ => ⟨by rw [g11]; exact kT, by
        rw [g11, cT2]
        rw [← e3] at g
        refine ⟨kT, kT, by omega, fun z => ⟨by decide, fun _ => ?_, fun y => absurd rfl y⟩, fun z => ⟨by omega, fun y => by omega, fun _ => ⟨by decide, fun y => absurd y (by decide), fun _ => ⟨by omega, ?_, ?_⟩⟩⟩⟩
        · rw [if_pos (by omega)] at eL
          rw [← eL]
          rw [g11] at g
          rw [g11]
          exact ⟨by omega, by omega, g⟩
        · have := A2.1.1 (n - 1) (by omega) (by omega)
          rw [u1 _ _ (by omega), kX_1]; omega
        · have sl := A2.1.1 (n - 1) (by omega) (by omega)
          have x := dd (n - 1) (by omega) (by omega)
          rw [if_neg (by omega), show 6 + n - 1 = 6 + (n - 1) by omega, ← x] at eL
          rw [u1 (T + 2) (n - 1) (by omega), u1 (σ (T + 2) (n - 1)) 0 (by omega), ← eL]
          exact ⟨by omega, by omega, g⟩⟩, fun z => absurd rfl z⟩⟩) (fun z => (z (by omega)).elim), fun z => by omega⟩
      by_cases lt : L < τ1 0 12
      · -- a frame begins
        have sr := A2.1.1 n (by omega) (by omega)
        generalize es : σ (T + 2) n = s at sr
        have s1 : σ1 (T + 2) n = s := by rw [u1 _ _ (by omega)]; exact es
        have w2 : ∃ σ2, σ2 = zu (zu σ1 s 0 (τ1 0 12)) T 2 (n + 1) := ⟨_, rfl⟩
        obtain ⟨σ2, e2⟩ := w2
        have f2 : frm (fun a b => (a = s ∧ b = 0) ∨ (a = T ∧ b = 2)) σ1 σ2 := by rw [e2]; exact (frm.wr (P := fun a b => (a = s ∧ b = 0) ∨ (a = T ∧ b = 2)) (by omega)).z (by omega)
        have x2 : ∃ τ2, τ2 = zu τ1 2 (6 + n) (τ1 0 12) := ⟨_, rfl⟩
        obtain ⟨τ2, y2⟩ := x2
        have k2' : frm (fun a b => a = 2 ∧ b = 6 + n) τ1 τ2 := by rw [y2]; exact zuf
        have t2 : TL σ2 τ2 := t1.w f2 k2' (fun a b z => by omega) (fun a b z => by omega)
        obtain ⟨σ3, τ3, a3, b3, t3, u3, v3, q3⟩ := adv t2.1.1
        have uu : frm (fun a b => (a = 2 ∧ (b = 1 ∨ b = 2 ∨ b = 3 ∨ b = 6)) ∨ (a = s ∧ b = 0) ∨ (a = T ∧ b = 2)) σ σ3 := (u1.mo (fun a b z => Or.inl z)).tr ((f2.mo (fun a b z => Or.inr z)).tr (u3.mo (fun a b z => Or.inl z)))
        have vv : frm (fun a b => (a = 2 ∧ b = 6 + n) ∨ (a = 0 ∧ (8 ≤ b ∧ b ≤ 12))) τ τ3 := (v1.mo (fun a b z => Or.inr z)).tr ((k2'.mo (fun a b z => Or.inl z)).tr (v3.mo (fun a b z => Or.inr z)))
        have m3 : σ1 2 6 ≤ σ3 2 2 := by rw [f2 2 6 (by omega)] at q3; exact q3
        have r3 := t3.r
        have day1 : σ3 s 0 = τ1 0 12 := by rw [u3 _ _ (by omega), e2, zu_ne (by omega), zu_eq]
        have day2 : τ3 2 (6 + n) = τ1 0 12 := by rw [v3 _ _ (by omega), y2, zu_eq]
        have pl : frm (pL T) σ σ3 := uu.mo (fun a b z => by omega)
        obtain ⟨A0, A1, A2', A3, A4, A5⟩ := hQ
        have a3r := A3.2.2.1
        have a4r := A4.2.2.1
        have a5r := A5.1
        have hF : FR σ3 τ3 T n 0 := by
          refine ⟨⟨hT, by rw [uu 1 1 (by omega)]; exact h11⟩, ⟨A0.mv (uu _ _ (by omega)) (uu _ _ (by omega)) (vv _ _ (by omega)) (vv _ _ (by omega)), A1.mv (fun b => uu _ _ (by omega)) (fun i _ _ => vv _ _ (by omega)), A2'.mv z0.1.2.2 z0.2.2.2 (fun b => uu _ _ (by omega)) (fun f b f0 f1 => ?_) (fun i hi => vv _ _ (by omega)), A3.mv (uu _ _ (by omega)) (uu _ _ (by omega)) (fun k k0 k1 => ⟨uu _ _ (by omega), uu _ _ (by omega)⟩) (vv _ _ (by omega)) (vv _ _ (by omega)) (vv _ _ (by omega)) (fun i i0 i1 => vv _ _ (by omega)), A4.mv (uu _ _ (by omega)) (uu _ _ (by omega)) (fun k k0 k1 => ⟨uu _ _ (by omega), uu _ _ (by omega)⟩) (vv _ _ (by omega)) (vv _ _ (by omega)) (vv _ _ (by omega)) (fun i i0 i1 => vv _ _ (by omega)), A5.mv (fun t a b t0 t1 z => uu _ _ (by omega)) (vv _ _ (by omega)) (fun t i t0 t1 z => vv _ _ (by omega))⟩, ⟨?_, by rw [vv 2 2 (by omega)]; exact en, by rw [uu T 3 (by omega), vv 2 5 (by omega)]; exact hn5⟩, hM.mv (fun b => uu 4 b (by omega)) (vv 0 15 (by omega)) (vv 0 14 (by omega)), t3, by rw [vv 0 13 (by omega)]; exact h13, ⟨by omega, by omega⟩, ⟨?_, by omega, fun z => ?_⟩, fun x v x0 x1 v0 v1 => by omega⟩
          · have f6 := A2'.1.1 f f0 (by omega)
            have ne : σ (T + 2) f ≠ s := fun z => by
              have := A2'.1.2 f n f0 (by omega) (by omega) (by omega) (by rw [z, es])
              omega
            exact ⟨uu _ _ (by omega), uu _ _ (by omega)⟩
          · rw [u3 _ _ (by omega), e2, zu_eq]
          · rw [show σ3 (T + 2) n = s by rw [uu _ _ (by omega)]; exact es, day1, day2]
          · rw [day2, vv _ _ (by omega)]
            rw [if_neg (by omega), show 6 + n - 1 = 6 + (n - 1) by omega] at eL
            omega
        obtain ⟨r, σ', τ', ⟨k, ga⟩, ⟨k', gb⟩, u4, v4, fi⟩ := rows (τ3 2 1).toNat σ3 τ3 0 hF (hb.fr pl (by omega)) (by rw [vv 2 1 (by omega)]; omega) (by decide)
        refine ⟨r, σ', τ', fun K hK => cl2 K ⟨fun _ => ⟨by rw [g11]; exact kT, ?_⟩, fun z => (z lt).elim⟩, fun K hK => rf3 K ?_, pl.tr u4, (vv.mo (fun a b z => by omega) : frm pR τ τ3).tr v4, fi.imp (fun z => ⟨z.1, z.2.1, by have := z.2.2; omega⟩) id⟩
        · rw [g11, e3]
          refine ⟨kT, by omega, fun _ => ⟨by omega, by rw [cT2, s1, kX_1]; omega, fun σ4 e4 σ5 e5 => ?_⟩, fun z => by omega⟩
          rw [cT2, s1] at e4
          have c4 : σ4 T 2 = n := by rw [e4, zu_ne (by omega)]; exact cT2
          rw [c4, e4, ← e2] at e5
          have c5 : σ5 T 2 = n + 1 := by rw [e5, e2, zu_eq]
          rw [c5, show n + 1 - 1 = n by omega, e5]
          exact a3 _ ⟨k, ga K hK⟩
        · have go : fX12_parseFrame_B91 K τ1 n := sM_check1 (by decide) (by decide) ⟨by omega, fun _ => ⟨by omega, fun σ15 e15 => by
            rw [← y2] at e15
            rw [e15]; exact b3 _ ⟨k', gb K hK⟩⟩, fun z => (z g13).elim⟩
          refine ⟨by omega, fun _ => go, fun z => ⟨by omega, by omega, by rw [d1]; exact lastr (by omega), fun y => ?_, fun _ => go⟩⟩
          rw [d1] at y
          rw [if_neg z] at eL
          omega
      · have nz : n ≠ 0 := fun z => by rw [if_pos z] at eL; omega
        rw [if_neg nz] at eL
        refine fin (-14) (by decide) (fun K hK => cl2 K ⟨fun z => (lt z).elim, fun _ => hK⟩) (fun K hK => rf3 K ⟨by omega, fun z => (nz z).elim, fun _ => ⟨by omega, by omega, by rw [d1]; omega, fun _ => sM_check0 g13 ?_, fun z => by rw [d1] at z; omega⟩⟩)
        obtain ⟨q1, q2, q3, q4⟩ := fl (-14) (by decide)
        exact ⟨q2, fun z => (q1 z).elim, fun _ => hK⟩
  · refine fin (-11) (by decide) (fun K hK => cl1 K ⟨by omega, fun z => by omega, fun _ => ⟨by decide, fun z => absurd z (by decide), fun _ => hK⟩⟩) (fun K hK => rf1 K ⟨by omega, fun z => (k2 z).elim, fun _ => sM_check0 g13 ?_⟩)
    obtain ⟨q1, q2, q3, q4⟩ := fl (-11) (by decide)
    exact pf42 q1 q2 (by omega) q3 q4 hK
end FM
