/-! the statements that give a control, a feature -/
section PT
variable {σ τ : zSt} {T : Int}
theorem Sm_point (h : BI σ τ T) {c q w mx : Int} (hc : (c = T + 4 ∧ q = 3 ∧ w = 12 ∧ mx = 4) ∨ (c = T + 7 ∧ q = 4 ∧ w = 20 ∧ mx = 6)) (hP : Qp σ c (τ 2) q w mx) : Sm (fun K => fX4_readPoint K σ c) (fun K => fX12_parsePixel K τ q mx w) σ τ T := by
  have h0 := h
  obtain ⟨⟨hT, h11⟩, hQ, hn, hM, hL, h13⟩ := h
  have kT : kX T = 8 := by rw [kX_8]; exact hT
  have kc : kX c = 7 := by rw [kX_7]; omega
  have hP0 := hP
  obtain ⟨p1, p2, p3, p4⟩ := hP
  have z0 := hQ.1
  unfold Q0 at z0
  generalize en : τ 2 q = n at p2 p3 p4
  have r0 := hL.r
  by_cases full : mx ≤ n
  · have b := bad_v (τ := τ) (e := -15)
    have n13 : bad τ (-15) 0 13 ≠ 0 := by rw [b.1]; decide
    have z13 : zrg (bad τ (-15) 0 13) := by rw [b.1]; decide
    refine ⟨-15, σ, bad τ (-15), fun K hK => ⟨kc, sX7_isFull kc p1 p2 (by omega) (by omega) (fun z => by omega) (fun _ => ⟨by decide, fun z => absurd z (by decide), fun _ => hK⟩)⟩, fun K hK => ?_, frm.rf, bad_f, Or.inr (bad_BD hL (by decide) frm.rf)⟩
    refine ⟨by omega, by omega, by omega, fun _ => ?_, fun z => by omega⟩
    refine sM_check0 h13 (sM_aigN n13 z13 (sM_readIntegerN n13 z13 (by rw [b.2.2.1]; omega) (by rw [b.2.2.2.1]; omega) (by decide) (by rw [b.2.2.2.2.1]; omega) (sM_readIntegerN n13 z13 (by rw [b.2.2.1]; omega) (by rw [b.2.2.2.1]; omega) (by decide) (by rw [b.2.2.2.2.1]; omega) ⟨z13, fun z => (n13 z).elim, fun _ => hK⟩)))
  obtain ⟨σ1, τ1, a1, b1, t1, u1, v1, q1⟩ := adv hL.1.1
  have g11 : σ1 1 1 = T := by rw [u1 1 1 (by omega)]; exact h11
  have g13 : τ1 0 13 = 0 := by rw [v1 0 13 (by omega)]; exact h13
  have r1 := t1.r
  have d1 : τ1 2 = τ 2 := by funext i; exact v1 2 i (by omega)
  have cl1 : ∀ K : Int → zSt → Prop, fX4_checkNumber (fun r4 σ4 => zrg r4 ∧ ((r4 = 0 → kX (σ4 1 1) = 8 ∧ fX4_readNumber (fun r7 σ7 => zrg r7 ∧ ((r7 = 0 → fX7_add (fun σ9 => fX2_advance (fun σ10 => K 0 σ10) σ9 ) σ7 c (σ4 2 3) (σ7 2 3)) ∧ (¬ r7 = 0 → K r7 σ7))) σ4 0 ((σ4 (σ4 1 1) 1) - 1)) ∧ (¬ r4 = 0 → K r4 σ4))) σ1 0 (τ 2 0 - 1) → fX4_readPoint K σ c := fun K g => ⟨kc, sX7_isFull kc p1 p2 (by omega) (by omega) (fun _ => ⟨by decide, fun _ => ⟨by rw [h11]; exact kT, by
    rw [h11, z0.1.1]
    exact a1 _ g⟩, fun z => absurd rfl z⟩) (fun z => by omega)⟩
  have rf1 : ∀ K : zSt → Prop, fX12_readInteger (fun r6 σ6 => fX12_readInteger (fun r7 σ7 => zrg (σ7 0 13) ∧ ((σ7 0 13 = 0 → (0 ≤ w + (2 * n) ∧ w + (2 * n) < 811) ∧ ∀ σ10, σ10 = zu σ7 2 (w + (2 * n)) r6 → (0 ≤ (w + (2 * n)) + 1 ∧ (w + (2 * n)) + 1 < 811) ∧ ∀ σ12, σ12 = zu σ10 2 ((w + (2 * n)) + 1) r7 → (0 ≤ q ∧ q < 811) ∧ ∀ σ14, σ14 = zu σ12 2 q ((σ12 2 q) + 1) → K σ14) ∧ (¬ σ7 0 13 = 0 → K σ7))) σ6 0 ((σ6 2 1) - 1)) τ1 0 (τ 2 0 - 1) → fX12_parsePixel K τ q mx w := fun K g => by
    refine ⟨by omega, by omega, by omega, fun z => by omega, fun _ => sM_check1 (by decide) (by decide) (sM_aig h13 (b1 _ ?_))⟩
    rw [d1, en]
    exact g
  rcases numb t1 g13 (lo := 0) (hi := τ 2 0 - 1) (by decide) (by omega) (by decide) (by omega) with ⟨⟨e1, lo1, hi1⟩, c1, n1⟩ | ⟨e, he, c1, n1⟩
  · generalize ex : τ1 0 12 = x at e1 lo1 hi1 n1
    obtain ⟨σ2, τ2, a2, b2, t2, u2, v2, q2⟩ := adv t1.1.1
    have g13b : τ2 0 13 = 0 := by rw [v2 0 13 (by omega)]; exact g13
    have r2 := t2.r
    have d2 : τ2 2 = τ 2 := by rw [← d1]; funext i; exact v2 2 i (by omega)
    have k1 : σ1 T 1 = τ 2 1 := by rw [u1 T 1 (by omega)]; exact z0.2.1
    have cl2 : ∀ K : Int → zSt → Prop, fX4_checkNumber (fun r7 σ7 => zrg r7 ∧ ((r7 = 0 → fX7_add (fun σ9 => fX2_advance (fun σ10 => K 0 σ10) σ9 ) σ7 c x (σ7 2 3)) ∧ (¬ r7 = 0 → K r7 σ7))) σ2 0 (τ 2 1 - 1) → fX4_readPoint K σ c := fun K g => cl1 K (c1 _ ⟨by decide, fun _ => ⟨by rw [g11]; exact kT, by
      rw [g11, k1, e1]
      exact a2 _ g⟩, fun z => absurd rfl z⟩)
    have rf2 : ∀ K : zSt → Prop, fX12_readInteger (fun r7 σ7 => zrg (σ7 0 13) ∧ ((σ7 0 13 = 0 → (0 ≤ w + (2 * n) ∧ w + (2 * n) < 811) ∧ ∀ σ10, σ10 = zu σ7 2 (w + (2 * n)) x → (0 ≤ (w + (2 * n)) + 1 ∧ (w + (2 * n)) + 1 < 811) ∧ ∀ σ12, σ12 = zu σ10 2 ((w + (2 * n)) + 1) r7 → (0 ≤ q ∧ q < 811) ∧ ∀ σ14, σ14 = zu σ12 2 q ((σ12 2 q) + 1) → K σ14) ∧ (¬ σ7 0 13 = 0 → K σ7))) τ2 0 (τ 2 1 - 1) → fX12_parsePixel K τ q mx w := fun K g => rf1 K (n1 _ (b2 _ (by
      rw [d2]
      exact g)))
    rcases numb t2 g13b (lo := 0) (hi := τ 2 1 - 1) (by decide) (by omega) (by decide) (by omega) with ⟨⟨e2, lo2, hi2⟩, c2, n2⟩ | ⟨e, he, c2, n2⟩
    · generalize ey : τ2 0 12 = y at e2 lo2 hi2 n2
      have w3 : ∃ σ3, σ3 = zu (zu (zu σ2 c 3 (n + 1)) (c + 1) n x) (c + 2) n y := ⟨_, rfl⟩
      obtain ⟨σ3, e3⟩ := w3
      have f3 : frm (fun a b => (a = c ∧ b = 3) ∨ (a = c + 1 ∧ b = n) ∨ (a = c + 2 ∧ b = n)) σ2 σ3 := by rw [e3]; exact ((frm.wr (P := fun a b => (a = c ∧ b = 3) ∨ (a = c + 1 ∧ b = n) ∨ (a = c + 2 ∧ b = n)) (by omega)).z (by omega)).z (by omega)
      have t3 : TL σ3 τ2 := t2.w f3 (frm.rf (P := fun _ _ => False)) (fun a b z => by omega) (fun a b z => z.elim)
      obtain ⟨σ4, τ3, a4, b4, t4, u4, v4, q4⟩ := adv t3.1.1
      have w4 : ∃ τ4, τ4 = zu (zu (zu τ3 2 (w + 2 * n) x) 2 (w + 2 * n + 1) y) 2 q (n + 1) := ⟨_, rfl⟩
      obtain ⟨τ4, e4⟩ := w4
      have f4 : frm (fun a b => a = 2 ∧ (b = q ∨ b = w + 2 * n ∨ b = w + 2 * n + 1)) τ3 τ4 := by rw [e4]; exact ((frm.wr (P := fun a b => a = 2 ∧ (b = q ∨ b = w + 2 * n ∨ b = w + 2 * n + 1)) (by omega)).z (by omega)).z (by omega)
      have t5 : TL σ4 τ4 := t4.w (frm.rf (P := fun _ _ => False)) f4 (fun a b z => z.elim) (fun a b z => by omega)
      have uu : frm (fun a b => (a = 2 ∧ (b = 1 ∨ b = 2 ∨ b = 3 ∨ b = 6)) ∨ (a = c ∧ b = 3) ∨ (a = c + 1 ∧ b = n) ∨ (a = c + 2 ∧ b = n)) σ σ4 := (u1.mo (fun a b z => Or.inl z)).tr ((u2.mo (fun a b z => Or.inl z)).tr ((f3.mo (fun a b z => Or.inr z)).tr (u4.mo (fun a b z => Or.inl z))))
      have vv : frm (fun a b => (a = 2 ∧ (b = q ∨ b = w + 2 * n ∨ b = w + 2 * n + 1)) ∨ (a = 0 ∧ (8 ≤ b ∧ b ≤ 12))) τ τ4 := (v1.mo (fun a b z => by omega)).tr ((v2.mo (fun a b z => by omega)).tr ((v4.mo (fun a b z => by omega)).tr (f4.mo (fun a b z => by omega))))
      have p1b : σ2 c 0 = mx := by rw [u2 c 0 (by omega), u1 c 0 (by omega)]; exact p1
      have p2b : σ2 c 3 = n := by rw [u2 c 3 (by omega), u1 c 3 (by omega)]; exact p2
      have m4 : σ2 2 6 ≤ σ4 2 2 := by rw [f3 2 6 (by omega)] at q4; exact q4
      have r5 := t5.r
      have hcl : ∀ K : Int → zSt → Prop, K 0 σ4 → fX4_readPoint K σ c := fun K hK => cl2 K (c2 _ ⟨by decide, fun _ => by
        rw [e2]
        refine sX7_add kc p1b p2b (by omega) (by omega) ?_
        rw [← e3]; exact a4 _ hK, fun z => absurd rfl z⟩)
      have hrf : ∀ K : zSt → Prop, K τ4 → fX12_parsePixel K τ q mx w := fun K hK => rf2 K (n2 _ (b4 _ ⟨by rw [v4 0 13 (by omega), g13b]; decide, fun _ => ⟨by omega, fun σ10 e10 => ⟨by omega, fun σ12 e12 => ⟨by omega, fun σ14 e14 => by
        have k : σ12 2 q = n := by rw [e12, zu_ne (by omega), e10, zu_ne (by omega), v4 2 q (by omega), d2]; exact en
        rw [k, e12, e10, ← e4] at e14
        rw [e14]; exact hK⟩⟩⟩, fun z => (z (by rw [v4 0 13 (by omega)]; exact g13b)).elim⟩))
      have Pnew : Qp σ4 c (τ4 2) q w mx := hP0.push en (x := x) (y := y) (by omega) (by omega) (by omega) (uu _ _ (by omega)) (by rw [u4 _ _ (by omega), e3, zu_ne (by omega), zu_ne (by omega), zu_eq]) (by rw [u4 _ _ (by omega), e3, zu_ne (by omega), zu_eq]) (by rw [u4 _ _ (by omega), e3, zu_eq]) (fun k k0 k1 => ⟨uu _ _ (by omega), uu _ _ (by omega)⟩) (by rw [e4, zu_eq]) (vv _ _ (by omega)) (vv _ _ (by omega)) (by rw [e4, zu_ne (by omega), zu_ne (by omega), zu_eq]) (by rw [e4, zu_ne (by omega), zu_eq]) (fun i i0 i1 => vv _ _ (by omega))
      obtain ⟨A0, A1, A2, A3, A4, A5⟩ := hQ
      have a2r := A2.2.1
      have a3r := A3.2.2.1
      have a4r := A4.2.2.1
      have a5r := A5.1
      refine ⟨0, σ4, τ4, hcl, hrf, uu.mo (fun a b z => by omega), vv.mo (fun a b z => by omega), Or.inl ⟨rfl, ⟨⟨hT, by rw [uu 1 1 (by omega)]; exact h11⟩, ⟨A0.mv (uu _ _ (by omega)) (uu _ _ (by omega)) (vv _ _ (by omega)) (vv _ _ (by omega)), A1.mv (fun b => uu _ _ (by omega)) (fun i _ _ => vv _ _ (by omega)), A2.mv z0.1.2.2 z0.2.2.2 (fun b => uu _ _ (by omega)) (fun f b f0 f1 => ?_) (fun i hi => vv _ _ (by omega)), ?_, ?_, A5.mv (fun t a b t0 t1 z => uu _ _ (by omega)) (vv _ _ (by omega)) (fun t i t0 t1 z => vv _ _ (by omega))⟩, ⟨by rw [uu T 2 (by omega), vv 2 2 (by omega)]; exact hn.1, by rw [uu T 3 (by omega), vv 2 5 (by omega)]; exact hn.2⟩, hM.mv (fun b => uu 4 b (by omega)) (vv 0 15 (by omega)) (vv 0 14 (by omega)), t5, by rw [vv 0 13 (by omega)]; exact h13⟩, by omega⟩⟩
      · have := A2.1.1 f f0 (by omega)
        exact ⟨uu _ _ (by omega), uu _ _ (by omega)⟩
      · rcases hc with ⟨x1, x2, x3, x4⟩ | ⟨x1, x2, x3, x4⟩
        · subst x1 x2 x3 x4; exact Pnew
        · exact A3.mv (uu _ _ (by omega)) (uu _ _ (by omega)) (fun k k0 k1 => ⟨uu _ _ (by omega), uu _ _ (by omega)⟩) (vv _ _ (by omega)) (vv _ _ (by omega)) (vv _ _ (by omega)) (fun i i0 i1 => vv _ _ (by omega))
      · rcases hc with ⟨x1, x2, x3, x4⟩ | ⟨x1, x2, x3, x4⟩
        · exact A4.mv (uu _ _ (by omega)) (uu _ _ (by omega)) (fun k k0 k1 => ⟨uu _ _ (by omega), uu _ _ (by omega)⟩) (vv _ _ (by omega)) (vv _ _ (by omega)) (vv _ _ (by omega)) (fun i i0 i1 => vv _ _ (by omega))
        · subst x1 x2 x3 x4; exact Pnew
    · have b := bad_v (τ := τ2) (e := e)
      exact ⟨e, σ2, bad τ2 e, fun K hK => cl2 K (c2 _ ⟨by omega, fun z => by omega, fun _ => hK⟩), fun K hK => rf2 K (n2 _ ⟨by rw [b.1]; omega, fun z => by rw [b.1] at z; omega, fun _ => hK⟩), (pA_L u1).tr (pA_L u2), (pB_R v1).tr ((pB_R v2).tr bad_f), Or.inr (bad_BD t2 (by omega) frm.rf)⟩
  · have b := bad_v (τ := τ1) (e := e)
    have n13 : bad τ1 e 0 13 ≠ 0 := by rw [b.1]; omega
    have z13 : zrg (bad τ1 e 0 13) := by rw [b.1]; omega
    exact ⟨e, σ1, bad τ1 e, fun K hK => cl1 K (c1 _ ⟨by omega, fun z => by omega, fun _ => hK⟩), fun K hK => rf1 K (n1 _ (sM_readIntegerN n13 z13 (by rw [b.2.2.1]; omega) (by rw [b.2.2.2.1]; omega) (by decide) (by rw [b.2.2.2.2.1, d1]; omega) ⟨z13, fun z => (n13 z).elim, fun _ => hK⟩)), pA_L u1, (pB_R v1).tr bad_f, Or.inr (bad_BD t1 (by omega) frm.rf)⟩
end PT
