/-! the rows of a frame -/
def RBc (σ : zSt) : Prop := ∀ j, 0 ≤ j → j < σ 2 5 → -128 ≤ σ 3 j ∧ σ 3 j < 128
section RW
variable {T n : Int}
theorem RBc.fr {σ σ' : zSt} (h : RBc σ) (u : frm (pL T) σ σ') (hT : 6 ≤ T) : RBc σ' := fun j j0 j1 => by
  rw [u 2 5 (by omega)] at j1
  rw [u 3 j (by omega)]
  exact h j j0 j1
theorem FR.step {σ τ σ1 τ1 σ2 τ2 : zSt} {y w hh s : Int} (h : FR σ τ T n y) (hb : RBc σ) (ew : τ 2 0 = w) (eh : τ 2 1 = hh) (es : σ (T + 2) n = s) (y0 : 0 ≤ y ∧ y < hh) (k2 : τ 0 10 = 2) (len : σ 2 6 - σ 2 2 = w) (u1 : frm (fun a b => a = s + 6 ∧ 12 * y ≤ b ∧ b < 12 * y + w) σ σ1) (g1 : ∀ x, 0 ≤ x → x < w → σ1 (s + 6) (12 * y + x) = σ 3 (σ 2 2 + x) % 256 - 48) (v1 : frm (fun a b => a = 2 ∧ 91 + 120 * n + 12 * y ≤ b ∧ b < 91 + 120 * n + 12 * y + w) τ τ1) (g2 : ∀ x, 0 ≤ x → x < w → τ1 2 (91 + 120 * n + 12 * y + x) = τ 4 (τ 0 9 + x) - 48) (t : TL σ2 τ2) (u2 : frm pA σ1 σ2) (v2 : frm pB τ1 τ2) : FR σ2 τ2 T n (y + 1) ∧ frm (pL T) σ σ2 ∧ frm pR τ τ2 := by
  obtain ⟨⟨hT, h11⟩, hQ, ⟨n1, n2, n3⟩, hM, hL, h13, n0, ⟨d1, d2, d3⟩, hp⟩ := h
  obtain ⟨A0, A1, A2, A3, A4, A5⟩ := hQ
  have z0 := A0
  unfold Q0 at z0
  have a2r := A2.2.1
  have a3r := A3.2.2.1
  have a4r := A4.2.2.1
  have a5r := A5.1
  have sr := A2.1.1 n n0.1 n0.2
  rw [es] at sr
  have r0 := hL.r
  have dg := hL.1.2.2.2.2.2 k2
  have by4 := hL.1.1.2.2.2.2
  have uu : frm (fun a b => (a = 2 ∧ (b = 1 ∨ b = 2 ∨ b = 3 ∨ b = 6)) ∨ (a = s + 6 ∧ 12 * y ≤ b ∧ b < 12 * y + w)) σ σ2 := (u1.mo (fun a b z => Or.inr z)).tr (u2.mo (fun a b z => Or.inl z))
  have vv : frm (fun a b => (a = 2 ∧ 91 + 120 * n + 12 * y ≤ b ∧ b < 91 + 120 * n + 12 * y + w) ∨ (a = 0 ∧ (8 ≤ b ∧ b ≤ 12))) τ τ2 := (v1.mo (fun a b z => Or.inl z)).tr (v2.mo (fun a b z => Or.inr z))
  have s2 : σ2 (T + 2) n = s := by rw [uu _ _ (by omega)]; exact es
  refine ⟨⟨⟨hT, by rw [uu 1 1 (by omega)]; exact h11⟩, ⟨A0.mv (uu _ _ (by omega)) (uu _ _ (by omega)) (vv _ _ (by omega)) (vv _ _ (by omega)), A1.mv (fun b => uu _ _ (by omega)) (fun i _ _ => vv _ _ (by omega)), A2.mv z0.1.2.2 z0.2.2.2 (fun b => uu _ _ (by omega)) (fun f b f0 f1 => ?_) (fun i hi => vv _ _ (by omega)), A3.mv (uu _ _ (by omega)) (uu _ _ (by omega)) (fun k k0 k1 => ⟨uu _ _ (by omega), uu _ _ (by omega)⟩) (vv _ _ (by omega)) (vv _ _ (by omega)) (vv _ _ (by omega)) (fun i i0 i1 => vv _ _ (by omega)), A4.mv (uu _ _ (by omega)) (uu _ _ (by omega)) (fun k k0 k1 => ⟨uu _ _ (by omega), uu _ _ (by omega)⟩) (vv _ _ (by omega)) (vv _ _ (by omega)) (vv _ _ (by omega)) (fun i i0 i1 => vv _ _ (by omega)), A5.mv (fun t a b t0 t1 z => uu _ _ (by omega)) (vv _ _ (by omega)) (fun t i t0 t1 z => vv _ _ (by omega))⟩, ⟨by rw [uu T 2 (by omega)]; exact n1, by rw [vv 2 2 (by omega)]; exact n2, by rw [uu T 3 (by omega), vv 2 5 (by omega)]; exact n3⟩, hM.mv (fun b => uu 4 b (by omega)) (vv 0 15 (by omega)) (vv 0 14 (by omega)), t, by rw [vv 0 13 (by omega)]; exact h13, n0, ⟨?_, ?_, ?_⟩, fun x v x0 x1 v0 v1' => ?_⟩, uu.mo (fun a b z => by omega), vv.mo (fun a b z => by omega)⟩
  · have f6 := A2.1.1 f f0 (by omega)
    have ne : σ (T + 2) f ≠ s := fun z => by
      have := A2.1.2 f n f0 (by omega) n0.1 n0.2 (by rw [z, es])
      omega
    exact ⟨uu _ _ (by omega), uu _ _ (by omega)⟩
  · rw [s2, uu _ _ (by omega), vv _ _ (by omega), ← es]; exact d1
  · rw [vv _ _ (by omega)]; exact d2
  · rw [vv _ _ (by omega), vv _ _ (by omega)]; exact d3
  · rw [vv 2 0 (by omega), ew] at x1
    rw [s2]
    unfold px
    by_cases z : v = y
    · subst z
      have e1 : σ2 (s + 6) (12 * v + x) = σ 3 (σ 2 2 + x) % 256 - 48 := by rw [u2 _ _ (by omega)]; exact g1 x x0 x1
      have e2 : τ2 2 (91 + 120 * n + 12 * v + x) = τ 4 (τ 0 9 + x) - 48 := by rw [v2 _ _ (by omega)]; exact g2 x x0 x1
      have e3 := dg (σ 2 2 + x) (by omega) (by omega)
      have e4 := hb (σ 2 2 + x) (by omega) (by omega)
      have e5 := by4 (σ 2 2 + x) (by omega) (by omega)
      rw [e1, e2, ← r0.2.2.2.1, ← e5]
      omega
    · have q := hp x v x0 (by omega) v0 (by omega)
      unfold px at q
      rw [es] at q
      rw [uu _ _ (by omega), vv _ _ (by omega)]
      exact q
theorem rows : ∀ (m : Nat) (σ τ : zSt) (y : Int), FR σ τ T n y → RBc σ → y + m = τ 2 1 → 0 ≤ y → ∃ r σ' τ', (∃ k, ∀ K : Int → zSt → Prop, K r σ' → fX4_readFrame_B68 K k σ n y) ∧ (∃ k, ∀ K : zSt → Prop, K τ' → fX12_parseFrame_B128 K k τ n y) ∧ frm (pL T) σ σ' ∧ frm pR τ τ' ∧ ((r = 0 ∧ BI σ' τ' T ∧ σ 2 6 ≤ σ' 2 6) ∨ BD r σ' τ') := by
  have main : ∀ (σ τ : zSt) (y : Int), FR σ τ T n y → RBc σ → 0 ≤ y → y ≤ τ 2 1 → (y < τ 2 1 → ∀ σ1 τ1, FR σ1 τ1 T n (y + 1) → RBc σ1 → τ1 2 1 = τ 2 1 → ∃ r σ' τ', (∃ k, ∀ K : Int → zSt → Prop, K r σ' → fX4_readFrame_B68 K k σ1 n (y + 1)) ∧ (∃ k, ∀ K : zSt → Prop, K τ' → fX12_parseFrame_B128 K k τ1 n (y + 1)) ∧ frm (pL T) σ1 σ' ∧ frm pR τ1 τ' ∧ ((r = 0 ∧ BI σ' τ' T ∧ σ1 2 6 ≤ σ' 2 6) ∨ BD r σ' τ')) → ∃ r σ' τ', (∃ k, ∀ K : Int → zSt → Prop, K r σ' → fX4_readFrame_B68 K k σ n y) ∧ (∃ k, ∀ K : zSt → Prop, K τ' → fX12_parseFrame_B128 K k τ n y) ∧ frm (pL T) σ σ' ∧ frm pR τ τ' ∧ ((r = 0 ∧ BI σ' τ' T ∧ σ 2 6 ≤ σ' 2 6) ∨ BD r σ' τ') := by
    intro σ τ y h hb y0 yh ih
    have h0 := h
    obtain ⟨⟨hT, h11⟩, hQ, ⟨n1, n2, n3⟩, hM, hL, h13, n0, ⟨d1, d2, d3⟩, hp⟩ := h
    have kT : kX T = 8 := by rw [kX_8]; exact hT
    have z0 := hQ.1
    unfold Q0 at z0
    have r0 := hL.r
    have sr := hQ.2.2.1.1.1 n n0.1 n0.2
    generalize es : σ (T + 2) n = s at sr
    generalize eh : τ 2 1 = hh at yh ih z0
    generalize ew : τ 2 0 = w at z0
    -- the reference's faults
    have fl : ∀ e, (-15 ≤ e ∧ e ≤ -11) → bad τ e 0 13 ≠ 0 ∧ zrg (bad τ e 0 13) ∧ zrg (bad τ e 0 10) ∧ zrg (bad τ e 2 1) ∧ zrg (bad τ e 0 12) := fun e he => by
      have b := bad_v (τ := τ) (e := e)
      rw [b.1, b.2.2.1, b.2.2.2.1, b.2.2.2.2.1]
      omega
    have b43 : ∀ (K : zSt → Prop) e s0, (-15 ≤ e ∧ e ≤ -11) → zrg s0 → K (bad τ e) → fX12_parseRow_B43 K (bad τ e) n y s0 := fun K e s0 he hs hK => by
      obtain ⟨q1, q2, q3, q4, q5⟩ := fl e he
      exact sM_checkN hs q1 q2 ⟨by omega, q4, fun _ => sM_checkN (by decide) q1 q2 ⟨q2, fun z => (q1 z).elim, fun _ => hK⟩, fun _ => sM_checkN (by decide) q1 q2 ⟨q2, fun z => (q1 z).elim, fun _ => hK⟩⟩
    have rowbad : ∀ e, (-15 ≤ e ∧ e ≤ -11) → (∀ K : zSt → Prop, K (bad τ e) → fX12_parseRow K τ n y) → (y = 0 ∨ τ 0 10 = 2) → ∃ k, ∀ K : zSt → Prop, K (bad τ e) → fX12_parseFrame_B128 K k τ n y := fun e he g hy => by
      obtain ⟨q1, q2, q3, q4, q5⟩ := fl e he
      refine ⟨0 + 1 + 1, fun K hK => ?_⟩
      rw [uX12_parseFrame_B128]
      have t := pf128 (n := n) (y := y + 1) (k := 0) q1 q2 q3 (by omega) q4 hK
      exact ⟨by omega, fun _ => ⟨by omega, fun _ => g _ t, fun z => ⟨by omega, fun _ => g _ t, fun k => by omega⟩⟩, fun z => (z h13).elim⟩
    have fin : ∀ e, (-15 ≤ e ∧ e ≤ -11) → (∃ k, ∀ K : Int → zSt → Prop, K e σ → fX4_readFrame_B68 K k σ n y) → (∃ k, ∀ K : zSt → Prop, K (bad τ e) → fX12_parseFrame_B128 K k τ n y) → ∃ r σ' τ', (∃ k, ∀ K : Int → zSt → Prop, K r σ' → fX4_readFrame_B68 K k σ n y) ∧ (∃ k, ∀ K : zSt → Prop, K τ' → fX12_parseFrame_B128 K k τ n y) ∧ frm (pL T) σ σ' ∧ frm pR τ τ' ∧ ((r = 0 ∧ BI σ' τ' T ∧ σ 2 6 ≤ σ' 2 6) ∨ BD r σ' τ') := fun e he a b => ⟨e, σ, bad τ e, a, b, frm.rf, bad_f, Or.inr (bad_BD hL he frm.rf)⟩
    have cT0 : σ T 0 = w := z0.1.1
    have cT1 : σ T 1 = hh := z0.2.1
    by_cases k2 : τ 0 10 = 2
    · have cl : ∀ (K : Int → zSt → Prop) k, (((σ 2 6 - σ 2 2 = w → zrg hh ∧ ((y = hh → K (-15) σ) ∧ (¬ y = hh → fX4_paintRow (fun σ19 => fX2_advance (fun σ20 => fX4_readFrame_B68 K k σ20 n (y + 1)) σ19) σ n y))) ∧ (¬ σ 2 6 - σ 2 2 = w → K (-12) σ))) → fX4_readFrame_B68 K (k + 1) σ n y := fun K k g => by
        rw [uX4_readFrame_B68, h11, cT1]
        refine ⟨by omega, fun _ => ⟨kT, by omega, by omega, fun z => by omega, fun _ => ?_⟩, fun z => by omega⟩
        unfold fX2_tokenLength
        dsimp only
        rw [h11, cT0, cT1]
        exact ⟨kT, by omega, by omega, g⟩
      have rf14 : ∀ K : zSt → Prop, (zrg (τ 0 8 - τ 0 9) ∧ zrg (τ 2 0) ∧ ((τ 0 8 - τ 0 9 = τ 2 0 → fX12_parseRow_B43 K τ n y 1) ∧ (¬ τ 0 8 - τ 0 9 = τ 2 0 → fX12_parseRow_B43 K τ n y 0))) → fX12_parseRow K τ n y := fun K g => ⟨by omega, fun _ => sM_check1 (by decide) (by decide) g, fun z => (z k2).elim⟩
      by_cases len : σ 2 6 - σ 2 2 = w
      · by_cases yy : y = hh
        · refine fin (-15) (by decide) ⟨0 + 1, fun K hK => cl K 0 ⟨fun _ => ⟨by omega, fun _ => hK, fun z => (z yy).elim⟩, fun z => (z len).elim⟩⟩ (rowbad (-15) (by decide) (fun K hK => rf14 K ⟨by omega, by omega, fun _ => sM_check1 (by decide) (by decide) ⟨by omega, by omega, fun _ => sM_check0 h13 ?_, fun z => by omega⟩, fun z => by omega⟩) (Or.inr k2))
          obtain ⟨q1, q2, q3, q4, q5⟩ := fl (-15) (by decide)
          exact ⟨q2, fun z => (q1 z).elim, fun _ => hK⟩
        · obtain ⟨σ1, a1, u1, g1⟩ := paintRow hT h11 cT0 cT1 n1 n0 es sr (by omega) (by omega) (y := y) (by omega) (by omega)
          obtain ⟨τ1, b1, v1, g2⟩ := rowM (τ := τ) ew n0 (by omega) (y := y) (by omega) (by omega)
          have t1 : TL σ1 τ1 := hL.w u1 v1 (fun a b z => by omega) (fun a b z => by omega)
          obtain ⟨σ2, τ2, a2, b2, t2, u2, v2, q2⟩ := adv t1.1.1
          obtain ⟨f2, uu, vv⟩ := h0.step hb ew eh es (by omega) k2 len u1 g1 v1 g2 t2 u2 v2
          have m2 : σ 2 6 ≤ σ2 2 2 := by rw [u1 2 6 (by omega)] at q2; exact q2
          have r2 := t2.r
          obtain ⟨r, σ', τ', ⟨k, ga⟩, ⟨k', gb⟩, u3, v3, fi⟩ := ih (by omega) σ2 τ2 f2 (hb.fr uu (by omega)) (by rw [v2 2 1 (by omega), v1 2 1 (by omega)]; exact eh)
          refine ⟨r, σ', τ', ⟨k + 1, fun K hK => cl K k ⟨fun _ => ⟨by omega, fun z => (yy z).elim, fun _ => a1 _ (a2 _ (ga K hK))⟩, fun z => (z len).elim⟩⟩, ⟨k' + 1, fun K hK => ?_⟩, uu.tr u3, vv.tr v3, fi.imp (fun z => ⟨z.1, z.2.1, by have := z.2.2; omega⟩) id⟩
          rw [uX12_parseFrame_B128]
          have pr : fX12_parseRow (fun σ19 => fX12_parseFrame_B128 K k' σ19 n (y + 1)) τ n y := rf14 _ ⟨by omega, by omega, fun _ => sM_check1 (by decide) (by decide) ⟨by omega, by omega, fun z => by omega, fun _ => sM_check1 (by decide) (by decide) ⟨by omega, fun _ => b1 _ (b2 _ (gb K hK)), fun z => (z h13).elim⟩⟩, fun z => by omega⟩
          exact ⟨by omega, fun _ => ⟨by omega, fun _ => pr, fun z => ⟨by omega, fun _ => pr, fun k => (k k2).elim⟩⟩, fun z => (z h13).elim⟩
      · refine fin (-12) (by decide) ⟨0 + 1, fun K hK => cl K 0 ⟨fun z => (len z).elim, fun _ => hK⟩⟩ (rowbad (-12) (by decide) (fun K hK => rf14 K ⟨by omega, by omega, fun z => by omega, fun _ => sM_check0 h13 ?_⟩) (Or.inr k2))
        obtain ⟨q1, q2, q3, q4, q5⟩ := fl (-12) (by decide)
        exact ⟨by omega, q4, fun _ => sM_checkN (by decide) q1 q2 ⟨q2, fun z => (q1 z).elim, fun _ => hK⟩, fun _ => sM_checkN (by decide) q1 q2 ⟨q2, fun z => (q1 z).elim, fun _ => hK⟩⟩
    · have cl : ∀ K : Int → zSt → Prop, fX4_readFrame_B143 K σ y → fX4_readFrame_B68 K (0 + 1) σ n y := fun K g => by
        rw [uX4_readFrame_B68]
        exact ⟨by omega, fun z => by omega, fun _ => g⟩
      by_cases yz : y = 0
      · refine fin (-11) (by decide) ⟨0 + 1, fun K hK => cl K ⟨by omega, fun _ => ⟨by omega, fun _ => hK, fun z => (z yz).elim⟩, fun _ => hK⟩⟩ (rowbad (-11) (by decide) (fun K hK => ⟨by omega, fun z => (k2 z).elim, fun _ => sM_check0 h13 ?_⟩) (Or.inl yz))
        have b := bad_v (τ := τ) (e := -11)
        exact ⟨by rw [b.2.2.2.2.2.2, b.2.2.2.2.2.1]; omega, by rw [b.2.2.2.2.1]; omega, fun _ => b43 K (-11) 1 (by decide) (by decide) hK, fun _ => b43 K (-11) 0 (by decide) (by decide) hK⟩
      · have rf : ∀ K : zSt → Prop, fX12_parseFrame_B159 K τ y → fX12_parseFrame_B128 K (0 + 1) τ n y := fun K g => by
          rw [uX12_parseFrame_B128]
          exact ⟨by omega, fun _ => ⟨by omega, fun z => (yz z).elim, fun _ => ⟨by omega, fun z => (k2 z).elim, fun _ => g⟩⟩, fun z => (z h13).elim⟩
        by_cases k3 : τ 0 10 = 3
        · by_cases yy : y = hh
          · -- the frame is complete
            obtain ⟨A0, A1, A2, A3, A4, A5⟩ := hQ
            have a2r := A2.2.1
            have a3r := A3.2.2.1
            have a4r := A4.2.2.1
            have a5r := A5.1
            have vv : frm (fun a b => a = 2 ∧ b = 2) τ (zu τ 2 2 (n + 1)) := zuf
            refine ⟨0, σ, zu τ 2 2 (n + 1), ⟨0 + 1, fun K hK => cl K ⟨by omega, fun _ => ⟨by omega, fun z => (yz z).elim, fun _ => ⟨by rw [h11]; exact kT, by rw [h11, cT1]; omega, fun _ => hK, fun z => by rw [h11, cT1] at z; omega⟩⟩, fun z => by omega⟩⟩, ⟨0 + 1, fun K hK => rf K ⟨by omega, fun _ => sM_check1 (by decide) (by decide) ⟨by omega, by omega, fun _ => sM_check1 (by decide) (by decide) ⟨by omega, fun _ σ28 e28 => ?_, fun z => (z h13).elim⟩, fun z => by omega⟩, fun z => (z k3).elim⟩⟩, frm.rf, vv.mo (fun a b z => by omega), Or.inl ⟨rfl, ⟨⟨hT, h11⟩, ⟨A0.mv rfl rfl (vv _ _ (by omega)) (vv _ _ (by omega)), A1.mv (fun b => rfl) (fun i _ _ => vv _ _ (by omega)), ?_, A3.mv rfl rfl (fun k k0 k1 => ⟨rfl, rfl⟩) (vv _ _ (by omega)) (vv _ _ (by omega)) (vv _ _ (by omega)) (fun i i0 i1 => vv _ _ (by omega)), A4.mv rfl rfl (fun k k0 k1 => ⟨rfl, rfl⟩) (vv _ _ (by omega)) (vv _ _ (by omega)) (vv _ _ (by omega)) (fun i i0 i1 => vv _ _ (by omega)), A5.mv (fun t a b t0 t1 z => rfl) (vv _ _ (by omega)) (fun t i t0 t1 z => vv _ _ (by omega))⟩, ⟨by rw [zu_eq]; exact n1, by rw [vv 2 5 (by omega)]; exact n3⟩, hM.mv (fun b => rfl) (vv 0 15 (by omega)) (vv 0 14 (by omega)), hL.w (frm.rf (P := fun _ _ => False)) vv (fun a b z => z.elim) (fun a b z => by omega), by rw [vv 0 13 (by omega)]; exact h13⟩, Int.le_refl _⟩⟩
            · rw [n2] at e28
              rw [e28]; exact hK
            · refine A2.push n2 n0.2 d1 d2 d3 (fun x v x0 x1 v0 v1 => hp x v x0 x1 v0 (by omega)) (zu_eq ..) (fun i hi => vv 2 i (by omega)) n0.1
          · refine fin (-15) (by decide) ⟨0 + 1, fun K hK => cl K ⟨by omega, fun _ => ⟨by omega, fun z => (yz z).elim, fun _ => ⟨by rw [h11]; exact kT, by rw [h11, cT1]; omega, fun z => by rw [h11, cT1] at z; omega, fun _ => hK⟩⟩, fun z => by omega⟩⟩ ⟨0 + 1, fun K hK => rf K ⟨by omega, fun _ => sM_check1 (by decide) (by decide) ⟨by omega, by omega, fun z => by omega, fun _ => sM_check0 h13 ?_⟩, fun z => (z k3).elim⟩⟩
            obtain ⟨q1, q2, q3, q4, q5⟩ := fl (-15) (by decide)
            exact ⟨q2, fun z => (q1 z).elim, fun _ => hK⟩
        · refine fin (-11) (by decide) ⟨0 + 1, fun K hK => cl K ⟨by omega, fun z => by omega, fun _ => hK⟩⟩ ⟨0 + 1, fun K hK => rf K ⟨by omega, fun z => (k3 z).elim, fun _ => sM_check0 h13 ?_⟩⟩
          obtain ⟨q1, q2, q3, q4, q5⟩ := fl (-11) (by decide)
          have B : ∀ s0, zrg s0 → fX12_parseFrame_B194 K (bad τ (-11)) s0 := fun s0 hs => sM_checkN hs q1 q2 ⟨q2, fun z => (q1 z).elim, fun _ => hK⟩
          exact ⟨by omega, q4, fun _ => B 1 (by decide), fun _ => B 0 (by decide)⟩
  intro m
  induction m with
  | zero =>
    intro σ τ y h hb e y0
    exact main σ τ y h hb y0 (by omega) (fun z => by omega)
  | succ m ih =>
    intro σ τ y h hb e y0
    exact main σ τ y h hb y0 (by omega) (fun _ σ1 τ1 h1 hb1 e1 => ih σ1 τ1 (y + 1) h1 hb1 (by omega) (by omega))
end RW
