/-! a statement; the text read to its end -/
section SS
variable {σ τ : zSt} {T : Int}
theorem Sm.up {f f' : (Int → zSt → Prop) → Prop} {g g' : (zSt → Prop) → Prop} (h : Sm f g σ τ T) (hf : ∀ K, f K → f' K) (hg : ∀ K, g K → g' K) : Sm f' g' σ τ T := by
  obtain ⟨r, σ', τ', a, b, c⟩ := h
  exact ⟨r, σ', τ', fun K hK => hf K (a K hK), fun K hK => hg K (b K hK), c⟩
theorem Sm_stmt {x1 : Int} (h : BI σ τ T) (hb : RBc σ) (hx : (x1 = 1 ∧ τ 0 16 = 0 ∧ τ 2 2 = 0 ∧ τ 2 3 = 0 ∧ τ 2 4 = 0 ∧ τ 2 5 = 0) ∨ (x1 = 0 ∧ τ 0 16 ≠ 0 ∧ zrg (τ 0 16))) : Sm (fun K => fX4_readStatement K σ x1) (fun K => fX12_parseStatement K τ) σ τ T := by
  have h0 := h
  obtain ⟨⟨hT, h11⟩, hQ, ⟨hn, hn5⟩, hM, hL, h13⟩ := h
  have kT : kX T = 8 := by rw [kX_8]; exact hT
  have q0 := hL.r
  obtain ⟨v0, o0, c0', d0'⟩ := word hL.1 h13 (i := 0) (by decide)
  have c0 : ∀ K : Int → zSt → Prop, K v0 σ → fX2_isWord K σ 0 := c0'
  have d0 : ∀ K : Int → zSt → Prop, K v0 τ → fX12_isWord K τ 632645 := d0'
  obtain ⟨v1, o1, c1', d1'⟩ := word hL.1 h13 (i := 1) (by decide)
  have c1 : ∀ K : Int → zSt → Prop, K v1 σ → fX2_isWord K σ 1 := c1'
  have d1 : ∀ K : Int → zSt → Prop, K v1 τ → fX12_isWord K τ 6882725 := d1'
  obtain ⟨v2, o2, c2', d2'⟩ := word hL.1 h13 (i := 2) (by decide)
  have c2 : ∀ K : Int → zSt → Prop, K v2 σ → fX2_isWord K σ 2 := c2'
  have d2 : ∀ K : Int → zSt → Prop, K v2 τ → fX12_isWord K τ 3739896300 := d2'
  obtain ⟨v3, o3, c3', d3'⟩ := word hL.1 h13 (i := 3) (by decide)
  have c3 : ∀ K : Int → zSt → Prop, K v3 σ → fX2_isWord K σ 3 := c3'
  have d3 : ∀ K : Int → zSt → Prop, K v3 τ → fX12_isWord K τ 6611949125 := d3'
  obtain ⟨v4, o4, c4', d4'⟩ := word hL.1 h13 (i := 4) (by decide)
  have c4 : ∀ K : Int → zSt → Prop, K v4 σ → fX2_isWord K σ 4 := c4'
  have d4 : ∀ K : Int → zSt → Prop, K v4 τ → fX12_isWord K τ 20579685 := d4'
  obtain ⟨v5, o5, c5', d5'⟩ := word hL.1 h13 (i := 5) (by decide)
  have c5 : ∀ K : Int → zSt → Prop, K v5 σ → fX2_isWord K σ 5 := c5'
  have d5 : ∀ K : Int → zSt → Prop, K v5 τ → fX12_isWord K τ 19636 := d5'
  rcases o0 with z0 | ⟨z0, -⟩
  · subst z0
    rcases o1 with z1 | ⟨z1, -⟩
    · subst z1
      rcases o2 with z2 | ⟨z2, -⟩
      · subst z2
        rcases o3 with z3 | ⟨z3, -⟩
        · subst z3
          rcases o4 with z4 | ⟨z4, -⟩
          · subst z4
            rcases o5 with z5 | ⟨z5, -⟩
            · subst z5
              exact ⟨-11, σ, bad τ (-11), fun K hK => c0 _ ⟨by decide, fun _ => c1 _ ⟨by decide, fun _ => c2 _ ⟨by decide, fun _ => c3 _ ⟨by decide, fun _ => c4 _ ⟨by decide, fun _ => c5 _ ⟨by decide, fun _ => hK, fun z => absurd rfl z⟩, fun z => absurd rfl z⟩, fun z => absurd rfl z⟩, fun z => absurd rfl z⟩, fun z => absurd rfl z⟩, fun z => absurd rfl z⟩, fun K hK => d0 _ ⟨by decide, fun _ => d1 _ ⟨by decide, fun _ => d2 _ ⟨by decide, fun _ => d3 _ ⟨by decide, fun _ => d4 _ ⟨by decide, fun _ => d5 _ ⟨by decide, fun _ => sM_check0 h13 hK, fun z => absurd rfl z⟩, fun z => absurd rfl z⟩, fun z => absurd rfl z⟩, fun z => absurd rfl z⟩, fun z => absurd rfl z⟩, fun z => absurd rfl z⟩, frm.rf, bad_f, Or.inr (bad_BD hL (by decide) frm.rf)⟩
            · subst z5
              exact (Sm_setting h0).up (fun K hK => c0 _ ⟨by decide, fun _ => c1 _ ⟨by decide, fun _ => c2 _ ⟨by decide, fun _ => c3 _ ⟨by decide, fun _ => c4 _ ⟨by decide, fun _ => c5 _ ⟨by decide, fun z => absurd z (by decide), fun _ => hK⟩, fun z => absurd rfl z⟩, fun z => absurd rfl z⟩, fun z => absurd rfl z⟩, fun z => absurd rfl z⟩, fun z => absurd rfl z⟩) (fun K hK => d0 _ ⟨by decide, fun _ => d1 _ ⟨by decide, fun _ => d2 _ ⟨by decide, fun _ => d3 _ ⟨by decide, fun _ => d4 _ ⟨by decide, fun _ => d5 _ ⟨by decide, fun z => absurd z (by decide), fun _ => hK⟩, fun z => absurd rfl z⟩, fun z => absurd rfl z⟩, fun z => absurd rfl z⟩, fun z => absurd rfl z⟩, fun z => absurd rfl z⟩)
          · subst z4
            exact (Sm_stake h0).up (fun K hK => c0 _ ⟨by decide, fun _ => c1 _ ⟨by decide, fun _ => c2 _ ⟨by decide, fun _ => c3 _ ⟨by decide, fun _ => c4 _ ⟨by decide, fun z => absurd z (by decide), fun _ => hK⟩, fun z => absurd rfl z⟩, fun z => absurd rfl z⟩, fun z => absurd rfl z⟩, fun z => absurd rfl z⟩) (fun K hK => d0 _ ⟨by decide, fun _ => d1 _ ⟨by decide, fun _ => d2 _ ⟨by decide, fun _ => d3 _ ⟨by decide, fun _ => d4 _ ⟨by decide, fun z => absurd z (by decide), fun _ => hK⟩, fun z => absurd rfl z⟩, fun z => absurd rfl z⟩, fun z => absurd rfl z⟩, fun z => absurd rfl z⟩)
        · subst z3
          exact (Sm_point (c := T + 7) (q := 4) (w := 20) (mx := 6) h0 (by omega) hQ.2.2.2.2.1).up (fun K hK => c0 _ ⟨by decide, fun _ => c1 _ ⟨by decide, fun _ => c2 _ ⟨by decide, fun _ => c3 _ ⟨by decide, fun z => absurd z (by decide), fun _ => ⟨by rw [h11]; exact kT, by rw [h11]; exact hK⟩⟩, fun z => absurd rfl z⟩, fun z => absurd rfl z⟩, fun z => absurd rfl z⟩) (fun K hK => d0 _ ⟨by decide, fun _ => d1 _ ⟨by decide, fun _ => d2 _ ⟨by decide, fun _ => d3 _ ⟨by decide, fun z => absurd z (by decide), fun _ => hK⟩, fun z => absurd rfl z⟩, fun z => absurd rfl z⟩, fun z => absurd rfl z⟩)
      · subst z2
        exact (Sm_point (c := T + 4) (q := 3) (w := 12) (mx := 4) h0 (by omega) hQ.2.2.2.1).up (fun K hK => c0 _ ⟨by decide, fun _ => c1 _ ⟨by decide, fun _ => c2 _ ⟨by decide, fun z => absurd z (by decide), fun _ => ⟨by rw [h11]; exact kT, by rw [h11]; exact hK⟩⟩, fun z => absurd rfl z⟩, fun z => absurd rfl z⟩) (fun K hK => d0 _ ⟨by decide, fun _ => d1 _ ⟨by decide, fun _ => d2 _ ⟨by decide, fun z => absurd z (by decide), fun _ => hK⟩, fun z => absurd rfl z⟩, fun z => absurd rfl z⟩)
    · subst z1
      exact (Sm_frame h0 hb).up (fun K hK => c0 _ ⟨by decide, fun _ => c1 _ ⟨by decide, fun z => absurd z (by decide), fun _ => hK⟩, fun z => absurd rfl z⟩) (fun K hK => d0 _ ⟨by decide, fun _ => d1 _ ⟨by decide, fun z => absurd z (by decide), fun _ => hK⟩, fun z => absurd rfl z⟩)
  · subst z0
    rcases hx with ⟨x1e, x2, x3, x4, x5, x6⟩ | ⟨x1e, x2, x3⟩
    · subst x1e
      exact (Sm_size h0 x2 x3 x4 x5 x6).up (fun K hK => c0 _ ⟨by decide, fun z => absurd z (by decide), fun _ => ⟨by decide, fun z => absurd z (by decide), fun _ => hK⟩⟩) (fun K hK => d0 _ ⟨by decide, fun z => absurd z (by decide), fun _ => hK⟩)
    · subst x1e
      have b := bad_v (τ := τ) (e := -14)
      have b13 : zu (bad τ (-14)) 2 0 (τ 0 12) 0 13 = -14 := by rw [zu_ne (by omega)]; exact b.1
      have b10 : zu (bad τ (-14)) 2 0 (τ 0 12) 0 10 = τ 0 10 := by rw [zu_ne (by omega)]; exact b.2.2.1
      have b12 : zu (bad τ (-14)) 2 0 (τ 0 12) 0 12 = τ 0 12 := by rw [zu_ne (by omega)]; exact b.2.2.2.1
      refine ⟨-14, σ, zu (zu (bad τ (-14)) 2 0 (τ 0 12)) 2 1 (τ 0 12), fun K hK => c0 _ ⟨by decide, fun z => absurd z (by decide), fun _ => ⟨by decide, fun _ => hK, fun z => absurd rfl z⟩⟩, fun K hK => d0 _ ⟨by decide, fun z => absurd z (by decide), fun _ => ⟨x3, fun z => (x2 z).elim, fun _ => sM_check0 h13 (sM_aigN (by rw [b.1]; decide) (by rw [b.1]; decide) (sM_readIntegerN (by rw [b.1]; decide) (by rw [b.1]; decide) (by rw [b.2.2.1]; omega) (by rw [b.2.2.2.1]; omega) (by decide) (by decide) (fun σ5 e5 => ?_)))⟩⟩, frm.rf, bad_f.tr ((frm.wr (P := pR) (Or.inl rfl)).z (Or.inl rfl)), Or.inr (bad_BD hL (by decide) ((frm.wr (P := fun a b => a = 2 ∨ (a = 0 ∧ b = 15)) (Or.inl rfl)).z (Or.inl rfl)))⟩
      rw [b.2.2.2.1] at e5
      rw [e5]
      refine sM_readIntegerN (by rw [b13]; decide) (by rw [b13]; decide) (by rw [b10]; omega) (by rw [b12]; omega) (by decide) (by decide) (fun σ7 e7 => ?_)
      rw [b12] at e7
      rw [e7]; exact hK
/-- the frame of the reference's load, with its count of statements -/
abbrev pW : Int → Int → Prop := fun a b => a = 2 ∨ (a = 0 ∧ ((8 ≤ b ∧ b ≤ 15) ∨ b = 16))
theorem BI.w16 {τ' : zSt} (h : BI σ τ T) (v : frm (fun a b => a = 0 ∧ b = 16) τ τ') : BI σ τ' T := by
  obtain ⟨a, b, c, d, e, f⟩ := h
  have t2 : τ' 2 = τ 2 := by funext i; exact v 2 i (by omega)
  exact ⟨a, by rw [t2]; exact b, by rw [t2]; exact c, d.mv (fun _ => rfl) (v 0 15 (by omega)) (v 0 14 (by omega)), e.w (frm.rf (P := fun _ _ => False)) v (fun a b z => z.elim) (fun a b z => by omega), by rw [v 0 13 (by omega)]; exact f⟩
theorem BD.w16 {r : Int} {τ' : zSt} (h : BD r σ τ) (v : frm (fun a b => a = 0 ∧ b = 16) τ τ') : BD r σ τ' := by
  unfold BD at h ⊢
  rw [v 0 13 (by omega), v 0 14 (by omega), v 0 10 (by omega)]
  exact h
theorem texts {L : Int} : ∀ (m : Nat) (σ τ : zSt) (x2 : Int), BI σ τ T → RBc σ → σ 2 5 = L → (0 ≤ x2 ∧ x2 ≤ σ 2 2) → τ 0 16 = x2 → (x2 = 0 → τ 2 2 = 0 ∧ τ 2 3 = 0 ∧ τ 2 4 = 0 ∧ τ 2 5 = 0) → x2 + m = L → ∃ r σ' τ', (∃ k, ∀ K : Int → zSt → Prop, K r σ' → fX4_readText_B38 K k σ L x2) ∧ (∃ k, ∀ K : Int → zSt → Prop, fX12_load_B115 K τ' → fX12_load_B61 K k τ) ∧ frm (pL T) σ σ' ∧ frm pW τ τ' ∧ ((0 ≤ r ∧ r ≤ 1400 ∧ BI σ' τ' T ∧ τ' 0 16 = r) ∨ BD r σ' τ') := by
  have main : ∀ (σ τ : zSt) (x2 : Int), BI σ τ T → RBc σ → σ 2 5 = L → (0 ≤ x2 ∧ x2 ≤ σ 2 2) → τ 0 16 = x2 → (x2 = 0 → τ 2 2 = 0 ∧ τ 2 3 = 0 ∧ τ 2 4 = 0 ∧ τ 2 5 = 0) → (x2 < L → ∀ σ1 τ1, BI σ1 τ1 T → RBc σ1 → σ1 2 5 = L → x2 + 1 ≤ σ1 2 2 → τ1 0 16 = x2 + 1 → ∃ r σ' τ', (∃ k, ∀ K : Int → zSt → Prop, K r σ' → fX4_readText_B38 K k σ1 L (x2 + 1)) ∧ (∃ k, ∀ K : Int → zSt → Prop, fX12_load_B115 K τ' → fX12_load_B61 K k τ1) ∧ frm (pL T) σ1 σ' ∧ frm pW τ1 τ' ∧ ((0 ≤ r ∧ r ≤ 1400 ∧ BI σ' τ' T ∧ τ' 0 16 = r) ∨ BD r σ' τ')) → ∃ r σ' τ', (∃ k, ∀ K : Int → zSt → Prop, K r σ' → fX4_readText_B38 K k σ L x2) ∧ (∃ k, ∀ K : Int → zSt → Prop, fX12_load_B115 K τ' → fX12_load_B61 K k τ) ∧ frm (pL T) σ σ' ∧ frm pW τ τ' ∧ ((0 ≤ r ∧ r ≤ 1400 ∧ BI σ' τ' T ∧ τ' 0 16 = r) ∨ BD r σ' τ') := by
    intro σ τ x2 h hb hl hx e16 hz ih
    have h0 := h
    obtain ⟨⟨hT, h11⟩, hQ, ⟨hn, hn5⟩, hM, hL, h13⟩ := h
    have q0 := hL.r
    by_cases k0 : τ 0 10 = 0
    · refine ⟨x2, σ, τ, ⟨0 + 1, fun K hK => ?_⟩, ⟨0 + 1, fun K hK => ?_⟩, frm.rf, frm.rf, Or.inl ⟨by omega, by omega, h0, e16⟩⟩
      · rw [uX4_readText_B38]
        exact ⟨by omega, fun _ => hK, fun z => by omega⟩
      · rw [uX12_load_B61]
        exact ⟨by omega, fun _ => ⟨by omega, fun _ => hK, fun z => (z k0).elim⟩, fun z => (z h13).elim⟩
    have sp := hL.2 (by omega)
    have st : ∃ x1 : Int, ((x1 = 1 ∧ x2 = 0) ∨ (x1 = 0 ∧ x2 ≠ 0)) := by
      by_cases z : x2 = 0
      · exact ⟨1, Or.inl ⟨rfl, z⟩⟩
      · exact ⟨0, Or.inr ⟨rfl, z⟩⟩
    obtain ⟨x1, hx1⟩ := st
    obtain ⟨r, σ1, τ1, a1, b1, u1, v1, fi⟩ := Sm_stmt (x1 := x1) h0 hb (by
      rcases hx1 with ⟨p, q⟩ | ⟨p, q⟩
      · obtain ⟨w1, w2, w3, w4⟩ := hz q
        exact Or.inl ⟨p, by omega, w1, w2, w3, w4⟩
      · exact Or.inr ⟨p, by omega, by omega⟩)
    have cl : ∀ (K : Int → zSt → Prop) k, (zrg r ∧ ((r = 0 → zrg (σ1 2 1) ∧ ((σ1 2 1 = 3 → fX2_advance (fun σ13 => fX4_readText_B38 K k σ13 L (x2 + 1)) σ1 ) ∧ (¬ σ1 2 1 = 3 → K (-11) σ1))) ∧ (¬ r = 0 → K r σ1))) → fX4_readText_B38 K (k + 1) σ L x2 := fun K k g => by
      rw [uX4_readText_B38]
      have B : fX4_readText_B63 K (fX4_readText_B38 K k) σ L x2 x1 := a1 _ g
      refine ⟨by omega, fun z => by omega, fun _ => ⟨by omega, by omega, fun z => by omega, fun _ => ⟨fun z => ?_, fun z => ?_⟩⟩⟩
      · rw [show x1 = 1 by omega] at B; exact B
      · rw [show x1 = 0 by omega] at B; exact B
    have rf : ∀ (K : Int → zSt → Prop) k, (zrg (τ1 0 10) ∧ ((τ1 0 10 = 3 → fX12_load_B93 K (fX12_load_B61 K k) τ1 1) ∧ (¬ τ1 0 10 = 3 → fX12_load_B93 K (fX12_load_B61 K k) τ1 0))) → fX12_load_B61 K (k + 1) τ := fun K k g => by
      rw [uX12_load_B61]
      exact ⟨by omega, fun _ => ⟨by omega, fun z => (k0 z).elim, fun _ => b1 _ g⟩, fun z => (z h13).elim⟩
    have hb1 : RBc σ1 := hb.fr u1 (by omega)
    have l1 : σ1 2 5 = L := by rw [u1 2 5 (by omega)]; exact hl
    have e16' : τ1 0 16 = x2 := by rw [v1 0 16 (by omega)]; exact e16
    -- the reference after a fault
    have out : ∀ e τb, (e ≠ 0 ∧ zrg e) → τb 0 13 = e → zrg (τb 0 10) → ∀ (K : Int → zSt → Prop), fX12_load_B115 K (zu τb 0 16 (τb 0 16 + 1)) → ∀ s0, zrg s0 → fX12_load_B93 K (fX12_load_B61 K (0 + 1)) τb s0 := fun e τb he h13' _ K hK s0 hs => by
      refine sM_checkN hs (by omega) (by omega) (sM_aigN (by omega) (by omega) (fun σ20 e20 => ?_))
      rw [e20, uX12_load_B61]
      have : zu τb 0 16 (τb 0 16 + 1) 0 13 = e := by rw [zu_ne (by omega)]; exact h13'
      exact ⟨by rw [this]; exact he.2, fun z => by rw [this] at z; exact (he.1 z).elim, fun _ => hK⟩
    rcases fi with ⟨e0, g1, m1⟩ | bd
    · subst e0
      have q1 := g1.2.2.2.2.1.r
      by_cases k3 : τ1 0 10 = 3
      · obtain ⟨σ2, τ2, a2, b2, t2, u2, v2, q2⟩ := adv g1.2.2.2.2.1.1.1
        have g2 := g1.adv t2 u2 v2
        have w3 : ∃ τ3, τ3 = zu τ2 0 16 (x2 + 1) := ⟨_, rfl⟩
        obtain ⟨τ3, e3⟩ := w3
        have f3 : frm (fun a b => a = 0 ∧ b = 16) τ2 τ3 := by rw [e3]; exact zuf
        obtain ⟨r', σ', τ', ⟨k, ga⟩, ⟨k', gb⟩, u3, v3, fi⟩ := ih (by omega) σ2 τ3 (g2.w16 f3) (hb1.fr (pA_L (T := T) u2) (by omega)) (by rw [u2 2 5 (by omega)]; exact l1) (by omega) (by rw [e3, zu_eq])
        refine ⟨r', σ', τ', ⟨k + 1, fun K hK => cl K k ⟨by decide, fun _ => ⟨by omega, fun _ => a2 _ (ga K hK), fun z => by omega⟩, fun z => absurd rfl z⟩⟩, ⟨k' + 1, fun K hK => rf K k' ⟨by omega, fun _ => sM_check1 (by decide) (by decide) (sM_aig g1.2.2.2.2.2 (b2 _ (fun σ20 e20 => ?_))), fun z => (z k3).elim⟩⟩, u1.tr ((pA_L u2).tr u3), (v1.mo (fun a b z => by omega)).tr ((v2.mo (fun a b z => by omega)).tr ((f3.mo (fun a b z => by omega)).tr v3)), fi⟩
        have k : τ2 0 16 = x2 := by rw [v2 0 16 (by omega)]; exact e16'
        rw [k, ← e3] at e20
        rw [e20]; exact gb K hK
      · have b := bad_v (τ := τ1) (e := -11)
        have bdd : BD (-11) σ1 (bad τ1 (-11)) := bad_BD g1.2.2.2.2.1 (by decide) frm.rf
        refine ⟨-11, σ1, zu (bad τ1 (-11)) 0 16 (bad τ1 (-11) 0 16 + 1), ⟨0 + 1, fun K hK => cl K 0 ⟨by decide, fun _ => ⟨by omega, fun z => by omega, fun _ => hK⟩, fun z => absurd rfl z⟩⟩, ⟨0 + 1 + 1, fun K hK => rf K (0 + 1) ⟨by omega, fun z => (k3 z).elim, fun _ => sM_check0 g1.2.2.2.2.2 ?_⟩⟩, u1, (v1.mo (fun a b z => by omega)).tr ((bad_f.mo (fun a b z => by omega) : frm pW τ1 (bad τ1 (-11))).z (by omega)), Or.inr (bdd.w16 zuf)⟩
        refine sM_aigN (by rw [b.1]; decide) (by rw [b.1]; decide) (fun σ20 e20 => ?_)
        rw [e20, uX12_load_B61]
        have : zu (bad τ1 (-11)) 0 16 (bad τ1 (-11) 0 16 + 1) 0 13 = -11 := by rw [zu_ne (by omega)]; exact b.1
        exact ⟨by rw [this]; decide, fun z => by rw [this] at z; exact absurd z (by decide), fun _ => hK⟩
    · have b := bd
      unfold BD at b
      refine ⟨r, σ1, zu τ1 0 16 (τ1 0 16 + 1), ⟨0 + 1, fun K hK => cl K 0 ⟨by omega, fun z => by omega, fun _ => hK⟩⟩, ⟨0 + 1 + 1, fun K hK => rf K (0 + 1) ⟨by omega, fun _ => out r τ1 (by omega) b.2.1 (by omega) K hK 1 (by decide), fun _ => out r τ1 (by omega) b.2.1 (by omega) K hK 0 (by decide)⟩⟩, u1, (v1.mo (fun a b z => by omega) : frm pW τ τ1).z (by omega), Or.inr (bd.w16 zuf)⟩
  intro m
  induction m with
  | zero =>
    intro σ τ x2 h hb hl hx e16 hz e
    exact main σ τ x2 h hb hl hx e16 hz (fun z => by omega)
  | succ m ih =>
    intro σ τ x2 h hb hl hx e16 hz e
    exact main σ τ x2 h hb hl hx e16 hz (fun _ σ1 τ1 h1 hb1 l1 s1 e1 => ih σ1 τ1 (x2 + 1) h1 hb1 l1 (by omega) e1 (fun z => by omega) (by omega))
end SS
