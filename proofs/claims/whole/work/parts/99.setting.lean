/-! the statement that gives a setting -/
section ST
variable {σ τ : zSt} {T : Int}
theorem named (hL : TL σ τ) (h13 : τ 0 13 = 0) : ∃ r : Int, (-1 ≤ r ∧ r < 8) ∧ (∀ K : Int → zSt → Prop, K r σ → fX4_settingNamed K σ) ∧ (∀ K : Int → zSt → Prop, K r τ → fX12_settingHere K τ) := by
  obtain ⟨v0, o0, c0', d0'⟩ := word hL.1 h13 (i := 6) (by decide)
  have c0 : ∀ K : Int → zSt → Prop, K v0 σ → fX2_isWord K σ 6 := c0'
  have d0 : ∀ K : Int → zSt → Prop, K v0 τ → fX12_isWord K τ 781652471 := d0'
  obtain ⟨v1, o1, c1', d1'⟩ := word hL.1 h13 (i := 7) (by decide)
  have c1 : ∀ K : Int → zSt → Prop, K v1 σ → fX2_isWord K σ 7 := c1'
  have d1 : ∀ K : Int → zSt → Prop, K v1 τ → fX12_isWord K τ 18921701 := d1'
  obtain ⟨v2, o2, c2', d2'⟩ := word hL.1 h13 (i := 8) (by decide)
  have c2 : ∀ K : Int → zSt → Prop, K v2 σ → fX2_isWord K σ 8 := c2'
  have d2 : ∀ K : Int → zSt → Prop, K v2 τ → fX12_isWord K τ 20194516 := d2'
  obtain ⟨v3, o3, c3', d3'⟩ := word hL.1 h13 (i := 9) (by decide)
  have c3 : ∀ K : Int → zSt → Prop, K v3 σ → fX2_isWord K σ 9 := c3'
  have d3 : ∀ K : Int → zSt → Prop, K v3 τ → fX12_isWord K τ 119676667508 := d3'
  obtain ⟨v4, o4, c4', d4'⟩ := word hL.1 h13 (i := 10) (by decide)
  have c4 : ∀ K : Int → zSt → Prop, K v4 σ → fX2_isWord K σ 10 := c4'
  have d4 : ∀ K : Int → zSt → Prop, K v4 τ → fX12_isWord K τ 22518700226661 := d4'
  obtain ⟨v5, o5, c5', d5'⟩ := word hL.1 h13 (i := 11) (by decide)
  have c5 : ∀ K : Int → zSt → Prop, K v5 σ → fX2_isWord K σ 11 := c5'
  have d5 : ∀ K : Int → zSt → Prop, K v5 τ → fX12_isWord K τ 20022661 := d5'
  obtain ⟨v6, o6, c6', d6'⟩ := word hL.1 h13 (i := 12) (by decide)
  have c6 : ∀ K : Int → zSt → Prop, K v6 σ → fX2_isWord K σ 12 := c6'
  have d6 : ∀ K : Int → zSt → Prop, K v6 τ → fX12_isWord K τ 7216 := d6'
  obtain ⟨v7, o7, c7', d7'⟩ := word hL.1 h13 (i := 13) (by decide)
  have c7 : ∀ K : Int → zSt → Prop, K v7 σ → fX2_isWord K σ 13 := c7'
  have d7 : ∀ K : Int → zSt → Prop, K v7 τ → fX12_isWord K τ 20629733 := d7'
  rcases o0 with z0 | ⟨z0, -⟩
  · subst z0
    rcases o1 with z1 | ⟨z1, -⟩
    · subst z1
      rcases o2 with z2 | ⟨z2, -⟩
      · subst z2
        rcases o3 with z3 | ⟨z3, -⟩
        · subst z3
          rcases o4 with z4 | ⟨z4, -⟩
          · subst z4
            rcases o5 with z5 | ⟨z5, -⟩
            · subst z5
              rcases o6 with z6 | ⟨z6, -⟩
              · subst z6
                rcases o7 with z7 | ⟨z7, -⟩
                · subst z7
                  exact ⟨-1, by decide, fun K hK => c0 _ ⟨by decide, fun _ => c1 _ ⟨by decide, fun _ => c2 _ ⟨by decide, fun _ => c3 _ ⟨by decide, fun _ => c4 _ ⟨by decide, fun _ => c5 _ ⟨by decide, fun _ => c6 _ ⟨by decide, fun _ => c7 _ ⟨by decide, fun _ => hK, fun z => absurd rfl z⟩, fun z => absurd rfl z⟩, fun z => absurd rfl z⟩, fun z => absurd rfl z⟩, fun z => absurd rfl z⟩, fun z => absurd rfl z⟩, fun z => absurd rfl z⟩, fun z => absurd rfl z⟩, fun K hK => d0 _ ⟨by decide, fun _ => d1 _ ⟨by decide, fun _ => d2 _ ⟨by decide, fun _ => d3 _ ⟨by decide, fun _ => d4 _ ⟨by decide, fun _ => d5 _ ⟨by decide, fun _ => d6 _ ⟨by decide, fun _ => d7 _ ⟨by decide, fun _ => hK, fun z => absurd rfl z⟩, fun z => absurd rfl z⟩, fun z => absurd rfl z⟩, fun z => absurd rfl z⟩, fun z => absurd rfl z⟩, fun z => absurd rfl z⟩, fun z => absurd rfl z⟩, fun z => absurd rfl z⟩⟩
                · subst z7
                  exact ⟨7, by decide, fun K hK => c0 _ ⟨by decide, fun _ => c1 _ ⟨by decide, fun _ => c2 _ ⟨by decide, fun _ => c3 _ ⟨by decide, fun _ => c4 _ ⟨by decide, fun _ => c5 _ ⟨by decide, fun _ => c6 _ ⟨by decide, fun _ => c7 _ ⟨by decide, fun z => absurd z (by decide), fun _ => hK⟩, fun z => absurd rfl z⟩, fun z => absurd rfl z⟩, fun z => absurd rfl z⟩, fun z => absurd rfl z⟩, fun z => absurd rfl z⟩, fun z => absurd rfl z⟩, fun z => absurd rfl z⟩, fun K hK => d0 _ ⟨by decide, fun _ => d1 _ ⟨by decide, fun _ => d2 _ ⟨by decide, fun _ => d3 _ ⟨by decide, fun _ => d4 _ ⟨by decide, fun _ => d5 _ ⟨by decide, fun _ => d6 _ ⟨by decide, fun _ => d7 _ ⟨by decide, fun z => absurd z (by decide), fun _ => hK⟩, fun z => absurd rfl z⟩, fun z => absurd rfl z⟩, fun z => absurd rfl z⟩, fun z => absurd rfl z⟩, fun z => absurd rfl z⟩, fun z => absurd rfl z⟩, fun z => absurd rfl z⟩⟩
              · subst z6
                exact ⟨6, by decide, fun K hK => c0 _ ⟨by decide, fun _ => c1 _ ⟨by decide, fun _ => c2 _ ⟨by decide, fun _ => c3 _ ⟨by decide, fun _ => c4 _ ⟨by decide, fun _ => c5 _ ⟨by decide, fun _ => c6 _ ⟨by decide, fun z => absurd z (by decide), fun _ => hK⟩, fun z => absurd rfl z⟩, fun z => absurd rfl z⟩, fun z => absurd rfl z⟩, fun z => absurd rfl z⟩, fun z => absurd rfl z⟩, fun z => absurd rfl z⟩, fun K hK => d0 _ ⟨by decide, fun _ => d1 _ ⟨by decide, fun _ => d2 _ ⟨by decide, fun _ => d3 _ ⟨by decide, fun _ => d4 _ ⟨by decide, fun _ => d5 _ ⟨by decide, fun _ => d6 _ ⟨by decide, fun z => absurd z (by decide), fun _ => hK⟩, fun z => absurd rfl z⟩, fun z => absurd rfl z⟩, fun z => absurd rfl z⟩, fun z => absurd rfl z⟩, fun z => absurd rfl z⟩, fun z => absurd rfl z⟩⟩
            · subst z5
              exact ⟨5, by decide, fun K hK => c0 _ ⟨by decide, fun _ => c1 _ ⟨by decide, fun _ => c2 _ ⟨by decide, fun _ => c3 _ ⟨by decide, fun _ => c4 _ ⟨by decide, fun _ => c5 _ ⟨by decide, fun z => absurd z (by decide), fun _ => hK⟩, fun z => absurd rfl z⟩, fun z => absurd rfl z⟩, fun z => absurd rfl z⟩, fun z => absurd rfl z⟩, fun z => absurd rfl z⟩, fun K hK => d0 _ ⟨by decide, fun _ => d1 _ ⟨by decide, fun _ => d2 _ ⟨by decide, fun _ => d3 _ ⟨by decide, fun _ => d4 _ ⟨by decide, fun _ => d5 _ ⟨by decide, fun z => absurd z (by decide), fun _ => hK⟩, fun z => absurd rfl z⟩, fun z => absurd rfl z⟩, fun z => absurd rfl z⟩, fun z => absurd rfl z⟩, fun z => absurd rfl z⟩⟩
          · subst z4
            exact ⟨4, by decide, fun K hK => c0 _ ⟨by decide, fun _ => c1 _ ⟨by decide, fun _ => c2 _ ⟨by decide, fun _ => c3 _ ⟨by decide, fun _ => c4 _ ⟨by decide, fun z => absurd z (by decide), fun _ => hK⟩, fun z => absurd rfl z⟩, fun z => absurd rfl z⟩, fun z => absurd rfl z⟩, fun z => absurd rfl z⟩, fun K hK => d0 _ ⟨by decide, fun _ => d1 _ ⟨by decide, fun _ => d2 _ ⟨by decide, fun _ => d3 _ ⟨by decide, fun _ => d4 _ ⟨by decide, fun z => absurd z (by decide), fun _ => hK⟩, fun z => absurd rfl z⟩, fun z => absurd rfl z⟩, fun z => absurd rfl z⟩, fun z => absurd rfl z⟩⟩
        · subst z3
          exact ⟨3, by decide, fun K hK => c0 _ ⟨by decide, fun _ => c1 _ ⟨by decide, fun _ => c2 _ ⟨by decide, fun _ => c3 _ ⟨by decide, fun z => absurd z (by decide), fun _ => hK⟩, fun z => absurd rfl z⟩, fun z => absurd rfl z⟩, fun z => absurd rfl z⟩, fun K hK => d0 _ ⟨by decide, fun _ => d1 _ ⟨by decide, fun _ => d2 _ ⟨by decide, fun _ => d3 _ ⟨by decide, fun z => absurd z (by decide), fun _ => hK⟩, fun z => absurd rfl z⟩, fun z => absurd rfl z⟩, fun z => absurd rfl z⟩⟩
      · subst z2
        exact ⟨2, by decide, fun K hK => c0 _ ⟨by decide, fun _ => c1 _ ⟨by decide, fun _ => c2 _ ⟨by decide, fun z => absurd z (by decide), fun _ => hK⟩, fun z => absurd rfl z⟩, fun z => absurd rfl z⟩, fun K hK => d0 _ ⟨by decide, fun _ => d1 _ ⟨by decide, fun _ => d2 _ ⟨by decide, fun z => absurd z (by decide), fun _ => hK⟩, fun z => absurd rfl z⟩, fun z => absurd rfl z⟩⟩
    · subst z1
      exact ⟨1, by decide, fun K hK => c0 _ ⟨by decide, fun _ => c1 _ ⟨by decide, fun z => absurd z (by decide), fun _ => hK⟩, fun z => absurd rfl z⟩, fun K hK => d0 _ ⟨by decide, fun _ => d1 _ ⟨by decide, fun z => absurd z (by decide), fun _ => hK⟩, fun z => absurd rfl z⟩⟩
  · subst z0
    exact ⟨0, by decide, fun K hK => c0 _ ⟨by decide, fun z => absurd z (by decide), fun _ => hK⟩, fun K hK => d0 _ ⟨by decide, fun z => absurd z (by decide), fun _ => hK⟩⟩
def zMk (m r : Int) : Int := ((m.toNat ||| ((1 : Int) * 2 ^ r.toNat).toNat : Nat) : Int)
theorem zMk_ok : ∀ m : Nat, m < 256 → ∀ r : Nat, r < 8 → (0 ≤ zMk (m : Int) (r : Int) ∧ zMk (m : Int) (r : Int) < 256) ∧ ∀ i : Nat, i < 8 → (zMk (m : Int) (r : Int) / 2 ^ ((i : Int)).toNat) % 2 = if i = r then 1 else ((m : Int) / 2 ^ ((i : Int)).toNat) % 2 := by decide +kernel
theorem MK.give {σ' τ' : zSt} {r : Int} (h : MK σ τ) (r0 : 0 ≤ r) (r1 : r < 8) (g : σ' 4 r = 1) (g2 : ∀ i, i ≠ r → σ' 4 i = σ 4 i) (e : τ' 0 15 = zMk (τ 0 15) r) (e14 : τ' 0 14 = τ 0 14) : MK σ' τ' := by
  obtain ⟨m, hm⟩ : ∃ m : Nat, τ 0 15 = m := ⟨(τ 0 15).toNat, by have := h.1; omega⟩
  obtain ⟨k, rfl⟩ : ∃ k : Nat, r = k := ⟨r.toNat, by omega⟩
  have q := zMk_ok m (by have := h.1; omega) k (by omega)
  refine ⟨by rw [e, hm, e14]; exact ⟨q.1.1, q.1.2, h.1.2.2⟩, fun i i0 i1 => ?_⟩
  obtain ⟨j, rfl⟩ : ∃ j : Nat, i = j := ⟨i.toNat, by omega⟩
  have x := q.2 j (by omega)
  have y := h.2 j i0 i1
  rw [hm] at y
  rw [e, hm, x]
  by_cases z : j = k
  · rw [if_pos z, z, g]; exact ⟨Or.inr rfl, rfl⟩
  · rw [if_neg z, g2 _ (by omega)]; exact y
theorem WFs_up {E E' : zD} {r v : Int} (h : WFs E) (r0 : 0 ≤ r) (r1 : r < 8) (a : cLEAST r ≤ v) (b : v ≤ cGREAT r) (e : E' (83 + r) = v) (e2 : ∀ i, 83 ≤ i → i < 91 → i ≠ 83 + r → E' i = E i) : WFs E' := by
  have p : ∀ i, 83 ≤ i → i < 91 → E' i = if i = 83 + r then v else E i := fun i i0 i1 => by
    by_cases z : i = 83 + r
    · rw [if_pos z, z]; exact e
    · rw [if_neg z]; exact e2 i i0 i1 z
  unfold WFs at h ⊢
  unfold cLEAST at a
  unfold cGREAT at b
  rw [p 83 (by decide) (by decide), p 84 (by decide) (by decide), p 85 (by decide) (by decide), p 86 (by decide) (by decide), p 87 (by decide) (by decide), p 88 (by decide) (by decide), p 89 (by decide) (by decide), p 90 (by decide) (by decide)]
  rcases (show r = 0 ∨ r = 1 ∨ r = 2 ∨ r = 3 ∨ r = 4 ∨ r = 5 ∨ r = 6 ∨ r = 7 by omega) with z | z | z | z | z | z | z | z <;> subst z <;> simp at a b ⊢ <;> omega
theorem Sm_setting (h : BI σ τ T) : Sm (fun K => fX4_readSetting K σ) (fun K => fX12_parseSetting K τ) σ τ T := by
  have h0 := h
  obtain ⟨⟨hT, h11⟩, hQ, hn, hM, hL, h13⟩ := h
  have kT : kX T = 8 := by rw [kX_8]; exact hT
  have z0 := hQ.1
  unfold Q0 at z0
  have r0 := hL.r
  obtain ⟨σ1, τ1, a1, b1, t1, u1, v1, q1⟩ := adv hL.1.1
  have g11 : σ1 1 1 = T := by rw [u1 1 1 (by omega)]; exact h11
  have g13 : τ1 0 13 = 0 := by rw [v1 0 13 (by omega)]; exact h13
  have hM1 : MK σ1 τ1 := hM.mv (fun b => u1 4 b (by omega)) (v1 0 15 (by omega)) (v1 0 14 (by omega))
  have r1 := t1.r
  obtain ⟨r, hr, c1, d1⟩ := named t1 g13
  have zr : zrg r := by omega
  by_cases rn : r < 0
  · have b := bad_v (τ := τ1) (e := -11)
    exact ⟨-11, σ1, bad τ1 (-11), fun K hK => a1 _ (c1 _ (sX11_isSetting zr (fun a _ => by omega) (fun _ => ⟨by decide, fun _ => hK, fun z => absurd rfl z⟩))), fun K hK => b1 _ (d1 _ ⟨zr, fun _ => sM_check0 g13 ⟨by rw [b.1]; decide, fun z => absurd z (by rw [b.1]; decide), fun _ => hK⟩, fun z => (z rn).elim⟩), pA_L u1, (pB_R v1).tr bad_f, Or.inr (bad_BD t1 (by decide) frm.rf)⟩
  have cl1 : ∀ K : Int → zSt → Prop, (zrg (σ1 4 r) ∧ ((σ1 4 r = 0 → ∀ σ7, σ7 = zu σ1 4 r 1 → fX4_readNumber (fun r8 σ8 => zrg r8 ∧ ((r8 = 0 → kX (σ8 1 1) = 8 ∧ ∀ σ11, σ11 = zu σ8 ((σ8 1 1) + 1) r (σ8 2 3) → fX2_advance (fun σ12 => K 0 σ12) σ11 ) ∧ (¬ r8 = 0 → K r8 σ8))) σ7 (cLEAST r) (cGREAT r)) ∧ (¬ σ1 4 r = 0 → K (-13) σ1))) → fX4_readSetting K σ := fun K g => a1 _ (c1 _ (sX11_isSetting zr (fun _ _ => ⟨by decide, fun z => absurd z (by decide), fun _ => ⟨by omega, g⟩⟩) (fun z => (z (by omega)).elim)))
  have rf1 : ∀ K : zSt → Prop, (((τ1 0 15 / 2 ^ r.toNat) % 2 = 0 → fX12_parseSetting_B49 K τ1 r 1) ∧ (¬ (τ1 0 15 / 2 ^ r.toNat) % 2 = 0 → fX12_parseSetting_B49 K τ1 r 0)) → fX12_parseSetting K τ := fun K g => b1 _ (d1 _ ⟨zr, fun z => (rn z).elim, fun _ => sM_check1 (by decide) (by decide) ⟨by omega, fun _ => ⟨by have := hM1.1; omega, by omega, by
    have := hM1.2 r (by omega) (by omega)
    rw [this.2]
    rcases this.1 with y | y <;> rw [y] <;> decide, g⟩, fun z => (z g13).elim⟩⟩)
  obtain ⟨m1, m2⟩ := hM1.2 r (by omega) (by omega)
  have pw : (0 : Int) ≤ (1 : Int) * 2 ^ r.toNat := by
    have : (0 : Int) < 2 ^ r.toNat := Int.pow_pos (by decide)
    omega
  by_cases given : σ1 4 r = 0
  · -- not given before
    have w2 : ∃ σ2, σ2 = zu σ1 4 r 1 := ⟨_, rfl⟩
    obtain ⟨σ2, e2⟩ := w2
    have f2 : frm (fun a b => a = 4 ∧ b = r) σ1 σ2 := by rw [e2]; exact zuf
    have x2 : ∃ τ2, τ2 = zu τ1 0 15 (zMk (τ1 0 15) r) := ⟨_, rfl⟩
    obtain ⟨τ2, y2⟩ := x2
    have k2 : frm (fun a b => a = 0 ∧ b = 15) τ1 τ2 := by rw [y2]; exact zuf
    have t2 : TL σ2 τ2 := t1.w f2 k2 (fun a b z => by omega) (fun a b z => by omega)
    obtain ⟨σ3, τ3, a3, b3, t3, u3, v3, q3⟩ := adv t2.1.1
    have g13c : τ3 0 13 = 0 := by rw [v3 0 13 (by omega), k2 0 13 (by omega)]; exact g13
    have g11c : σ3 1 1 = T := by rw [u3 1 1 (by omega), f2 1 1 (by omega)]; exact g11
    have r3 := t3.r
    have m3 : σ1 2 6 ≤ σ3 2 2 := by rw [f2 2 6 (by omega)] at q3; exact q3
    have lg := cLG r
    have cl3 : ∀ K : Int → zSt → Prop, fX4_checkNumber (fun r8 σ8 => zrg r8 ∧ ((r8 = 0 → kX (σ8 1 1) = 8 ∧ ∀ σ11, σ11 = zu σ8 ((σ8 1 1) + 1) r (σ8 2 3) → fX2_advance (fun σ12 => K 0 σ12) σ11 ) ∧ (¬ r8 = 0 → K r8 σ8))) σ3 (cLEAST r) (cGREAT r) → fX4_readSetting K σ := fun K g => cl1 K ⟨by omega, fun _ σ7 e7 => by
      rw [← e2] at e7
      rw [e7]; exact a3 _ g, fun z => (z given).elim⟩
    have rf3 : ∀ K : zSt → Prop, fX12_readInteger (fun r18 σ18 => (0 ≤ 83 + r ∧ 83 + r < 811) ∧ ∀ σ20, σ20 = zu σ18 2 (83 + r) r18 → K σ20) τ3 (cLEAST r) (cGREAT r) → fX12_parseSetting K τ := fun K g => rf1 K ⟨fun _ => sM_check1 (by decide) (by decide) ⟨by omega, hM1.1.1, pw, fun σ13 e13 => by
      have e : σ13 = τ2 := by rw [e13, y2]; rfl
      rw [e]
      refine sM_aig (by rw [k2 0 13 (by omega)]; exact g13) (b3 _ ⟨by rw [g13c]; decide, fun _ => sM_least zr (sM_most zr g), fun z => (z g13c).elim⟩)⟩, fun z => by omega⟩
    rcases numb t3 g13c (lo := cLEAST r) (hi := cGREAT r) (by omega) (by omega) (by omega) (by omega) with ⟨⟨e3, lo3, hi3⟩, c3, n3⟩ | ⟨e, he, c3, n3⟩
    · generalize ex : τ3 0 12 = x at e3 lo3 hi3 n3
      have w4 : ∃ σ4, σ4 = zu σ3 (T + 1) r x := ⟨_, rfl⟩
      obtain ⟨σ4, e4⟩ := w4
      have f4 : frm (fun a b => a = T + 1 ∧ b = r) σ3 σ4 := by rw [e4]; exact zuf
      have t4 : TL σ4 τ3 := t3.w f4 (frm.rf (P := fun _ _ => False)) (fun a b z => by omega) (fun a b z => z.elim)
      obtain ⟨σ5, τ4, a5, b5, t5, u5, v5, q5⟩ := adv t4.1.1
      have w5 : ∃ τ5, τ5 = zu τ4 2 (83 + r) x := ⟨_, rfl⟩
      obtain ⟨τ5, e5⟩ := w5
      have f5 : frm (fun a b => a = 2 ∧ b = 83 + r) τ4 τ5 := by rw [e5]; exact zuf
      have t6 : TL σ5 τ5 := t5.w (frm.rf (P := fun _ _ => False)) f5 (fun a b z => z.elim) (fun a b z => by omega)
      have uu : frm (fun a b => (a = 2 ∧ (b = 1 ∨ b = 2 ∨ b = 3 ∨ b = 6)) ∨ (a = 4 ∧ b = r) ∨ (a = T + 1 ∧ b = r)) σ σ5 := (u1.mo (fun a b z => Or.inl z)).tr ((f2.mo (fun a b z => Or.inr (Or.inl z))).tr ((u3.mo (fun a b z => Or.inl z)).tr ((f4.mo (fun a b z => Or.inr (Or.inr z))).tr (u5.mo (fun a b z => Or.inl z)))))
      have vv : frm (fun a b => (a = 2 ∧ b = 83 + r) ∨ (a = 0 ∧ ((8 ≤ b ∧ b ≤ 12) ∨ b = 15))) τ τ5 := (v1.mo (fun a b z => by omega)).tr ((k2.mo (fun a b z => by omega)).tr ((v3.mo (fun a b z => by omega)).tr ((v5.mo (fun a b z => by omega)).tr (f5.mo (fun a b z => by omega)))))
      have m5 : σ3 2 6 ≤ σ5 2 2 := by rw [f4 2 6 (by omega)] at q5; exact q5
      have r6 := t6.r
      have new : τ5 2 (83 + r) = x := by rw [e5, zu_eq]
      obtain ⟨A0, A1, A2, A3, A4, A5⟩ := hQ
      have a2r := A2.2.1
      have a3r := A3.2.2.1
      have a4r := A4.2.2.1
      have a5r := A5.1
      refine ⟨0, σ5, τ5, fun K hK => cl3 K (c3 _ ⟨by decide, fun _ => ⟨by rw [g11c]; exact kT, fun σ11 e11 => by
        rw [g11c, e3, ← e4] at e11
        rw [e11]; exact a5 _ hK⟩, fun z => absurd rfl z⟩), fun K hK => rf3 K (n3 _ (b5 _ ⟨by omega, fun σ20 e20 => by
        rw [← e5] at e20
        rw [e20]; exact hK⟩)), uu.mo (fun a b z => by omega), vv.mo (fun a b z => by omega), Or.inl ⟨rfl, ⟨⟨hT, by rw [uu 1 1 (by omega)]; exact h11⟩, ⟨A0.mv (uu _ _ (by omega)) (uu _ _ (by omega)) (vv _ _ (by omega)) (vv _ _ (by omega)), ⟨fun i i0 i1 => ?_, WFs_up A1.2 (by omega) (by omega) lo3 hi3 new (fun i i0 i1 i2 => vv _ _ (by omega))⟩, A2.mv z0.1.2.2 z0.2.2.2 (fun b => uu _ _ (by omega)) (fun f b f0 f1 => ?_) (fun i hi => vv _ _ (by omega)), A3.mv (uu _ _ (by omega)) (uu _ _ (by omega)) (fun k k0 k1 => ⟨uu _ _ (by omega), uu _ _ (by omega)⟩) (vv _ _ (by omega)) (vv _ _ (by omega)) (vv _ _ (by omega)) (fun i i0 i1 => vv _ _ (by omega)), A4.mv (uu _ _ (by omega)) (uu _ _ (by omega)) (fun k k0 k1 => ⟨uu _ _ (by omega), uu _ _ (by omega)⟩) (vv _ _ (by omega)) (vv _ _ (by omega)) (vv _ _ (by omega)) (fun i i0 i1 => vv _ _ (by omega)), A5.mv (fun t a b t0 t1 z => uu _ _ (by omega)) (vv _ _ (by omega)) (fun t i t0 t1 z => vv _ _ (by omega))⟩, ⟨by rw [uu T 2 (by omega), vv 2 2 (by omega)]; exact hn.1, by rw [uu T 3 (by omega), vv 2 5 (by omega)]; exact hn.2⟩, hM1.give (r := r) (by omega) (by omega) ?_ (fun i hi => ?_) ?_ (by rw [vv 0 14 (by omega), v1 0 14 (by omega)]), t6, by rw [vv 0 13 (by omega)]; exact h13⟩, by omega⟩⟩
      · by_cases z : i = r
        · rw [z, new, u5 _ _ (by omega), e4, zu_eq]
        · rw [uu _ _ (by omega), vv _ _ (by omega)]; exact A1.1 i i0 i1
      · have := A2.1.1 f f0 (by omega)
        exact ⟨uu _ _ (by omega), uu _ _ (by omega)⟩
      · rw [u5 _ _ (by omega), f4 _ _ (by omega), u3 _ _ (by omega), e2, zu_eq]
      · rw [u5 _ _ (by omega), f4 _ _ (by omega), u3 _ _ (by omega), f2 _ _ (by omega)]
      · rw [f5 _ _ (by omega), v5 _ _ (by omega), v3 _ _ (by omega), y2, zu_eq]
    · have b := bad_v (τ := τ3) (e := e)
      exact ⟨e, σ3, zu (bad τ3 e) 2 (83 + r) (τ3 0 12), fun K hK => cl3 K (c3 _ ⟨by omega, fun z => by omega, fun _ => hK⟩), fun K hK => rf3 K (n3 _ ⟨by omega, fun σ20 e20 => by rw [e20]; exact hK⟩), (pA_L u1).tr ((f2.mo (fun a b z => by omega)).tr (pA_L u3)), (pB_R v1).tr ((k2.mo (fun a b z => by omega)).tr ((pB_R v3).tr (bad_f.z (by omega)))), Or.inr (bad_BD t3 (by omega) (frm.wr (P := fun a b => a = 2 ∨ (a = 0 ∧ b = 15)) (Or.inl rfl)))⟩
  · have b := bad_v (τ := τ1) (e := -13)
    have b15 : bad τ1 (-13) 0 15 = τ1 0 15 := by unfold bad; rw [zu_ne (by omega), zu_ne (by omega)]
    refine ⟨-13, σ1, zu (bad τ1 (-13)) 0 15 (zMk (τ1 0 15) r), fun K hK => cl1 K ⟨by omega, fun z => (given z).elim, fun _ => hK⟩, fun K hK => rf1 K ⟨fun z => by omega, fun _ => sM_check0 g13 ⟨by omega, by rw [b15]; exact hM1.1.1, pw, fun σ13 e13 => ?_⟩⟩, pA_L u1, (pB_R v1).tr (bad_f.z (by omega)), Or.inr (bad_BD t1 (by decide) (frm.wr (P := fun a b => a = 2 ∨ (a = 0 ∧ b = 15)) (Or.inr ⟨rfl, rfl⟩)))⟩
    have e : σ13 = zu (bad τ1 (-13)) 0 15 (zMk (τ1 0 15) r) := by rw [e13, b15]; rfl
    have n13 : σ13 0 13 = -13 := by rw [e, zu_ne (by omega)]; exact b.1
    rw [← e] at hK
    exact sM_aigN (by rw [n13]; decide) (by rw [n13]; decide) ⟨by rw [n13]; decide, fun z => absurd z (by rw [n13]; decide), fun _ => hK⟩
end ST
