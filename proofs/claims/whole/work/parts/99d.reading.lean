/-! the statement that gives a stake -/
/-- a stake half read: its first r readings -/
def SR (σ τ : zSt) (T t r : Int) : Prop := ((T = 73 ∨ T = 104) ∧ σ 1 1 = T) ∧ QA σ T (τ 2) ∧ (σ T 2 = τ 2 2 ∧ σ T 3 = t + 1 ∧ τ 2 5 = t) ∧ MK σ τ ∧ TL σ τ ∧ τ 0 13 = 0 ∧ (0 ≤ t ∧ t < 3) ∧ (0 ≤ r ∧ r ≤ 8 ∧ σ (T + 22 + t) 0 = r) ∧ (∀ q, 0 ≤ q → q < r → (σ (T + 25 + t) q = dS (τ 2) t q ∧ σ (T + 28 + t) q = lS (τ 2) t q) ∧ (0 ≤ dS (τ 2) t q ∧ dS (τ 2) t q ≤ 9999) ∧ (0 ≤ lS (τ 2) t q ∧ lS (τ 2) t q ≤ 9999)) ∧ ∀ q, 0 ≤ q → q + 1 < r → dS (τ 2) t q < dS (τ 2) t (q + 1)
section SK
variable {σ τ : zSt} {T t : Int}
theorem sX9_insertEnd {K : zSt → Prop} {c r day len : Int} (hc : kX c = 9) (c0 : σ c 0 = r) (hr : 0 ≤ r ∧ r < 8) (hd : zrg day) (hl : 0 < r → zrg (σ (c + 3) (r - 1)) ∧ σ (c + 3) (r - 1) < day) (hK : K (zu (zu (zu σ (c + 3) r day) (c + 6) r len) c 0 (r + 1))) : fX9_insert K σ c day len := by
  have B : fX9_insert_B65 K σ c day len r := by
    refine ⟨hr, fun σ10 e10 σ11 e11 σ12 e12 => ?_⟩
    have k : σ11 c 0 = r := by rw [e11, zu_ne (by omega), e10, zu_ne (by omega)]; exact c0
    rw [k, e11, e10] at e12
    rw [e12]; exact hK
  refine ⟨hc, by omega, fun _ => ⟨0 + 1, ?_⟩, fun z => by omega⟩
  rw [uX9_insert_B15, c0]
  refine ⟨by omega, fun _ => B, fun z => ⟨by omega, (hl (by omega)).1, hd, fun _ => B, fun y => ?_⟩⟩
  have := (hl (by omega)).2
  omega
theorem reading {r : Int} (h : SR σ τ T t r) (hq : 0 < r → τ 0 10 = 2) : ∃ rr σ' τ', (∀ K : Int → zSt → Prop, K rr σ' → fX4_readReading K σ (T + 22 + t)) ∧ frm (pL T) σ σ' ∧ frm pR τ τ' ∧ ((rr = 0 ∧ r < 8 ∧ SR σ' τ' T t (r + 1) ∧ σ 2 6 ≤ σ' 2 6 ∧ (∀ (K : zSt → Prop) (k29 : zSt → Int → Int → Prop), k29 τ' t (r + 1) → fX12_parseStake_B48 K k29 τ t r)) ∨ (BD rr σ' τ' ∧ ((∀ (K : zSt → Prop) (k29 : zSt → Int → Int → Prop), K τ' → fX12_parseStake_B48 K k29 τ t r) ∨ (∀ (K : zSt → Prop) (k29 : zSt → Int → Int → Prop), k29 τ' t (r + 1) → fX12_parseStake_B48 K k29 τ t r)))) := by
  have h0 := h
  obtain ⟨⟨hT, h11⟩, hQ, ⟨n2, n3, n5⟩, hM, hL, h13, ht, ⟨r0, r8, rc⟩, hp, hs⟩ := h
  have kc : kX (T + 22 + t) = 9 := by rw [kX_9]; omega
  have q0 := hL.r
  have lst : 0 < r → 0 ≤ dS (τ 2) t (r - 1) ∧ dS (τ 2) t (r - 1) ≤ 9999 ∧ σ (T + 25 + t) (r - 1) = dS (τ 2) t (r - 1) := fun z => by
    have := hp (r - 1) (by omega) (by omega)
    exact ⟨this.2.1.1, this.2.1.2, this.1.1⟩
  have ed : dS (τ 2) t (r - 1) = τ 2 (35 + (8 * t + r) - 1) := by
    show τ 2 (35 + (8 * t) + (r - 1)) = _
    rw [show 35 + (8 * t) + (r - 1) = 35 + (8 * t + r) - 1 by omega]
  -- the reference after a fault found before the length
  have fl : ∀ e, (-15 ≤ e ∧ e ≤ -11) → bad τ e 0 13 ≠ 0 ∧ zrg (bad τ e 0 13) ∧ zrg (bad τ e 0 12) ∧ (0 < r → zrg (bad τ e 2 (35 + (8 * t + r) - 1))) := fun e he => by
    have b := bad_v (τ := τ) (e := e)
    rw [b.1, b.2.2.2.1, b.2.2.2.2.1]
    exact ⟨by omega, by omega, by omega, fun z => by rw [← ed]; have := lst z; omega⟩
  have f140 : ∀ (K : zSt → Prop) (k29 : zSt → Int → Int → Prop) e s0, (-15 ≤ e ∧ e ≤ -11) → zrg s0 → K (bad τ e) → fX12_parseStake_B140 K k29 (bad τ e) t r (8 * t + r) s0 := fun K k29 e s0 he hs0 hK => by
    obtain ⟨x1, x2, x3, x4⟩ := fl e he
    exact sM_checkN hs0 x1 x2 ⟨x2, fun z => (x1 z).elim, fun _ => hK⟩
  have f123b : ∀ (K : zSt → Prop) (k29 : zSt → Int → Int → Prop) e, (-15 ≤ e ∧ e ≤ -11) → K (bad τ e) → (zrg r ∧ ((8 ≤ r → fX12_parseStake_B140 K k29 (bad τ e) t r (8 * t + r) 0) ∧ (¬ 8 ≤ r → fX12_parseStake_B140 K k29 (bad τ e) t r (8 * t + r) 1))) := fun K k29 e he hK => ⟨by omega, fun _ => f140 K k29 e 0 he (by decide) hK, fun _ => f140 K k29 e 1 he (by decide) hK⟩
  have f123 : ∀ (K : zSt → Prop) (k29 : zSt → Int → Int → Prop) e s0, (-15 ≤ e ∧ e ≤ -11) → zrg s0 → K (bad τ e) → fX12_parseStake_B123 K k29 (bad τ e) t r (8 * t + r) s0 := fun K k29 e s0 he hs0 hK => by
    obtain ⟨x1, x2, x3, x4⟩ := fl e he
    exact sM_checkN hs0 x1 x2 (f123b K k29 e he hK)
  have f90b : ∀ (K : zSt → Prop) (k29 : zSt → Int → Int → Prop) e, (-15 ≤ e ∧ e ≤ -11) → K (bad τ e) → (zrg r ∧ ((r = 0 → fX12_parseStake_B118 K k29 (bad τ e) t r (8 * t + r)) ∧ (¬ r = 0 → (0 ≤ (35 + (8 * t + r)) - 1 ∧ (35 + (8 * t + r)) - 1 < 811) ∧ zrg (bad τ e 0 12) ∧ zrg (bad τ e 2 ((35 + (8 * t + r)) - 1)) ∧ ((bad τ e 0 12 ≤ bad τ e 2 ((35 + (8 * t + r)) - 1) → fX12_parseStake_B123 K k29 (bad τ e) t r (8 * t + r) 0) ∧ (¬ bad τ e 0 12 ≤ bad τ e 2 ((35 + (8 * t + r)) - 1) → fX12_parseStake_B118 K k29 (bad τ e) t r (8 * t + r)))))) := fun K k29 e he hK => by
    obtain ⟨x1, x2, x3, x4⟩ := fl e he
    exact ⟨by omega, fun _ => f123 K k29 e 1 he (by decide) hK, fun _ => ⟨by omega, x3, x4 (by omega), fun _ => f123 K k29 e 0 he (by decide) hK, fun _ => f123 K k29 e 1 he (by decide) hK⟩⟩
  have f69b : ∀ (K : zSt → Prop) (k29 : zSt → Int → Int → Prop) e, (-15 ≤ e ∧ e ≤ -11) → K (bad τ e) → (zrg (bad τ e 0 12) ∧ ((9999 < bad τ e 0 12 → fX12_parseStake_B90 K k29 (bad τ e) t r (8 * t + r) 0) ∧ (¬ 9999 < bad τ e 0 12 → fX12_parseStake_B90 K k29 (bad τ e) t r (8 * t + r) 1))) := fun K k29 e he hK => by
    obtain ⟨x1, x2, x3, x4⟩ := fl e he
    exact ⟨x3, fun _ => sM_checkN (by decide) x1 x2 (f90b K k29 e he hK), fun _ => sM_checkN (by decide) x1 x2 (f90b K k29 e he hK)⟩
  have fin : ∀ e, (-15 ≤ e ∧ e ≤ -11) → (∀ K : Int → zSt → Prop, K e σ → fX4_readReading K σ (T + 22 + t)) → (∀ (K : zSt → Prop) (k29 : zSt → Int → Int → Prop), K (bad τ e) → fX12_parseStake_B48 K k29 τ t r) → ∃ rr σ' τ', (∀ K : Int → zSt → Prop, K rr σ' → fX4_readReading K σ (T + 22 + t)) ∧ frm (pL T) σ σ' ∧ frm pR τ τ' ∧ ((rr = 0 ∧ r < 8 ∧ SR σ' τ' T t (r + 1) ∧ σ 2 6 ≤ σ' 2 6 ∧ (∀ (K : zSt → Prop) (k29 : zSt → Int → Int → Prop), k29 τ' t (r + 1) → fX12_parseStake_B48 K k29 τ t r)) ∨ (BD rr σ' τ' ∧ ((∀ (K : zSt → Prop) (k29 : zSt → Int → Int → Prop), K τ' → fX12_parseStake_B48 K k29 τ t r) ∨ (∀ (K : zSt → Prop) (k29 : zSt → Int → Int → Prop), k29 τ' t (r + 1) → fX12_parseStake_B48 K k29 τ t r)))) := fun e he a b => ⟨e, σ, bad τ e, a, frm.rf, bad_f, Or.inr ⟨bad_BD hL he frm.rf, Or.inl b⟩⟩
  by_cases k2 : τ 0 10 = 2
  · have rf1 : ∀ (K : zSt → Prop) (k29 : zSt → Int → Int → Prop), (zrg (τ 0 12) ∧ ((9999 < τ 0 12 → fX12_parseStake_B90 K k29 τ t r (8 * t + r) 0) ∧ (¬ 9999 < τ 0 12 → fX12_parseStake_B90 K k29 τ t r (8 * t + r) 1))) → fX12_parseStake_B48 K k29 τ t r := fun K k29 g => ⟨by omega, fun _ => sM_check1 (by decide) (by decide) g, fun z => (z k2).elim⟩
    by_cases big : 9999 < τ 0 12
    · exact fin (-12) (by decide) (fun K hK => ⟨kc, by omega, fun _ => sX11_isBetween (by omega) (by decide) (by decide) (fun _ _ => by omega) (fun _ => ⟨by decide, fun _ => ⟨by decide, fun z => absurd z (by decide), fun _ => hK⟩, fun z => absurd rfl z⟩), fun z => by omega⟩) (fun K k29 hK => rf1 K k29 ⟨by omega, fun _ => sM_check0 h13 (f90b K k29 (-12) (by decide) hK), fun z => (z big).elim⟩)
    have e3 : σ 2 3 = τ 0 12 := by omega
    generalize ex : τ 0 12 = x at e3 big rf1
    have cl1 : ∀ K : Int → zSt → Prop, ((0 < r → σ (T + 25 + t) (r - 1) < x) → fX4_readReading_B48 K σ (T + 22 + t) x) → (¬ (0 < r → σ (T + 25 + t) (r - 1) < x) → K (-14) σ) → fX4_readReading K σ (T + 22 + t) := fun K g1 g2 => ⟨kc, by omega, fun _ => sX11_isBetween (by omega) (by decide) (by decide) (fun _ _ => ⟨by decide, fun z => absurd z (by decide), fun _ => ⟨by decide, fun _ => by
      rw [rc, show T + 22 + t + 3 = T + 25 + t by omega, e3]
      refine ⟨by omega, fun z => g1 (fun y => by omega), fun z => ⟨by omega, by omega, by have := lst (by omega); omega, fun y => g1 (fun _ => y), fun y => g2 (fun w => y (w (by omega)))⟩⟩, fun z => absurd rfl z⟩⟩) (fun z => (z (by omega)).elim), fun z => by omega⟩
    have rf2 : ∀ (K : zSt → Prop) (k29 : zSt → Int → Int → Prop), ((0 < r → dS (τ 2) t (r - 1) < x) → fX12_parseStake_B123 K k29 τ t r (8 * t + r) 1) → (¬ (0 < r → dS (τ 2) t (r - 1) < x) → fX12_parseStake_B123 K k29 τ t r (8 * t + r) 0) → fX12_parseStake_B48 K k29 τ t r := fun K k29 g1 g2 => rf1 K k29 ⟨by omega, fun z => (big z).elim, fun _ => sM_check1 (by decide) (by decide) ⟨by omega, fun z => g1 (fun y => by omega), fun z => ⟨by omega, by omega, by rw [← ed]; have := lst (by omega); omega, by
      rw [← ed, ex]
      exact ⟨fun y => g2 (fun w => by have := w (by omega); omega), fun y => g1 (fun _ => by omega)⟩⟩⟩⟩
    by_cases lt : 0 < r → dS (τ 2) t (r - 1) < x
    · have lt' : 0 < r → σ (T + 25 + t) (r - 1) < x := fun z => by rw [(lst z).2.2]; exact lt z
      have cl2 : ∀ K : Int → zSt → Prop, fX4_readReading_B48 K σ (T + 22 + t) x → fX4_readReading K σ (T + 22 + t) := fun K g => cl1 K (fun _ => g) (fun z => (z lt').elim)
      have rf3 : ∀ (K : zSt → Prop) (k29 : zSt → Int → Int → Prop), (zrg r ∧ ((8 ≤ r → fX12_parseStake_B140 K k29 τ t r (8 * t + r) 0) ∧ (¬ 8 ≤ r → fX12_parseStake_B140 K k29 τ t r (8 * t + r) 1))) → fX12_parseStake_B48 K k29 τ t r := fun K k29 g => rf2 K k29 (fun _ => sM_check1 (by decide) (by decide) g) (fun z => (z lt).elim)
      by_cases full : 8 ≤ r
      · refine fin (-15) (by decide) (fun K hK => cl2 K ⟨by omega, fun z => by omega, fun _ => hK⟩) (fun K k29 hK => rf3 K k29 ⟨by omega, fun _ => sM_check0 h13 ?_, fun z => (z full).elim⟩)
        obtain ⟨x1, x2, x3, x4⟩ := fl (-15) (by decide)
        exact ⟨x2, fun z => (x1 z).elim, fun _ => hK⟩
      · -- the length
        have x2 : ∃ τ2, τ2 = zu τ 2 (35 + (8 * t + r)) x := ⟨_, rfl⟩
        obtain ⟨τ2, y2⟩ := x2
        have k2' : frm (fun a b => a = 2 ∧ b = 35 + 8 * t + r) τ τ2 := by rw [y2]; exact frm.wr (P := fun a b => a = 2 ∧ b = 35 + 8 * t + r) (by omega)
        have t2 : TL σ τ2 := hL.w (frm.rf (P := fun _ _ => False)) k2' (fun a b z => z.elim) (fun a b z => by omega)
        obtain ⟨σ3, τ3, a3, b3, t3, u3, v3, q3⟩ := adv t2.1.1
        have g13 : τ3 0 13 = 0 := by rw [v3 0 13 (by omega), k2' 0 13 (by omega)]; exact h13
        have r3 := t3.r
        have cl3 : ∀ K : Int → zSt → Prop, fX4_checkNumber (fun r9 σ9 => zrg r9 ∧ ((r9 = 0 → fX9_insert (fun σ11 => fX2_advance (fun σ12 => K 0 σ12) σ11 ) σ9 (T + 22 + t) x (σ9 2 3)) ∧ (¬ r9 = 0 → K r9 σ9))) σ3 0 9999 → fX4_readReading K σ (T + 22 + t) := fun K g => cl2 K ⟨by omega, fun _ => a3 _ g, fun z => by omega⟩
        have rf4 : ∀ (K : zSt → Prop) (k29 : zSt → Int → Int → Prop), fX12_readInteger (fun r27 σ27 => (0 ≤ 59 + (8 * t + r) ∧ 59 + (8 * t + r) < 811) ∧ ∀ σ29, σ29 = zu σ27 2 (59 + (8 * t + r)) r27 → k29 σ29 t (r + 1)) τ3 0 9999 → fX12_parseStake_B48 K k29 τ t r := fun K k29 g => rf3 K k29 ⟨by omega, fun z => (full z).elim, fun _ => sM_check1 (by decide) (by decide) ⟨by omega, fun _ => ⟨by omega, fun σ25 e25 => by
          rw [ex, ← y2] at e25
          rw [e25]; exact b3 _ g⟩, fun z => (z h13).elim⟩⟩
        rcases numb t3 g13 (lo := 0) (hi := 9999) (by decide) (by decide) (by decide) (by decide) with ⟨⟨e4, lo4, hi4⟩, c4, n4⟩ | ⟨e, he, c4, n4⟩
        · generalize ey : τ3 0 12 = y at e4 lo4 hi4 n4
          have w4 : ∃ σ4, σ4 = zu (zu (zu σ3 (T + 25 + t) r x) (T + 28 + t) r y) (T + 22 + t) 0 (r + 1) := ⟨_, rfl⟩
          obtain ⟨σ4, y4⟩ := w4
          have f4 : frm (fun a b => (a = T + 25 + t ∧ b = r) ∨ (a = T + 28 + t ∧ b = r) ∨ (a = T + 22 + t ∧ b = 0)) σ3 σ4 := by rw [y4]; exact ((frm.wr (P := fun a b => (a = T + 25 + t ∧ b = r) ∨ (a = T + 28 + t ∧ b = r) ∨ (a = T + 22 + t ∧ b = 0)) (by omega)).z (by omega)).z (by omega)
          have t4 : TL σ4 τ3 := t3.w f4 (frm.rf (P := fun _ _ => False)) (fun a b z => by omega) (fun a b z => z.elim)
          obtain ⟨σ5, τ4, a5, b5, t5, u5, v5, q5⟩ := adv t4.1.1
          have x6 : ∃ τ5, τ5 = zu τ4 2 (59 + (8 * t + r)) y := ⟨_, rfl⟩
          obtain ⟨τ5, y5⟩ := x6
          have k5 : frm (fun a b => a = 2 ∧ b = 59 + 8 * t + r) τ4 τ5 := by rw [y5]; exact frm.wr (P := fun a b => a = 2 ∧ b = 59 + 8 * t + r) (by omega)
          have t6 : TL σ5 τ5 := t5.w (frm.rf (P := fun _ _ => False)) k5 (fun a b z => z.elim) (fun a b z => by omega)
          have uu : frm (fun a b => (a = 2 ∧ (b = 1 ∨ b = 2 ∨ b = 3 ∨ b = 6)) ∨ (a = T + 25 + t ∧ b = r) ∨ (a = T + 28 + t ∧ b = r) ∨ (a = T + 22 + t ∧ b = 0)) σ σ5 := (u3.mo (fun a b z => Or.inl z)).tr ((f4.mo (fun a b z => Or.inr z)).tr (u5.mo (fun a b z => Or.inl z)))
          have vv : frm (fun a b => (a = 2 ∧ (b = 35 + 8 * t + r ∨ b = 59 + 8 * t + r)) ∨ (a = 0 ∧ (8 ≤ b ∧ b ≤ 12))) τ τ5 := (k2'.mo (fun a b z => by omega)).tr ((v3.mo (fun a b z => by omega)).tr ((v5.mo (fun a b z => by omega)).tr (k5.mo (fun a b z => by omega))))
          have m5 : σ3 2 6 ≤ σ5 2 2 := by rw [f4 2 6 (by omega)] at q5; exact q5
          have r6 := t6.r
          obtain ⟨A0, A1, A2, A3, A4, A5⟩ := hQ
          have z0 := A0
          unfold Q0 at z0
          have a2r := A2.2.1
          have a3r := A3.2.2.1
          have a4r := A4.2.2.1
          have a5r := A5.1
          have eD : dS (τ5 2) t r = x := by
            show τ5 2 (35 + (8 * t) + r) = x
            rw [k5 _ _ (by omega), v5 _ _ (by omega), v3 _ _ (by omega), y2, show 35 + (8 * t) + r = 35 + (8 * t + r) by omega, zu_eq]
          have eL : lS (τ5 2) t r = y := by
            show τ5 2 (59 + (8 * t) + r) = y
            rw [y5, show 59 + (8 * t) + r = 59 + (8 * t + r) by omega, zu_eq]
          have oD : ∀ q, q ≠ r → 0 ≤ q → q < 8 → dS (τ5 2) t q = dS (τ 2) t q := fun q hq q0 q8 => vv _ _ (by omega)
          have oL : ∀ q, q ≠ r → 0 ≤ q → q < 8 → lS (τ5 2) t q = lS (τ 2) t q := fun q hq q0 q8 => vv _ _ (by omega)
          refine ⟨0, σ5, τ5, fun K hK => cl3 K (c4 _ ⟨by decide, fun _ => ?_, fun z => absurd rfl z⟩), uu.mo (fun a b z => by omega), vv.mo (fun a b z => by omega), Or.inl ⟨rfl, by omega, ⟨⟨hT, by rw [uu 1 1 (by omega)]; exact h11⟩, ⟨A0.mv (uu _ _ (by omega)) (uu _ _ (by omega)) (vv _ _ (by omega)) (vv _ _ (by omega)), A1.mv (fun b => uu _ _ (by omega)) (fun i _ _ => vv _ _ (by omega)), A2.mv z0.1.2.2 z0.2.2.2 (fun b => uu _ _ (by omega)) (fun f b f0 f1 => ?_) (fun i hi => vv _ _ (by omega)), A3.mv (uu _ _ (by omega)) (uu _ _ (by omega)) (fun k k0 k1 => ⟨uu _ _ (by omega), uu _ _ (by omega)⟩) (vv _ _ (by omega)) (vv _ _ (by omega)) (vv _ _ (by omega)) (fun i i0 i1 => vv _ _ (by omega)), A4.mv (uu _ _ (by omega)) (uu _ _ (by omega)) (fun k k0 k1 => ⟨uu _ _ (by omega), uu _ _ (by omega)⟩) (vv _ _ (by omega)) (vv _ _ (by omega)) (vv _ _ (by omega)) (fun i i0 i1 => vv _ _ (by omega)), A5.mv (fun t a b t0 t1 z => uu _ _ (by omega)) (vv _ _ (by omega)) (fun t i t0 t1 z => vv _ _ (by omega))⟩, ⟨by rw [uu T 2 (by omega), vv 2 2 (by omega)]; exact n2, by rw [uu T 3 (by omega)]; exact n3, by rw [vv 2 5 (by omega)]; exact n5⟩, hM.mv (fun b => uu 4 b (by omega)) (vv 0 15 (by omega)) (vv 0 14 (by omega)), t6, by rw [vv 0 13 (by omega)]; exact h13, ht, ⟨by omega, by omega, ?_⟩, fun q q0 q1 => ?_, fun q q0 q1 => ?_⟩, by omega, fun K k29 hK => rf4 K k29 (n4 _ (b5 _ ⟨by omega, fun σ29 e29 => by
            rw [← y5] at e29
            rw [e29]; exact hK⟩))⟩⟩
          · rw [e4]
            refine sX9_insertEnd (r := r) kc (by rw [u3 _ _ (by omega)]; exact rc) (by omega) (by omega) (fun z => ?_) ?_
            · rw [show T + 22 + t + 3 = T + 25 + t by omega, u3 _ _ (by omega)]
              have := lst z
              exact ⟨by omega, lt' z⟩
            · rw [show T + 22 + t + 3 = T + 25 + t by omega, show T + 22 + t + 6 = T + 28 + t by omega, ← y4]
              exact a5 _ hK
          · have := A2.1.1 f f0 (by omega)
            exact ⟨uu _ _ (by omega), uu _ _ (by omega)⟩
          · rw [u5 _ _ (by omega), y4, zu_eq]
          · by_cases z : q = r
            · rw [z, eD, eL, u5 _ _ (by omega), u5 _ _ (by omega), y4, zu_ne (by omega), zu_ne (by omega), zu_eq, zu_ne (by omega), zu_eq]
              exact ⟨⟨rfl, rfl⟩, by omega, by omega⟩
            · rw [oD q z q0 (by omega), oL q z q0 (by omega), uu _ _ (by omega), uu _ _ (by omega)]
              exact hp q q0 (by omega)
          · by_cases z : q + 1 = r
            · have := lt (by omega)
              rw [oD q (by omega) q0 (by omega), z, eD, show q = r - 1 by omega]
              exact this
            · rw [oD q (by omega) q0 (by omega), oD (q + 1) z (by omega) (by omega)]
              exact hs q q0 (by omega)
        · have b := bad_v (τ := τ3) (e := e)
          exact ⟨e, σ3, zu (bad τ3 e) 2 (59 + (8 * t + r)) (τ3 0 12), fun K hK => cl3 K (c4 _ ⟨by omega, fun z => by omega, fun _ => hK⟩), pA_L u3, (k2'.mo (fun a b z => by omega) : frm pR τ τ2).tr ((pB_R v3).tr (bad_f.z (by omega))), Or.inr ⟨bad_BD t3 (by omega) (frm.wr (P := fun a b => a = 2 ∨ (a = 0 ∧ b = 15)) (Or.inl rfl)), Or.inr (fun K k29 hK => rf4 K k29 (n4 _ ⟨by omega, fun σ29 e29 => by rw [e29]; exact hK⟩))⟩⟩
    · have lt' : ¬ (0 < r → σ (T + 25 + t) (r - 1) < x) := fun z => lt (fun y => by rw [← (lst y).2.2]; exact z y)
      exact fin (-14) (by decide) (fun K hK => cl1 K (fun z => (lt' z).elim) (fun _ => hK)) (fun K k29 hK => rf2 K k29 (fun z => (lt z).elim) (fun _ => sM_check0 h13 (f123b K k29 (-14) (by decide) hK)))
  · exact fin (-11) (by decide) (fun K hK => ⟨kc, by omega, fun z => by omega, fun _ => ⟨by decide, fun z => absurd z (by decide), fun _ => hK⟩⟩) (fun K k29 hK => ⟨by omega, fun z => (k2 z).elim, fun _ => sM_check0 h13 (f69b K k29 (-11) (by decide) hK)⟩)
end SK
