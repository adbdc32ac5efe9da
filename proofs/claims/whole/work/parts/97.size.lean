/-! the statements that give the size, a control, a feature -/
section SZ
variable {σ τ : zSt} {T : Int}
theorem TL.w {P R : Int → Int → Prop} {σ' τ' : zSt} (h : TL σ τ) (u : frm P σ σ') (v : frm R τ τ') (p : ∀ a b, P a b → a ≠ 2 ∧ a ≠ 3) (r : ∀ a b, R a b → a ≠ 4 ∧ ¬ (a = 0 ∧ 7 ≤ b ∧ b ≤ 12)) : TL σ' τ' :=
  frm.TL h u v (fun a b z y => by have := p a b y; omega) (fun b z y => (r 0 b y).2 ⟨rfl, z.1, z.2⟩) (fun b y => (r 4 b y).1 rfl)
theorem zuf {σ : zSt} {k i v : Int} : frm (fun a b => a = k ∧ b = i) σ (zu σ k i v) := frm.wr (P := fun a b => a = k ∧ b = i) ⟨rfl, rfl⟩
theorem Sm_size (h : BI σ τ T) (h16 : τ 0 16 = 0) (n2 : τ 2 2 = 0) (n3 : τ 2 3 = 0) (n4 : τ 2 4 = 0) (n5 : τ 2 5 = 0) : Sm (fun K => fX4_readSize K σ) (fun K => fX12_parseSize K τ) σ τ T := by
  have h0 := h
  obtain ⟨⟨hT, h11⟩, hQ, hn, hM, hL, h13⟩ := h
  obtain ⟨σ1, τ1, a1, b1, t1, u1, v1, q1⟩ := adv hL.1.1
  have g11 : σ1 1 1 = T := by rw [u1 1 1 (by omega)]; exact h11
  have kT : kX T = 8 := by rw [kX_8]; exact hT
  have g13 : τ1 0 13 = 0 := by rw [v1 0 13 (by omega)]; exact h13
  have r0 := hL.r
  have r1 := t1.r
  have m1 : σ 2 6 ≤ σ1 2 6 := by omega
  rcases numb t1 g13 (lo := 4) (hi := 12) (by decide) (by decide) (by decide) (by decide) with ⟨⟨e1, lo1, hi1⟩, c1, d1⟩ | ⟨e, he, c1, d1⟩
  · -- first number good
    have w2 : ∃ σ2, σ2 = zu σ1 T 0 (σ1 2 3) := ⟨_, rfl⟩
    obtain ⟨σ2, e2⟩ := w2
    have f2 : frm (fun a b => a = T ∧ b = 0) σ1 σ2 := by rw [e2]; exact zuf
    have t2 : TL σ2 τ1 := t1.w f2 (frm.rf (P := fun _ _ => False)) (fun a b z => by omega) (fun a b z => z.elim)
    obtain ⟨σ3, τ2, a3, b3, t3, u3, v3, q3⟩ := adv t2.1.1
    have w3 : ∃ τ3, τ3 = zu τ2 2 0 (τ1 0 12) := ⟨_, rfl⟩
    obtain ⟨τ3, e3⟩ := w3
    have f3 : frm (fun a b => a = 2 ∧ b = 0) τ2 τ3 := by rw [e3]; exact zuf
    have t4 : TL σ3 τ3 := t3.w (frm.rf (P := fun _ _ => False)) f3 (fun a b z => z.elim) (fun a b z => by omega)
    have k13 : τ3 0 13 = 0 := by rw [f3 0 13 (by omega), v3 0 13 (by omega)]; exact g13
    have k11 : σ3 1 1 = T := by rw [u3 1 1 (by omega), f2 1 1 (by omega)]; exact g11
    have uu3 : frm (pL T) σ σ3 := (pA_L u1).tr ((f2.mo (fun a b z => by omega)).tr (pA_L u3))
    have vv3 : frm pR τ τ3 := (pB_R v1).tr ((pB_R v3).tr (f3.mo (fun a b z => by omega)))
    have m3 : σ1 2 6 ≤ σ3 2 2 := by rw [f2 2 6 (by omega)] at q3; exact q3
    have r4 := t4.r
    have cl : ∀ K : Int → zSt → Prop, fX4_checkNumber (fun r5 σ5 => zrg r5 ∧ ((r5 = 0 → kX (σ5 1 1) = 8 ∧ ∀ σ8, σ8 = zu σ5 (σ5 1 1) 1 (σ5 2 3) → fX2_advance (fun σ9 => K 0 σ9) σ8) ∧ (¬ r5 = 0 → K r5 σ5))) σ3 4 10 → fX4_readSize K σ := fun K g => a1 _ (c1 _ ⟨by decide, fun _ => ⟨by rw [g11]; exact kT, fun σ4 e4 => by
      rw [g11, ← e2] at e4
      rw [e4]
      exact a3 _ g⟩, fun z => absurd rfl z⟩)
    have rf : ∀ K : zSt → Prop, fX12_readInteger (fun r6 σ6 => ∀ σ7, σ7 = zu σ6 2 1 r6 → K σ7) τ3 4 10 → fX12_parseSize K τ := fun K g => ⟨by omega, fun _ => sM_check1 (by decide) (by decide) (sM_aig h13 (b1 _ (d1 _ (b3 _ (fun σ5 e5 => by
      rw [← e3] at e5
      rw [e5]; exact g))))), fun z => (z h16).elim⟩
    rcases numb t4 k13 (lo := 4) (hi := 10) (by decide) (by decide) (by decide) (by decide) with ⟨⟨e5, lo5, hi5⟩, c5, d5⟩ | ⟨e, he, c5, d5⟩
    · have w4 : ∃ σ4, σ4 = zu σ3 T 1 (σ3 2 3) := ⟨_, rfl⟩
      obtain ⟨σ4, e4⟩ := w4
      have f4 : frm (fun a b => a = T ∧ b = 1) σ3 σ4 := by rw [e4]; exact zuf
      have t5 : TL σ4 τ3 := t4.w f4 (frm.rf (P := fun _ _ => False)) (fun a b z => by omega) (fun a b z => z.elim)
      obtain ⟨σ5, τ4, a5, b5, t6, u5, v5, q5⟩ := adv t5.1.1
      have w5 : ∃ τ5, τ5 = zu τ4 2 1 (τ3 0 12) := ⟨_, rfl⟩
      obtain ⟨τ5, e6⟩ := w5
      have f5 : frm (fun a b => a = 2 ∧ b = 1) τ4 τ5 := by rw [e6]; exact zuf
      have t7 : TL σ5 τ5 := t6.w (frm.rf (P := fun _ _ => False)) f5 (fun a b z => z.elim) (fun a b z => by omega)
      have uu : frm (fun a b => (a = 2 ∧ (b = 1 ∨ b = 2 ∨ b = 3 ∨ b = 6)) ∨ (a = T ∧ (b = 0 ∨ b = 1))) σ σ5 := (u1.mo (fun a b z => Or.inl z)).tr ((f2.mo (fun a b z => by omega)).tr ((u3.mo (fun a b z => Or.inl z)).tr ((f4.mo (fun a b z => by omega)).tr (u5.mo (fun a b z => Or.inl z)))))
      have vv : frm (fun a b => (a = 2 ∧ (b = 0 ∨ b = 1)) ∨ (a = 0 ∧ (8 ≤ b ∧ b ≤ 12))) τ τ5 := (v1.mo (fun a b z => by omega)).tr ((v3.mo (fun a b z => by omega)).tr ((f3.mo (fun a b z => by omega)).tr ((v5.mo (fun a b z => by omega)).tr (f5.mo (fun a b z => by omega)))))
      have x0 : σ5 T 0 = τ1 0 12 := by rw [u5 T 0 (by omega), f4 T 0 (by omega), u3 T 0 (by omega), e2, zu_eq]; exact e1
      have x1 : σ5 T 1 = τ3 0 12 := by rw [u5 T 1 (by omega), e4, zu_eq]; exact e5
      have y1 : τ5 2 1 = τ3 0 12 := by rw [e6, zu_eq]
      have y0 : τ5 2 0 = τ1 0 12 := by rw [f5 2 0 (by omega), v5 2 0 (by omega), e3, zu_eq]
      have m5 : σ3 2 6 ≤ σ5 2 2 := by rw [f4 2 6 (by omega)] at q5; exact q5
      have r7 := t7.r
      refine ⟨0, σ5, τ5, fun K hK => cl K (c5 _ ⟨by decide, fun _ => ⟨by rw [k11]; exact kT, fun σ8 e8 => by
        rw [k11, ← e4] at e8
        rw [e8]; exact a5 _ hK⟩, fun z => absurd rfl z⟩), fun K hK => rf K (d5 _ (b5 _ (fun σ7 e7 => by
        rw [← e6] at e7
        rw [e7]; exact hK))), uu.mo (fun a b z => by omega), vv.mo (fun a b z => by omega), Or.inl ⟨rfl, ⟨⟨hT, by rw [uu 1 1 (by omega)]; exact h11⟩, ⟨⟨by omega, by omega⟩, hQ.2.1.mv (fun b => uu _ _ (by omega)) (fun i _ _ => vv _ _ (by omega)), ?_, ?_, ?_, ?_⟩, ⟨by rw [uu T 2 (by omega), vv 2 2 (by omega)]; exact hn.1, by rw [uu T 3 (by omega), vv 2 5 (by omega)]; exact hn.2⟩, hM.mv (fun b => uu 4 b (by omega)) (vv 0 15 (by omega)) (vv 0 14 (by omega)), t7, by rw [vv 0 13 (by omega)]; exact h13⟩, by omega⟩⟩
      · have z2 : τ5 2 2 = 0 := by rw [vv 2 2 (by omega)]; exact n2
        obtain ⟨⟨s1, s2⟩, -⟩ := hQ.2.2.1
        have z : ∀ b, σ5 (T + 2) b = σ (T + 2) b := fun b => uu _ _ (by omega)
        exact ⟨⟨fun f f0 f1 => by rw [z]; exact s1 f f0 f1, fun f k f0 f1 k0 k1 y => s2 f k f0 f1 k0 k1 (by rw [z, z] at y; exact y)⟩, by omega, fun f f0 f1 => by omega, ⟨fun f f0 f1 => by omega, fun f f0 f1 => by omega⟩, fun f x y f0 f1 => by omega, fun f x y f0 f1 => by omega⟩
      · obtain ⟨p1, p2, p3, p4⟩ := hQ.2.2.2.1
        exact ⟨by rw [uu _ _ (by omega)]; exact p1, by rw [uu _ _ (by omega), vv 2 3 (by omega)]; exact p2, by rw [vv 2 3 (by omega)]; exact p3, fun k k0 k1 => by rw [vv 2 3 (by omega)] at k1; omega⟩
      · obtain ⟨p1, p2, p3, p4⟩ := hQ.2.2.2.2.1
        exact ⟨by rw [uu _ _ (by omega)]; exact p1, by rw [uu _ _ (by omega), vv 2 4 (by omega)]; exact p2, by rw [vv 2 4 (by omega)]; exact p3, fun k k0 k1 => by rw [vv 2 4 (by omega)] at k1; omega⟩
      · exact ⟨by rw [vv 2 5 (by omega)]; omega, fun t t0 t1 => by rw [vv 2 5 (by omega)] at t1; omega⟩
    · have b := bad_v (τ := τ3) (e := e)
      refine ⟨e, σ3, zu (bad τ3 e) 2 1 (τ3 0 12), fun K hK => cl K (c5 _ ⟨by omega, fun z => by omega, fun _ => hK⟩), fun K hK => rf K (d5 _ (fun σ7 e7 => by rw [e7]; exact hK)), uu3, vv3.tr (bad_f.z (by omega)), Or.inr (bad_BD t4 (by omega) (frm.wr (P := fun a b => a = 2 ∨ (a = 0 ∧ b = 15)) (Or.inl rfl)))⟩
  · have b := bad_v (τ := τ1) (e := e)
    have x13 : zu (bad τ1 e) 2 0 (τ1 0 12) 0 13 = e := by rw [zu_ne (by omega)]; exact b.1
    have x10 : zu (bad τ1 e) 2 0 (τ1 0 12) 0 10 = τ1 0 10 := by rw [zu_ne (by omega)]; exact b.2.2.1
    have x12 : zu (bad τ1 e) 2 0 (τ1 0 12) 0 12 = τ1 0 12 := by rw [zu_ne (by omega)]; exact b.2.2.2.1
    refine ⟨e, σ1, zu (zu (bad τ1 e) 2 0 (τ1 0 12)) 2 1 (τ1 0 12), fun K hK => a1 _ (c1 _ ⟨by omega, fun z => by omega, fun _ => hK⟩), fun K hK => ⟨by omega, fun _ => sM_check1 (by decide) (by decide) (sM_aig h13 (b1 _ (d1 _ (fun σ5 e5 => by
      rw [e5]
      refine sM_readIntegerN (by rw [x13]; omega) (by rw [x13]; omega) (by rw [x10]; omega) (by rw [x12]; omega) (by decide) (by decide) (fun σ7 e7 => ?_)
      rw [x12] at e7
      rw [e7]; exact hK)))), fun z => (z h16).elim⟩, pA_L u1, (pB_R v1).tr ((bad_f.z (by omega)).z (by omega)), Or.inr (bad_BD t1 (by omega) ((frm.wr (P := fun a b => a = 2 ∨ (a = 0 ∧ b = 15)) (Or.inl rfl)).z (Or.inl rfl)))⟩
theorem sX7_isFull {K : Int → zSt → Prop} {c n mx : Int} (hk : kX c = 7) (e0 : σ c 0 = mx) (e3 : σ c 3 = n) (hn : zrg n) (hm : zrg mx) (h0 : n < mx → K 0 σ) (h1 : ¬ n < mx → K 1 σ) : fX7_isFull K σ c := by
  unfold fX7_isFull
  rw [e0, e3]
  exact ⟨hk, hn, hm, h0, h1⟩
theorem sX7_add {K : zSt → Prop} {c n mx x y : Int} (hk : kX c = 7) (e0 : σ c 0 = mx) (e3 : σ c 3 = n) (hn : 0 ≤ n ∧ n < mx) (hm : mx ≤ 6) (hK : K (zu (zu (zu σ c 3 (n + 1)) (c + 1) n x) (c + 2) n y)) : fX7_add K σ c x y := by
  refine ⟨hk, sX7_isFull hk e0 e3 (by omega) (by omega) (fun _ => ⟨by decide, fun _ σ3 es => ?_, fun z => absurd rfl z⟩) (fun z => (z hn.2).elim)⟩
  rw [e3] at es
  have c3 : σ3 c 3 = n + 1 := by rw [es, zu_eq]
  rw [c3, show n + 1 - 1 = n by omega]
  refine ⟨hk, hk, by omega, fun z => by omega, fun _ => ⟨by omega, fun z => by omega, fun _ => ⟨by decide, fun z => absurd z (by decide), fun _ => ⟨by omega, fun σ4 e4 σ5 e5 => ?_⟩⟩⟩⟩
  rw [e5, e4, es]
  exact hK
theorem Qp.push {σ' : zSt} {E E' : zD} {c q b mx n x y : Int} (h : Qp σ c E q b mx) (en : E q = n) (hx : 0 ≤ x ∧ x < E 0) (hy : 0 ≤ y ∧ y < E 1) (h1 : n < mx) (g0 : σ' c 0 = σ c 0) (g3 : σ' c 3 = n + 1) (gx : σ' (c + 1) n = x) (gy : σ' (c + 2) n = y) (g : ∀ k, 0 ≤ k → k < n → σ' (c + 1) k = σ (c + 1) k ∧ σ' (c + 2) k = σ (c + 2) k) (eq : E' q = n + 1) (e0 : E' 0 = E 0) (e1 : E' 1 = E 1) (ex : E' (b + 2 * n) = x) (ey : E' (b + 2 * n + 1) = y) (e : ∀ i, b ≤ i → i < b + 2 * n → E' i = E i) : Qp σ' c E' q b mx := by
  obtain ⟨a1, a2, a3, a4⟩ := h
  refine ⟨g0.trans a1, g3.trans eq.symm, by omega, fun k k0 k1 => ?_⟩
  rw [e0, e1]
  by_cases z : k = n
  · rw [z, gx, gy, ex, ey]
    exact ⟨⟨rfl, rfl⟩, hx, hy⟩
  · have := g k k0 (by omega)
    rw [this.1, this.2, e _ (by omega) (by omega), e _ (by omega) (by omega)]
    exact a4 k k0 (by omega)
end SZ
