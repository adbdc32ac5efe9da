/-! both sides together: load -/
section LD
variable {σ τ : zSt} {m : Int}
theorem XA.f5 {σ' : zSt} {D : zD} {T : Int} (h : XA σ D) (hT : T = 73 ∨ T = 104) (g : ∀ a b, ¬ ((1 ≤ a ∧ a ≤ 4) ∨ (a = 0 ∧ b = 7) ∨ (T ≤ a ∧ a < T + 31)) → σ' a b = σ a b) (hs : Sc σ' (σ' 0 0) D) : XA σ' D := by
  obtain ⟨⟨-, hv, ho, hc⟩, ht⟩ := h
  have e8 : σ' 0 8 = σ 0 8 := g _ _ (by omega)
  have e7 : σ' 17 0 = σ 17 0 := g _ _ (by omega)
  refine ⟨⟨hs, by rw [e8]; exact hv, by rw [e7, e8]; exact ho, fun e => ?_⟩, ht.fr (fun a b z => g a b (by omega))⟩
  rw [e7, e8] at e
  exact (hc e).fr (fun a b a0 a1 _ => g a b (by omega))
abbrev pTs (T : Int) : Int → Int → Prop := fun a b => a = 2 ∨ (a = 0 ∧ b = 7) ∨ a = 4 ∨ ((T ≤ a ∧ a < T + 31) ∧ a ≠ T + 2 ∧ ¬ (b = 0 ∧ (a = T + 4 ∨ a = T + 7)))
abbrev pVs : Int → Int → Prop := fun a b => a = 2 ∨ (a = 0 ∧ (b = 4 ∨ (6 ≤ b ∧ b ≤ 16)))
theorem load_no {D V : zD} {n : Nat} {C : Nat → chg} {H : Nat → zD} {s : zSt} {t : zSt} {T : Int} (w : TV σ τ m D V n C H) (eT : T = 177 - σ 0 0) (F : frm (pTs T) σ s) (G : frm pVs τ t) (e20 : s 2 0 = 0) (e6 : t 0 6 = 0) (e7 : s 0 7 = t 0 14) : TW s t (m + 1) := by
  have w0 := w
  obtain ⟨h1, h2, h3, h4, h5, h6, h7, h8, h9, h10⟩ := w0
  have hb := h3.vb w.wf
  have hS := h2.1.1
  obtain ⟨⟨t1, sl1, sl2⟩, ⟨t2, t3, t4⟩, t5, t6, t7⟩ := h10
  rw [← eT] at t1 sl1 sl2
  have hT : T = 73 ∨ T = 104 := by omega
  have x00 : s 0 0 = σ 0 0 := F 0 0 (by omega)
  have R : Rp s (s 0 0) V := by rw [x00]; exact h2.mv hb (fun a b a0 a1 => F a b (by omega))
  refine ⟨D, V, n, C, H, h1.f5 hT (fun a b z => F a b (by omega)) (R.sc h3 w.wf), R, h3, h4, h5.fr (fun a b a0 a1 => F a b (by omega)), G.D h6 (fun b => by omega), h7.fr (fun b => G 3 b (by omega)) (G 0 3 (by omega)) (fun i _ => G 1 i (by omega)), h8, by rw [F 0 8 (by omega)]; omega, ⟨⟨?_, fun f f0 f1 => ?_, fun f g f0 f1 g0 g1 e => ?_⟩, ⟨?_, ?_, fun j p0 p1 => ?_⟩, e7, ?_, fun j p0 p1 => ?_⟩⟩
  · rw [F 1 1 (by omega), x00, ← eT]; exact t1
  · rw [x00, ← eT, F _ _ (by omega)]; exact sl1 f f0 f1
  · rw [x00, ← eT, F _ _ (by omega), F _ _ (by omega)] at e; exact sl2 f g f0 f1 g0 g1 e
  · rw [e20, e6]
  · rw [e20]; decide
  · rw [e20] at p1; omega
  · rw [F _ _ (by omega), F _ _ (by omega), F _ _ (by omega), F _ _ (by omega)]; exact t6
  · rw [e20] at p1; omega
theorem load_yes {D V D' : zD} {n : Nat} {C : Nat → chg} {H : Nat → zD} {s : zSt} {t : zSt} {T : Int} (w : TV σ τ m D V n C H) (hm : m < 99999) (eT : T = 177 - σ 0 0) (F : ∀ a b, ¬ (a = 0 ∨ a = 1 ∨ a = 2 ∨ a = 4 ∨ (a = 5 ∧ b = 0) ∨ ((T ≤ a ∧ a < T + 31) ∧ a ≠ T + 2 ∧ ¬ (b = 0 ∧ (a = T + 4 ∨ a = T + 7)))) → s a b = σ a b) (x00 : s 0 0 = T) (x08 : s 0 8 = σ 0 8 + 1) (x50 : s 5 0 = 0) (x11 : s 1 1 = σ 0 0) (e20 : s 2 0 = 0) (e6 : t 0 6 = 0) (e7 : s 0 7 = t 0 14) (y3 : t 0 3 = 0) (eD : t 1 = D') (qa : QA s T D') (d2 : s T 2 = D' 2) (d5 : s T 3 = D' 5) : TW s t (m + 1) := by
  have w0 := w
  obtain ⟨h1, h2, h3, h4, h5, h6, h7, h8, h9, h10⟩ := w0
  have hS := h2.1.1
  obtain ⟨⟨t1, sl1, sl2⟩, ⟨t2, t3, t4⟩, t5, t6, t7⟩ := h10
  have hT : T = 73 ∨ T = 104 := by omega
  have hv := h1.1.2.1
  have ho := h1.1.2.2.1
  obtain ⟨q1, q2, q3⟩ := qa.view hT d2 d5
  have ee : 177 - T = σ 0 0 := by omega
  refine ⟨D', vw s T D', 0, C, H, ⟨⟨by rw [x00]; exact q1.sc q2 qa.wf, by omega, ?_, fun e => ?_⟩, fun i p0 p1 => ?_⟩, by rw [x00]; exact q1, q2, q3, ⟨x50, by decide, ?_, fun h hh => absurd hh (Nat.not_lt_zero h)⟩, eD, ⟨y3, by decide, fun h hh => absurd hh (Nat.not_lt_zero h)⟩, trivial, by omega, ⟨⟨?_, fun f f0 f1 => ?_, fun f g f0 f1 g0 g1 e => ?_⟩, ⟨by rw [e20, e6], by omega, fun j p0 p1 => by omega⟩, e7, ?_, fun j p0 p1 => by omega⟩⟩
  · rw [F 17 0 (by omega)]; omega
  · rw [F 17 0 (by omega)] at e; omega
  · have k := (h1.2 i p0 p1).1
    rw [F (24 + i) 0 (by omega)]
    exact ⟨by omega, fun e => by omega⟩
  · rw [F 5 1 (by omega)]; exact h5.2.2.1
  · rw [x11, x00]; omega
  · rw [x00, ee, F _ _ (by omega)]
    exact h2.2.1.1 f f0 f1
  · rw [x00, ee, F _ _ (by omega), F _ _ (by omega)] at e
    exact h2.2.1.2.1 f g f0 f1 g0 g1 e
  · rw [F 77 0 (by omega), F 80 0 (by omega), F 108 0 (by omega), F 111 0 (by omega)]; exact t6
theorem WFs_init {E : zD} (h : ∀ i, 0 ≤ i → i < 8 → E (83 + i) = cINIT i) : WFs E := by
  have h0 := h 0 (by decide) (by decide)
  have h1 := h 1 (by decide) (by decide)
  have h2 := h 2 (by decide) (by decide)
  have h3 := h 3 (by decide) (by decide)
  have h4 := h 4 (by decide) (by decide)
  have h5 := h 5 (by decide) (by decide)
  have h6 := h 6 (by decide) (by decide)
  have h7 := h 7 (by decide) (by decide)
  rw [show (83 : Int) + 0 = 83 by decide, show cINIT 0 = 1 by decide] at h0
  rw [show (83 : Int) + 1 = 84 by decide, show cINIT 1 = 2 by decide] at h1
  rw [show (83 : Int) + 2 = 85 by decide, show cINIT 2 = 1 by decide] at h2
  rw [show (83 : Int) + 3 = 86 by decide, show cINIT 3 = 2 by decide] at h3
  rw [show (83 : Int) + 4 = 87 by decide, show cINIT 4 = 2 by decide] at h4
  rw [show (83 : Int) + 5 = 88 by decide, show cINIT 5 = 100 by decide] at h5
  rw [show (83 : Int) + 6 = 89 by decide, show cINIT 6 = 10 by decide] at h6
  rw [show (83 : Int) + 7 = 90 by decide, show cINIT 7 = 50 by decide] at h7
  unfold WFs
  omega
theorem cmd_load {x : Int} (h : TW σ τ m) (hm : m < 99999) (hx : zrg x) : fX11_load (cP (m + 1) (fun K => fX12_load K τ x)) σ x := by
  obtain ⟨D, V, n, C, H, w⟩ := h
  have w0 := w
  obtain ⟨h1, h2, h3, h4, h5, h6, h7, h8, h9, h10⟩ := w0
  have hb := h3.vb w.wf
  have hS := h2.1.1
  obtain ⟨⟨t1, sl1, sl2⟩, ⟨t2, t3, t4⟩, t5, t6, t7⟩ := h10
  obtain ⟨T, eT⟩ : ∃ T, T = 177 - σ 0 0 := ⟨_, rfl⟩
  rw [← eT] at t1 sl1 sl2
  have hT : T = 73 ∨ T = 104 := by omega
  have kT : kX T = 8 := by rw [kX_8]; exact hT
  have kS : kX (σ 0 0) = 8 := by rw [kX_8]; exact hS
  have hv := h1.1.2.1
  have ho := h1.1.2.2.1
  obtain ⟨τ1, e1⟩ : ∃ τ1, τ1 = zu τ 0 4 0 := ⟨_, rfl⟩
  have f1 : frm p4 τ τ1 := by rw [e1]; exact frm.wr (P := p4) ⟨rfl, rfl⟩
  have no : ¬ (0 ≤ x ∧ x ≤ σ 2 0) → cP (m + 1) (fun K => fX12_load K τ x) (-2) σ := fun z => by
    intro τ1' e1'
    rw [← e1] at e1'
    rw [e1']
    refine sM_inRange hx (by decide) (by rw [f1 0 6 (by omega)]; omega) (fun a b => (z ⟨a, by rw [f1 0 6 (by omega)] at b; omega⟩).elim) (fun _ => ⟨by decide, fun _ => ⟨rfl, w.no f1⟩, fun y => absurd rfl y⟩)
  refine ⟨hx, fun z => no (by omega), fun z => ⟨by omega, fun xs => ?_, fun y => no (by omega)⟩⟩
  -- the class empties its other scene
  obtain ⟨σ1, a1, u1, ⟨i0, i1, i2, i3, i4, i7⟩, is⟩ := rsX (σ := σ) hT
  obtain ⟨σ2, a2, u2, ig⟩ := givX (σ := σ1) (x := x)
  obtain ⟨σ3, e3⟩ : ∃ σ3, σ3 = zu (zu σ2 2 5 x) 2 6 0 := ⟨_, rfl⟩
  have u3 : frm (fun a b => a = 2 ∧ (b = 5 ∨ b = 6)) σ2 σ3 := by rw [e3]; exact (frm.wr (P := fun a b => a = 2 ∧ (b = 5 ∨ b = 6)) (by omega)).z (by omega)
  -- the reference
  obtain ⟨τ2, e2⟩ : ∃ τ2, τ2 = zu (zu (zu (zu (zu (zu τ1 0 7 x) 0 8 0) 0 13 0) 0 14 (-1)) 0 15 0) 0 16 0 := ⟨_, rfl⟩
  have v2 : frm (fun a b => a = 0 ∧ (b = 7 ∨ b = 8 ∨ b = 13 ∨ b = 14 ∨ b = 15 ∨ b = 16)) τ1 τ2 := by
    rw [e2]
    exact (((((frm.wr (P := fun a b => a = 0 ∧ (b = 7 ∨ b = 8 ∨ b = 13 ∨ b = 14 ∨ b = 15 ∨ b = 16)) (by omega)).z (by omega)).z (by omega)).z (by omega)).z (by omega)).z (by omega)
  have r2 : τ2 0 7 = x ∧ τ2 0 8 = 0 ∧ τ2 0 13 = 0 ∧ τ2 0 14 = -1 ∧ τ2 0 15 = 0 ∧ τ2 0 16 = 0 := by
    rw [e2]
    refine ⟨?_, ?_, ?_, ?_, ?_, ?_⟩
    · rw [zu_ne (by omega), zu_ne (by omega), zu_ne (by omega), zu_ne (by omega), zu_ne (by omega), zu_eq]
    · rw [zu_ne (by omega), zu_ne (by omega), zu_ne (by omega), zu_ne (by omega), zu_eq]
    · rw [zu_ne (by omega), zu_ne (by omega), zu_ne (by omega), zu_eq]
    · rw [zu_ne (by omega), zu_ne (by omega), zu_eq]
    · rw [zu_ne (by omega), zu_eq]
    · rw [zu_eq]
  obtain ⟨τ3, b3, v3, ⟨j0, j1⟩, js, jz⟩ := rsM (τ := τ2)
  have uu3 : frm (fun a b => (a = 2 ∧ b ≠ 0) ∨ a = 4 ∨ ((T ≤ a ∧ a < T + 31) ∧ a ≠ T + 2 ∧ ¬ (b = 0 ∧ (a = T + 4 ∨ a = T + 7)))) σ σ3 := (u1.mo (fun a b z => by omega)).tr ((u2.mo (fun a b z => by omega)).tr (u3.mo (fun a b z => by omega)))
  have vv3 : frm (fun a b => a = 2 ∨ (a = 0 ∧ (b = 4 ∨ (7 ≤ b ∧ b ≤ 16)))) τ τ3 := (f1.mo (fun a b z => by omega)).tr ((v2.mo (fun a b z => by omega)).tr (v3.mo (fun a b z => by omega)))
  have tb : TB σ3 τ3 := by
    refine ⟨?_, ?_, ?_, ?_, fun j q0 q1 => ?_⟩
    · rw [e3, zu_ne (by omega), zu_eq, v3 0 7 (by omega), r2.1]
    · rw [e3, zu_ne (by omega), zu_eq]; omega
    · rw [e3, zu_eq, v3 0 8 (by omega), r2.2.1]
    · rw [e3, zu_eq, zu_ne (by omega), zu_eq]; omega
    · rw [e3, zu_ne (by omega), zu_eq] at q1
      rw [uu3 3 j (by omega), vv3 4 j (by omega)]
      exact t4 j q0 (by omega)
  obtain ⟨σ4, τ4, a4, b4, tl, u4, v4, q4⟩ := adv tb
  have uu4 : frm (fun a b => (a = 2 ∧ b ≠ 0) ∨ a = 4 ∨ ((T ≤ a ∧ a < T + 31) ∧ a ≠ T + 2 ∧ ¬ (b = 0 ∧ (a = T + 4 ∨ a = T + 7)))) σ σ4 := uu3.tr (u4.mo (fun a b z => by omega))
  have vv4 : frm (fun a b => a = 2 ∨ (a = 0 ∧ (b = 4 ∨ (7 ≤ b ∧ b ≤ 16)))) τ τ4 := vv3.tr (v4.mo (fun a b z => by omega))
  -- cells of the emptied scene
  have sT : ∀ a b, T ≤ a → a < T + 31 → σ4 a b = σ1 a b := fun a b a0 a1 => by rw [u4 a b (by omega), u3 a b (by omega), u2 a b (by omega)]
  have eE : ∀ i, τ4 2 i = τ3 2 i := fun i => v4 2 i (by omega)
  have caps : σ (T + 4) 0 = 4 ∧ σ (T + 7) 0 = 6 := by
    rcases hT with z | z <;> rw [z]
    · exact ⟨t6.1, t6.2.1⟩
    · exact ⟨t6.2.2.1, t6.2.2.2⟩
  have z2 : τ4 2 2 = 0 := by rw [eE]; exact jz 2 (by decide) (by decide)
  have z3 : τ4 2 3 = 0 := by rw [eE]; exact jz 3 (by decide) (by decide)
  have z4 : τ4 2 4 = 0 := by rw [eE]; exact jz 4 (by decide) (by decide)
  have z5 : τ4 2 5 = 0 := by rw [eE]; exact jz 5 (by decide) (by decide)
  have slT : ∀ b, σ4 (T + 2) b = σ (T + 2) b := fun b => uu4 _ _ (by omega)
  have g13 : τ4 0 13 = 0 := by rw [v4 0 13 (by omega), v3 0 13 (by omega)]; exact r2.2.2.1
  have g14 : τ4 0 14 = -1 := by rw [v4 0 14 (by omega), v3 0 14 (by omega)]; exact r2.2.2.2.1
  have g15 : τ4 0 15 = 0 := by rw [v4 0 15 (by omega), v3 0 15 (by omega)]; exact r2.2.2.2.2.1
  have g16 : τ4 0 16 = 0 := by rw [v4 0 16 (by omega), v3 0 16 (by omega)]; exact r2.2.2.2.2.2
  have bi : BI σ4 τ4 T := by
    refine ⟨⟨hT, by rw [uu4 1 1 (by omega)]; exact t1⟩, ⟨⟨⟨?_, ?_, ?_⟩, ⟨?_, ?_, ?_⟩⟩, ⟨fun i p0 p1 => ?_, WFs_init (fun i p0 p1 => by rw [eE]; exact js i p0 p1)⟩, ⟨⟨fun f f0 f1 => by rw [slT]; exact sl1 f f0 f1, fun f k f0 f1 k0 k1 y => sl2 f k f0 f1 k0 k1 (by rw [slT, slT] at y; exact y)⟩, by omega, fun f f0 f1 => by omega, ⟨fun f f0 f1 => by omega, fun f f0 f1 => by omega⟩, fun f x y f0 f1 => by omega, fun f x y f0 f1 => by omega⟩, ⟨?_, ?_, by omega, fun k k0 k1 => by omega⟩, ⟨?_, ?_, by omega, fun k k0 k1 => by omega⟩, ⟨by omega, fun t t0 t1 => by omega⟩⟩, ⟨?_, ?_⟩, ⟨⟨by omega, by omega, g14⟩, fun i p0 p1 => ?_⟩, tl, g13⟩
    · rw [sT _ _ (by omega) (by omega), eE]; omega
    · rw [eE]; omega
    · rw [eE]; omega
    · rw [sT _ _ (by omega) (by omega), eE]; omega
    · rw [eE]; omega
    · rw [eE]; omega
    · rw [sT _ _ (by omega) (by omega), eE, is i p0 p1, js i p0 p1]
    · rw [uu4 _ _ (by omega)]; exact caps.1
    · rw [sT _ _ (by omega) (by omega), z3]; exact i4
    · rw [uu4 _ _ (by omega)]; exact caps.2
    · rw [sT _ _ (by omega) (by omega), z4]; exact i7
    · rw [sT _ _ (by omega) (by omega), z2]; exact i2
    · rw [sT _ _ (by omega) (by omega), z5]; exact i3
    · have k : σ4 4 i = 0 := by rw [u4 _ _ (by omega), u3 _ _ (by omega)]; exact ig i p0 p1
      rw [k, g15]
      refine ⟨Or.inl rfl, ?_⟩
      rw [Int.zero_ediv]; rfl
  have l4 : σ4 2 5 = x := by rw [u4 2 5 (by omega), e3, zu_ne (by omega), zu_eq]
  have rb : RBc σ4 := fun j p0 p1 => by
    rw [l4] at p1
    rw [uu4 3 j (by omega)]; exact t7 j p0 (by omega)
  have tl4 := tl.r
  obtain ⟨r, σ', τ', ⟨k, ga⟩, ⟨k', gb⟩, u5, v5, fi⟩ := texts (L := x) x.toNat σ4 τ4 0 bi rb l4 ⟨by decide, by omega⟩ g16 (fun _ => ⟨z2, z3, z4, z5⟩) (by omega)
  have uu : frm (fun a b => (a = 2 ∧ b ≠ 0) ∨ a = 4 ∨ ((T ≤ a ∧ a < T + 31) ∧ a ≠ T + 2 ∧ ¬ (b = 0 ∧ (a = T + 4 ∨ a = T + 7)))) σ σ' := uu4.tr (u5.mo (fun a b z => by omega))
  have vv : frm (fun a b => a = 2 ∨ (a = 0 ∧ (b = 4 ∨ (7 ≤ b ∧ b ≤ 16)))) τ τ' := vv4.tr (v5.mo (fun a b z => by omega))
  have cl : ∀ K : Int → zSt → Prop, K r σ' → fX4_readText K σ x := fun K hK => by
    unfold fX4_readText
    rw [t1]
    refine ⟨kT, a1 _ (a2 _ ?_)⟩
    intro s5 es5 s6 es6
    rw [es6, es5, ← e3]
    exact a4 _ ⟨k, ga K hK⟩
  have rf : ∀ K : Int → zSt → Prop, fX12_load_B115 K τ' → fX12_load K τ x := fun K hK => by
    intro τ1' e1'
    rw [← e1] at e1'
    rw [e1']
    refine sM_inRange hx (by decide) (by rw [f1 0 6 (by omega)]; omega) (fun a b => ⟨by decide, fun y => absurd y (by decide), fun _ s4 es4 s5 es5 s6 es6 s7 es7 s8 es8 s9 es9 => ?_⟩) (fun y => (y ⟨by omega, by rw [f1 0 6 (by omega)]; omega⟩).elim)
    rw [es9, es8, es7, es6, es5, es4, ← e2]
    exact b3 _ (b4 _ ⟨k', gb K hK⟩)
  refine cl _ ?_
  intro s4 es4
  obtain ⟨τ5, e5⟩ : ∃ τ5, τ5 = zu τ' 0 6 0 := ⟨_, rfl⟩
  have n00 : σ' 0 0 = σ 0 0 := uu 0 0 (by omega)
  rcases fi with ⟨r0, r1, gi, g16'⟩ | bd
  · -- read
    refine ⟨by omega, fun _ s6 es6 => ?_, fun y => (y r0).elim⟩
    obtain ⟨gi1, gi2, gi3, gi4, gi5, gi6⟩ := gi
    have w6 : s6 0 0 = σ 0 0 := by rw [es6, zu_ne (by omega), es4, zu_ne (by omega)]; exact n00
    have w61 : s6 1 1 = T := by rw [es6, zu_ne (by omega), es4, zu_ne (by omega)]; exact gi1.2
    rw [w6]
    refine ⟨kS, kS, by rw [w61]; exact kT, fun s7 es7 => ?_⟩
    rw [w61]
    refine ⟨kT, fun s10 es10 s11 es11 s12 es12 => ?_⟩
    have w8 : s11 0 8 = σ 0 8 := by rw [es11, zu_ne (by omega), es10, zu_ne (by omega), es7, zu_ne (by omega), es6, zu_ne (by omega), es4, zu_ne (by omega)]; exact uu 0 8 (by omega)
    rw [w8] at es12
    have F : frm (fun a b => (a = 2 ∧ b = 0) ∨ (a = 0 ∧ (b = 7 ∨ b = 0 ∨ b = 8)) ∨ (a = 1 ∧ b = 1) ∨ (a = 5 ∧ b = 0)) σ' s12 := by
      rw [es12, es11, es10, es7, es6, es4]
      exact (((((frm.wr (P := fun a b => (a = 2 ∧ b = 0) ∨ (a = 0 ∧ (b = 7 ∨ b = 0 ∨ b = 8)) ∨ (a = 1 ∧ b = 1) ∨ (a = 5 ∧ b = 0)) (by omega)).z (by omega)).z (by omega)).z (by omega)).z (by omega)).z (by omega)
    have x00 : s12 0 0 = T := by rw [es12, zu_ne (by omega), es11, zu_ne (by omega), es10, zu_eq]
    have x08 : s12 0 8 = σ 0 8 + 1 := by rw [es12, zu_eq]
    have x50 : s12 5 0 = 0 := by rw [es12, zu_ne (by omega), es11, zu_eq]
    have x11 : s12 1 1 = σ 0 0 := by rw [es12, zu_ne (by omega), es11, zu_ne (by omega), es10, zu_ne (by omega), es7, zu_eq]
    have x07 : s12 0 7 = -1 := by rw [es12, zu_ne (by omega), es11, zu_ne (by omega), es10, zu_ne (by omega), es7, zu_ne (by omega), es6, zu_eq]
    have x20 : s12 2 0 = 0 := by rw [es12, zu_ne (by omega), es11, zu_ne (by omega), es10, zu_ne (by omega), es7, zu_ne (by omega), es6, zu_ne (by omega), es4, zu_eq]
    refine rf _ (fun s16 es16 => ?_)
    rw [← e5] at es16
    rw [es16]
    have y13 : τ5 0 13 = 0 := by rw [e5, zu_ne (by omega)]; exact gi6
    obtain ⟨τ6, b6, v6, y3, yc⟩ := cpM (τ := τ5)
    refine ⟨by omega, fun _ => b6 _ ?_, fun y => (y y13).elim⟩
    refine ⟨by rw [v6 0 16 (by omega), e5, zu_ne (by omega)]; exact g16', ?_⟩
    have d2 : τ6 1 2 = τ' 2 2 := by rw [yc 2 (by decide) (by decide), e5, zu_ne (by omega)]
    have d5 : τ6 1 5 = τ' 2 5 := by rw [yc 5 (by decide) (by decide), e5, zu_ne (by omega)]
    refine load_yes w hm eT (fun a b z => by rw [F a b (by omega), uu a b (by omega)]) x00 x08 x50 x11 x20 (by rw [v6 0 6 (by omega), e5, zu_eq]) (by rw [x07, v6 0 14 (by omega), e5, zu_ne (by omega), gi4.1.2.2]) y3 rfl ?_ (by rw [F T 2 (by omega), d2]; exact gi3.1) (by rw [F T 3 (by omega), d5]; exact gi3.2)
    refine (gi2.mv (σ' := s12) (fun a b a0 a1 => F a b (by omega))).cg (fun i p0 p1 => ?_)
    rw [yc i p0 p1, e5, zu_ne (by omega)]
  · -- refused
    have b := bd
    unfold BD at b
    refine ⟨by omega, fun y => by omega, fun _ s13 es13 => ?_⟩
    have w22 : s4 2 2 = σ' 2 2 := by rw [es4, zu_ne (by omega)]
    rw [w22, es4] at es13
    refine rf _ (fun s16 es16 => ?_)
    rw [← e5] at es16
    rw [es16]
    have y13 : τ5 0 13 = r := by rw [e5, zu_ne (by omega)]; exact b.2.1
    refine ⟨by omega, fun y => by omega, fun _ => ⟨y13, ?_⟩⟩
    have F : frm (pTs T) σ s13 := by
      rw [es13]
      exact ((uu.mo (fun a b z => by omega)).z (by omega)).z (by omega)
    have G : frm pVs τ τ5 := by
      rw [e5]
      exact (vv.mo (fun a b z => by omega)).z (by omega)
    exact load_no w eT F G (by rw [es13, zu_ne (by omega), zu_eq]) (by rw [e5, zu_eq]) (by rw [es13, zu_eq, e5, zu_ne (by omega)]; exact b.2.2.1.symm)
end LD
