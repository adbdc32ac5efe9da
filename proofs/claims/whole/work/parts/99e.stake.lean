/-! the statement that gives a stake: its readings one after another -/
section SL
variable {T t : Int}
theorem Qk.push {σ : zSt} {E E' : zD} {r : Int} (h : Qk σ T E) (et : E 5 = t) (ht : 0 ≤ t ∧ t < 3) (hr : 0 ≤ r ∧ r ≤ 8) (c0 : σ (T + 22 + t) 0 = r) (hp : ∀ q, 0 ≤ q → q < r → (σ (T + 25 + t) q = dS E t q ∧ σ (T + 28 + t) q = lS E t q) ∧ (0 ≤ dS E t q ∧ dS E t q ≤ 9999) ∧ (0 ≤ lS E t q ∧ lS E t q ≤ 9999)) (hs : ∀ q, 0 ≤ q → q + 1 < r → dS E t q < dS E t (q + 1)) (e5 : E' 5 = t + 1) (en : E' (32 + t) = r) (e : ∀ i, i ≠ 5 → i ≠ 32 + t → E' i = E i) : Qk σ T E' := by
  refine ⟨by omega, fun u u0 u1 => ?_⟩
  by_cases z : u = t
  · subst z
    have eD : ∀ q, 0 ≤ q → q < 8 → dS E' u q = dS E u q := fun q q0 q8 => e _ (by omega) (by omega)
    have eL : ∀ q, 0 ≤ q → q < 8 → lS E' u q = lS E u q := fun q q0 q8 => e _ (by omega) (by omega)
    have en' : nS E' u = r := en
    refine ⟨by rw [en']; exact ⟨c0, hr⟩, fun q q0 q1 => ?_, fun q q0 q1 => ?_⟩
    · rw [en'] at q1
      rw [eD q q0 (by omega), eL q q0 (by omega)]; exact hp q q0 q1
    · rw [en'] at q1
      rw [eD q q0 (by omega), eD (q + 1) (by omega) (by omega)]; exact hs q q0 q1
  · have k := h.2 u u0 (by omega)
    have nb := k.1
    exact k.mv (fun a b _ => rfl) (fun i hi => e i (by omega) (by omega))
theorem BD.w {rr : Int} {σ τ τ' : zSt} (h : BD rr σ τ) (v : frm (fun a _ => a = 2) τ τ') : BD rr σ τ' := by
  unfold BD at h ⊢
  rw [v 0 13 (by omega), v 0 14 (by omega), v 0 10 (by omega)]
  exact h
theorem ps193 {K : zSt → Prop} {τ : zSt} {k : Nat} {r : Int} (ht : 0 ≤ t ∧ t ≤ 3) (h : τ 0 13 ≠ 0) (hz : zrg (τ 0 13)) (hK : K (zu (zu τ 2 (32 + t) r) 2 5 (τ 2 5 + 1))) : fX12_parseStake_B29 K (k + 1) τ t r := by
  rw [uX12_parseStake_B29]
  refine ⟨hz, fun z => (h z).elim, fun _ => ⟨by omega, fun σ10 e10 σ11 e11 => ?_⟩⟩
  have : σ10 2 5 = τ 2 5 := by rw [e10, zu_ne (by omega)]
  rw [this, e10] at e11
  rw [e11]; exact hK
theorem stk193 {rr : Int} {σ σ' τ' : zSt} {r : Int} (ht : 0 ≤ t ∧ t ≤ 3) (hBD : BD rr σ' τ') (hf : ∀ K : Int → zSt → Prop, K rr σ' → fX4_readReading K σ (T + 22 + t)) (_hr : 0 ≤ r ∧ r ≤ 8) : (∀ K : zSt → Prop, K (zu (zu τ' 2 (32 + t) (r + 1)) 2 5 (τ' 2 5 + 1)) → fX12_parseStake_B29 K (0 + 1) τ' t (r + 1)) ∧ BD rr σ' (zu (zu τ' 2 (32 + t) (r + 1)) 2 5 (τ' 2 5 + 1)) := by
  have b := hBD
  unfold BD at b
  exact ⟨fun K hK => ps193 ht (by omega) (by omega) hK, hBD.w ((frm.wr (P := fun a _ => a = 2) rfl).z rfl)⟩
theorem stk : ∀ (m : Nat) (σ τ : zSt) (r : Int), SR σ τ T t r → 1 ≤ r → r + m = 8 → ∃ rr σ' τ', (∃ k, ∀ K : Int → zSt → Prop, K rr σ' → fX4_readStake_B49 K k σ (T + 22 + t) 0 (r - 1)) ∧ (∃ k, ∀ K : zSt → Prop, K τ' → fX12_parseStake_B29 K k τ t r) ∧ frm (pL T) σ σ' ∧ frm pR τ τ' ∧ ((rr = 0 ∧ BI σ' τ' T ∧ σ 2 6 ≤ σ' 2 6) ∨ BD rr σ' τ') := by
  have main : ∀ (σ τ : zSt) (r : Int), SR σ τ T t r → 1 ≤ r → (r < 8 → ∀ σ1 τ1, SR σ1 τ1 T t (r + 1) → ∃ rr σ' τ', (∃ k, ∀ K : Int → zSt → Prop, K rr σ' → fX4_readStake_B49 K k σ1 (T + 22 + t) 0 (r + 1 - 1)) ∧ (∃ k, ∀ K : zSt → Prop, K τ' → fX12_parseStake_B29 K k τ1 t (r + 1)) ∧ frm (pL T) σ1 σ' ∧ frm pR τ1 τ' ∧ ((rr = 0 ∧ BI σ' τ' T ∧ σ1 2 6 ≤ σ' 2 6) ∨ BD rr σ' τ')) → ∃ rr σ' τ', (∃ k, ∀ K : Int → zSt → Prop, K rr σ' → fX4_readStake_B49 K k σ (T + 22 + t) 0 (r - 1)) ∧ (∃ k, ∀ K : zSt → Prop, K τ' → fX12_parseStake_B29 K k τ t r) ∧ frm (pL T) σ σ' ∧ frm pR τ τ' ∧ ((rr = 0 ∧ BI σ' τ' T ∧ σ 2 6 ≤ σ' 2 6) ∨ BD rr σ' τ') := by
    intro σ τ r h r1 ih
    have h0 := h
    obtain ⟨⟨hT, h11⟩, hQ, ⟨n2, n3, n5⟩, hM, hL, h13, ht, ⟨r0, r8, rc⟩, hp, hs⟩ := h
    have q0 := hL.r
    by_cases k2 : τ 0 10 = 2
    · obtain ⟨rr, σ1, τ1, ga, u1, v1, fi⟩ := reading h0 (fun _ => k2)
      have rf : ∀ (K : zSt → Prop) k, fX12_parseStake_B48 K (fX12_parseStake_B29 K k) τ t r → fX12_parseStake_B29 K (k + 1) τ t r := fun K k g => by
        rw [uX12_parseStake_B29]
        exact ⟨by omega, fun _ => ⟨by omega, fun z => by omega, fun _ => ⟨by omega, fun _ => g, fun z => (z k2).elim⟩⟩, fun z => (z h13).elim⟩
      have cl : ∀ (K : Int → zSt → Prop) k, fX4_readStake_B49 K k σ1 (T + 22 + t) rr (r - 1 + 1) → fX4_readStake_B49 K (k + 1) σ (T + 22 + t) 0 (r - 1) := fun K k g => by
        rw [uX4_readStake_B49]
        exact ⟨by omega, fun z => by omega, fun _ => ⟨by decide, fun _ => ⟨by omega, fun _ => ga _ g, fun z => by omega⟩, fun z => absurd rfl z⟩⟩
      rcases fi with ⟨e0, r7, s1, m1, gb⟩ | ⟨bd, gb⟩
      · subst e0
        obtain ⟨rr, σ', τ', ⟨k, gc⟩, ⟨k', gd⟩, u2, v2, fi⟩ := ih r7 σ1 τ1 s1
        refine ⟨rr, σ', τ', ⟨k + 1, fun K hK => cl K k ?_⟩, ⟨k' + 1, fun K hK => rf K k' (gb K _ (gd K hK))⟩, u1.tr u2, v1.tr v2, fi.imp (fun z => ⟨z.1, z.2.1, by have := z.2.2; omega⟩) id⟩
        rw [show r - 1 + 1 = r + 1 - 1 by omega]
        exact gc K hK
      · have b := bd
        unfold BD at b
        have cl' : ∀ K : Int → zSt → Prop, K rr σ1 → fX4_readStake_B49 K (0 + 1 + 1) σ (T + 22 + t) 0 (r - 1) := fun K hK => cl K (0 + 1) (by
          rw [uX4_readStake_B49]
          exact ⟨by omega, fun _ => hK, fun _ => ⟨by omega, fun z => by omega, fun _ => hK⟩⟩)
        rcases gb with gb | gb
        · exact ⟨rr, σ1, τ1, ⟨_, cl'⟩, ⟨0 + 1, fun K hK => rf K 0 (gb K _ hK)⟩, u1, v1, Or.inr bd⟩
        · obtain ⟨x1, x2⟩ := stk193 (T := T) (t := t) (r := r) (by omega) bd ga (by omega)
          exact ⟨rr, σ1, _, ⟨_, cl'⟩, ⟨0 + 1 + 1, fun K hK => rf K (0 + 1) (gb K _ (x1 K hK))⟩, u1, v1.tr ((frm.wr (P := pR) (Or.inl rfl)).z (Or.inl rfl)), Or.inr x2⟩
    · have w2 : ∃ τ1, τ1 = zu (zu τ 2 (32 + t) r) 2 5 (t + 1) := ⟨_, rfl⟩
      obtain ⟨τ1, e1⟩ := w2
      have vv : frm (fun a b => a = 2 ∧ (b = 5 ∨ b = 32 + t)) τ τ1 := by rw [e1]; exact (frm.wr (P := fun a b => a = 2 ∧ (b = 5 ∨ b = 32 + t)) (by omega)).z (by omega)
      obtain ⟨A0, A1, A2, A3, A4, A5⟩ := hQ
      have z0 := A0
      unfold Q0 at z0
      have a2r := A2.2.1
      have a3r := A3.2.2.1
      have a4r := A4.2.2.1
      refine ⟨0, σ, τ1, ⟨0 + 1, fun K hK => ?_⟩, ⟨0 + 1, fun K hK => ?_⟩, frm.rf, vv.mo (fun a b z => by omega), Or.inl ⟨rfl, ⟨⟨hT, h11⟩, ⟨A0.mv rfl rfl (vv _ _ (by omega)) (vv _ _ (by omega)), A1.mv (fun b => rfl) (fun i _ _ => vv _ _ (by omega)), A2.mv z0.1.2.2 z0.2.2.2 (fun b => rfl) (fun f b f0 f1 => ⟨rfl, rfl⟩) (fun i hi => vv _ _ (by omega)), A3.mv rfl rfl (fun k k0 k1 => ⟨rfl, rfl⟩) (vv _ _ (by omega)) (vv _ _ (by omega)) (vv _ _ (by omega)) (fun i i0 i1 => vv _ _ (by omega)), A4.mv rfl rfl (fun k k0 k1 => ⟨rfl, rfl⟩) (vv _ _ (by omega)) (vv _ _ (by omega)) (vv _ _ (by omega)) (fun i i0 i1 => vv _ _ (by omega)), A5.push n5 ht ⟨r0, r8⟩ rc hp hs (by rw [e1, zu_eq]) (by rw [e1, zu_ne (by omega), zu_eq]) (fun i i5 i32 => vv 2 i (by omega))⟩, ⟨by rw [vv 2 2 (by omega)]; exact n2, by rw [e1, zu_eq]; exact n3⟩, hM.mv (fun b => rfl) (vv 0 15 (by omega)) (vv 0 14 (by omega)), hL.w (frm.rf (P := fun _ _ => False)) vv (fun a b z => z.elim) (fun a b z => by omega), by rw [vv 0 13 (by omega)]; exact h13⟩, Int.le_refl _⟩⟩
      · rw [uX4_readStake_B49]
        exact ⟨by omega, fun z => by omega, fun _ => ⟨by decide, fun _ => ⟨by omega, fun z => by omega, fun _ => hK⟩, fun z => absurd rfl z⟩⟩
      · rw [uX12_parseStake_B29]
        refine ⟨by omega, fun _ => ⟨by omega, fun z => by omega, fun _ => ⟨by omega, fun z => (k2 z).elim, fun _ => ⟨by omega, fun σ10 e10 σ11 e11 => ?_⟩⟩⟩, fun z => (z h13).elim⟩
        have : σ10 2 5 = t := by rw [e10, zu_ne (by omega)]; exact n5
        rw [this, e10, ← e1] at e11
        rw [e11]; exact hK
  intro m
  induction m with
  | zero =>
    intro σ τ r h r1 e
    exact main σ τ r h r1 (fun z => by omega)
  | succ m ih =>
    intro σ τ r h r1 e
    exact main σ τ r h r1 (fun _ σ1 τ1 h1 => ih σ1 τ1 (r + 1) h1 (by omega) (by omega))
theorem Sm_stake {σ τ : zSt} (h : BI σ τ T) : Sm (fun K => kX (σ 1 1) = 8 ∧ zrg (σ (σ 1 1) 3) ∧ ((3 ≤ σ (σ 1 1) 3 → K (-15) σ) ∧ (¬ 3 ≤ σ (σ 1 1) 3 → fX4_readStake K σ))) (fun K => fX12_parseStake K τ) σ τ T := by
  have h0 := h
  obtain ⟨⟨hT, h11⟩, hQ, ⟨hn, hn5⟩, hM, hL, h13⟩ := h
  have kT : kX T = 8 := by rw [kX_8]; exact hT
  have q0 := hL.r
  have a5r := hQ.2.2.2.2.2.1
  generalize e5 : τ 2 5 = t at hn5 a5r
  by_cases full : 3 ≤ t
  · have b := bad_v (τ := τ) (e := -15)
    have n13 : bad τ (-15) 0 13 ≠ 0 := by rw [b.1]; decide
    have z13 : zrg (bad τ (-15) 0 13) := by rw [b.1]; decide
    refine ⟨-15, σ, zu (zu (bad τ (-15)) 2 (32 + t) 0) 2 5 (bad τ (-15) 2 5 + 1), fun K hK => ⟨by rw [h11]; exact kT, by rw [h11, hn5]; omega, fun _ => hK, fun z => by rw [h11, hn5] at z; omega⟩, fun K hK => ?_, frm.rf, bad_f.tr ((frm.wr (P := pR) (Or.inl rfl)).z (Or.inl rfl)), Or.inr (bad_BD hL (by decide) ((frm.wr (P := fun a b => a = 2 ∨ (a = 0 ∧ b = 15)) (Or.inl rfl)).z (Or.inl rfl)))⟩
    unfold fX12_parseStake
    rw [e5]
    exact ⟨by omega, fun _ => sM_check0 h13 (sM_aigN n13 z13 ⟨0 + 1, ps193 (by omega) n13 z13 hK⟩), fun z => (z full).elim⟩
  have ht : 0 ≤ t ∧ t < 3 := by omega
  have w2 : ∃ σ2, σ2 = zu (zu σ T 3 (t + 1)) (T + 22 + t) 0 0 := ⟨_, rfl⟩
  obtain ⟨σ2, y2⟩ := w2
  have f2 : frm (fun a b => (a = T ∧ b = 3) ∨ (a = T + 22 + t ∧ b = 0)) σ σ2 := by rw [y2]; exact (frm.wr (P := fun a b => (a = T ∧ b = 3) ∨ (a = T + 22 + t ∧ b = 0)) (by omega)).z (by omega)
  have t2 : TL σ2 τ := hL.w f2 (frm.rf (P := fun _ _ => False)) (fun a b z => by omega) (fun a b z => z.elim)
  obtain ⟨σ3, τ3, a3, b3, t3, u3, v3, q3⟩ := adv t2.1.1
  have uu : frm (fun a b => (a = 2 ∧ (b = 1 ∨ b = 2 ∨ b = 3 ∨ b = 6)) ∨ (a = T ∧ b = 3) ∨ (a = T + 22 + t ∧ b = 0)) σ σ3 := (f2.mo (fun a b z => Or.inr z)).tr (u3.mo (fun a b z => Or.inl z))
  have vv : frm (fun a b => a = 0 ∧ (8 ≤ b ∧ b ≤ 12)) τ τ3 := v3
  have m3 : σ 2 6 ≤ σ3 2 2 := by rw [f2 2 6 (by omega)] at q3; exact q3
  have r3 := t3.r
  obtain ⟨A0, A1, A2, A3, A4, A5⟩ := hQ
  have z0 := A0
  unfold Q0 at z0
  have a2r := A2.2.1
  have a3r := A3.2.2.1
  have a4r := A4.2.2.1
  have g13 : τ3 0 13 = 0 := by rw [vv 0 13 (by omega)]; exact h13
  have hS : SR σ3 τ3 T t 0 := by
    refine ⟨⟨hT, by rw [uu 1 1 (by omega)]; exact h11⟩, ⟨A0.mv (uu _ _ (by omega)) (uu _ _ (by omega)) (vv _ _ (by omega)) (vv _ _ (by omega)), A1.mv (fun b => uu _ _ (by omega)) (fun i _ _ => vv _ _ (by omega)), A2.mv z0.1.2.2 z0.2.2.2 (fun b => uu _ _ (by omega)) (fun f b f0 f1 => ?_) (fun i hi => vv _ _ (by omega)), A3.mv (uu _ _ (by omega)) (uu _ _ (by omega)) (fun k k0 k1 => ⟨uu _ _ (by omega), uu _ _ (by omega)⟩) (vv _ _ (by omega)) (vv _ _ (by omega)) (vv _ _ (by omega)) (fun i i0 i1 => vv _ _ (by omega)), A4.mv (uu _ _ (by omega)) (uu _ _ (by omega)) (fun k k0 k1 => ⟨uu _ _ (by omega), uu _ _ (by omega)⟩) (vv _ _ (by omega)) (vv _ _ (by omega)) (vv _ _ (by omega)) (fun i i0 i1 => vv _ _ (by omega)), A5.mv (fun t a b t0 t1 z => uu _ _ (by omega)) (vv _ _ (by omega)) (fun t i t0 t1 z => vv _ _ (by omega))⟩, ⟨by rw [uu T 2 (by omega), vv 2 2 (by omega)]; exact hn, by rw [u3 _ _ (by omega), y2, zu_ne (by omega), zu_eq], by rw [vv 2 5 (by omega)]; exact e5⟩, hM.mv (fun b => uu 4 b (by omega)) (vv 0 15 (by omega)) (vv 0 14 (by omega)), t3, g13, ht, ⟨by decide, by decide, by rw [u3 _ _ (by omega), y2, zu_eq]⟩, fun q q0 q1 => by omega, fun q q0 q1 => by omega⟩
    have := A2.1.1 f f0 (by omega)
    exact ⟨uu _ _ (by omega), uu _ _ (by omega)⟩
  have pl : frm (pL T) σ σ3 := uu.mo (fun a b z => by omega)
  have pr : frm pR τ τ3 := vv.mo (fun a b z => by omega)
  obtain ⟨rr, σ1, τ1, ga, u1, v1, fi⟩ := reading hS (fun z => absurd z (by decide))
  have cl : ∀ K : Int → zSt → Prop, (∃ n, fX4_readStake_B49 K n σ1 (T + 22 + t) rr 0) → (kX (σ 1 1) = 8 ∧ zrg (σ (σ 1 1) 3) ∧ ((3 ≤ σ (σ 1 1) 3 → K (-15) σ) ∧ (¬ 3 ≤ σ (σ 1 1) 3 → fX4_readStake K σ))) := fun K g => by
    rw [h11, hn5]
    refine ⟨kT, by omega, fun z => by omega, fun _ => ?_⟩
    unfold fX4_readStake
    rw [h11, hn5, show T + 3 + 19 + t = T + 22 + t by omega]
    refine ⟨kT, by omega, fun σ3' e3 σ4 e4 => ?_⟩
    rw [e3, ← y2] at e4
    rw [e4]
    exact a3 _ (ga _ g)
  have rf : ∀ (K : zSt → Prop) k, fX12_parseStake_B48 K (fX12_parseStake_B29 K k) τ3 t 0 → fX12_parseStake K τ := fun K k g => by
    unfold fX12_parseStake
    rw [e5]
    refine ⟨by omega, fun z => (full z).elim, fun _ => sM_check1 (by decide) (by decide) (sM_aig h13 (b3 _ ⟨k + 1, ?_⟩))⟩
    rw [uX12_parseStake_B29]
    exact ⟨by omega, fun _ => ⟨by decide, fun _ => g, fun z => absurd rfl z⟩, fun z => (z g13).elim⟩
  rcases fi with ⟨e0, r7, s1, m1, gb⟩ | ⟨bd, gb⟩
  · subst e0
    obtain ⟨rr, σ', τ', ⟨k, gc⟩, ⟨k', gd⟩, u2, v2, fi⟩ := stk 7 σ1 τ1 1 s1 (by decide) (by decide)
    exact ⟨rr, σ', τ', fun K hK => cl K ⟨k, gc K hK⟩, fun K hK => rf K k' (gb K _ (gd K hK)), pl.tr (u1.tr u2), pr.tr (v1.tr v2), fi.imp (fun z => ⟨z.1, z.2.1, by have := z.2.2; omega⟩) id⟩
  · have b := bd
    unfold BD at b
    have cl' : ∀ K : Int → zSt → Prop, K rr σ1 → ∃ n, fX4_readStake_B49 K n σ1 (T + 22 + t) rr 0 := fun K hK => ⟨0 + 1, by
      rw [uX4_readStake_B49]
      exact ⟨by decide, fun _ => hK, fun _ => ⟨by omega, fun z => by omega, fun _ => hK⟩⟩⟩
    rcases gb with gb | gb
    · exact ⟨rr, σ1, τ1, fun K hK => cl K (cl' K hK), fun K hK => rf K 0 (gb K _ hK), pl.tr u1, pr.tr v1, Or.inr bd⟩
    · obtain ⟨x1, x2⟩ := stk193 (T := T) (t := t) (r := 0) (by omega) bd ga (by decide)
      exact ⟨rr, σ1, _, fun K hK => cl K (cl' K hK), fun K hK => rf K (0 + 1) (gb K _ (x1 K hK)), pl.tr u1, pr.tr (v1.tr ((frm.wr (P := pR) (Or.inl rfl)).z (Or.inl rfl))), Or.inr x2⟩
end SL
