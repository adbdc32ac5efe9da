/-! the reference's history; its undo; changes of a setting, a pixel, a feature -/
def HR (σ : zSt) (n : Nat) (H : Nat → zD) : Prop := σ 0 3 = (n : Int) ∧ n ≤ 10 ∧ ∀ h : Nat, h < n → (∀ i, 0 ≤ i → i < 811 → σ 3 (((n : Int) - 1 - (h : Int)) * 811 + i) = H h i) ∧ (∀ i, ¬ (0 ≤ i ∧ i < 811) → H h i = σ 1 i)
def hcn (D : zD) (H : Nat → zD) : Nat → zD
  | 0 => D
  | k + 1 => H k
abbrev pH : Int → Int → Prop := fun a b => a = 3 ∨ (a = 0 ∧ b = 3)
theorem zu_1 (σ : zSt) (k v : Int) : zu σ 1 k v 1 = vup (σ 1) k v := by
  funext i
  unfold vup
  by_cases h : i = k
  · rw [if_pos h, h, zu_eq]
  · rw [if_neg h, zu_ne (Or.inr h)]
section HX
variable {D : zD} {σ : zSt} {n : Nat} {H : Nat → zD}
theorem HR.fr {τ : zSt} (h : HR σ n H) (g : ∀ b, τ 3 b = σ 3 b) (g0 : τ 0 3 = σ 0 3) (g1 : ∀ i, ¬ (0 ≤ i ∧ i < 811) → τ 1 i = σ 1 i) : HR τ n H := by
  obtain ⟨h1, h2, h3⟩ := h
  refine ⟨g0.trans h1, h2, fun k hk => ⟨fun i i0 i1 => (g _).trans ((h3 k hk).1 i i0 i1), fun i hi => ?_⟩⟩
  rw [g1 i hi]; exact (h3 k hk).2 i hi
theorem sM_remember_B54 {K : zSt → Prop} (hn : n < 10) (h0 : HR σ n H) (hK : ∀ τ, frm pH σ τ → HR τ (n + 1) (hcn (σ 1) H) → K τ) : ∀ (m : Nat) (j : Int) (τ : zSt), j + m = 811 → 0 ≤ j → frm (fun a _ => a = 3) σ τ → (∀ i, 0 ≤ i → i < j → τ 3 ((n : Int) * 811 + i) = σ 1 i) → (∀ k, k < (n : Int) * 811 → τ 3 k = σ 3 k) → fX12_remember_B54 K (m + 1) τ j := by
  obtain ⟨h1, h2, h3⟩ := h0
  intro m
  induction m with
  | zero =>
    intro j τ e j0 fr hc hs
    have c3 : τ 0 3 = (n : Int) := (fr 0 3 (by omega)).trans h1
    rw [uX12_remember_B54]
    refine ⟨by omega, fun _ σ3 e3 => ?_, fun z => (z (by omega)).elim⟩
    rw [c3] at e3
    have k3 : ∀ b, σ3 3 b = τ 3 b := fun b => by rw [e3, zu_ne (by omega)]
    have k1 : ∀ b, σ3 1 b = σ 1 b := fun b => by rw [e3, zu_ne (by omega)]; exact fr 1 b (by omega)
    refine hK σ3 (by rw [e3]; exact (fr.mo (fun a b z => Or.inl z)).z (Or.inr ⟨rfl, rfl⟩)) ⟨by rw [e3, zu_eq]; omega, by omega, fun h hm => ?_⟩
    cases h with
    | zero =>
      refine ⟨fun i i0 i1 => ?_, fun i hi => (k1 i).symm⟩
      rw [k3, show (((n + 1 : Nat) : Int) - 1 - ((0 : Nat) : Int)) * 811 + i = (n : Int) * 811 + i by omega]
      exact hc i i0 (by omega)
    | succ h =>
      obtain ⟨x, y⟩ := h3 h (by omega)
      refine ⟨fun i i0 i1 => ?_, fun i hi => by rw [k1]; exact y i hi⟩
      rw [k3, show (((n + 1 : Nat) : Int) - 1 - ((h + 1 : Nat) : Int)) * 811 + i = ((n : Int) - 1 - (h : Int)) * 811 + i by omega, hs _ (by omega)]
      exact x i i0 i1
  | succ m ih =>
    intro j τ e j0 fr hc hs
    have c3 : τ 0 3 = (n : Int) := (fr 0 3 (by omega)).trans h1
    have c1 : τ 1 j = σ 1 j := fr 1 j (by omega)
    rw [uX12_remember_B54, c3, c1]
    refine ⟨by omega, fun z => by omega, fun _ => ⟨by omega, by omega, fun σ6 e6 => ih (j + 1) σ6 (by omega) (by omega) (by rw [e6]; exact fr.z rfl) (fun i i0 i1 => ?_) (fun k hk => ?_)⟩⟩
    · by_cases w : i = j
      · rw [e6, w, zu_eq]
      · rw [e6, zu_ne (by omega)]; exact hc i i0 (by omega)
    · rw [e6, zu_ne (by omega)]; exact hs k hk
theorem sM_remember_B13 {K : zSt → Prop} (h0 : HR σ 10 H) (hK : ∀ τ, frm pH σ τ → HR τ 10 (hcn (σ 1) H) → K τ) : ∀ (m : Nat) (j : Int) (τ : zSt), j + m = 8110 → 811 ≤ j → frm (fun a _ => a = 3) σ τ → (∀ i, 0 ≤ i → i < j - 811 → τ 3 i = σ 3 (i + 811)) → (∀ i, j - 811 ≤ i → τ 3 i = σ 3 i) → fX12_remember_B13 K (m + 1) τ j := by
  obtain ⟨h1, h2, h3⟩ := h0
  intro m
  induction m with
  | zero =>
    intro j τ e j0 fr hc hs
    have c3 : τ 0 3 = 10 := (fr 0 3 (by omega)).trans h1
    rw [uX12_remember_B13]
    refine ⟨by omega, fun _ σ8 e8 => ?_, fun z => (z (by omega)).elim⟩
    rw [c3] at e8
    have fr8 : frm pH σ σ8 := by rw [e8]; exact (fr.mo (fun a b z => Or.inl z)).z (Or.inr ⟨rfl, rfl⟩)
    have e1 : σ8 1 = σ 1 := by funext b; exact fr8 1 b (by omega)
    have H9 : HR σ8 9 H := by
      refine ⟨by rw [e8, zu_eq]; rfl, by decide, fun h hm => ?_⟩
      obtain ⟨x, y⟩ := h3 h (by omega)
      refine ⟨fun i i0 i1 => ?_, fun i hi => by rw [e1]; exact y i hi⟩
      rw [e8, zu_ne (by omega), hc _ (by omega) (by omega), ← x i i0 i1]
      rw [show (((9 : Nat) : Int) - 1 - (h : Int)) * 811 + i + 811 = (((10 : Nat) : Int) - 1 - (h : Int)) * 811 + i by omega]
    have hh := sM_remember_B54 (K := K) (n := 9) (by decide) H9 (fun υ u1 u2 => hK υ (fr8.tr u1) (by rw [e1] at u2; exact u2)) 811 0 σ8 (by decide) (by decide) frm.rf (fun i a b => by omega) (fun k _ => rfl)
    exact ⟨_, hh⟩
  | succ m ih =>
    intro j τ e j0 fr hc hs
    rw [uX12_remember_B13]
    refine ⟨by omega, fun z => by omega, fun _ => ⟨by omega, by omega, fun σ11 e11 => ih (j + 1) σ11 (by omega) (by omega) (by rw [e11]; exact fr.z rfl) (fun i i0 i1 => ?_) (fun i i0 => ?_)⟩⟩
    · by_cases w : i = j - 811
      · rw [e11, w, zu_eq, hs j (by omega), show j - 811 + 811 = j by omega]
      · rw [e11, zu_ne (by omega)]; exact hc i i0 (by omega)
    · rw [e11, zu_ne (by omega)]; exact hs i (by omega)
theorem sM_remember {K : zSt → Prop} (h0 : HR σ n H) (hK : ∀ τ, frm pH σ τ → HR τ (rec1 n) (hcn (σ 1) H) → K τ) : fX12_remember K σ := by
  have h1 := h0.1
  have h2 := h0.2.1
  refine ⟨by omega, fun z => ?_, fun z => ?_⟩
  · have en : n = 10 := by omega
    subst en
    have hh := sM_remember_B13 (K := K) h0 hK 7299 811 σ (by decide) (by decide) frm.rf (fun i a b => by omega) (fun i _ => rfl)
    exact ⟨_, hh⟩
  · have e : rec1 n = n + 1 := by show min (n + 1) 10 = n + 1; omega
    rw [e] at hK
    have hh := sM_remember_B54 (K := K) (by omega) h0 hK 811 0 σ (by decide) (by decide) frm.rf (fun i a b => by omega) (fun k _ => rfl)
    exact ⟨_, hh⟩
theorem sM_undo_B26 {K : Int → zSt → Prop} {m : Nat} (h0 : HR σ (m + 1) H) (hK : ∀ τ, frm (fun a b => a = 1 ∨ (a = 0 ∧ (b = 3 ∨ b = 4))) σ τ → τ 1 = H 0 → HR τ m (fun k => H (k + 1)) → K m τ) : ∀ (k : Nat) (j : Int) (τ : zSt), j + k = 811 → 0 ≤ j → frm (fun a b => a = 1 ∨ (a = 0 ∧ (b = 3 ∨ b = 4))) σ τ → τ 0 3 = (m : Int) → (∀ i, 0 ≤ i → i < j → τ 1 i = H 0 i) → (∀ i, ¬ (0 ≤ i ∧ i < 811) → τ 1 i = σ 1 i) → fX12_undo_B26 K (k + 1) τ j := by
  obtain ⟨h1, h2, h3⟩ := h0
  intro k
  induction k with
  | zero =>
    intro j τ e j0 fr c3 hc hs
    rw [uX12_undo_B26, c3]
    have eD : τ 1 = H 0 := by
      funext i
      rcases Classical.em (0 ≤ i ∧ i < 811) with w | w
      · exact hc i w.1 (by omega)
      · rw [hs i w]; exact ((h3 0 (by omega)).2 i w).symm
    refine ⟨by omega, fun _ => hK τ fr eD ⟨c3, by omega, fun h hm => ?_⟩, fun z => (z (by omega)).elim⟩
    obtain ⟨x, y⟩ := h3 (h + 1) (by omega)
    refine ⟨fun i i0 i1 => ?_, fun i hi => ?_⟩
    · rw [fr _ _ (by omega)]
      show _ = H (h + 1) i
      rw [← x i i0 i1, show (((m + 1 : Nat) : Int) - 1 - ((h + 1 : Nat) : Int)) * 811 + i = ((m : Int) - 1 - (h : Int)) * 811 + i by omega]
    · rw [hs i hi]; exact y i hi
  | succ k ih =>
    intro j τ e j0 fr c3 hc hs
    rw [uX12_undo_B26, c3]
    refine ⟨by omega, fun z => by omega, fun _ => ⟨by omega, by omega, fun σ7 e7 => ih (j + 1) σ7 (by omega) (by omega) (by rw [e7]; exact fr.z (Or.inl rfl)) (by rw [e7, zu_ne (by omega)]; exact c3) (fun i i0 i1 => ?_) (fun i hi => ?_)⟩⟩
    · by_cases w : i = j
      · rw [e7, w, zu_eq, fr _ _ (by omega), ← (h3 0 (by omega)).1 j j0 (by omega)]
        rw [show (((m + 1 : Nat) : Int) - 1 - ((0 : Nat) : Int)) * 811 + j = (m : Int) * 811 + j by omega]
      · rw [e7, zu_ne (by omega)]; exact hc i i0 (by omega)
    · rw [e7, zu_ne (by omega)]; exact hs i hi
theorem rM_undo {K : Int → zSt → Prop} (h0 : HR σ n H) (hK : ∀ m : Nat, n = m + 1 → ∀ τ, frm (fun a b => a = 1 ∨ (a = 0 ∧ (b = 3 ∨ b = 4))) σ τ → τ 1 = H 0 → HR τ m (fun k => H (k + 1)) → K m τ) (hN : n = 0 → ∀ τ, frm p4 σ τ → K (-1) τ) : fX12_undo K σ := fun σ1 e1 => by
  have h1 := h0.1
  have h2 := h0.2.1
  have fr : frm p4 σ σ1 := by rw [e1]; exact frm.wr ⟨rfl, rfl⟩
  have c3 : σ1 0 3 = (n : Int) := (fr 0 3 (by omega)).trans h1
  rw [c3]
  refine ⟨by omega, fun z => hN (by omega) σ1 fr, fun z σ3 e3 => ?_⟩
  obtain ⟨m, hm⟩ : ∃ m : Nat, n = m + 1 := ⟨n - 1, by omega⟩
  subst hm
  have fr3 : frm (fun a b => a = 1 ∨ (a = 0 ∧ (b = 3 ∨ b = 4))) σ σ3 := by rw [e3]; exact (fr.mo (fun a b z => Or.inr ⟨z.1, Or.inr z.2⟩)).z (Or.inr ⟨rfl, Or.inl rfl⟩)
  have hh := sM_undo_B26 (K := K) h0 (fun τ u1 u2 u3 => hK m rfl τ u1 u2 u3) 811 0 σ3 (by decide) (by decide) fr3 (by rw [e3, zu_eq]; omega) (fun i a b => by omega) (fun i hi => by rw [e3, zu_ne (by omega)]; exact fr 1 i (by omega))
  exact ⟨_, hh⟩
theorem rM_undoCount {K : Int → zSt → Prop} (h0 : HR σ n H) (hK : ∀ τ, frm p4 σ τ → K n τ) : fX12_undoCount K σ := fun σ1 e1 => by
  have fr : frm p4 σ σ1 := by rw [e1]; exact frm.wr ⟨rfl, rfl⟩
  rw [(fr 0 3 (by omega)).trans h0.1]
  exact hK σ1 fr
abbrev pMm : Int → Int → Prop := fun a b => a = 1 ∨ a = 3 ∨ (a = 0 ∧ (b = 3 ∨ b = 4))
theorem sM_least {K : Int → zSt → Prop} {i : Int} (hi : zrg i) (hK : K (cLEAST i) σ) : fX12_leastOf K σ i := by
  unfold cLEAST at hK
  refine ⟨hi, fun z => ?_, fun z => ⟨fun y => ?_, fun y => ⟨fun x => ?_, fun x => ?_⟩⟩⟩
  · rw [if_pos z] at hK; exact hK
  · rw [if_neg z, if_pos y] at hK; exact hK
  · rw [if_neg z, if_neg y, if_pos x] at hK; exact hK
  · rw [if_neg z, if_neg y, if_neg x] at hK; exact hK
theorem sM_most {K : Int → zSt → Prop} {i : Int} (hi : zrg i) (hK : K (cGREAT i) σ) : fX12_mostOf K σ i := by
  have k : ∀ r, cGREAT i = r → K r σ := fun r e => by rw [← e]; exact hK
  refine ⟨hi, fun z => k _ ?_, fun z => k _ ?_, fun z => k _ ?_, fun z => k _ ?_, fun z => k _ ?_, fun z => k _ ?_, fun z => k _ ?_, fun z => k _ ?_⟩
  · rw [z]; decide
  · rw [z]; decide
  · rw [z]; decide
  · rw [z]; decide
  · rw [z]; decide
  · rw [z]; decide
  · rw [z]; decide
  · unfold cGREAT; rw [if_neg (by omega), if_neg (by omega), if_neg (by omega), if_neg (by omega), if_neg (by omega), if_neg (by omega), if_neg (by omega)]
theorem rM_setSetting {K : Int → zSt → Prop} {i v : Int} (hd : σ 1 = D) (h0 : HR σ n H) (hi : zrg i) (hv : zrg v) (h1 : 0 ≤ i → i < 8 → cLEAST i ≤ v → v ≤ cGREAT i → ∀ τ, frm pMm σ τ → τ 1 = vup D (83 + i) v → HR τ (rec1 n) (hcn D H) → K (D (83 + i)) τ) (hN : ¬ ((0 ≤ i ∧ i < 8) ∧ cLEAST i ≤ v ∧ v ≤ cGREAT i) → ∀ τ, frm p4 σ τ → K (-2) τ) : fX12_setSetting K σ i v := fun σ1 e1 => by
  have fr : frm p4 σ σ1 := by rw [e1]; exact frm.wr ⟨rfl, rfl⟩
  have cl := cLG i
  have d1 : σ1 1 = D := p4_D fr hd
  have hr : HR σ1 n H := h0.fr (fun b => fr 3 b (by omega)) (fr 0 3 (by omega)) (fun i _ => fr 1 i (by omega))
  refine sM_inRange hi (by decide) (by decide) (fun a b => zb1 (sM_least hi (sM_most hi (sM_inRange hv (by omega) (by omega) (fun c d => zb1 (sM_remember hr (fun τ u1 u2 => sM_setting a (by omega) ⟨by omega, fun σ11 e11 => ?_⟩))) (fun z => zb0 (hN (fun y => z y.2) σ1 fr)))))) (fun z => zb0 (hN (fun y => z ⟨y.1.1, by omega⟩) σ1 fr))
  have d2 : τ 1 = D := u1.D d1 (fun b => by omega)
  rw [d2]
  rw [d1] at u2
  refine h1 a (by omega) c d σ11 (by rw [e11]; exact ((fr.mo (fun a b z => by omega)).tr (u1.mo (fun a b z => by omega))).z (by omega)) (by rw [e11, zu_1, d2]) (u2.fr (fun b => by rw [e11, zu_ne (by omega)]) (by rw [e11, zu_ne (by omega)]) (fun i hi => by rw [e11, zu_ne (by omega)]))
theorem rM_setPixel {K : Int → zSt → Prop} {f x y v : Int} (hd : σ 1 = D) (hD : WF D) (h0 : HR σ n H) (hf : zrg f) (hx : zrg x) (hy : zrg y) (hv : zrg v) (h1 : isFr D f → isPx D x y → 0 ≤ v → v ≤ 9 → ∀ τ, frm pMm σ τ → τ 1 = vup D (91 + 120 * f + (12 * y + x)) v → HR τ (rec1 n) (hcn D H) → K 1 τ) (hN : ¬ (isFr D f ∧ isPx D x y ∧ 0 ≤ v ∧ v ≤ 9) → ∀ τ, frm p4 σ τ → K 0 τ) : fX12_setPixel K σ f x y v := fun σ1 e1 => by
  have q := hD.1
  unfold WFa at q
  have fr : frm p4 σ σ1 := by rw [e1]; exact frm.wr ⟨rfl, rfl⟩
  have d1 : σ1 1 = D := p4_D fr hd
  have hr : HR σ1 n H := h0.fr (fun b => fr 3 b (by omega)) (fr 0 3 (by omega)) (fun i _ => fr 1 i (by omega))
  refine sM_isFrame d1 hD hf (fun f0 f1 => zb1 (sM_isPixel d1 hD hx hy (fun p => zb1 (sM_inRange hv (by decide) (by decide) (fun a b => zb1 (sM_remember hr (fun τ u1 u2 => ⟨by have := p.1; have := p.2.1; have := p.2.2; omega, fun σ10 e10 => ?_⟩))) (fun z => zb0 (hN (fun y => z y.2.2) σ1 fr)))) (fun z => zb0 (hN (fun y => z y.2.1) σ1 fr)))) (fun z => zb0 (hN (fun y => z y.1) σ1 fr))
  have d2 : τ 1 = D := u1.D d1 (fun b => by omega)
  have pp := p.2.2
  rw [d1] at u2
  rw [show 91 + 120 * f + 12 * y + x = 91 + 120 * f + (12 * y + x) by omega] at e10
  refine h1 ⟨f0, f1⟩ p a b σ10 (by rw [e10]; exact ((fr.mo (fun a b z => by omega)).tr (u1.mo (fun a b z => by omega))).z (by omega)) (by rw [e10, zu_1, d2]) (u2.fr (fun b => by rw [e10, zu_ne (by omega)]) (by rw [e10, zu_ne (by omega)]) (fun i hi => by have := p.1; have := p.2.1; rw [e10, zu_ne (by omega)]))
theorem rM_moveFeature {K : Int → zSt → Prop} {i x y : Int} (hd : σ 1 = D) (hD : WF D) (h0 : HR σ n H) (hi : zrg i) (hx : zrg x) (hy : zrg y) (h1 : isFt D i → isPx D x y → ∀ τ, frm pMm σ τ → τ 1 = vup (vup D (20 + 2 * i) x) (20 + 2 * i + 1) y → HR τ (rec1 n) (hcn D H) → K 1 τ) (hN : ¬ (isFt D i ∧ isPx D x y) → ∀ τ, frm p4 σ τ → K 0 τ) : fX12_moveFeature K σ i x y := fun σ1 e1 => by
  have q := hD.1
  unfold WFa at q
  have fr : frm p4 σ σ1 := by rw [e1]; exact frm.wr ⟨rfl, rfl⟩
  have d1 : σ1 1 = D := p4_D fr hd
  have hr : HR σ1 n H := h0.fr (fun b => fr 3 b (by omega)) (fr 0 3 (by omega)) (fun i _ => fr 1 i (by omega))
  refine sM_isFeature d1 hD hi (fun i0 i1 => zb1 (sM_isPixel d1 hD hx hy (fun p => zb1 (sM_remember hr (fun τ u1 u2 => ⟨by omega, fun σ8 e8 => ⟨by omega, fun σ10 e10 => ?_⟩⟩))) (fun z => zb0 (hN (fun y => z y.2) σ1 fr)))) (fun z => zb0 (hN (fun y => z y.1) σ1 fr))
  have d2 : τ 1 = D := u1.D d1 (fun b => by omega)
  rw [d1] at u2
  refine h1 ⟨i0, i1⟩ p σ10 (by rw [e10, e8]; exact (((fr.mo (fun a b z => by omega)).tr (u1.mo (fun a b z => by omega))).z (by omega)).z (by omega)) (by rw [e10, zu_1, e8, zu_1, d2]) (u2.fr (fun b => by rw [e10, zu_ne (by omega), e8, zu_ne (by omega)]) (by rw [e10, zu_ne (by omega), e8, zu_ne (by omega)]) (fun j hj => by rw [e10, zu_ne (by omega), e8, zu_ne (by omega)]))
end HX
