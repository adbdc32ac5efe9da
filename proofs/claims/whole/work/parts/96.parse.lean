/-! a text read: what both sides hold between two statements -/
def Q0 (σ : zSt) (T : Int) (E : zD) : Prop := (σ T 0 = E 0 ∧ 4 ≤ E 0 ∧ E 0 ≤ 12) ∧ (σ T 1 = E 1 ∧ 4 ≤ E 1 ∧ E 1 ≤ 10)
def Qs (σ : zSt) (T : Int) (E : zD) : Prop := (∀ i, 0 ≤ i → i < 8 → σ (T + 1) i = E (83 + i)) ∧ WFs E
def Qf (σ : zSt) (T : Int) (E : zD) : Prop := ((∀ f, 0 ≤ f → f < 6 → T + 10 ≤ σ (T + 2) f ∧ σ (T + 2) f < T + 16) ∧ (∀ f g, 0 ≤ f → f < 6 → 0 ≤ g → g < 6 → σ (T + 2) f = σ (T + 2) g → f = g)) ∧ (0 ≤ E 2 ∧ E 2 ≤ 6) ∧ (∀ f, 0 ≤ f → f < E 2 → σ (σ (T + 2) f) 0 = E (6 + f)) ∧ WFd E ∧ (∀ f x y, 0 ≤ f → f < E 2 → 0 ≤ x → x < E 0 → 0 ≤ y → y < E 1 → σ (σ (T + 2) f + 6) (12 * y + x) = px E f x y) ∧ WFp E
def Qp (σ : zSt) (c : Int) (E : zD) (q b mx : Int) : Prop := σ c 0 = mx ∧ σ c 3 = E q ∧ (0 ≤ E q ∧ E q ≤ mx) ∧ ∀ k, 0 ≤ k → k < E q → (σ (c + 1) k = E (b + 2 * k) ∧ σ (c + 2) k = E (b + 2 * k + 1)) ∧ (0 ≤ E (b + 2 * k) ∧ E (b + 2 * k) < E 0) ∧ (0 ≤ E (b + 2 * k + 1) ∧ E (b + 2 * k + 1) < E 1)
def Qk1 (σ : zSt) (T : Int) (E : zD) (t : Int) : Prop := (σ (T + 22 + t) 0 = nS E t ∧ 0 ≤ nS E t ∧ nS E t ≤ 8) ∧ (∀ r, 0 ≤ r → r < nS E t → (σ (T + 25 + t) r = dS E t r ∧ σ (T + 28 + t) r = lS E t r) ∧ (0 ≤ dS E t r ∧ dS E t r ≤ 9999) ∧ (0 ≤ lS E t r ∧ lS E t r ≤ 9999)) ∧ ∀ r, 0 ≤ r → r + 1 < nS E t → dS E t r < dS E t (r + 1)
def Qk (σ : zSt) (T : Int) (E : zD) : Prop := (0 ≤ E 5 ∧ E 5 ≤ 3) ∧ ∀ t, 0 ≤ t → t < E 5 → Qk1 σ T E t
def QA (σ : zSt) (T : Int) (E : zD) : Prop := Q0 σ T E ∧ Qs σ T E ∧ Qf σ T E ∧ Qp σ (T + 4) E 3 12 4 ∧ Qp σ (T + 7) E 4 20 6 ∧ Qk σ T E
section QM
variable {σ σ' : zSt} {T : Int} {E E' : zD}
theorem Q0.mv (h : Q0 σ T E) (g0 : σ' T 0 = σ T 0) (g1 : σ' T 1 = σ T 1) (e0 : E' 0 = E 0) (e1 : E' 1 = E 1) : Q0 σ' T E' := by
  unfold Q0 at h ⊢
  rw [g0, g1, e0, e1]; exact h
theorem Qs.mv (h : Qs σ T E) (g : ∀ b, σ' (T + 1) b = σ (T + 1) b) (e : ∀ i, 83 ≤ i → i < 91 → E' i = E i) : Qs σ' T E' := by
  obtain ⟨a, b⟩ := h
  refine ⟨fun i i0 i1 => by rw [g, e _ (by omega) (by omega)]; exact a i i0 i1, ?_⟩
  unfold WFs at b ⊢
  rw [e 83 (by decide) (by decide), e 84 (by decide) (by decide), e 85 (by decide) (by decide), e 86 (by decide) (by decide), e 87 (by decide) (by decide), e 88 (by decide) (by decide), e 89 (by decide) (by decide), e 90 (by decide) (by decide)]
  exact b
theorem Qf.mv (h : Qf σ T E) (h0 : E 0 ≤ 12) (h1 : E 1 ≤ 10) (g : ∀ b, σ' (T + 2) b = σ (T + 2) b) (gf : ∀ f b, 0 ≤ f → f < E 2 → σ' (σ (T + 2) f) b = σ (σ (T + 2) f) b ∧ σ' (σ (T + 2) f + 6) b = σ (σ (T + 2) f + 6) b) (e : ∀ i, i = 0 ∨ i = 1 ∨ i = 2 ∨ (6 ≤ i ∧ i < 6 + E 2) ∨ (91 ≤ i ∧ i < 91 + 120 * E 2) → E' i = E i) : Qf σ' T E' := by
  obtain ⟨⟨a1, a2⟩, b, c, ⟨d1, d2⟩, f_, k⟩ := h
  have e2 := e 2 (by omega)
  have e0 := e 0 (by omega)
  have e1 := e 1 (by omega)
  have ep : ∀ f x y, 0 ≤ f → f < E 2 → 0 ≤ x → x < E 0 → 0 ≤ y → y < E 1 → px E' f x y = px E f x y := fun f x y f0 f1 x0 x1 y0 y1 => by
    unfold px
    exact e _ (by omega)
  refine ⟨⟨fun f f0 f1 => by rw [g]; exact a1 f f0 f1, fun f x f0 f1 x0 x1 z => a2 f x f0 f1 x0 x1 (by rw [g, g] at z; exact z)⟩, by rw [e2]; exact b, fun f f0 f1 => ?_, ⟨fun f f0 f1 => ?_, fun f f0 f1 => ?_⟩, fun f x y f0 f1 x0 x1 y0 y1 => ?_, fun f x y f0 f1 x0 x1 y0 y1 => ?_⟩
  · rw [e2] at f1
    rw [g, (gf f 0 f0 f1).1, e _ (by omega)]; exact c f f0 f1
  · rw [e2] at f1
    rw [e _ (by omega)]; exact d1 f f0 f1
  · rw [e2] at f1
    rw [e _ (by omega), e _ (by omega)]; exact d2 f f0 f1
  · rw [e2] at f1; rw [e0] at x1; rw [e1] at y1
    rw [g, (gf f _ f0 f1).2, ep f x y f0 f1 x0 x1 y0 y1]; exact f_ f x y f0 f1 x0 x1 y0 y1
  · rw [e2] at f1; rw [e0] at x1; rw [e1] at y1
    rw [ep f x y f0 f1 x0 x1 y0 y1]; exact k f x y f0 f1 x0 x1 y0 y1
theorem Qp.mv {c q b mx : Int} (h : Qp σ c E q b mx) (g0 : σ' c 0 = σ c 0) (g3 : σ' c 3 = σ c 3) (g : ∀ k, 0 ≤ k → k < E q → σ' (c + 1) k = σ (c + 1) k ∧ σ' (c + 2) k = σ (c + 2) k) (eq : E' q = E q) (e0 : E' 0 = E 0) (e1 : E' 1 = E 1) (e : ∀ i, b ≤ i → i < b + 2 * E q → E' i = E i) : Qp σ' c E' q b mx := by
  obtain ⟨x, y, z, w⟩ := h
  refine ⟨g0.trans x, by rw [g3, eq]; exact y, by rw [eq]; exact z, fun k k0 k1 => ?_⟩
  rw [eq] at k1
  rw [(g k k0 k1).1, (g k k0 k1).2, e0, e1, e _ (by omega) (by omega), e _ (by omega) (by omega)]
  exact w k k0 k1
theorem Qk1.mv {t : Int} (h : Qk1 σ T E t) (g : ∀ a b, a = T + 22 + t ∨ a = T + 25 + t ∨ a = T + 28 + t → σ' a b = σ a b) (e : ∀ i, i = 32 + t ∨ (35 + 8 * t ≤ i ∧ i < 43 + 8 * t) ∨ (59 + 8 * t ≤ i ∧ i < 67 + 8 * t) → E' i = E i) : Qk1 σ' T E' t := by
  obtain ⟨a, b, c⟩ := h
  have en : nS E' t = nS E t := e _ (by omega)
  have ed : ∀ r, 0 ≤ r → r < 8 → dS E' t r = dS E t r := fun r r0 r1 => e _ (by omega)
  have el : ∀ r, 0 ≤ r → r < 8 → lS E' t r = lS E t r := fun r r0 r1 => e _ (by omega)
  refine ⟨by rw [en, g _ _ (by omega)]; exact a, fun r r0 r1 => ?_, fun r r0 r1 => ?_⟩
  · rw [en] at r1
    rw [ed r r0 (by omega), el r r0 (by omega), g _ _ (by omega), g _ _ (by omega)]
    exact b r r0 r1
  · rw [en] at r1
    rw [ed r r0 (by omega), ed (r + 1) (by omega) (by omega)]
    exact c r r0 r1
theorem Qk.mv (h : Qk σ T E) (g : ∀ t a b, 0 ≤ t → t < E 5 → a = T + 22 + t ∨ a = T + 25 + t ∨ a = T + 28 + t → σ' a b = σ a b) (e5 : E' 5 = E 5) (e : ∀ t i, 0 ≤ t → t < E 5 → i = 32 + t ∨ (35 + 8 * t ≤ i ∧ i < 43 + 8 * t) ∨ (59 + 8 * t ≤ i ∧ i < 67 + 8 * t) → E' i = E i) : Qk σ' T E' := by
  obtain ⟨a, b⟩ := h
  refine ⟨by rw [e5]; exact a, fun t t0 t1 => ?_⟩
  rw [e5] at t1
  exact (b t t0 t1).mv (fun x y z => g t x y t0 t1 z) (fun i z => e t i t0 t1 z)
theorem QA.mv (h : QA σ T E) (g : ∀ a b, T ≤ a → a < T + 31 → σ' a b = σ a b) : QA σ' T E := by
  obtain ⟨a, b, c, d, e, f⟩ := h
  refine ⟨a.mv (g _ _ (by omega) (by omega)) (g _ _ (by omega) (by omega)) rfl rfl, b.mv (fun b => g _ _ (by omega) (by omega)) (fun _ _ _ => rfl), c.mv a.1.2.2 a.2.2.2 (fun b => g _ _ (by omega) (by omega)) (fun x b x0 x1 => ?_) (fun _ _ => rfl), d.mv (g _ _ (by omega) (by omega)) (g _ _ (by omega) (by omega)) (fun k _ _ => ⟨g _ _ (by omega) (by omega), g _ _ (by omega) (by omega)⟩) rfl rfl rfl (fun _ _ _ => rfl), e.mv (g _ _ (by omega) (by omega)) (g _ _ (by omega) (by omega)) (fun k _ _ => ⟨g _ _ (by omega) (by omega), g _ _ (by omega) (by omega)⟩) rfl rfl rfl (fun _ _ _ => rfl), f.mv (fun t x y t0 t1 z => ?_) rfl (fun _ _ _ _ _ => rfl)⟩
  · have := c.1.1 x x0 (by have := c.2.1; omega)
    exact ⟨g _ _ (by omega) (by omega), g _ _ (by omega) (by omega)⟩
  · have := f.1
    exact g _ _ (by omega) (by omega)
end QM
/-- the settings given so far -/
def MK (σ τ : zSt) : Prop := (0 ≤ τ 0 15 ∧ τ 0 15 < 256 ∧ τ 0 14 = -1) ∧ ∀ i, 0 ≤ i → i < 8 → (σ 4 i = 0 ∨ σ 4 i = 1) ∧ (τ 0 15 / 2 ^ i.toNat) % 2 = σ 4 i
def BI (σ τ : zSt) (T : Int) : Prop := ((T = 73 ∨ T = 104) ∧ σ 1 1 = T) ∧ QA σ T (τ 2) ∧ (σ T 2 = τ 2 2 ∧ σ T 3 = τ 2 5) ∧ MK σ τ ∧ TL σ τ ∧ τ 0 13 = 0
def BD (r : Int) (σ τ : zSt) : Prop := (-15 ≤ r ∧ r ≤ -11) ∧ τ 0 13 = r ∧ τ 0 14 = σ 2 2 ∧ (0 ≤ τ 0 10 ∧ τ 0 10 ≤ 4)
abbrev pL (T : Int) : Int → Int → Prop := fun a b => (a = 2 ∧ b ≠ 0 ∧ b ≠ 5) ∨ a = 4 ∨ ((T ≤ a ∧ a < T + 31) ∧ a ≠ T + 2 ∧ ¬ (b = 0 ∧ (a = T + 4 ∨ a = T + 7)))
abbrev pR : Int → Int → Prop := fun a b => a = 2 ∨ (a = 0 ∧ (8 ≤ b ∧ b ≤ 15))
def Sm (f : (Int → zSt → Prop) → Prop) (g : (zSt → Prop) → Prop) (σ τ : zSt) (T : Int) : Prop := ∃ r σ' τ', (∀ K : Int → zSt → Prop, K r σ' → f K) ∧ (∀ K : zSt → Prop, K τ' → g K) ∧ frm (pL T) σ σ' ∧ frm pR τ τ' ∧ ((r = 0 ∧ BI σ' τ' T ∧ σ 2 6 ≤ σ' 2 6) ∨ BD r σ' τ')
def bad (τ : zSt) (e : Int) : zSt := zu (zu τ 0 13 e) 0 14 (τ 0 9)
section BQ
variable {σ τ σ' τ' : zSt} {T : Int}
theorem frm.TL {P R : Int → Int → Prop} (h : TL σ τ) (u : frm P σ σ') (v : frm R τ τ') (p : ∀ a b, a = 2 ∨ a = 3 → ¬ P a b) (r : ∀ b, (7 ≤ b ∧ b ≤ 12) → ¬ R 0 b) (r4 : ∀ b, ¬ R 4 b) : TL σ' τ' := by
  obtain ⟨⟨⟨a1, a2, a3, a4, a5⟩, b, c, d, e, f⟩, q⟩ := h
  have s : ∀ a b, a = 2 ∨ a = 3 → σ' a b = σ a b := fun a b z => u a b (p a b z)
  have t : ∀ b, (7 ≤ b ∧ b ≤ 12) → τ' 0 b = τ 0 b := fun b z => v 0 b (r b z)
  have s3 : σ' 3 = σ 3 := by funext b; exact s 3 b (Or.inr rfl)
  have t4 : τ' 4 = τ 4 := by funext b; exact v 4 b (r4 b)
  have x1 := s 2 1 (by omega)
  have x2 := s 2 2 (by omega)
  have x3 := s 2 3 (by omega)
  have x5 := s 2 5 (by omega)
  have x6 := s 2 6 (by omega)
  have y7 := t 7 (by omega)
  have y8 := t 8 (by omega)
  have y9 := t 9 (by omega)
  have y10 := t 10 (by omega)
  have y11 := t 11 (by omega)
  have y12 := t 12 (by omega)
  unfold _root_.Jvm.Pilot.CGlacierCameraLaw_law_r2159_bfba25.TL TK TB
  rw [s3, t4, x1, x2, x3, x5, x6, y7, y8, y9, y10, y11, y12]
  exact ⟨⟨⟨a1, a2, a3, a4, a5⟩, b, c, d, e, f⟩, q⟩
theorem MK.mv (h : MK σ τ) (g : ∀ b, σ' 4 b = σ 4 b) (e : τ' 0 15 = τ 0 15) (e14 : τ' 0 14 = τ 0 14) : MK σ' τ' := by
  unfold MK at h ⊢
  rw [e, e14]
  refine ⟨h.1, fun i i0 i1 => ?_⟩
  rw [g]; exact h.2 i i0 i1
theorem BI.adv (h : BI σ τ T) (t : TL σ' τ') (u : frm pA σ σ') (v : frm pB τ τ') : BI σ' τ' T := by
  obtain ⟨⟨a1, a2⟩, b, c, d, e, f⟩ := h
  have t2 : τ' 2 = τ 2 := by funext i; exact v 2 i (by omega)
  refine ⟨⟨a1, by rw [u 1 1 (by omega)]; exact a2⟩, ?_, ?_, d.mv (fun b => u 4 b (by omega)) (v 0 15 (by omega)) (v 0 14 (by omega)), t, by rw [v 0 13 (by omega)]; exact f⟩
  · rw [t2]; exact b.mv (fun a b a0 a1 => u a b (by omega))
  · rw [t2, u T 2 (by omega), u T 3 (by omega)]; exact c
theorem pA_L (u : frm pA σ σ') : frm (pL T) σ σ' := u.mo (fun a b z => Or.inl (by omega))
theorem pB_R (v : frm pB τ τ') : frm pR τ τ' := v.mo (fun a b z => by omega)
theorem TL.r (h : TL σ τ) : (0 ≤ τ 0 10 ∧ τ 0 10 ≤ 4) ∧ (0 ≤ τ 0 12 ∧ τ 0 12 ≤ 1000000009) ∧ σ 2 1 = τ 0 10 ∧ σ 2 2 = τ 0 9 ∧ σ 2 3 = min (τ 0 12) 10000 ∧ σ 2 6 = τ 0 8 ∧ (0 ≤ σ 2 2 ∧ σ 2 2 ≤ σ 2 6 ∧ σ 2 6 ≤ σ 2 5 ∧ σ 2 5 ≤ 1400) := by
  obtain ⟨⟨⟨a1, a2, a3, a4, a5⟩, b, c, d, e, f⟩, q⟩ := h
  omega
theorem bad_f {e : Int} : frm pR τ (bad τ e) := by
  unfold bad
  exact (frm.wr (P := pR) (by omega)).z (by omega)
theorem bad_v {e : Int} : bad τ e 0 13 = e ∧ bad τ e 0 14 = τ 0 9 ∧ bad τ e 0 10 = τ 0 10 ∧ bad τ e 0 12 = τ 0 12 ∧ bad τ e 2 = τ 2 ∧ bad τ e 0 9 = τ 0 9 ∧ bad τ e 0 8 = τ 0 8 := by
  unfold bad
  refine ⟨by rw [zu_ne (by omega), zu_eq], by rw [zu_eq], by rw [zu_ne (by omega), zu_ne (by omega)], by rw [zu_ne (by omega), zu_ne (by omega)], by rw [zu_d (by decide), zu_d (by decide)], by rw [zu_ne (by omega), zu_ne (by omega)], by rw [zu_ne (by omega), zu_ne (by omega)]⟩
theorem sM_check1 {K : zSt → Prop} {x e : Int} (hx : zrg x) (h : x ≠ 0) (hK : K τ) : fX12_check K τ x e := ⟨hx, fun z => (h z).elim, fun _ => hK⟩
theorem sM_check0 {K : zSt → Prop} {e : Int} (h : τ 0 13 = 0) (hK : K (bad τ e)) : fX12_check K τ 0 e := ⟨by decide, fun _ => ⟨by omega, fun _ σ3 e3 σ4 e4 => by
  have : σ4 = bad τ e := by rw [e4, e3]; unfold bad; rw [zu_ne (by omega)]
  rw [this]; exact hK, fun z => (z h).elim⟩, fun z => (z rfl).elim⟩
theorem sM_checkN {K : zSt → Prop} {x e : Int} (hx : zrg x) (h : τ 0 13 ≠ 0) (hz : zrg (τ 0 13)) (hK : K τ) : fX12_check K τ x e := ⟨hx, fun _ => ⟨hz, fun z => (h z).elim, fun _ => hK⟩, fun _ => hK⟩
theorem sM_aig {K : zSt → Prop} (h : τ 0 13 = 0) (hK : fX12_advance K τ) : fX12_advanceIfGood K τ := ⟨by omega, fun _ => hK, fun z => (z h).elim⟩
theorem sM_aigN {K : zSt → Prop} (h : τ 0 13 ≠ 0) (hz : zrg (τ 0 13)) (hK : K τ) : fX12_advanceIfGood K τ := ⟨hz, fun z => (h z).elim, fun _ => hK⟩
theorem sM_readIntegerN {K : Int → zSt → Prop} {lo hi : Int} (h : τ 0 13 ≠ 0) (hz : zrg (τ 0 13)) (z10 : zrg (τ 0 10)) (z12 : zrg (τ 0 12)) (hlo : zrg lo) (hhi : zrg hi) (hK : K (τ 0 12) τ) : fX12_readInteger K τ lo hi := by
  have B : ∀ s0, zrg s0 → fX12_readInteger_B14 K τ lo hi s0 := fun s0 hs => sM_checkN hs h hz (sM_inRange z12 hlo hhi (fun _ _ => sM_checkN (by decide) h hz (sM_aigN h hz hK)) (fun _ => sM_checkN (by decide) h hz (sM_aigN h hz hK)))
  exact ⟨z10, fun _ => B 1 (by decide), fun _ => B 0 (by decide)⟩
/-- a number wanted -/
theorem numb {lo hi : Int} (hT : TL σ τ) (h13 : τ 0 13 = 0) (h0 : 0 ≤ lo) (h9 : hi ≤ 9999) (hl : lo ≤ 9999) (hh : 0 ≤ hi + 1) :
    ((σ 2 3 = τ 0 12 ∧ lo ≤ τ 0 12 ∧ τ 0 12 ≤ hi) ∧ (∀ K : Int → zSt → Prop, K 0 σ → fX4_checkNumber K σ lo hi) ∧ (∀ K : Int → zSt → Prop, fX12_advance (fun s => K (τ 0 12) s) τ → fX12_readInteger K τ lo hi)) ∨
    (∃ e, (e = -11 ∨ e = -12) ∧ (∀ K : Int → zSt → Prop, K e σ → fX4_checkNumber K σ lo hi) ∧ (∀ K : Int → zSt → Prop, K (τ 0 12) (bad τ e) → fX12_readInteger K τ lo hi)) := by
  obtain ⟨r1, r2, r3, r4, r5, r6, r7⟩ := hT.r
  by_cases k : τ 0 10 = 2
  · by_cases w : lo ≤ τ 0 12 ∧ τ 0 12 ≤ hi
    · refine Or.inl ⟨⟨by omega, w.1, w.2⟩, fun K hK => ?_, fun K hK => ?_⟩
      · exact ⟨by omega, fun _ => sX11_isBetween (by omega) (by omega) (by omega) (fun _ _ => ⟨by decide, fun z => absurd z (by decide), fun _ => hK⟩) (fun z => (z (by omega)).elim), fun z => by omega⟩
      · exact ⟨by omega, fun _ => sM_check1 (by decide) (by decide) (sM_inRange (by omega) (by omega) (by omega) (fun _ _ => sM_check1 (by decide) (by decide) (sM_aig h13 hK)) (fun z => (z w).elim)), fun z => (z k).elim⟩
    · refine Or.inr ⟨-12, Or.inr rfl, fun K hK => ?_, fun K hK => ?_⟩
      · exact ⟨by omega, fun _ => sX11_isBetween (by omega) (by omega) (by omega) (fun a b => (w (by omega)).elim) (fun _ => ⟨by decide, fun _ => hK, fun z => absurd rfl z⟩), fun z => by omega⟩
      · have b := bad_v (τ := τ) (e := -12)
        exact ⟨by omega, fun _ => sM_check1 (by decide) (by decide) (sM_inRange (by omega) (by omega) (by omega) (fun a b => (w ⟨a, b⟩).elim) (fun _ => sM_check0 h13 (sM_aigN (by rw [b.1]; decide) (by rw [b.1]; decide) (by
          rw [b.2.2.2.1]; exact hK)))), fun z => (z k).elim⟩
  · refine Or.inr ⟨-11, Or.inl rfl, fun K hK => ⟨by omega, fun z => by omega, fun _ => hK⟩, fun K hK => ?_⟩
    have b := bad_v (τ := τ) (e := -11)
    have n : bad τ (-11) 0 13 ≠ 0 := by rw [b.1]; decide
    have z : zrg (bad τ (-11) 0 13) := by rw [b.1]; decide
    have g : K (bad τ (-11) 0 12) (bad τ (-11)) := by rw [b.2.2.2.1]; exact hK
    exact ⟨by omega, fun z => (k z).elim, fun _ => sM_check0 h13 (sM_inRange (by rw [b.2.2.2.1]; omega) (by omega) (by omega) (fun _ _ => sM_checkN (by decide) n z (sM_aigN n z g)) (fun _ => sM_checkN (by decide) n z (sM_aigN n z g)))⟩
theorem bad_BD {e : Int} (hT : TL σ τ) (he : -15 ≤ e ∧ e ≤ -11) (v : frm (fun a b => a = 2 ∨ (a = 0 ∧ b = 15)) (bad τ e) τ') : BD e σ τ' := by
  obtain ⟨r1, r2, r3, r4, r5, r6, r7⟩ := hT.r
  have b := bad_v (τ := τ) (e := e)
  refine ⟨he, by rw [v 0 13 (by omega)]; exact b.1, by rw [v 0 14 (by omega), b.2.1]; exact r4.symm, by rw [v 0 10 (by omega), b.2.2.1]; exact r1⟩
end BQ
