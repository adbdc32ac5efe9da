/-! the class's scene changed: setting, pixel, feature, readings -/
section SD
variable {K : zSt → Prop} {σ : zSt} {S : Int} {V D : zD}
theorem Rp.set {i v : Int} (h : Rp σ S V) (hb : VB V) (i0 : 0 ≤ i) (i1 : i < 8) : Rp (zu σ (S + 1) i v) S (vup V (83 + i) v) := by
  obtain ⟨⟨s0, s1, s2, s3, s4, s5, s6, s7⟩, ⟨f1, f2, f3, f4⟩, ⟨c1, c2⟩, r⟩ := h
  obtain ⟨b0, b1, b2, b3, b4, b5, b6⟩ := hb
  have e : ∀ j, j < 83 ∨ 91 ≤ j → vup V (83 + i) v j = V j := fun j h => vup_ne (by omega)
  have g : ∀ a b, a ≠ S + 1 → zu σ (S + 1) i v a b = σ a b := fun a b h => zu_ne (Or.inl h)
  refine ⟨⟨s0, by rw [e 0 (by omega), g _ _ (by omega)]; exact s1, by rw [e 1 (by omega), g _ _ (by omega)]; exact s2, by rw [e 2 (by omega), g _ _ (by omega)]; exact s3, by rw [e 5 (by omega), g _ _ (by omega)]; exact s4, by rw [e 3 (by omega), g _ _ (by omega)]; exact s5, by rw [e 4 (by omega), g _ _ (by omega)]; exact s6, fun j j0 j1 => ?_⟩, ⟨fun f a b => by rw [g _ _ (by omega)]; exact f1 f a b, fun f k a b c d z => f2 f k a b c d (by rw [g _ _ (by omega), g _ _ (by omega)] at z; exact z), fun f a b => ?_, fun f o a b c d => ?_⟩, ⟨fun k a b => ?_, fun k a b => ?_⟩, fun t a b => ?_⟩
  · by_cases z : j = i
    · rw [z, zu_eq, vup_eq]
    · rw [zu_ne (Or.inr z), vup_ne (by omega)]; exact s7 j j0 j1
  · have w := f1 f a b
    rw [g (S + 2) _ (by omega), g _ _ (by omega), e _ (by omega)]; exact f3 f a b
  · have w := f1 f a b
    rw [g (S + 2) _ (by omega), g _ _ (by omega), e _ (by omega)]; exact f4 f o a b c d
  · rw [e 3 (by omega)] at b
    rw [g _ _ (by omega), g _ _ (by omega), e _ (by omega), e _ (by omega)]; exact c1 k a b
  · rw [e 4 (by omega)] at b
    rw [g _ _ (by omega), g _ _ (by omega), e _ (by omega), e _ (by omega)]; exact c2 k a b
  · rw [e 5 (by omega)] at b
    have nb := b6 t a b
    obtain ⟨x, y⟩ := r t a b
    have en : nS (vup V (83 + i) v) t = nS V t := e (32 + t) (by omega)
    refine ⟨by rw [g _ _ (by omega), en]; exact x, fun q q0 q1 => ?_⟩
    rw [en] at q1
    have e1 : dS (vup V (83 + i) v) t q = dS V t q := e (35 + (8 * t) + q) (by omega)
    have e2 : lS (vup V (83 + i) v) t q = lS V t q := e (59 + (8 * t) + q) (by omega)
    rw [e1, e2, g _ _ (by omega), g _ _ (by omega)]
    exact y q q0 q1
theorem Rp.pix {f o v : Int} (h : Rp σ S V) (hb : VB V) (f0 : 0 ≤ f) (f6 : f < 6) (o0 : 0 ≤ o) (o1 : o < 120) : Rp (zu σ (σ (S + 2) f + 6) o v) S (vup V (91 + 120 * f + o) v) := by
  obtain ⟨⟨s0, s1, s2, s3, s4, s5, s6, s7⟩, ⟨f1, f2, f3, f4⟩, ⟨c1, c2⟩, r⟩ := h
  obtain ⟨b0, b1, b2, b3, b4, b5, b6⟩ := hb
  have rg := f1 f f0 f6
  have e : ∀ j, j < 91 → vup V (91 + 120 * f + o) v j = V j := fun j h => vup_ne (by omega)
  have g : ∀ a b, a < S + 16 ∨ S + 22 ≤ a → zu σ (σ (S + 2) f + 6) o v a b = σ a b := fun a b h => zu_ne (Or.inl (by omega))
  refine ⟨⟨s0, by rw [e 0 (by omega), g _ _ (by omega)]; exact s1, by rw [e 1 (by omega), g _ _ (by omega)]; exact s2, by rw [e 2 (by omega), g _ _ (by omega)]; exact s3, by rw [e 5 (by omega), g _ _ (by omega)]; exact s4, by rw [e 3 (by omega), g _ _ (by omega)]; exact s5, by rw [e 4 (by omega), g _ _ (by omega)]; exact s6, fun j j0 j1 => by rw [e _ (by omega), g _ _ (by omega)]; exact s7 j j0 j1⟩, ⟨fun f a b => by rw [g _ _ (by omega)]; exact f1 f a b, fun f k a b c d z => f2 f k a b c d (by rw [g _ _ (by omega), g _ _ (by omega)] at z; exact z), fun k a b => ?_, fun k q a b c d => ?_⟩, ⟨fun k a b => ?_, fun k a b => ?_⟩, fun t a b => ?_⟩
  · have w := f1 k a b
    rw [g (S + 2) _ (by omega), g _ _ (by omega), e _ (by omega)]; exact f3 k a b
  · have w := f1 k a b
    rw [g (S + 2) _ (by omega)]
    by_cases z : k = f ∧ q = o
    · rw [z.1, z.2, zu_eq, vup_eq]
    · rw [vup_ne (by omega), zu_ne]
      · exact f4 k q a b c d
      · by_cases y : k = f
        · exact Or.inr (fun x => z ⟨y, x⟩)
        · exact Or.inl (fun x => y (f2 k f a b f0 f6 (by omega)))
  · rw [e 3 (by omega)] at b
    rw [g _ _ (by omega), g _ _ (by omega), e _ (by omega), e _ (by omega)]; exact c1 k a b
  · rw [e 4 (by omega)] at b
    rw [g _ _ (by omega), g _ _ (by omega), e _ (by omega), e _ (by omega)]; exact c2 k a b
  · rw [e 5 (by omega)] at b
    have nb := b6 t a b
    obtain ⟨x, y⟩ := r t a b
    have en : nS (vup V (91 + 120 * f + o) v) t = nS V t := e (32 + t) (by omega)
    refine ⟨by rw [g _ _ (by omega), en]; exact x, fun q q0 q1 => ?_⟩
    rw [en] at q1
    have e1 : dS (vup V (91 + 120 * f + o) v) t q = dS V t q := e (35 + (8 * t) + q) (by omega)
    have e2 : lS (vup V (91 + 120 * f + o) v) t q = lS V t q := e (59 + (8 * t) + q) (by omega)
    rw [e1, e2, g _ _ (by omega), g _ _ (by omega)]
    exact y q q0 q1
theorem Rp.feat {i u v : Int} (h : Rp σ S V) (hb : VB V) (i0 : 0 ≤ i) (i1 : i < V 4) : Rp (zu (zu σ (S + 8) i u) (S + 9) i v) S (vup (vup V (20 + 2 * i) u) (20 + 2 * i + 1) v) := by
  obtain ⟨⟨s0, s1, s2, s3, s4, s5, s6, s7⟩, ⟨f1, f2, f3, f4⟩, ⟨c1, c2⟩, r⟩ := h
  obtain ⟨b0, b1, b2, b3, b4, b5, b6⟩ := hb
  have e : ∀ j, j < 20 ∨ 32 ≤ j → vup (vup V (20 + 2 * i) u) (20 + 2 * i + 1) v j = V j := fun j h => by rw [vup_ne (by omega), vup_ne (by omega)]
  have g : ∀ a b, a < S + 8 ∨ S + 10 ≤ a → zu (zu σ (S + 8) i u) (S + 9) i v a b = σ a b := fun a b h => by rw [zu_ne (Or.inl (by omega)), zu_ne (Or.inl (by omega))]
  refine ⟨⟨s0, by rw [e 0 (by omega), g _ _ (by omega)]; exact s1, by rw [e 1 (by omega), g _ _ (by omega)]; exact s2, by rw [e 2 (by omega), g _ _ (by omega)]; exact s3, by rw [e 5 (by omega), g _ _ (by omega)]; exact s4, by rw [e 3 (by omega), g _ _ (by omega)]; exact s5, by rw [e 4 (by omega), g _ _ (by omega)]; exact s6, fun j j0 j1 => by rw [e _ (by omega), g _ _ (by omega)]; exact s7 j j0 j1⟩, ⟨fun f a b => by rw [g _ _ (by omega)]; exact f1 f a b, fun f k a b c d z => f2 f k a b c d (by rw [g _ _ (by omega), g _ _ (by omega)] at z; exact z), fun k a b => ?_, fun k q a b c d => ?_⟩, ⟨fun k a b => ?_, fun k a b => ?_⟩, fun t a b => ?_⟩
  · have w := f1 k a b
    rw [g (S + 2) _ (by omega), g _ _ (by omega), e _ (by omega)]; exact f3 k a b
  · have w := f1 k a b
    rw [g (S + 2) _ (by omega), g _ _ (by omega), e _ (by omega)]; exact f4 k q a b c d
  · rw [e 3 (by omega)] at b
    rw [g _ _ (by omega), g _ _ (by omega), e _ (by omega), e _ (by omega)]; exact c1 k a b
  · rw [e 4 (by omega)] at b
    have y := c2 k a b
    by_cases z : k = i
    · rw [z]
      exact ⟨by rw [zu_ne (by omega), zu_eq, vup_ne (by omega), vup_eq], by rw [zu_eq, vup_eq]⟩
    · exact ⟨by rw [zu_ne (by omega), zu_ne (by omega), vup_ne (by omega), vup_ne (by omega)]; exact y.1, by rw [zu_ne (by omega), zu_ne (by omega), vup_ne (by omega), vup_ne (by omega)]; exact y.2⟩
  · rw [e 5 (by omega)] at b
    have nb := b6 t a b
    obtain ⟨x, y⟩ := r t a b
    have en : nS (vup (vup V (20 + 2 * i) u) (20 + 2 * i + 1) v) t = nS V t := e (32 + t) (by omega)
    refine ⟨by rw [g _ _ (by omega), en]; exact x, fun q q0 q1 => ?_⟩
    rw [en] at q1
    have e1 : dS (vup (vup V (20 + 2 * i) u) (20 + 2 * i + 1) v) t q = dS V t q := e (35 + (8 * t) + q) (by omega)
    have e2 : lS (vup (vup V (20 + 2 * i) u) (20 + 2 * i + 1) v) t q = lS V t q := e (59 + (8 * t) + q) (by omega)
    rw [e1, e2, g _ _ (by omega), g _ _ (by omega)]
    exact y q q0 q1
theorem sX8_paint {f x y v : Int} (h : Rp σ S V) (hb : VB V) (hS : Sc σ S D) (e0 : V 0 = D 0) (e1 : V 1 = D 1) (e2 : V 2 = D 2) (hf : zrg f) (hx : zrg x) (hy : zrg y) (h1 : isFr V f → isPx V x y → ∀ τ, frm (pSc S) σ τ → Rp τ S (vup V (91 + 120 * f + (12 * y + x)) v) → K τ) (h0 : ¬ (isFr V f ∧ isPx V x y) → K σ) : fX8_paint K σ S f x y v := by
  have w := h.1.1
  obtain ⟨b0, b1, b2, b3, b4, b5, b6⟩ := hb
  refine ⟨hS.k, sX8_hasFrame hS hf (fun f0 f1 => zb1 (sX8_hasPixel hS hx hy (fun a b c d => zb1 ⟨by omega, hS.fr f0 (by omega), by omega, fun σ8 e8 => ?_⟩) (fun z => zb0 (h0 (fun w => z (by have := w.2; omega)))))) (fun z => zb0 (h0 (fun w => z (by have := w.1; omega))))⟩
  have rg := h.2.1.1 f f0 (by omega)
  refine h1 ⟨f0, by omega⟩ ⟨a, by omega, c, by omega⟩ σ8 (by rw [e8]; exact frm.wr (by omega)) ?_
  rw [e8]
  exact h.pix ⟨b0, b1, b2, b3, b4, b5, b6⟩ f0 (by omega) (by omega) (by omega)
theorem sX7_place {i u v : Int} (h : Rp σ S V) (hb : VB V) (hS : Sc σ S D) (e4 : V 4 = D 4) (hi : zrg i) (h1 : isFt V i → ∀ τ, frm (pSc S) σ τ → Rp τ S (vup (vup V (20 + 2 * i) u) (20 + 2 * i + 1) v) → K τ) (h0 : ¬ isFt V i → K σ) : fX7_place K σ (S + 7) i u v := by
  have w := h.1.1
  have b4 := hb.2.2.2.2.1
  refine ⟨by rw [kX_7]; omega, sX7_has7 hS hi (fun i0 i1 => zb1 ⟨by omega, fun σ4 e4' σ5 e5 => ?_⟩) (fun z => zb0 (h0 (fun w => z (by have := w.1; have := w.2; omega))))⟩
  rw [show S + 7 + 1 = S + 8 by omega] at e4'
  rw [show S + 7 + 2 = S + 9 by omega] at e5
  refine h1 ⟨i0, by omega⟩ σ5 (by rw [e5, e4']; exact (frm.rf.z (by omega)).z (by omega)) ?_
  rw [e5, e4']
  exact h.feat hb i0 (by omega)
end SD
