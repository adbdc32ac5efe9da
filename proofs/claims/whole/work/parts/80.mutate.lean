/-! the class's changes -/
abbrev pMu (S : Int) : Int → Int → Prop := fun a b => a = 5 ∨ (7 ≤ a ∧ a < 17) ∨ (a = 0 ∧ b = 8) ∨ ((S ≤ a ∧ a < S + 31) ∧ ¬ (b = 0 ∧ (a = S + 4 ∨ a = S + 7)))
section MU
variable {K : Int → zSt → Prop} {σ : zSt} {V D : zD} {n : Nat} {C : Nat → chg}
theorem XA_mut {τ : zSt} {D' : zD} {S : Int} (h : XA σ D) (eS : S = 73 ∨ S = 104) (fr : frm (pMu S) σ τ) (e8 : τ 0 8 = σ 0 8 + 1) (hv : σ 0 8 < 99999) (hS : Sc τ (σ 0 0) D') : XA τ D' := by
  obtain ⟨⟨-, v, o, -⟩, t⟩ := h
  have e0 : τ 0 0 = σ 0 0 := fr 0 0 (by omega)
  have e7 : τ 17 0 = σ 17 0 := fr 17 0 (by omega)
  refine ⟨⟨by rw [e0]; exact hS, by omega, by omega, fun z => by omega⟩, fun i i0 i1 => ?_⟩
  have ei : τ (24 + i) 0 = σ (24 + i) 0 := fr _ _ (by omega)
  have w := (t i i0 i1).1
  rw [ei]
  exact ⟨by omega, fun z => by omega⟩
theorem JR.fr {τ : zSt} (h : JR σ n C) (g : ∀ a b, 5 ≤ a → a < 17 → τ a b = σ a b) : JR τ n C := by
  obtain ⟨j1, j2, j3, j4⟩ := h
  refine ⟨(g 5 0 (by decide) (by decide)).trans j1, j2, by rw [g 5 1 (by decide) (by decide)]; exact j3, fun h hm => ?_⟩
  rw [g 5 1 (by decide) (by decide), chO_fr (σ := σ) (fun b => g _ b (by omega) (by omega))]
  exact j4 h hm
theorem cLG (i : Int) : (0 ≤ cLEAST i ∧ cLEAST i ≤ 1) ∧ (2 ≤ cGREAT i ∧ cGREAT i ≤ 9999) := by
  unfold cLEAST cGREAT
  refine ⟨?_, ?_⟩ <;> (repeat' split) <;> omega
abbrev rec1 (n : Nat) : Nat := min (n + 1) 10
theorem rX_setSetting {i v : Int} (h : XA σ D) (R : Rp σ (σ 0 0) V) (vis : Vis V D) (J : JR σ n C) (hi : zrg i) (hv : zrg v) (h1 : 0 ≤ i → i < 8 → cLEAST i ≤ v → v ≤ cGREAT i → ∀ τ, frm (pMu (σ 0 0)) σ τ → τ 0 8 = σ 0 8 + 1 → Rp τ (σ 0 0) (vup V (83 + i) v) → JR τ (rec1 n) (ccn (0, i, 0, 0, V (83 + i)) C) → K (D (83 + i)) τ) (h0 : ¬ ((0 ≤ i ∧ i < 8) ∧ cLEAST i ≤ v ∧ v ≤ cGREAT i) → K (-2) σ) : fX11_setSetting K σ i v := by
  have hb := vis.vb h.1.1.1
  have w := R.1.1
  have cl := cLG i
  refine sX11_isSetting hi (fun i0 i1 => zb1 ⟨⟨i0, i1⟩, sX11_isBetween hv (by omega) (by omega) (fun a b => zb1 ⟨h.1.1.k, sX11_record J (fun τ u1 u2 u3 => ⟨?_, fun σ9 e9 => ?_⟩)⟩) (fun z => zb0 (h0 (fun y => z y.2)))⟩) (fun z => zb0 (h0 (fun y => z y.1)))
  · rw [u1 0 0 (by omega)]; exact h.1.1.k
  · have e0 : τ 0 0 = σ 0 0 := u1 0 0 (by omega)
    have ev : σ (σ 0 0 + 1) i = D (83 + i) := h.1.set i0 i1
    have eV : V (83 + i) = D (83 + i) := vis.2.1 i i0 i1
    rw [ev, ← eV] at u3
    rw [ev]
    rw [e0] at e9
    have R2 : Rp τ (σ 0 0) V := R.mv hb (fun a b a0 a1 => u1 a b (by omega))
    refine h1 i0 i1 a b σ9 (by rw [e9]; exact (u1.mo (fun a b z => by omega)).z (by omega)) (by rw [e9, zu_ne (by omega)]; exact u2) (by rw [e9]; exact R2.set hb i0 i1) (u3.fr (fun a b a0 a1 => by rw [e9, zu_ne (by omega)]))
theorem Vis.px {f x y : Int} (vis : Vis V D) (hf : isFr D f) (hp : isPx D x y) : V (91 + 120 * f + (12 * y + x)) = px D f x y := by
  rw [← vis.2.2.2.1 f x y hf.1 hf.2 hp.1 hp.2.1 hp.2.2.1 hp.2.2.2]
  unfold _root_.Jvm.Pilot.CGlacierCameraLaw_law_r2159_bfba25.px
  rw [show 91 + 120 * f + (12 * y + x) = 91 + 120 * f + 12 * y + x by omega]
theorem rX_setPixel {f x y v : Int} (h : XA σ D) (R : Rp σ (σ 0 0) V) (vis : Vis V D) (J : JR σ n C) (hf : zrg f) (hx : zrg x) (hy : zrg y) (hv : zrg v) (h1 : isFr D f → isPx D x y → 0 ≤ v → v ≤ 9 → ∀ τ, frm (pMu (σ 0 0)) σ τ → τ 0 8 = σ 0 8 + 1 → Rp τ (σ 0 0) (vup V (91 + 120 * f + (12 * y + x)) v) → JR τ (rec1 n) (ccn (1, f, x, y, V (91 + 120 * f + (12 * y + x))) C) → K 1 τ) (h0 : ¬ (isFr D f ∧ isPx D x y ∧ 0 ≤ v ∧ v ≤ 9) → K 0 σ) : fX11_setPixel K σ f x y v := by
  have hb := vis.vb h.1.1.1
  have w := R.1.1
  refine ⟨h.1.1.k, sX8_hasFrame h.1.1 hf (fun f0 f1 => zb1 ⟨h.1.1.k, sX8_hasPixel h.1.1 hx hy (fun a b c d => zb1 (sX11_isBetween hv (by decide) (by decide) (fun v0 v1 => zb1 ⟨h.1.1.k, sX8_brightnessAt h.1.1 hf hx hy (fun pf pp => ?_) (fun z => (z ⟨⟨f0, f1⟩, ⟨a, b, c, d⟩⟩).elim)⟩) (fun z => zb0 (h0 (fun y => z y.2.2))))) (fun z => zb0 (h0 (fun y => z y.2.1)))⟩) (fun z => zb0 (h0 (fun y => z y.1)))⟩
  refine sX11_record J (fun τ u1 u2 u3 => ?_)
  have e0 : τ 0 0 = σ 0 0 := u1 0 0 (by omega)
  have R2 : Rp τ (σ 0 0) V := R.mv hb (fun a b a0 a1 => u1 a b (by omega))
  rw [← vis.px pf pp] at u3
  rw [e0]
  have c2 : V 2 = D 2 := vis.1.2.2.1
  have c0 : V 0 = D 0 := vis.1.1
  have c1 : V 1 = D 1 := vis.1.2.1
  refine ⟨h.1.1.k, sX8_paint R2 hb (R2.sc vis h.1.1.1) c0 c1 c2 hf hx hy (fun _ _ υ v1' v2 => ?_) (fun z => (z ?_).elim)⟩
  · exact h1 pf pp v0 v1 υ ((u1.mo (fun a b z => by omega)).tr (v1'.mo (fun a b z => by omega))) ((v1' 0 8 (by omega)).trans u2) v2 (u3.fr (fun a b a0 a1 => v1' a b (by omega)))
  · exact ⟨⟨f0, by omega⟩, a, by omega, c, by omega⟩
theorem rX_removeFrame {f : Int} (h : XA σ D) (R : Rp σ (σ 0 0) V) (vis : Vis V D) (J : JR σ n C) (hf : zrg f) (h1 : isFr D f → ∀ τ, frm (pMu (σ 0 0)) σ τ → τ 0 8 = σ 0 8 + 1 → Rp τ (σ 0 0) (tko V f) → JR τ (rec1 n) (ccn (2, f, 0, 0, 0) C) → K (D 2 - 1) τ) (h0 : ¬ isFr D f → K (-1) σ) : fX11_removeFrame K σ f := by
  have hb := vis.vb h.1.1.1
  have w := R.1.1
  refine ⟨h.1.1.k, sX8_hasFrame h.1.1 hf (fun f0 f1 => zb1 (sX11_record J (fun τ u1 u2 u3 => ?_))) (fun z => zb0 (h0 z))⟩
  have e0 : τ 0 0 = σ 0 0 := u1 0 0 (by omega)
  have R2 : Rp τ (σ 0 0) V := R.mv hb (fun a b a0 a1 => u1 a b (by omega))
  have c2 : V 2 = D 2 := vis.1.2.2.1
  rw [e0]
  refine ⟨h.1.1.k, sX8_takeOut R2 hb (R2.sc vis h.1.1.1) c2 ⟨f0, f1⟩ (fun υ v1 v2 => ?_)⟩
  have e3 : υ 0 0 = σ 0 0 := (v1 0 0 (by omega)).trans e0
  have en : υ (σ 0 0) 2 = D 2 - 1 := by rw [v2.1.2.2.2.1, ← c2]; exact prm_2
  rw [e3, en]
  exact ⟨h.1.1.k, h1 ⟨f0, f1⟩ υ ((u1.mo (fun a b z => by omega)).tr (v1.mo (fun a b z => by omega))) ((v1 0 8 (by omega)).trans u2) v2 (u3.fr (fun a b a0 a1 => v1 a b (by omega)))⟩
theorem rX_moveFeature {i x y : Int} (h : XA σ D) (R : Rp σ (σ 0 0) V) (vis : Vis V D) (J : JR σ n C) (hi : zrg i) (hx : zrg x) (hy : zrg y) (h1 : isFt D i → isPx D x y → ∀ τ, frm (pMu (σ 0 0)) σ τ → τ 0 8 = σ 0 8 + 1 → Rp τ (σ 0 0) (vup (vup V (20 + 2 * i) x) (20 + 2 * i + 1) y) → JR τ (rec1 n) (ccn (3, i, V (20 + 2 * i), V (20 + 2 * i + 1), 0) C) → K 1 τ) (h0 : ¬ (isFt D i ∧ isPx D x y) → K 0 σ) : fX11_moveFeature K σ i x y := by
  have hb := vis.vb h.1.1.1
  have q := h.1.1.1.1
  unfold WFa at q
  have w := R.1.1
  refine ⟨h.1.1.k, sX7_has7 h.1.1 hi (fun i0 i1 => zb1 ⟨h.1.1.k, sX8_hasPixel h.1.1 hx hy (fun a b c d => zb1 ⟨by omega, sX11_record J (fun τ u1 u2 u3 => ?_)⟩) (fun z => zb0 (h0 (fun y => z y.2)))⟩) (fun z => zb0 (h0 (fun y => z y.1)))⟩
  have R2 : Rp τ (σ 0 0) V := R.mv hb (fun a b a0 a1 => u1 a b (by omega))
  have ef := sX_fx h.1 i0 i1
  have vf := vis.2.2.2.2.2.1 i i0 i1
  have g1 : fx D i = V (20 + 2 * i) := vf.1.symm
  have g2 : fy D i = V (20 + 2 * i + 1) := vf.2.symm
  rw [ef.1, ef.2, g1, g2] at u3
  have c4 : V 4 = D 4 := vis.1.2.2.2.2.1
  refine sX7_place R2 hb (R2.sc vis h.1.1.1) c4 hi (fun _ υ v1 v2 => ?_) (fun z => (z ?_).elim)
  · exact h1 ⟨i0, i1⟩ ⟨a, b, c, d⟩ υ ((u1.mo (fun a b z => by omega)).tr (v1.mo (fun a b z => by omega))) ((v1 0 8 (by omega)).trans u2) v2 (u3.fr (fun a b a0 a1 => v1 a b (by omega)))
  · exact ⟨i0, by omega⟩
/-- a stake's readings as V has them -/
theorem Vis.st {t : Int} (vis : Vis V D) (hD : WF D) (ht : isSk D t) : isSk V t ∧ nS V t = nS D t ∧ (∀ r, 0 ≤ r → r < nS V t → dS V t r = dS D t r ∧ lS V t r = lS D t r) ∧ (∀ r, 0 ≤ r → r < nS V t → zrg (dS V t r)) ∧ (∀ j k, 0 ≤ j → j < k → k < nS V t → dS V t j < dS V t k) := by
  obtain ⟨e, r⟩ := vis.2.2.2.2.2.2 t ht.1 ht.2
  have c5 : V 5 = D 5 := vis.1.2.2.2.2.2
  refine ⟨⟨ht.1, by rw [c5]; exact ht.2⟩, e, fun q q0 q1 => r q q0 (by rw [← e]; exact q1), fun q q0 q1 => ?_, fun j k j0 jk k1 => ?_⟩
  · rw [e] at q1
    rw [(r q q0 q1).1]
    have := rS_b hD ht q0 q1
    omega
  · rw [e] at k1
    rw [(r j j0 (by omega)).1, (r k (by omega) k1).1]
    exact dS_lt2 hD ht j0 jk k1
theorem ix_fst {t day p : Int} (p0 : 0 ≤ p) (p1 : p < nS V t) (e : dS V t p = day) (hs : ∀ j k, 0 ≤ j → j < k → k < nS V t → dS V t j < dS V t k) : ix V t day = p := ix_u ⟨by omega, fun r r0 r1 => by rw [← e]; exact hs r p r0 r1 p1, fun r r0 r1 => by
  rw [← e]
  by_cases z : r = p
  · rw [z]; exact Int.le_refl _
  · exact Int.le_of_lt (hs p r p0 (by omega) r1)⟩
theorem rX_removeReading {t day : Int} (h : XA σ D) (R : Rp σ (σ 0 0) V) (vis : Vis V D) (J : JR σ n C) (ht : zrg t) (hd : zrg day) (h1 : isSk D t → ∀ p, 0 ≤ p → p < nS D t → dS D t p = day → ∀ τ, frm (pMu (σ 0 0)) σ τ → τ 0 8 = σ 0 8 + 1 → Rp τ (σ 0 0) (rcut V t p) → JR τ (rec1 n) (ccn (5, t, day, 0, lS V t p) C) → K (nS D t - 1) τ) (h0 : ¬ (isSk D t ∧ ∃ p, 0 ≤ p ∧ p < nS D t ∧ dS D t p = day) → K (-1) σ) : fX11_removeReading K σ t day := by
  have hb := vis.vb h.1.1.1
  have q := h.1.1.1.1
  unfold WFa at q
  have w := R.1.1
  refine ⟨h.1.1.k, sX8_hasStake h.1.1 ht (fun t0 t1 => zb1 ⟨h.1.1.k, by omega, ?_⟩) (fun z => zb0 (h0 (fun y => z y.1)))⟩
  obtain ⟨a1, a2, a3, a4, a5⟩ := vis.st h.1.1.1 ⟨t0, t1⟩
  have hc : σ 0 0 + 3 + 19 + t = σ 0 0 + 22 + t := by omega
  have nb := hb.2.2.2.2.2.2 t a1.1 a1.2
  refine sX9_readingOn R hb a1 hc hd a4 (fun p p0 p1 e hq => ⟨by omega, fun z => by omega, fun _ => ⟨by omega, ?_⟩⟩) (fun hn => ⟨by decide, fun _ => h0 (fun ⟨_, p, p0, p1, e⟩ => hn p p0 (by rw [a2]; exact p1) (by rw [(a3 p p0 (by rw [a2]; exact p1)).1]; exact e)), fun z => absurd rfl z⟩)
  have el : σ (σ 0 0 + 3 + 19 + t + 6) p = lS V t p := by
    rw [show σ 0 0 + 3 + 19 + t + 6 = σ 0 0 + 28 + t by omega]
    exact ((R.2.2.2 t a1.1 a1.2).2 p p0 p1).2
  rw [el]
  refine sX11_record J (fun τ u1 u2 u3 => ?_)
  have R2 : Rp τ (σ 0 0) V := R.mv hb (fun a b a0 a1 => u1 a b (by omega))
  refine sX9_delete R2 hb a1 hc hd a4 (fun p' p0' p1' e' hq' υ v1 v2 => ?_) (fun z => (z p p0 p1 e).elim)
  have ep : p' = p := by rw [← ix_fst p0' p1' e' a5, ix_fst p0 p1 e a5]
  rw [ep] at v2
  have en : υ (σ 0 0 + 3 + 19 + t) 0 = nS D t - 1 := by
    have x := (v2.2.2.2 t t0 (by rw [rcut_o (by omega)]; exact a1.2)).1
    rw [hc, x, ← a2]
    exact rcut_n
  rw [en]
  exact h1 ⟨t0, t1⟩ p p0 (by rw [← a2]; exact p1) (by rw [← (a3 p p0 p1).1]; exact e) υ ((u1.mo (fun a b z => by omega)).tr (v1.mo (fun a b z => by omega))) ((v1 0 8 (by omega)).trans u2) v2 (u3.fr (fun a b a0 a1 => v1 a b (by omega)))
theorem rX_addReading {t day len : Int} (h : XA σ D) (R : Rp σ (σ 0 0) V) (vis : Vis V D) (J : JR σ n C) (ht : zrg t) (hd : zrg day) (hl : zrg len) (h1 : isSk D t → 0 ≤ day → day ≤ 9999 → 0 ≤ len → len ≤ 9999 → (∀ r, 0 ≤ r → r < nS D t → dS D t r ≠ day) → nS D t < 8 → ∀ τ, frm (pMu (σ 0 0)) σ τ → τ 0 8 = σ 0 8 + 1 → Rp τ (σ 0 0) (rput V t (ix V t day) day len) → JR τ (rec1 n) (ccn (4, t, day, 0, 0) C) → K (nS D t + 1) τ) (h3 : isSk D t → (0 ≤ day ∧ day ≤ 9999 ∧ 0 ≤ len ∧ len ≤ 9999) → (∀ r, 0 ≤ r → r < nS D t → dS D t r ≠ day) → nS D t = 8 → K (-3) σ) (h2 : isSk D t → ¬ ((0 ≤ day ∧ day ≤ 9999 ∧ 0 ≤ len ∧ len ≤ 9999) ∧ (∀ r, 0 ≤ r → r < nS D t → dS D t r ≠ day)) → K (-2) σ) (h0 : ¬ isSk D t → K (-1) σ) : fX11_addReading K σ t day len := by
  have hb := vis.vb h.1.1.1
  have q := h.1.1.1.1
  unfold WFa at q
  have w := R.1.1
  refine ⟨h.1.1.k, sX8_hasStake h.1.1 ht (fun t0 t1 => zb1 ⟨h.1.1.k, by omega, sX11_isBetween hd (by decide) (by decide) (fun d0 d1 => zb1 (sX11_isBetween hl (by decide) (by decide) (fun l0 l1 => zb1 ?_) (fun z => zb0 (h2 ⟨t0, t1⟩ (fun y => z (by omega)))))) (fun z => zb0 (h2 ⟨t0, t1⟩ (fun y => z (by omega))))⟩) (fun z => zb0 (h0 z))⟩
  obtain ⟨a1, a2, a3, a4, a5⟩ := vis.st h.1.1.1 ⟨t0, t1⟩
  have hc : σ 0 0 + 3 + 19 + t = σ 0 0 + 22 + t := by omega
  have nb := hb.2.2.2.2.2.2 t a1.1 a1.2
  refine sX9_readingOn R hb a1 hc hd a4 (fun p p0 p1 e hq => ⟨by omega, fun z => by omega, fun _ => h2 ⟨t0, t1⟩ (fun y => y.2 p p0 (by rw [← a2]; exact p1) (by rw [← (a3 p p0 p1).1]; exact e))⟩) (fun hn => ?_)
  have hn2 : ∀ r, 0 ≤ r → r < nS D t → dS D t r ≠ day := fun r r0 r1 => by
    rw [← a2] at r1
    rw [← (a3 r r0 r1).1]
    exact hn r r0 r1
  have ec : σ (σ 0 0 + 3 + 19 + t) 0 = nS V t := by rw [hc]; exact (R.2.2.2 t a1.1 a1.2).1
  rw [ec]
  refine ⟨by decide, fun _ => ⟨by omega, fun y => sX11_record J (fun τ u1 u2 u3 => ?_), fun y => h3 ⟨t0, t1⟩ (by omega) hn2 (by omega)⟩, fun z => absurd rfl z⟩
  have R2 : Rp τ (σ 0 0) V := R.mv hb (fun a b a0 a1 => u1 a b (by omega))
  have hx := ix_ex (V := V) (t := t) (day := day) nb.1 (fun r r0 r1 => a5 r (r + 1) r0 (by omega) r1)
  refine sX9_insert (p := ix V t day) R2 hb a1 hc y hd a4 hx.1 hx.2.1 (fun r r0 r1 => ?_) (fun υ v1 v2 => ?_)
  · have a := hx.2.2 r r0 r1
    have b := hn r (by have := hx.1; omega) r1
    omega
  · have en : υ (σ 0 0 + 3 + 19 + t) 0 = nS D t + 1 := by
      have x := (v2.2.2.2 t t0 (by rw [rput_o (by omega)]; exact a1.2)).1
      rw [hc, x, ← a2]
      exact rput_n
    rw [en]
    exact h1 ⟨t0, t1⟩ d0 d1 l0 l1 hn2 (by rw [← a2]; exact y) υ ((u1.mo (fun a b z => by omega)).tr (v1.mo (fun a b z => by omega))) ((v1 0 8 (by omega)).trans u2) v2 (u3.fr (fun a b a0 a1 => v1 a b (by omega)))
end MU
