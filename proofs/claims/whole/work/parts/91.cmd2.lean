/-! what is seen after a feature moved -/
theorem VWF2 {V D : zD} {i u v : Int} (vis : Vis V D) (hD : WF D) (hi : isFt D i) (hp : isPx D u v) : Vis (vup (vup V (20 + 2 * i) u) (20 + 2 * i + 1) v) (vup (vup D (20 + 2 * i) u) (20 + 2 * i + 1) v) := by
  have q := hD.1
  unfold WFa at q
  have i0 := hi.1
  have i1 := hi.2
  obtain ⟨⟨v0, v1, v2, v3, v4, v5⟩, vs, vd, vp, vc, vf, vr⟩ := vis
  have e : ∀ j, j < 20 ∨ 32 ≤ j → vup (vup D (20 + 2 * i) u) (20 + 2 * i + 1) v j = D j := fun j h => by rw [vup_ne (by omega), vup_ne (by omega)]
  have g : ∀ {j}, V j = D j → vup (vup V (20 + 2 * i) u) (20 + 2 * i + 1) v j = vup (vup D (20 + 2 * i) u) (20 + 2 * i + 1) v j := fun h => vup_same (vup_same h)
  refine ⟨⟨g v0, g v1, g v2, g v3, g v4, g v5⟩, fun i i0 i1 => g (vs i i0 i1), fun f f0 f1 => ?_, fun f x y f0 f1 x0 x1 y0 y1 => ?_, fun j j0 j1 => ?_, fun j j0 j1 => ?_, fun t t0 t1 => ?_⟩
  · rw [e 2 (by decide)] at f1; exact g (vd f f0 f1)
  · rw [e 2 (by decide)] at f1; rw [e 0 (by decide)] at x1; rw [e 1 (by decide)] at y1
    exact g (vp f x y f0 f1 x0 x1 y0 y1)
  · rw [e 3 (by decide)] at j1; exact ⟨g (vc j j0 j1).1, g (vc j j0 j1).2⟩
  · rw [e 4 (by decide)] at j1; exact ⟨g (vf j j0 j1).1, g (vf j j0 j1).2⟩
  · rw [e 5 (by decide)] at t1
    obtain ⟨x, y⟩ := vr t t0 t1
    refine ⟨g x, fun r r0 r1 => ?_⟩
    rw [show nS (vup (vup D (20 + 2 * i) u) (20 + 2 * i + 1) v) t = nS D t from e _ (by omega)] at r1
    exact ⟨g (y r r0 r1).1, g (y r r0 r1).2⟩
/-! both sides together: calls that change something -/
section CN
variable {σ τ : zSt} {m : Int} {D V : zD} {n : Nat} {C : Nat → chg} {H : Nat → zD}
theorem UC_push {D0 V' : zD} {c : chg} (U : UC n V C H) (vis : Vis V D0) (hD : WF D0) (hN : NV V) (e : rv c V' = V) (z : zrg c.1 ∧ zrg c.2.1 ∧ zrg c.2.2.1 ∧ zrg c.2.2.2.1 ∧ zrg c.2.2.2.2) (n10 : n ≤ 10) : UC (rec1 n) V' (ccn c C) (hcn D0 H) := by
  have a : UC (n + 1) V' (ccn c C) (hcn D0 H) := by
    refine ⟨⟨?_, hD, ?_, z⟩, ?_⟩
    · show Vis (rv c V') D0
      rw [e]; exact vis
    · show NV (rv c V')
      rw [e]; exact hN
    · show UC n (rv c V') (fun k => C k) (fun k => H k)
      rw [e]; exact U
  show UC (min (n + 1) 10) _ _ _
  rcases (show n < 10 ∨ n = 10 by omega) with h | h
  · rw [show min (n + 1) 10 = n + 1 by omega]; exact a
  · subst h
    exact UC_drop 10 _ _ _ a
theorem TV.mu {σ' τ' : zSt} {D' V' : zD} {n' : Nat} {C' : Nat → chg} {H' : Nat → zD} (w : TV σ τ m D V n C H) (hm : m < 99999) (u : frm (pMu (σ 0 0)) σ σ') (u8 : σ' 0 8 = σ 0 8 + 1) (uR : Rp σ' (σ 0 0) V') (uJ : JR σ' n' C') (v : frm pMm τ τ') (vd : τ' 1 = D') (vH : HR τ' n' H') (vis : Vis V' D') (wf : WF D') (nv : NV V') (U : UC n' V' C' H') : TW σ' τ' (m + 1) := by
  obtain ⟨h1, h2, h3, h4, h5, h6, h7, h8, h9, h10⟩ := w
  have s := h2.1.1
  have e0 : σ' 0 0 = σ 0 0 := u 0 0 (by omega)
  refine ⟨D', V', n', C', H', XA_mut h1 s u u8 (by omega) (uR.sc vis wf), ?_, vis, nv, uJ, vd, vH, U, by omega, h10.fr e0 (u 0 7 (by omega)) (fun a b z => u a b (by omega)) (fun b => v 4 b (by omega)) (v 0 6 (by omega)) (v 0 14 (by omega))⟩
  rw [e0]; exact uR
theorem TV.no {τ' : zSt} (w : TV σ τ m D V n C H) (v : frm p4 τ τ') : TW σ τ' (m + 1) := w.fr frm.rf w.1 (p4_q v)
theorem rec1_le (n : Nat) (h : n ≤ 10) : rec1 n ≤ 10 := Nat.min_le_right _ _
theorem cmd_setSetting {i v : Int} (h : TW σ τ m) (hm : m < 99999) (hi : zrg i) (hv : zrg v) : fX11_setSetting (cP (m + 1) (fun K => fX12_setSetting K τ i v)) σ i v := by
  obtain ⟨D, V, n, C, H, w⟩ := h
  have w0 := w
  obtain ⟨h1, h2, h3, h4, h5, h6, h7, h8, h9, h10⟩ := w0
  have hb := h3.vb w.wf
  refine rX_setSetting h1 h2 h3 h5 hi hv (fun i0 i1 a b υ u1 u2 u3 u4 => rM_setSetting h6 h7 hi hv (fun _ _ _ _ τ' v1 v2 v3 => ⟨rfl, w.mu hm u1 u2 u3 u4 v1 v2 v3 (h3.wr w.wf (by omega)) (WF_set w.wf i0 i1 a b) (NV_out hb h4 (fun j hj => vup_ne (by omega))) (UC_push h8 h3 w.wf h4 (rv_0 i0 i1) ?_ h5.2.1)⟩) (fun z => (z ⟨⟨i0, i1⟩, a, b⟩).elim)) (fun z => rM_setSetting h6 h7 hi hv (fun a b c d => (z ⟨⟨a, b⟩, c, d⟩).elim) (fun _ τ' v => ⟨rfl, w.no v⟩))
  have q := w.wf.2.1
  unfold WFs at q
  refine ⟨(by decide : zrg 0), hi, (by decide : zrg 0), (by decide : zrg 0), ?_⟩
  show zrg (V (83 + i))
  rw [h3.2.1 i i0 i1]
  rcases (show i = 0 ∨ i = 1 ∨ i = 2 ∨ i = 3 ∨ i = 4 ∨ i = 5 ∨ i = 6 ∨ i = 7 by omega) with z | z | z | z | z | z | z | z <;> subst z <;> simp <;> omega
theorem cmd_setPixel {f x y v : Int} (h : TW σ τ m) (hm : m < 99999) (hf : zrg f) (hx : zrg x) (hy : zrg y) (hv : zrg v) : fX11_setPixel (cP (m + 1) (fun K => fX12_setPixel K τ f x y v)) σ f x y v := by
  obtain ⟨D, V, n, C, H, w⟩ := h
  have w0 := w
  obtain ⟨h1, h2, h3, h4, h5, h6, h7, h8, h9, h10⟩ := w0
  have hb := h3.vb w.wf
  have c2 : V 2 = D 2 := h3.1.2.2.1
  have c0 : V 0 = D 0 := h3.1.1
  have c1 : V 1 = D 1 := h3.1.2.1
  refine rX_setPixel h1 h2 h3 h5 hf hx hy hv (fun pf pp a b υ u1 u2 u3 u4 => rM_setPixel h6 w.wf h7 hf hx hy hv (fun _ _ _ _ τ' v1 v2 v3 => ⟨rfl, w.mu hm u1 u2 u3 u4 v1 v2 v3 (h3.wr w.wf ?_) (WF_px w.wf pf pp a b) (NV_out hb h4 (fun j hj => vup_ne ?_)) (UC_push h8 h3 w.wf h4 (rv_1 ⟨pf.1, by have := pf.2; omega⟩ ⟨pp.1, by have := pp.2.1; omega, pp.2.2.1, by have := pp.2.2.2; omega⟩) ?_ h5.2.1)⟩) (fun z => (z ⟨pf, pp, a, b⟩).elim)) (fun z => rM_setPixel h6 w.wf h7 hf hx hy hv (fun a b c d => (z ⟨a, b, c, d⟩).elim) (fun _ τ' v => ⟨rfl, w.no v⟩))
  · have := pf.1; have := pp.1; have := pp.2.2.1; omega
  · have := pf.1; have := pp.1; have := pp.2.2.1; omega
  · refine ⟨(by decide : zrg 1), hf, hx, hy, ?_⟩
    show zrg (V (91 + 120 * f + (12 * y + x)))
    rw [h3.px pf pp]
    have := w.wf.2.2.2.1 f x y pf.1 pf.2 pp.1 pp.2.1 pp.2.2.1 pp.2.2.2
    omega
theorem cmd_removeFrame {f : Int} (h : TW σ τ m) (hm : m < 99999) (hf : zrg f) : fX11_removeFrame (cP (m + 1) (fun K => fX12_removeFrame K τ f)) σ f := by
  obtain ⟨D, V, n, C, H, w⟩ := h
  have w0 := w
  obtain ⟨h1, h2, h3, h4, h5, h6, h7, h8, h9, h10⟩ := w0
  have hb := h3.vb w.wf
  have c2 : V 2 = D 2 := h3.1.2.2.1
  exact rX_removeFrame h1 h2 h3 h5 hf (fun pf υ u1 u2 u3 u4 => rM_removeFrame h6 w.wf h7 hf (fun _ τ' v1 v2 v3 => ⟨rfl, w.mu hm u1 u2 u3 u4 v1 v2 v3 (Vis_rmv h3 w.wf pf) (WF_rmv w.wf pf) (NV_out hb h4 (fun j hj => prm_ot (by omega))) (UC_push h8 h3 w.wf h4 (rv_2 ⟨pf.1, by have := pf.2; omega⟩ hb.2.2.1.2) ⟨(by decide : zrg 2), hf, (by decide : zrg 0), (by decide : zrg 0), (by decide : zrg 0)⟩ h5.2.1)⟩) (fun z => (z pf).elim)) (fun z => rM_removeFrame h6 w.wf h7 hf (fun a => (z a).elim) (fun _ τ' v => ⟨rfl, w.no v⟩))
theorem cmd_moveFeature {i x y : Int} (h : TW σ τ m) (hm : m < 99999) (hi : zrg i) (hx : zrg x) (hy : zrg y) : fX11_moveFeature (cP (m + 1) (fun K => fX12_moveFeature K τ i x y)) σ i x y := by
  obtain ⟨D, V, n, C, H, w⟩ := h
  have w0 := w
  obtain ⟨h1, h2, h3, h4, h5, h6, h7, h8, h9, h10⟩ := w0
  have hb := h3.vb w.wf
  have c4 : V 4 = D 4 := h3.1.2.2.2.2.1
  have q := w.wf.1
  unfold WFa at q
  refine rX_moveFeature h1 h2 h3 h5 hi hx hy (fun pf pp υ u1 u2 u3 u4 => rM_moveFeature h6 w.wf h7 hi hx hy (fun _ _ τ' v1 v2 v3 => ⟨rfl, w.mu hm u1 u2 u3 u4 v1 v2 v3 ?_ (WF_ft w.wf pf pp) (NV_out hb h4 (fun j hj => ?_)) (UC_push h8 h3 w.wf h4 (rv_3 ⟨pf.1, by have := pf.2; omega⟩) ?_ h5.2.1)⟩) (fun z => (z ⟨pf, pp⟩).elim)) (fun z => rM_moveFeature h6 w.wf h7 hi hx hy (fun a b => (z ⟨a, b⟩).elim) (fun _ τ' v => ⟨rfl, w.no v⟩))
  · have := pf.1; have := pf.2
    exact VWF2 h3 w.wf pf pp
  · have := pf.1; have := pf.2
    rw [vup_ne (by omega), vup_ne (by omega)]
  · have e := h3.2.2.2.2.2.1 i pf.1 pf.2
    have k := w.wf.2.2.2.2.1.2 i pf.1 pf.2
    refine ⟨(by decide : zrg 3), hi, ?_, ?_, (by decide : zrg 0)⟩
    · show zrg (V (20 + 2 * i))
      rw [e.1]; omega
    · show zrg (V (20 + 2 * i + 1))
      rw [e.2]; omega
theorem ix_eq {t day : Int} (vis : Vis V D) (hD : WF D) (ht : isSk D t) : ix V t day = ix D t day := by
  obtain ⟨-, e, a, -, -⟩ := vis.st hD ht
  have nb := nS_b hD ht
  have hx := ix_ex (V := D) (t := t) (day := day) nb.1 (fun r r0 r1 => dS_lt2 hD ht r0 (show r < r + 1 by omega) r1)
  refine ix_u ⟨by omega, fun r r0 r1 => ?_, fun r r0 r1 => ?_⟩
  · rw [(a r r0 (by omega)).1]; exact hx.2.1 r r0 r1
  · rw [(a r (by omega) r1).1]; exact hx.2.2 r r0 (by omega)
theorem WF_st {D' : zD} {t : Int} (hD : WF D) (ht : isSk D t) (hE : ∀ i, stO t i → D' i = D i) (hn : 0 ≤ nS D' t ∧ nS D' t ≤ 8) (hr : ∀ r, 0 ≤ r → r < nS D' t → (0 ≤ dS D' t r ∧ dS D' t r ≤ 9999) ∧ (0 ≤ lS D' t r ∧ lS D' t r ≤ 9999)) (hs : ∀ r, 0 ≤ r → r + 1 < nS D' t → dS D' t r < dS D' t (r + 1)) : WF D' := by
  obtain ⟨ha, hS, hd, hp, hc, hR⟩ := hD
  have q := ha
  unfold WFa at q
  have t0 := ht.1
  have t1 := ht.2
  refine ⟨?_, ?_, ⟨fun f f0 f1 => ?_, fun f f0 f1 => ?_⟩, fun f x y f0 f1 x0 x1 y0 y1 => ?_, ⟨fun j j0 j1 => ?_, fun j j0 j1 => ?_⟩, fun u u0 u1 => ?_⟩
  · unfold WFa
    rw [hE 0 (by omega), hE 1 (by omega), hE 2 (by omega), hE 3 (by omega), hE 4 (by omega), hE 5 (by omega)]
    exact ha
  · unfold WFs
    rw [hE 83 (by omega), hE 84 (by omega), hE 85 (by omega), hE 86 (by omega), hE 87 (by omega), hE 88 (by omega), hE 89 (by omega), hE 90 (by omega)]
    exact hS
  · rw [hE 2 (by omega)] at f1; rw [hE _ (by omega)]; exact hd.1 f f0 f1
  · rw [hE 2 (by omega)] at f1; rw [hE _ (by omega), hE _ (by omega)]; exact hd.2 f f0 f1
  · rw [hE 2 (by omega)] at f1; rw [hE 0 (by omega)] at x1; rw [hE 1 (by omega)] at y1
    unfold px; rw [hE _ (by omega)]; exact hp f x y f0 f1 x0 x1 y0 y1
  · rw [hE 3 (by omega)] at j1; rw [hE 0 (by omega), hE 1 (by omega), hE _ (by omega), hE _ (by omega)]; exact hc.1 j j0 j1
  · rw [hE 4 (by omega)] at j1; rw [hE 0 (by omega), hE 1 (by omega), hE _ (by omega), hE _ (by omega)]; exact hc.2 j j0 j1
  · rw [hE 5 (by omega)] at u1
    by_cases z : u = t
    · rw [z]; exact ⟨hn, hr, hs⟩
    · obtain ⟨x, y, w⟩ := hR u u0 u1
      rw [hE (32 + u) (by omega)]
      refine ⟨x, fun r r0 r1 => ?_, fun r r0 r1 => ?_⟩
      · rw [hE _ (by omega), hE _ (by omega)]; exact y r r0 r1
      · rw [hE _ (by omega), hE _ (by omega)]; exact w r r0 r1
end CN
