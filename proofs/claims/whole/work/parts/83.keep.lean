/-! what is seen stays the same on both sides, and well formed: setting, pixel, feature -/
section KP
variable {V D : zD}
theorem vup_same {k v j : Int} (h : V j = D j) : vup V k v j = vup D k v j := by
  unfold vup
  by_cases z : j = k
  · rw [if_pos z, if_pos z]
  · rw [if_neg z, if_neg z]; exact h
theorem Vis.wr {k v : Int} (vis : Vis V D) (hD : WF D) (hk : 6 ≤ k ∧ ¬ (32 ≤ k ∧ k < 35)) : Vis (vup V k v) (vup D k v) := by
  have q := hD.1
  unfold WFa at q
  obtain ⟨⟨v0, v1, v2, v3, v4, v5⟩, vs, vd, vp, vc, vf, vr⟩ := vis
  have e : ∀ j, j < 6 → vup D k v j = D j := fun j h => vup_ne (by omega)
  refine ⟨⟨vup_same v0, vup_same v1, vup_same v2, vup_same v3, vup_same v4, vup_same v5⟩, fun i i0 i1 => vup_same (vs i i0 i1), fun f f0 f1 => ?_, fun f x y f0 f1 x0 x1 y0 y1 => ?_, fun j j0 j1 => ?_, fun j j0 j1 => ?_, fun t t0 t1 => ?_⟩
  · rw [e 2 (by decide)] at f1; exact vup_same (vd f f0 f1)
  · rw [e 2 (by decide)] at f1; rw [e 0 (by decide)] at x1; rw [e 1 (by decide)] at y1
    exact vup_same (vp f x y f0 f1 x0 x1 y0 y1)
  · rw [e 3 (by decide)] at j1; exact ⟨vup_same (vc j j0 j1).1, vup_same (vc j j0 j1).2⟩
  · rw [e 4 (by decide)] at j1; exact ⟨vup_same (vf j j0 j1).1, vup_same (vf j j0 j1).2⟩
  · rw [e 5 (by decide)] at t1
    obtain ⟨x, y⟩ := vr t t0 t1
    refine ⟨vup_same x, fun r r0 r1 => ?_⟩
    rw [show nS (vup D k v) t = nS D t from vup_ne (by omega)] at r1
    exact ⟨vup_same (y r r0 r1).1, vup_same (y r r0 r1).2⟩
theorem WF_set {i v : Int} (hD : WF D) (i0 : 0 ≤ i) (i1 : i < 8) (a : cLEAST i ≤ v) (b : v ≤ cGREAT i) : WF (vup D (83 + i) v) := by
  obtain ⟨ha, hs, hd, hp, hc, hr⟩ := hD
  have q := ha
  unfold WFa at q
  have e : ∀ j, j < 83 ∨ 91 ≤ j → vup D (83 + i) v j = D j := fun j h => vup_ne (by omega)
  refine ⟨?_, ?_, ⟨fun f f0 f1 => ?_, fun f f0 f1 => ?_⟩, fun f x y f0 f1 x0 x1 y0 y1 => ?_, ⟨fun j j0 j1 => ?_, fun j j0 j1 => ?_⟩, fun t t0 t1 => ?_⟩
  · unfold WFa
    rw [e 0 (by omega), e 1 (by omega), e 2 (by omega), e 3 (by omega), e 4 (by omega), e 5 (by omega)]
    exact ha
  · unfold WFs at hs ⊢
    unfold cLEAST at a
    unfold cGREAT at b
    have p : ∀ j, vup D (83 + i) v j = if j = 83 + i then v else D j := fun j => rfl
    rw [p, p, p, p, p, p, p, p]
    rcases (show i = 0 ∨ i = 1 ∨ i = 2 ∨ i = 3 ∨ i = 4 ∨ i = 5 ∨ i = 6 ∨ i = 7 by omega) with z | z | z | z | z | z | z | z <;> subst z <;> simp at a b ⊢ <;> omega
  · rw [e 2 (by omega)] at f1; rw [e _ (by omega)]; exact hd.1 f f0 f1
  · rw [e 2 (by omega)] at f1; rw [e _ (by omega), e _ (by omega)]; exact hd.2 f f0 f1
  · rw [e 2 (by omega)] at f1; rw [e 0 (by omega)] at x1; rw [e 1 (by omega)] at y1
    unfold px; rw [e _ (by omega)]; exact hp f x y f0 f1 x0 x1 y0 y1
  · rw [e 3 (by omega)] at j1; rw [e 0 (by omega), e 1 (by omega), e _ (by omega), e _ (by omega)]; exact hc.1 j j0 j1
  · rw [e 4 (by omega)] at j1; rw [e 0 (by omega), e 1 (by omega), e _ (by omega), e _ (by omega)]; exact hc.2 j j0 j1
  · rw [e 5 (by omega)] at t1
    obtain ⟨x, y, z⟩ := hr t t0 t1
    rw [e (32 + t) (by omega)]
    refine ⟨x, fun r r0 r1 => ?_, fun r r0 r1 => ?_⟩
    · rw [e _ (by omega), e _ (by omega)]; exact y r r0 r1
    · rw [e _ (by omega), e _ (by omega)]; exact z r r0 r1
theorem WF_px {f x y v : Int} (hD : WF D) (hf : isFr D f) (hp2 : isPx D x y) (a : 0 ≤ v) (b : v ≤ 9) : WF (vup D (91 + 120 * f + (12 * y + x)) v) := by
  obtain ⟨ha, hs, hd, hp, hc, hr⟩ := hD
  have q := ha
  unfold WFa at q
  have f0' := hf.1
  have x0' := hp2.1
  have y0' := hp2.2.2.1
  have e : ∀ j, j < 91 → vup D (91 + 120 * f + (12 * y + x)) v j = D j := fun j h => vup_ne (by omega)
  refine ⟨?_, ?_, ⟨fun f f0 f1 => ?_, fun f f0 f1 => ?_⟩, fun f x y f0 f1 x0 x1 y0 y1 => ?_, ⟨fun j j0 j1 => ?_, fun j j0 j1 => ?_⟩, fun t t0 t1 => ?_⟩
  · unfold WFa
    rw [e 0 (by omega), e 1 (by omega), e 2 (by omega), e 3 (by omega), e 4 (by omega), e 5 (by omega)]
    exact ha
  · unfold WFs
    rw [e 83 (by omega), e 84 (by omega), e 85 (by omega), e 86 (by omega), e 87 (by omega), e 88 (by omega), e 89 (by omega), e 90 (by omega)]
    exact hs
  · rw [e 2 (by omega)] at f1; rw [e _ (by omega)]; exact hd.1 f f0 f1
  · rw [e 2 (by omega)] at f1; rw [e _ (by omega), e _ (by omega)]; exact hd.2 f f0 f1
  · rw [e 2 (by omega)] at f1; rw [e 0 (by omega)] at x1; rw [e 1 (by omega)] at y1
    have k := hp f x y f0 f1 x0 x1 y0 y1
    unfold px at k ⊢
    unfold vup
    split
    · exact ⟨a, b⟩
    · exact k
  · rw [e 3 (by omega)] at j1; rw [e 0 (by omega), e 1 (by omega), e _ (by omega), e _ (by omega)]; exact hc.1 j j0 j1
  · rw [e 4 (by omega)] at j1; rw [e 0 (by omega), e 1 (by omega), e _ (by omega), e _ (by omega)]; exact hc.2 j j0 j1
  · rw [e 5 (by omega)] at t1
    obtain ⟨x, y, z⟩ := hr t t0 t1
    rw [e (32 + t) (by omega)]
    refine ⟨x, fun r r0 r1 => ?_, fun r r0 r1 => ?_⟩
    · rw [e _ (by omega), e _ (by omega)]; exact y r r0 r1
    · rw [e _ (by omega), e _ (by omega)]; exact z r r0 r1
theorem WF_ft {i u v : Int} (hD : WF D) (hi : isFt D i) (hp2 : isPx D u v) : WF (vup (vup D (20 + 2 * i) u) (20 + 2 * i + 1) v) := by
  obtain ⟨ha, hs, hd, hp, hc, hr⟩ := hD
  have q := ha
  unfold WFa at q
  have i0' := hi.1
  have i1' := hi.2
  have e : ∀ j, j < 20 ∨ 32 ≤ j → vup (vup D (20 + 2 * i) u) (20 + 2 * i + 1) v j = D j := fun j h => by rw [vup_ne (by omega), vup_ne (by omega)]
  refine ⟨?_, ?_, ⟨fun f f0 f1 => ?_, fun f f0 f1 => ?_⟩, fun f x y f0 f1 x0 x1 y0 y1 => ?_, ⟨fun j j0 j1 => ?_, fun j j0 j1 => ?_⟩, fun t t0 t1 => ?_⟩
  · unfold WFa
    rw [e 0 (by omega), e 1 (by omega), e 2 (by omega), e 3 (by omega), e 4 (by omega), e 5 (by omega)]
    exact ha
  · unfold WFs
    rw [e 83 (by omega), e 84 (by omega), e 85 (by omega), e 86 (by omega), e 87 (by omega), e 88 (by omega), e 89 (by omega), e 90 (by omega)]
    exact hs
  · rw [e 2 (by omega)] at f1; rw [e _ (by omega)]; exact hd.1 f f0 f1
  · rw [e 2 (by omega)] at f1; rw [e _ (by omega), e _ (by omega)]; exact hd.2 f f0 f1
  · rw [e 2 (by omega)] at f1; rw [e 0 (by omega)] at x1; rw [e 1 (by omega)] at y1
    unfold px; rw [e _ (by omega)]; exact hp f x y f0 f1 x0 x1 y0 y1
  · rw [e 3 (by omega)] at j1; rw [e 0 (by omega), e 1 (by omega), e _ (by omega), e _ (by omega)]; exact hc.1 j j0 j1
  · rw [e 4 (by omega)] at j1; rw [e 0 (by omega), e 1 (by omega)]
    by_cases z : j = i
    · rw [z, vup_ne (by omega), vup_eq, vup_eq]
      exact ⟨⟨hp2.1, hp2.2.1⟩, ⟨hp2.2.2.1, hp2.2.2.2⟩⟩
    · rw [vup_ne (by omega), vup_ne (by omega), vup_ne (by omega), vup_ne (by omega)]; exact hc.2 j j0 j1
  · rw [e 5 (by omega)] at t1
    obtain ⟨x, y, z⟩ := hr t t0 t1
    rw [e (32 + t) (by omega)]
    refine ⟨x, fun r r0 r1 => ?_, fun r r0 r1 => ?_⟩
    · rw [e _ (by omega), e _ (by omega)]; exact y r r0 r1
    · rw [e _ (by omega), e _ (by omega)]; exact z r r0 r1
end KP
