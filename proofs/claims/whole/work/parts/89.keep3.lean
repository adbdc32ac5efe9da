/-! seen the same after a reading is put in or taken out -/
section KQ
variable {V D : zD}
theorem Vis_st {W D' : zD} {t : Int} (vis : Vis V D) (hD : WF D) (ht : isSk D t) (hW : ∀ i, stO t i → W i = V i) (hE : ∀ i, stO t i → D' i = D i) (hn : nS W t = nS D' t) (hr : ∀ r, 0 ≤ r → r < nS D' t → dS W t r = dS D' t r ∧ lS W t r = lS D' t r) : Vis W D' := by
  have q := hD.1
  unfold WFa at q
  have t0 := ht.1
  have t1 := ht.2
  obtain ⟨⟨v0, v1, v2, v3, v4, v5⟩, vs, vd, vp, vc, vf, vr⟩ := vis
  refine ⟨⟨?_, ?_, ?_, ?_, ?_, ?_⟩, fun i i0 i1 => ?_, fun f f0 f1 => ?_, fun f x y f0 f1 x0 x1 y0 y1 => ?_, fun j j0 j1 => ?_, fun j j0 j1 => ?_, fun u u0 u1 => ?_⟩
  · rw [hW 0 (by omega), hE 0 (by omega)]; exact v0
  · rw [hW 1 (by omega), hE 1 (by omega)]; exact v1
  · rw [hW 2 (by omega), hE 2 (by omega)]; exact v2
  · rw [hW 3 (by omega), hE 3 (by omega)]; exact v3
  · rw [hW 4 (by omega), hE 4 (by omega)]; exact v4
  · rw [hW 5 (by omega), hE 5 (by omega)]; exact v5
  · rw [hW _ (by omega), hE _ (by omega)]; exact vs i i0 i1
  · rw [hE 2 (by omega)] at f1; rw [hW _ (by omega), hE _ (by omega)]; exact vd f f0 f1
  · rw [hE 2 (by omega)] at f1; rw [hE 0 (by omega)] at x1; rw [hE 1 (by omega)] at y1
    have k := vp f x y f0 f1 x0 x1 y0 y1
    unfold px at k ⊢
    rw [hW _ (by omega), hE _ (by omega)]; exact k
  · rw [hE 3 (by omega)] at j1; rw [hW _ (by omega), hE _ (by omega), hW _ (by omega), hE _ (by omega)]; exact vc j j0 j1
  · rw [hE 4 (by omega)] at j1; rw [hW _ (by omega), hE _ (by omega), hW _ (by omega), hE _ (by omega)]; exact vf j j0 j1
  · rw [hE 5 (by omega)] at u1
    by_cases z : u = t
    · rw [z]; exact ⟨hn, hr⟩
    · obtain ⟨x, y⟩ := vr u u0 u1
      have nb := nS_b hD (t := u) ⟨u0, u1⟩
      have en : nS D' u = nS D u := hE _ (by omega)
      refine ⟨by rw [en, show nS W u = nS V u from hW _ (by omega)]; exact x, fun r r0 r1 => ?_⟩
      rw [en] at r1
      rw [show dS W u r = dS V u r from hW _ (by omega), show lS W u r = lS V u r from hW _ (by omega), show dS D' u r = dS D u r from hE _ (by omega), show lS D' u r = lS D u r from hE _ (by omega)]
      exact y r r0 r1
end KQ
