/-! the class's undo -/
section UX
variable {σ : zSt} {V D D' : zD}
theorem sX0_revert {K : zSt → Prop} {q S : Int} {c : chg} (hkq : kX q = 0) (hS : Sc σ S D) (R : Rp σ S V) (vis : Vis V D) (hq : chO σ q = c) (zr : zrg c.1 ∧ zrg c.2.1 ∧ zrg c.2.2.1 ∧ zrg c.2.2.2.1 ∧ zrg c.2.2.2.2) (hD' : WF D') (vis' : Vis (rv c V) D') (hK : ∀ τ, frm (pSc S) σ τ → Rp τ S (rv c V) → K τ) : fX0_revert K σ q S := by
  have hD := hS.1
  have qq := hD.1
  unfold WFa at qq
  have hb := vis.vb hD
  have w := R.1.1
  have e0 : σ q 0 = c.1 := by rw [← hq]; rfl
  have e1 : σ q 1 = c.2.1 := by rw [← hq]; rfl
  have e2 : σ q 2 = c.2.2.1 := by rw [← hq]; rfl
  have e3 : σ q 3 = c.2.2.2.1 := by rw [← hq]; rfl
  have e4 : σ q 4 = c.2.2.2.2 := by rw [← hq]; rfl
  obtain ⟨z0, z1, z2, z3, z4⟩ := zr
  have v0 : V 0 = D 0 := vis.1.1
  have v1 : V 1 = D 1 := vis.1.2.1
  have v2 : V 2 = D 2 := vis.1.2.2.1
  have v4 : V 4 = D 4 := vis.1.2.2.2.2.1
  have v5 : V 5 = D 5 := vis.1.2.2.2.2.2
  have same : rv c V = V → K σ := fun e => hK σ frm.rf (by rw [e]; exact R)
  unfold fX0_revert
  rw [e0]
  refine ⟨hkq, hS.k, z0, fun z => ?_, fun z => ?_, fun z => ?_, fun z => ?_, fun z => ?_⟩
  · rw [e1]
    have er : rv c V = if 0 ≤ c.2.1 ∧ c.2.1 < 8 then vup V (83 + c.2.1) c.2.2.2.2 else V := by unfold rv; rw [if_pos z]
    refine sX11_isSetting z1 (fun i0 i1 => zb1 ⟨by rw [e1]; omega, fun σ5 e5 => ?_⟩) (fun y => zb0 (same (by rw [er, if_neg y])))
    rw [e1, e4] at e5
    rw [er, if_pos ⟨i0, i1⟩] at hK
    exact hK σ5 (by rw [e5]; exact frm.wr (by omega)) (by rw [e5]; exact R.set hb i0 i1)
  · rw [e1, e2, e3, e4]
    have er : rv c V = if isFr V c.2.1 ∧ isPx V c.2.2.1 c.2.2.2.1 then vup V (91 + 120 * c.2.1 + (12 * c.2.2.2.1 + c.2.2.1)) c.2.2.2.2 else V := by unfold rv; rw [if_neg (by omega), if_pos z]
    refine sX8_paint R hb hS v0 v1 v2 z1 z2 z3 (fun a b τ u1 u2 => ?_) (fun y => same (by rw [er, if_neg y]))
    rw [er, if_pos ⟨a, b⟩] at hK
    exact hK τ u1 u2
  · rw [e1]
    have er : rv c V = if 0 ≤ c.2.1 ∧ c.2.1 ≤ V 2 ∧ V 2 < 6 then pbk V c.2.1 else V := by unfold rv; rw [if_neg (by omega), if_neg (by omega), if_pos z]
    refine sX8_putBack R hb z1 (fun a τ u1 u2 => ?_) (fun y => same (by rw [er, if_neg y]))
    rw [er, if_pos a] at hK
    exact hK τ (u1.mo (fun a b z => by omega)) u2
  · rw [e1, e2, e3]
    have er : rv c V = if isFt V c.2.1 then vup (vup V (20 + 2 * c.2.1) c.2.2.1) (20 + 2 * c.2.1 + 1) c.2.2.2.1 else V := by unfold rv; rw [if_neg (by omega), if_neg (by omega), if_neg (by omega), if_pos z]
    refine sX7_place R hb hS v4 z1 (fun a τ u1 u2 => ?_) (fun y => same (by rw [er, if_neg y]))
    rw [er, if_pos a] at hK
    exact hK τ u1 u2
  · rw [e1]
    have er : rv c V = if c.1 = 4 then rdel V c.2.1 c.2.2.1 else rins V c.2.1 c.2.2.1 c.2.2.2.2 := by unfold rv; rw [if_neg (by omega), if_neg (by omega), if_neg (by omega), if_neg (by omega)]
    refine sX8_hasStake hS z1 (fun t0 t1 => zb1 ⟨by rw [e1]; omega, ?_⟩) (fun y => zb0 (same ?_))
    · obtain ⟨a1, a2, a3, a4, a5⟩ := vis.st hD ⟨t0, t1⟩
      have nb := hb.2.2.2.2.2.2 _ a1.1 a1.2
      have x := (R.2.2.2 _ a1.1 a1.2).1
      rw [e1]
      generalize ht : c.2.1 = t at *
      generalize hdy : c.2.2.1 = day at *
      have hc : S + 3 + 19 + t = S + 22 + t := by omega
      unfold fX0_revertReading
      rw [e0, e2, e4]
      refine ⟨hkq, by rw [hc, kX_9]; omega, z0, fun y => ?_, fun y => ?_⟩
      · rw [if_pos y] at er
        refine sX9_delete R hb a1 hc z2 a4 (fun p p0 p1 e hqq τ u1 u2 => ?_) (fun hn => same ?_)
        · have ei := ix_fst p0 p1 e a5
          unfold rdel at er
          rw [ei, if_pos ⟨a1, p1, e⟩] at er
          rw [er] at hK
          exact hK τ (u1.mo (fun a b z => by omega)) u2
        · rw [er]
          unfold rdel
          rw [if_neg]
          rintro ⟨-, h2, h3⟩
          have hx := ix_ex (V := V) (t := t) (day := day) nb.1 (fun r r0 r1 => a5 r (r + 1) r0 (by omega) r1)
          exact hn _ hx.1.1 h2 h3
      · rw [if_neg y] at er
        by_cases n8 : nS V t < 8
        · have ei : rv c V = rput V t (ix V t day) day c.2.2.2.2 := by rw [er]; unfold rins; rw [if_pos ⟨a1, n8⟩]
          have hx := ix_ex (V := V) (t := t) (day := day) nb.1 (fun r r0 r1 => a5 r (r + 1) r0 (by omega) r1)
          rw [ei] at vis' hK
          have t3 : 0 ≤ t ∧ t < 3 := ⟨t0, by omega⟩
          have ht' : isSk D' t := by
            refine ⟨t0, ?_⟩
            have := vis'.1.2.2.2.2.2
            rw [rput_o (by omega)] at this
            omega
          obtain ⟨-, -, -, -, s5⟩ := vis'.st hD' ht'
          have en : nS (rput V t (ix V t day) day c.2.2.2.2) t = nS V t + 1 := rput_n
          refine sX9_insert (p := ix V t day) R hb a1 hc n8 z2 a4 hx.1 hx.2.1 (fun r r0 r1 => ?_) (fun τ u1 u2 => hK τ (u1.mo (fun a b z => by omega)) u2)
          have k := s5 (ix V t day) (r + 1) hx.1.1 (by omega) (by rw [en]; omega)
          have p0 := hx.1.1
          rw [rput_d t3 (by omega) (by omega), rput_d t3 (by omega) (by omega), if_neg (by omega), if_pos rfl, if_neg (by omega), if_neg (by omega), show r + 1 - 1 = r by omega] at k
          exact k
        · unfold fX9_insert
          rw [hc, x]
          refine ⟨by rw [kX_9]; omega, by omega, fun z => absurd z n8, fun _ => same ?_⟩
          rw [er]; unfold rins; rw [if_neg (fun z => n8 z.2)]
    · rw [er]
      have ns : ¬ isSk V c.2.1 := fun u => y ⟨u.1, by have := u.2; omega⟩
      by_cases k : c.1 = 4
      · rw [if_pos k]; unfold rdel; rw [if_neg (fun u => ns u.1)]
      · rw [if_neg k]; unfold rins; rw [if_neg (fun u => ns u.1)]
theorem rX_undo {K : Int → zSt → Prop} {n : Nat} {C : Nat → chg} {H : Nat → zD} (h : XA σ D) (R : Rp σ (σ 0 0) V) (vis : Vis V D) (J : JR σ n C) (U : UC n V C H) (h1 : ∀ m : Nat, n = m + 1 → ∀ τ, frm (pMu (σ 0 0)) σ τ → τ 0 8 = σ 0 8 + 1 → Rp τ (σ 0 0) (rv (C 0) V) → JR τ m (fun k => C (k + 1)) → K m τ) (h0 : n = 0 → K (-1) σ) : fX11_undo K σ := by
  have w := R.1.1
  have hb := vis.vb h.1.1.1
  have J0 := J
  obtain ⟨j1, j2, j3, j4⟩ := J
  refine ⟨by omega, fun z => h0 (by omega), fun z => ?_⟩
  obtain ⟨m, hm⟩ : ∃ m : Nat, n = m + 1 := ⟨n - 1, by omega⟩
  subst hm
  obtain ⟨⟨a1, a2, a3, a4⟩, -⟩ := U
  refine sX3_takeLatest J0 (fun q τ kq u1 u2 u3 => ?_)
  have e0 : τ 0 0 = σ 0 0 := u1 0 0 (by omega)
  have R2 : Rp τ (σ 0 0) V := R.mv hb (fun a b a0 a1 => u1 a b (by omega))
  rw [e0]
  refine ⟨kq, h.1.1.k, sX0_revert (D' := H 0) kq (R2.sc vis h.1.1.1) R2 vis u2 a4 a2 a1 (fun υ v1 v2 σ6 e6 => ?_)⟩
  have J6 : JR υ m (fun k => C (k + 1)) := u3.fr (fun a b a0 a1 => v1 a b (by omega))
  have J7 : JR σ6 m (fun k => C (k + 1)) := J6.fr (fun a b a0 a1 => by rw [e6, zu_ne (by omega)])
  rw [J7.1]
  refine h1 m rfl σ6 ?_ ?_ ?_ J7
  · rw [e6]; exact ((u1.mo (fun a b z => by omega)).tr (v1.mo (fun a b z => by omega))).z (by omega)
  · rw [e6, zu_eq, v1 0 8 (by omega), u1 0 8 (by omega)]
  · have b0 := w
    have vb : VB (rv (C 0) V) := a1.vb a2
    exact v2.mv vb (fun a b a0 a1 => by rw [e6, zu_ne (by omega)])
theorem rX_undoCount {K : Int → zSt → Prop} {n : Nat} {C : Nat → chg} (J : JR σ n C) (hK : K n σ) : fX11_undoCount K σ := by
  show K (σ 5 0) σ
  rw [J.1]
  exact hK
end UX
