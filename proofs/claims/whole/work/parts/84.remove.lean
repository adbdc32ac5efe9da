/-! the reference takes a frame out -/
def rms (D : zD) (a p q : Int) : zD := fun i => if 6 + a ≤ i ∧ i < p then D (i + 1) else if 91 + 120 * a ≤ i ∧ i < q then D (i + 120) else D i
def rmv (D : zD) (a : Int) : zD := vup (rms D a (6 + (D 2 - 1)) (91 + 120 * (D 2 - 1))) 2 (D 2 - 1)
theorem rms_p {D : zD} {a p q : Int} (h : 6 + a ≤ p) (h2 : p < 12) : vup (rms D a p q) p (D (p + 1)) = rms D a (p + 1) q := by
  funext i
  unfold vup rms
  by_cases z : i = p
  · rw [if_pos z, if_pos ⟨by omega, by omega⟩, z]
  · rw [if_neg z]
    by_cases w : 6 + a ≤ i ∧ i < p
    · rw [if_pos w, if_pos ⟨w.1, by omega⟩]
    · rw [if_neg w, if_neg (show ¬ (6 + a ≤ i ∧ i < p + 1) from fun y => w ⟨y.1, by omega⟩)]
theorem rms_q {D : zD} {a p q : Int} (h : 91 + 120 * a ≤ q) (h2 : p ≤ 12) (h3 : 91 ≤ q) : vup (rms D a p q) q (D (q + 120)) = rms D a p (q + 1) := by
  funext i
  unfold vup rms
  by_cases z : i = q
  · rw [if_pos z, if_neg (by omega), if_pos ⟨by omega, by omega⟩, z]
  · rw [if_neg z]
    by_cases w : 6 + a ≤ i ∧ i < p
    · rw [if_pos w, if_pos w]
    · rw [if_neg w, if_neg w]
      by_cases y : 91 + 120 * a ≤ i ∧ i < q
      · rw [if_pos y, if_pos ⟨y.1, by omega⟩]
      · rw [if_neg y, if_neg (fun x => y ⟨x.1, by omega⟩)]
theorem rms_0 {D : zD} {a : Int} : rms D a (6 + a) (91 + 120 * a) = D := by
  funext i
  unfold rms
  rw [if_neg (by omega), if_neg (by omega)]
section RV
variable {D : zD} {σ0 : zSt} {a : Int}
theorem sM_removeFrame_B61 {K : Int → zSt → Prop} {k21 : zSt → Int → Prop} {j : Int} (a0 : 0 ≤ a) (aj : a ≤ j) (j5 : j + 1 < 6) : ∀ (m : Nat) (x : Int) (τ : zSt), x + m = 91 + 120 * (j + 1) → 91 + 120 * j ≤ x → frm (fun a _ => a = 1) σ0 τ → τ 1 = rms D a (6 + j + 1) x → (∀ υ, frm (fun a _ => a = 1) σ0 υ → υ 1 = rms D a (6 + (j + 1)) (91 + 120 * (j + 1)) → k21 υ (j + 1)) → fX12_removeFrame_B61 K k21 (m + 1) τ j x := by
  intro m
  induction m with
  | zero =>
    intro x τ e x0 fr hd hk
    rw [uX12_removeFrame_B61]
    refine ⟨by omega, by omega, fun _ => hk τ fr ?_, fun z => (z (by omega)).elim⟩
    rw [hd, show x = 91 + 120 * (j + 1) by omega, show 6 + j + 1 = 6 + (j + 1) by omega]
  | succ m ih =>
    intro x τ e x0 fr hd hk
    rw [uX12_removeFrame_B61]
    refine ⟨by omega, by omega, fun z => by omega, fun _ => ⟨by omega, by omega, fun σ15 e15 => ih (x + 1) σ15 (by omega) (by omega) (by rw [e15]; exact fr.z rfl) ?_ hk⟩⟩
    have v : τ 1 (x + 120) = D (x + 120) := by rw [hd]; unfold rms; rw [if_neg (by omega), if_neg (by omega)]
    rw [e15, zu_1, v, hd]
    exact rms_q (by omega) (by omega) (by omega)
theorem sM_removeFrame_B21 {K : Int → zSt → Prop} (a0 : 0 ≤ a) (a1 : a < D 2) (n6 : D 2 ≤ 6) (hK : ∀ υ, frm (fun a _ => a = 1) σ0 υ → υ 1 = rmv D a → K (D 2 - 1) υ) : ∀ (m : Nat) (j : Int) (τ : zSt), j + m = D 2 - 1 → a ≤ j → frm (fun a _ => a = 1) σ0 τ → τ 1 = rms D a (6 + j) (91 + 120 * j) → fX12_removeFrame_B21 K (m + 1) τ j := by
  intro m
  induction m with
  | zero =>
    intro j τ e aj fr hd
    have e2 : τ 1 2 = D 2 := by rw [hd]; unfold rms; rw [if_neg (by omega), if_neg (by omega)]
    rw [uX12_removeFrame_B21, e2]
    refine ⟨by omega, by omega, fun _ σ7 e7 => ?_, fun z => (z (by omega)).elim⟩
    have c : σ7 1 2 = D 2 - 1 := by rw [e7, zu_eq]
    rw [c]
    refine hK σ7 (by rw [e7]; exact fr.z rfl) ?_
    rw [e7, zu_1, hd, show j = D 2 - 1 by omega]
    rfl
  | succ m ih =>
    intro j τ e aj fr hd
    have e2 : τ 1 2 = D 2 := by rw [hd]; unfold rms; rw [if_neg (by omega), if_neg (by omega)]
    have e3 : τ 1 (6 + j + 1) = D (6 + j + 1) := by rw [hd]; unfold rms; rw [if_neg (by omega), if_neg (by omega)]
    rw [uX12_removeFrame_B21, e2, e3]
    refine ⟨by omega, by omega, fun z => by omega, fun _ => ⟨by omega, by omega, fun σ10 e10 => ⟨120 + 1, sM_removeFrame_B61 (σ0 := σ0) a0 aj (by omega) 120 (91 + 120 * j) σ10 (by omega) (by omega) (by rw [e10]; exact fr.z rfl) ?_ (fun υ u1 u2 => ih (j + 1) υ (by omega) (by omega) u1 u2)⟩⟩⟩
    rw [e10, zu_1, hd]
    exact rms_p (by omega) (by omega)
theorem rM_removeFrame {K : Int → zSt → Prop} {σ : zSt} {n : Nat} {H : Nat → zD} (hd : σ 1 = D) (hD : WF D) (h0 : HR σ n H) (ha : zrg a) (h1 : isFr D a → ∀ τ, frm pMm σ τ → τ 1 = rmv D a → HR τ (rec1 n) (hcn D H) → K (D 2 - 1) τ) (hN : ¬ isFr D a → ∀ τ, frm p4 σ τ → K (-1) τ) : fX12_removeFrame K σ a := fun σ1 e1 => by
  have q := hD.1
  unfold WFa at q
  have fr : frm p4 σ σ1 := by rw [e1]; exact frm.wr ⟨rfl, rfl⟩
  have d1 : σ1 1 = D := p4_D fr hd
  have hr : HR σ1 n H := h0.fr (fun b => fr 3 b (by omega)) (fr 0 3 (by omega)) (fun i _ => fr 1 i (by omega))
  refine sM_isFrame d1 hD ha (fun a0 a1 => zb1 (sM_remember hr (fun τ u1 u2 => ?_))) (fun z => zb0 (hN z σ1 fr))
  have d2 : τ 1 = D := u1.D d1 (fun b => by omega)
  rw [d1] at u2
  have hh := sM_removeFrame_B21 (K := K) (σ0 := τ) a0 a1 (by omega) (fun υ v1 v2 => h1 ⟨a0, a1⟩ υ ((fr.mo (fun a b z => by omega)).tr ((u1.mo (fun a b z => by omega)).tr (v1.mo (fun a b z => Or.inl z)))) v2 (u2.fr (fun b => v1 3 b (by omega)) (v1 0 3 (by omega)) (fun i hi => ?_))) (D 2 - 1 - a).toNat a τ (by omega) (by omega) frm.rf (by rw [d2, rms_0])
  · exact ⟨_, hh⟩
  · rw [v2, d2]
    unfold rmv
    rw [vup_ne (by omega)]
    unfold rms
    rw [if_neg (by omega), if_neg (by omega)]
end RV
theorem rmv_2 {D : zD} {a : Int} : rmv D a 2 = D 2 - 1 := vup_eq ..
theorem rmv_d {D : zD} {a f : Int} (a0 : 0 ≤ a) (f0 : 0 ≤ f) (f1 : f < D 2 - 1) (n6 : D 2 ≤ 6) : rmv D a (6 + f) = if f < a then D (6 + f) else D (6 + (f + 1)) := by
  unfold rmv
  rw [vup_ne (by omega)]
  unfold rms
  by_cases z : f < a
  · rw [if_neg (by omega), if_neg (by omega), if_pos z]
  · rw [if_pos (by omega), if_neg z, show 6 + f + 1 = 6 + (f + 1) by omega]
theorem rmv_p {D : zD} {a f x y : Int} (a0 : 0 ≤ a) (f0 : 0 ≤ f) (f1 : f < D 2 - 1) (n6 : D 2 ≤ 6) (hx : 0 ≤ x ∧ x < 12) (hy : 0 ≤ y ∧ y < 10) : px (rmv D a) f x y = if f < a then px D f x y else px D (f + 1) x y := by
  unfold px rmv
  rw [vup_ne (by omega)]
  unfold rms
  by_cases z : f < a
  · rw [if_neg (by omega), if_neg (by omega), if_pos z]
  · rw [if_neg (by omega), if_pos (by omega), if_neg z, show 91 + 120 * f + 12 * y + x + 120 = 91 + 120 * (f + 1) + 12 * y + x by omega]
theorem rmv_o {D : zD} {a i : Int} (a0 : 0 ≤ a) (n6 : D 2 ≤ 6) (h : i ≠ 2 ∧ ¬ (6 ≤ i ∧ i < 12) ∧ ¬ (91 ≤ i ∧ i < 811)) : rmv D a i = D i := by
  unfold rmv
  rw [vup_ne h.1]
  unfold rms
  rw [if_neg (by omega), if_neg (by omega)]
theorem Vis_rmv {V D : zD} {a : Int} (vis : Vis V D) (hD : WF D) (ha : isFr D a) : Vis (tko V a) (rmv D a) := by
  have q := hD.1
  unfold WFa at q
  have a0 := ha.1
  have a1 := ha.2
  obtain ⟨⟨v0, v1, v2, v3, v4, v5⟩, vs, vd, vp, vc, vf, vr⟩ := vis
  have n6 : D 2 ≤ 6 := by omega
  have e : ∀ i, i ≠ 2 ∧ ¬ (6 ≤ i ∧ i < 12) ∧ ¬ (91 ≤ i ∧ i < 811) → rmv D a i = D i := fun i h => rmv_o a0 n6 h
  have g : ∀ i, i ≠ 2 ∧ ¬ (6 ≤ i ∧ i < 12) ∧ ¬ (91 ≤ i ∧ i < 811) → tko V a i = V i := fun i h => prm_ot h
  have gt : ∀ f, 0 ≤ f → f < D 2 - 1 → gTk (V 2) a f = if f < a then f else f + 1 := fun f f0 f1 => by
    unfold gTk
    by_cases z : f < a
    · rw [if_pos z, if_pos z]
    · rw [if_neg z, if_neg z, if_pos (by omega)]
  refine ⟨⟨?_, ?_, ?_, ?_, ?_, ?_⟩, fun i i0 i1 => ?_, fun f f0 f1 => ?_, fun f x y f0 f1 x0 x1 y0 y1 => ?_, fun j j0 j1 => ?_, fun j j0 j1 => ?_, fun t t0 t1 => ?_⟩
  · rw [e 0 (by decide), g 0 (by decide)]; exact v0
  · rw [e 1 (by decide), g 1 (by decide)]; exact v1
  · rw [rmv_2, show tko V a 2 = V 2 - 1 from prm_2, v2]
  · rw [e 3 (by decide), g 3 (by decide)]; exact v3
  · rw [e 4 (by decide), g 4 (by decide)]; exact v4
  · rw [e 5 (by decide), g 5 (by decide)]; exact v5
  · rw [e _ (by omega), g _ (by omega)]; exact vs i i0 i1
  · rw [rmv_2] at f1
    rw [rmv_d a0 f0 f1 n6, show tko V a (6 + f) = V (6 + gTk (V 2) a f) from prm_day f0 (by omega), gt f f0 f1]
    by_cases z : f < a
    · rw [if_pos z, if_pos z]; exact vd f f0 (by omega)
    · rw [if_neg z, if_neg z]; exact vd (f + 1) (by omega) (by omega)
  · rw [rmv_2] at f1
    rw [e 0 (by decide)] at x1
    rw [e 1 (by decide)] at y1
    rw [rmv_p a0 f0 f1 n6 (by omega) (by omega)]
    have k : px (tko V a) f x y = V (91 + 120 * gTk (V 2) a f + (12 * y + x)) := by
      unfold px
      rw [show 91 + 120 * f + 12 * y + x = 91 + 120 * f + (12 * y + x) by omega]
      exact prm_px f0 (by omega) (by omega) (by omega)
    rw [k, gt f f0 f1]
    by_cases z : f < a
    · rw [if_pos z, if_pos z, ← vp f x y f0 (by omega) x0 x1 y0 y1]; unfold px; rw [show 91 + 120 * f + (12 * y + x) = 91 + 120 * f + 12 * y + x by omega]
    · rw [if_neg z, if_neg z, ← vp (f + 1) x y (by omega) (by omega) x0 x1 y0 y1]; unfold px; rw [show 91 + 120 * (f + 1) + (12 * y + x) = 91 + 120 * (f + 1) + 12 * y + x by omega]
  · rw [e 3 (by decide)] at j1
    rw [e _ (by omega), e _ (by omega), g _ (by omega), g _ (by omega)]; exact vc j j0 j1
  · rw [e 4 (by decide)] at j1
    rw [e _ (by omega), e _ (by omega), g _ (by omega), g _ (by omega)]; exact vf j j0 j1
  · rw [e 5 (by decide)] at t1
    obtain ⟨x, y⟩ := vr t t0 t1
    have nb := nS_b hD (t := t) ⟨t0, t1⟩
    have en : nS (rmv D a) t = nS D t := e (32 + t) (by omega)
    refine ⟨by rw [en, show nS (tko V a) t = nS V t from g (32 + t) (by omega)]; exact x, fun r r0 r1 => ?_⟩
    rw [en] at r1
    rw [show dS (rmv D a) t r = dS D t r from e (35 + (8 * t) + r) (by omega), show lS (rmv D a) t r = lS D t r from e (59 + (8 * t) + r) (by omega), show dS (tko V a) t r = dS V t r from g (35 + (8 * t) + r) (by omega), show lS (tko V a) t r = lS V t r from g (59 + (8 * t) + r) (by omega)]
    exact y r r0 r1
theorem WF_rmv {D : zD} {a : Int} (hD : WF D) (hf : isFr D a) : WF (rmv D a) := by
  have hD0 := hD
  obtain ⟨ha, hs, hd, hp, hc, hr⟩ := hD
  have q := ha
  unfold WFa at q
  have a0 := hf.1
  have a1 := hf.2
  have n6 : D 2 ≤ 6 := by omega
  have e : ∀ i, i ≠ 2 ∧ ¬ (6 ≤ i ∧ i < 12) ∧ ¬ (91 ≤ i ∧ i < 811) → rmv D a i = D i := fun i h => rmv_o a0 n6 h
  refine ⟨?_, ?_, ⟨fun f f0 f1 => ?_, fun f f0 f1 => ?_⟩, fun f x y f0 f1 x0 x1 y0 y1 => ?_, ⟨fun j j0 j1 => ?_, fun j j0 j1 => ?_⟩, fun t t0 t1 => ?_⟩
  · unfold WFa
    rw [e 0 (by decide), e 1 (by decide), rmv_2, e 3 (by decide), e 4 (by decide), e 5 (by decide)]
    omega
  · unfold WFs
    rw [e 83 (by omega), e 84 (by omega), e 85 (by omega), e 86 (by omega), e 87 (by omega), e 88 (by omega), e 89 (by omega), e 90 (by omega)]
    exact hs
  · rw [rmv_2] at f1
    rw [rmv_d a0 f0 f1 n6]
    split
    · exact hd.1 f f0 (by omega)
    · exact hd.1 (f + 1) (by omega) (by omega)
  · rw [rmv_2] at f1
    rw [rmv_d a0 f0 (by omega) n6, rmv_d a0 (by omega) f1 n6]
    by_cases z : f < a
    · rw [if_pos z]
      by_cases w : f + 1 < a
      · rw [if_pos w]; exact hd.2 f f0 (by omega)
      · rw [if_neg w]; exact day_lt2 hD0 f0 (by omega) (by omega)
    · rw [if_neg z, if_neg (by omega)]; exact hd.2 (f + 1) (by omega) (by omega)
  · rw [rmv_2] at f1
    rw [e 0 (by decide)] at x1
    rw [e 1 (by decide)] at y1
    rw [rmv_p a0 f0 f1 n6 (by omega) (by omega)]
    split
    · exact hp f x y f0 (by omega) x0 x1 y0 y1
    · exact hp (f + 1) x y (by omega) (by omega) x0 x1 y0 y1
  · rw [e 3 (by decide)] at j1; rw [e 0 (by decide), e 1 (by decide), e _ (by omega), e _ (by omega)]; exact hc.1 j j0 j1
  · rw [e 4 (by decide)] at j1; rw [e 0 (by decide), e 1 (by decide), e _ (by omega), e _ (by omega)]; exact hc.2 j j0 j1
  · rw [e 5 (by decide)] at t1
    obtain ⟨x, y, z⟩ := hr t t0 t1
    rw [e (32 + t) (by omega)]
    refine ⟨x, fun r r0 r1 => ?_, fun r r0 r1 => ?_⟩
    · rw [e _ (by omega), e _ (by omega)]; exact y r r0 r1
    · rw [e _ (by omega), e _ (by omega)]; exact z r r0 r1
