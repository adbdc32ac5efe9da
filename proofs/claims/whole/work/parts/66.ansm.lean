/-! the reference's answers: a pair of the code thrown and the value -/
abbrev pMq : Int → Int → Prop := fun a b => 5 ≤ a ∨ (a = 0 ∧ (b = 4 ∨ 17 ≤ b))
abbrev p4 : Int → Int → Prop := fun a b => a = 0 ∧ b = 4
abbrev isFt (D : zD) (i : Int) : Prop := 0 ≤ i ∧ i < D 4
abbrev isFr (D : zD) (f : Int) : Prop := 0 ≤ f ∧ f < D 2
abbrev isSk (D : zD) (t : Int) : Prop := 0 ≤ t ∧ t < D 5
abbrev isPx (D : zD) (x y : Int) : Prop := 0 ≤ x ∧ x < D 0 ∧ 0 ≤ y ∧ y < D 1
abbrev rK (K : Int → zSt → Prop) (σ : zSt) (a : Int × Int) : Prop := ∀ r τ, frm pMq σ τ → τ 0 4 = a.1 → (a.1 = 0 → r = a.2) → K r τ
abbrev tk (D : zD) (i : Int) : tS := trk D i (D 87)
def tfd (st : tS) (f : Int) : Int := lp (fun k a => if (st.2.1 k).1 = f then k else a) st.1.toNat 0 (-1)
theorem tfd_in {D : zD} {st : tS} {f k : Int} (hG : TG D st) (k0 : 0 ≤ k) (k1 : k < st.1) (e : (st.2.1 k).1 = f) : tfd st f = k := by
  have step : ∀ (m : Nat) (x a : Int), 0 ≤ x → x + m = st.1 → (x ≤ k ∨ a = k) → lp (fun k a => if (st.2.1 k).1 = f then k else a) m x a = k := by
    intro m
    induction m with
    | zero => intro x a x0 hx ha; rw [lp_0]; omega
    | succ m ih =>
      intro x a x0 hx ha
      rw [lp_s]
      by_cases w : x = k
      · show lp _ m (x + 1) (if (st.2.1 x).1 = f then x else a) = k
        rw [w, if_pos e]
        exact ih (k + 1) k (by omega) (by omega) (Or.inr rfl)
      · have ne : ¬ (st.2.1 x).1 = f := fun z => by
          rcases Classical.em (x < k) with y | y
          · have := hG.2.2.1 x k x0 y k1; omega
          · have := hG.2.2.1 k x k0 (by omega) (by omega); omega
        show lp _ m (x + 1) (if (st.2.1 x).1 = f then x else a) = k
        rw [if_neg ne]
        exact ih (x + 1) a (by omega) (by omega) (by omega)
  exact step _ 0 (-1) (by decide) (by have := hG.1; omega) (by omega)
theorem tfd_no {st : tS} {f : Int} (h0 : 0 ≤ st.1) (h : ¬ tin st f) : tfd st f = -1 := by
  refine lp_const _ _ _ (fun y b y0 y1 => ?_)
  show (if (st.2.1 y).1 = f then y else b) = b
  rw [if_neg (fun z => h ⟨y, y0, by omega, z⟩)]
section AM
variable {K : Int → zSt → Prop} {D : zD} {σ : zSt}
theorem sM_inRange {x a b : Int} (hx : zrg x) (ha : zrg a) (hb : zrg b) (h1 : a ≤ x → x ≤ b → K 1 σ) (h0 : ¬ (a ≤ x ∧ x ≤ b) → K 0 σ) : fX12_inRange K σ x a b :=
  ⟨hx, ha, fun z => h0 (by omega), fun z => ⟨hb, fun w => h0 (by omega), fun w => h1 (by omega) (by omega)⟩⟩
theorem sM_isFrame {f : Int} (hd : σ 1 = D) (hD : WF D) (hf : zrg f) (h1 : 0 ≤ f → f < D 2 → K 1 σ) (h0 : ¬ isFr D f → K 0 σ) : fX12_isFrame K σ f := by
  have q := hD.1
  unfold WFa at q
  unfold fX12_isFrame
  rw [hd]
  exact sM_inRange hf (by decide) (by omega) (fun a b => ⟨Or.inr rfl, h1 a (by omega)⟩) (fun z => ⟨Or.inl rfl, h0 (fun w => z (by omega))⟩)
theorem sM_isFeature {f : Int} (hd : σ 1 = D) (hD : WF D) (hf : zrg f) (h1 : 0 ≤ f → f < D 4 → K 1 σ) (h0 : ¬ isFt D f → K 0 σ) : fX12_isFeature K σ f := by
  have q := hD.1
  unfold WFa at q
  unfold fX12_isFeature
  rw [hd]
  exact sM_inRange hf (by decide) (by omega) (fun a b => ⟨Or.inr rfl, h1 a (by omega)⟩) (fun z => ⟨Or.inl rfl, h0 (fun w => z (by omega))⟩)
theorem sM_isStake {f : Int} (hd : σ 1 = D) (hD : WF D) (hf : zrg f) (h1 : 0 ≤ f → f < D 5 → K 1 σ) (h0 : ¬ isSk D f → K 0 σ) : fX12_isStake K σ f := by
  have q := hD.1
  unfold WFa at q
  unfold fX12_isStake
  rw [hd]
  exact sM_inRange hf (by decide) (by omega) (fun a b => ⟨Or.inr rfl, h1 a (by omega)⟩) (fun z => ⟨Or.inl rfl, h0 (fun w => z (by omega))⟩)
theorem sM_isPixel {x y : Int} (hd : σ 1 = D) (hD : WF D) (hx : zrg x) (hy : zrg y) (h1 : isPx D x y → K 1 σ) (h0 : ¬ isPx D x y → K 0 σ) : fX12_isPixel K σ x y := by
  have q := hD.1
  unfold WFa at q
  subst hd
  unfold fX12_isPixel
  refine sM_inRange hx (by decide) (by omega) (fun a b => zb1 ?_) (fun z => zb0 ?_)
  · refine sM_inRange hy (by decide) (by omega) (fun c d => zb1 ?_) (fun z => zb0 ?_)
    · exact h1 ⟨a, by omega, c, by omega⟩
    · exact h0 (fun w => z ⟨w.2.2.1, by have := w.2.2.2; omega⟩)
  · exact h0 (fun w => z ⟨w.1, by have := w.2.1; omega⟩)
theorem sM_fails1 (h : ∀ τ, frm p4 σ τ → τ 0 4 = 0 → K 0 τ) : fX12_fails K σ 1 :=
  ⟨by decide, fun z => absurd z (by decide), fun _ τ e => ⟨fun z => absurd z (by decide), fun _ => h τ (by rw [e]; exact frm.wr (by omega)) (by rw [e]; exact zu_eq ..)⟩⟩
theorem sM_fails0 (h : ∀ τ, frm p4 σ τ → τ 0 4 = 1 → K 1 τ) : fX12_fails K σ 0 :=
  ⟨by decide, fun _ τ e => ⟨fun _ => h τ (by rw [e]; exact frm.wr (by omega)) (by rw [e]; exact zu_eq ..), fun z => (z rfl).elim⟩, fun z => (z rfl).elim⟩
theorem p4_D {τ : zSt} (h : frm p4 σ τ) (hd : σ 1 = D) : τ 1 = D := h.D hd (fun b => by omega)
theorem p4_q {τ : zSt} (h : frm p4 σ τ) : frm pMq σ τ := h.mo (fun a b z => by omega)
theorem frm.q {P : Int → Int → Prop} {τ υ : zSt} (h : frm pMq σ τ) (g : frm P τ υ) (q : ∀ a b, P a b → pMq a b) : frm pMq σ υ := h.tr (g.mo q)
theorem frm.q4 {P : Int → Int → Prop} {τ υ : zSt} {v : Int} (h : τ 0 4 = v) (g : frm P τ υ) (q : ¬ P 0 4) : υ 0 4 = v := (g 0 4 q).trans h
theorem sM_noTrack {i : Int} (hd : σ 1 = D) (hD : WF D) (hi : zrg i) (h1 : 0 ≤ i → i < D 4 → ∀ τ, frm pMq σ τ → τ 0 4 = 0 → MO τ D → MT τ (tk D i) (D 2) → K 0 τ) (h0 : ¬ isFt D i → ∀ τ, frm pMq σ τ → τ 0 4 = 1 → K 1 τ) : fX12_noTrack K σ i := by
  have t := hD.2.1
  unfold WFs at t
  refine sM_isFeature hd hD hi (fun i0 i1 => sM_fails1 (fun τ u1 u2 => zb0 (sM_setting (by decide) (by decide) ?_))) (fun z => sM_fails0 (fun τ u1 u2 => zb1 (h0 z τ (p4_q u1) u2)))
  rw [p4_D u1 hd]
  exact sM_track (p4_D u1 hd) hD i0 i1 (by show 0 ≤ D 87 ∧ D 87 ≤ 9; omega) (fun υ v1 v2 v3 => h1 i0 i1 υ ((p4_q u1).q v1 (fun a b z => by omega)) (v1.q4 u2 (by omega)) v2 v3)
theorem sM_noSegments {i : Int} (hd : σ 1 = D) (hD : WF D) (hi : zrg i) (h1 : 0 ≤ i → i < D 4 → ∀ τ, frm pMq σ τ → τ 0 4 = 0 → MO τ D → MT τ (tk D i) (D 2) → MC τ D (tk D i) (D 88) → K 0 τ) (h0 : ¬ isFt D i → ∀ τ, frm pMq σ τ → τ 0 4 = 1 → K 1 τ) : fX12_noSegments K σ i := by
  have t := hD.2.1
  unfold WFs at t
  refine sM_noTrack hd hD hi (fun i0 i1 τ u1 u2 u3 u4 => zb0 (sM_setting (by decide) (by decide) ?_)) (fun z τ u1 u2 => zb1 (h0 z τ u1 u2))
  have d1 : τ 1 = D := u1.D hd (fun b => by omega)
  rw [d1]
  exact sM_cut d1 hD (trk_G hD i0 i1) (by show 0 ≤ D 88 ∧ D 88 ≤ 1000; omega) u3 u4 (fun υ v1 v2 => h1 i0 i1 υ (u1.q v1 (fun a b z => by omega)) (v1.q4 u2 (by omega)) (u3.mv (fun a b z => v1 a b (by omega))) (u4.fr (fun a b a0 a1 => v1 a b (by omega))) v2)
def A_trackX (D : zD) (i f : Int) : Int × Int := if isFt D i ∧ isFr D f then (0, if tfd (tk D i) f = -1 then -1 else ((tk D i).2.1 (tfd (tk D i) f)).2.1) else (1, 0)
def A_trackY (D : zD) (i f : Int) : Int × Int := if isFt D i ∧ isFr D f then (0, if tfd (tk D i) f = -1 then -1 else ((tk D i).2.1 (tfd (tk D i) f)).2.2) else (1, 0)

theorem rM_trackX {i f : Int} (hd : σ 1 = D) (hD : WF D) (hi : zrg i) (hf : zrg f) (hK : rK K σ (A_trackX D i f)) : fX12_trackX K σ i f := by
  have q := hD.1
  unfold WFa at q
  have t := hD.2.1
  unfold WFs at t
  have no : ¬ (isFt D i ∧ isFr D f) → fX12_trackX_B22 K σ i f 0 := fun z => by
    rw [show A_trackX D i f = (1, 0) by unfold A_trackX; rw [if_neg z]] at hK
    exact sM_fails0 (fun τ u1 u2 => zb1 (hK _ τ (p4_q u1) u2 (fun w => absurd w (by decide))))
  refine sM_isFeature hd hD hi (fun i0 i1 => zb1 (sM_isFrame hd hD hf (fun f0 f1 => zb1 ?_) (fun z => zb0 (no (fun w => z w.2))))) (fun z => zb0 (no (fun w => z w.1)))
  rw [show A_trackX D i f = (0, _) by unfold A_trackX; rw [if_pos ⟨⟨i0, i1⟩, ⟨f0, f1⟩⟩]] at hK
  have hG : TG D (tk D i) := trk_G hD i0 i1
  refine sM_fails1 (fun τ u1 u2 => zb0 (sM_setting (by decide) (by decide) ?_))
  rw [p4_D u1 hd]
  refine sM_track (p4_D u1 hd) hD i0 i1 (by show 0 ≤ D 87 ∧ D 87 ≤ 9; omega) (fun υ v1 v2 v3 => ⟨by omega, ?_⟩)
  have hk : ∀ r, r = _ → K r υ := fun r e => hK r υ ((p4_q u1).q v1 (fun a b z => by omega)) (v1.q4 u2 (by omega)) (fun _ => e)
  have v3 : MT υ (tk D i) (D 2) := v3
  obtain ⟨t1, t2⟩ := v3.1 f f0 f1
  refine ⟨by omega, fun z => hk _ ?_, fun z => hk _ ?_⟩
  · have nt : ¬ tin (tk D i) f := fun w => by have := t2.mpr w; omega
    rw [if_pos (tfd_no hG.1.1 nt)]
  · obtain ⟨k, k0, k1, e⟩ := t2.mp (by omega)
    rw [tfd_in hG k0 k1 e, if_neg (by omega), ← e]
    exact (v3.2 k k0 k1).1

theorem rM_trackY {i f : Int} (hd : σ 1 = D) (hD : WF D) (hi : zrg i) (hf : zrg f) (hK : rK K σ (A_trackY D i f)) : fX12_trackY K σ i f := by
  have q := hD.1
  unfold WFa at q
  have t := hD.2.1
  unfold WFs at t
  have no : ¬ (isFt D i ∧ isFr D f) → fX12_trackY_B22 K σ i f 0 := fun z => by
    rw [show A_trackY D i f = (1, 0) by unfold A_trackY; rw [if_neg z]] at hK
    exact sM_fails0 (fun τ u1 u2 => zb1 (hK _ τ (p4_q u1) u2 (fun w => absurd w (by decide))))
  refine sM_isFeature hd hD hi (fun i0 i1 => zb1 (sM_isFrame hd hD hf (fun f0 f1 => zb1 ?_) (fun z => zb0 (no (fun w => z w.2))))) (fun z => zb0 (no (fun w => z w.1)))
  rw [show A_trackY D i f = (0, _) by unfold A_trackY; rw [if_pos ⟨⟨i0, i1⟩, ⟨f0, f1⟩⟩]] at hK
  have hG : TG D (tk D i) := trk_G hD i0 i1
  refine sM_fails1 (fun τ u1 u2 => zb0 (sM_setting (by decide) (by decide) ?_))
  rw [p4_D u1 hd]
  refine sM_track (p4_D u1 hd) hD i0 i1 (by show 0 ≤ D 87 ∧ D 87 ≤ 9; omega) (fun υ v1 v2 v3 => ⟨by omega, ?_⟩)
  have hk : ∀ r, r = _ → K r υ := fun r e => hK r υ ((p4_q u1).q v1 (fun a b z => by omega)) (v1.q4 u2 (by omega)) (fun _ => e)
  have v3 : MT υ (tk D i) (D 2) := v3
  obtain ⟨t1, t2⟩ := v3.1 f f0 f1
  refine ⟨by omega, fun z => hk _ ?_, fun z => hk _ ?_⟩
  · have nt : ¬ tin (tk D i) f := fun w => by have := t2.mpr w; omega
    rw [if_pos (tfd_no hG.1.1 nt)]
  · obtain ⟨k, k0, k1, e⟩ := t2.mp (by omega)
    rw [tfd_in hG k0 k1 e, if_neg (by omega), ← e]
    exact (v3.2 k k0 k1).2

def A_lostCount (D : zD) (i : Int) : Int × Int := if isFt D i then (0, (tk D i).2.2.1) else (1, 0)
theorem rM_lostCount {i : Int} (hd : σ 1 = D) (hD : WF D) (hi : zrg i) (hK : rK K σ (A_lostCount D i)) : fX12_lostCount K σ i := by
  refine sM_noTrack hd hD hi (fun i0 i1 τ u1 u2 u3 u4 => zb0 ?_) (fun z τ u1 u2 => zb1 ?_)
  · rw [show A_lostCount D i = (0, _) by unfold A_lostCount; rw [if_pos ⟨i0, i1⟩]] at hK
    exact sM_lost (i := i) (tol := D 87) (u1.D hd (fun b => by omega)) hD i0 i1 u3 u4 (hK _ τ u1 u2 (fun _ => rfl))
  · rw [show A_lostCount D i = (1, 0) by unfold A_lostCount; rw [if_neg z]] at hK
    exact hK _ τ u1 u2 (fun w => absurd w (by decide))
def A_segmentCount (D : zD) (i : Int) : Int × Int := if isFt D i then (0, tseg (tk D i)) else (1, 0)
theorem rM_segmentCount {i : Int} (hd : σ 1 = D) (hD : WF D) (hi : zrg i) (hK : rK K σ (A_segmentCount D i)) : fX12_segmentCount K σ i := by
  refine sM_noSegments hd hD hi (fun i0 i1 τ u1 u2 u3 u4 u5 => zb0 ?_) (fun z τ u1 u2 => zb1 ?_)
  · rw [show A_segmentCount D i = (0, _) by unfold A_segmentCount; rw [if_pos ⟨i0, i1⟩]] at hK
    exact hK _ τ u1 u2 (fun _ => u5.1)
  · rw [show A_segmentCount D i = (1, 0) by unfold A_segmentCount; rw [if_neg z]] at hK
    exact hK _ τ u1 u2 (fun w => absurd w (by decide))
def A_speed (D : zD) (i k : Int) : Int × Int := if isFt D i ∧ 0 ≤ k ∧ k + 1 < (tk D i).1 then (0, spd D (tk D i) (D 88) k) else (1, 0)
theorem rM_speed {i k : Int} (hd : σ 1 = D) (hD : WF D) (hi : zrg i) (hk : zrg k) (hK : rK K σ (A_speed D i k)) : fX12_speed K σ i k := by
  have t := hD.2.1
  unfold WFs at t
  have no : ¬ (isFt D i ∧ 0 ≤ k ∧ k + 1 < (tk D i).1) → ∀ r τ, frm pMq σ τ → τ 0 4 = 1 → K r τ := fun z r τ u1 u2 => by
    rw [show A_speed D i k = (1, 0) by unfold A_speed; rw [if_neg z]] at hK
    exact hK _ τ u1 u2 (fun w => absurd w (by decide))
  refine sM_noSegments hd hD hi (fun i0 i1 τ u1 u2 u3 u4 u5 => zb0 ?_) (fun z τ u1 u2 => zb1 (no (fun w => z w.1) _ _ u1 u2))
  have hG : TG D (tk D i) := trk_G hD i0 i1
  have g1 := hG.1
  rw [u5.1]
  refine sM_inRange hk (by decide) (by omega) (fun k0 k1 => sM_fails1 (fun υ v1 v2 => zb0 ?_)) (fun z => sM_fails0 (fun υ v1 v2 => zb1 (no (fun w => z (by omega)) _ _ (u1.tr (p4_q v1)) v2)))
  have c : 0 ≤ k ∧ k + 1 < (tk D i).1 := by omega
  rw [show A_speed D i k = (0, _) by unfold A_speed; rw [if_pos ⟨⟨i0, i1⟩, c⟩]] at hK
  have m5 : MC υ D (tk D i) (D 88) := ⟨(v1 _ _ (by omega)).trans u5.1, fun k k0 k1 => by rw [v1 _ _ (by omega), v1 _ _ (by omega), v1 _ _ (by omega)]; exact u5.2 k k0 k1⟩
  exact sM_speedOf (p4_D v1 (u1.D hd (fun b => by omega))) hD hG m5 (by omega) c.1 c.2 (hK _ υ (u1.tr (p4_q v1)) v2 (fun _ => rfl))
def A_meanSpeed (D : zD) (i : Int) : Int × Int := if isFt D i then (0, avg D (tk D i) (D 88)) else (1, 0)
theorem rM_meanSpeed {i : Int} (hd : σ 1 = D) (hD : WF D) (hi : zrg i) (hK : rK K σ (A_meanSpeed D i)) : fX12_meanSpeed K σ i := by
  have t := hD.2.1
  unfold WFs at t
  refine sM_noSegments hd hD hi (fun i0 i1 τ u1 u2 u3 u4 u5 => zb0 ?_) (fun z τ u1 u2 => zb1 ?_)
  · rw [show A_meanSpeed D i = (0, _) by unfold A_meanSpeed; rw [if_pos ⟨i0, i1⟩]] at hK
    exact sM_mean (u1.D hd (fun b => by omega)) hD (trk_G hD i0 i1) u5 (by omega) (hK _ τ u1 u2 (fun _ => rfl))
  · rw [show A_meanSpeed D i = (1, 0) by unfold A_meanSpeed; rw [if_neg z]] at hK
    exact hK _ τ u1 u2 (fun w => absurd w (by decide))
def A_meanSpeedWithScale (D : zD) (i sc : Int) : Int × Int := if isFt D i then (0, if 1 ≤ sc ∧ sc ≤ 1000 then avg D (tk D i) sc else -2) else (1, 0)
theorem rM_meanSpeedWithScale {i sc : Int} (hd : σ 1 = D) (hD : WF D) (hi : zrg i) (hs : zrg sc) (hK : rK K σ (A_meanSpeedWithScale D i sc)) : fX12_meanSpeedWithScale K σ i sc := by
  refine sM_noTrack hd hD hi (fun i0 i1 τ u1 u2 u3 u4 => zb0 ?_) (fun z τ u1 u2 => zb1 ?_)
  · rw [show A_meanSpeedWithScale D i sc = (0, _) by unfold A_meanSpeedWithScale; rw [if_pos ⟨i0, i1⟩]] at hK
    have d1 : τ 1 = D := u1.D hd (fun b => by omega)
    have hG : TG D (tk D i) := trk_G hD i0 i1
    refine sM_inRange hs (by decide) (by decide) (fun s0 s1 => zb1 ?_) (fun z => zb0 (hK _ τ u1 u2 (fun _ => by rw [if_neg z])))
    refine sM_cut d1 hD hG (by omega) u3 u4 (fun υ v1 v2 => sM_mean (v1.D d1 (fun b => by omega)) hD hG v2 (by omega) (hK _ υ (u1.q v1 (fun a b z => by omega)) (v1.q4 u2 (by omega)) (fun _ => by rw [if_pos ⟨s0, s1⟩])))
  · rw [show A_meanSpeedWithScale D i sc = (1, 0) by unfold A_meanSpeedWithScale; rw [if_neg z]] at hK
    exact hK _ τ u1 u2 (fun w => absurd w (by decide))
def A_positionX (D : zD) (i day : Int) : Int × Int := if isFt D i then (0, tpos D (tk D i) (tX D (tk D i)) day) else (1, 0)
def A_positionY (D : zD) (i day : Int) : Int × Int := if isFt D i then (0, tpos D (tk D i) (tY D (tk D i)) day) else (1, 0)

theorem rM_positionX {i day : Int} (hd : σ 1 = D) (hD : WF D) (hi : zrg i) (hs : zrg day) (hK : rK K σ (A_positionX D i day)) : fX12_positionX K σ i day := by
  refine sM_noTrack hd hD hi (fun i0 i1 τ u1 u2 u3 u4 => zb0 ?_) (fun z τ u1 u2 => zb1 ?_)
  · rw [show A_positionX D i day = (0, _) by unfold A_positionX; rw [if_pos ⟨i0, i1⟩]] at hK
    exact sM_positionOn (u1.D hd (fun b => by omega)) hD (trk_G hD i0 i1) u3 u4 hs (Or.inl ⟨rfl, rfl⟩) (hK _ τ u1 u2 (fun _ => rfl))
  · rw [show A_positionX D i day = (1, 0) by unfold A_positionX; rw [if_neg z]] at hK
    exact hK _ τ u1 u2 (fun w => absurd w (by decide))

theorem rM_positionY {i day : Int} (hd : σ 1 = D) (hD : WF D) (hi : zrg i) (hs : zrg day) (hK : rK K σ (A_positionY D i day)) : fX12_positionY K σ i day := by
  refine sM_noTrack hd hD hi (fun i0 i1 τ u1 u2 u3 u4 => zb0 ?_) (fun z τ u1 u2 => zb1 ?_)
  · rw [show A_positionY D i day = (0, _) by unfold A_positionY; rw [if_pos ⟨i0, i1⟩]] at hK
    exact sM_positionOn (u1.D hd (fun b => by omega)) hD (trk_G hD i0 i1) u3 u4 hs (Or.inr ⟨rfl, rfl⟩) (hK _ τ u1 u2 (fun _ => rfl))
  · rw [show A_positionY D i day = (1, 0) by unfold A_positionY; rw [if_neg z]] at hK
    exact hK _ τ u1 u2 (fun w => absurd w (by decide))

end AM
