/-! loops, the least tolerance, the fastest feature: both sides -/
abbrev fx (D : zD) (i : Int) : Int := D (20 + (2 * i))
abbrev fy (D : zD) (i : Int) : Int := D (20 + (2 * i) + 1)
def l1 (D : zD) (i b : Int) : mS := mR D (refer D) (fx D i) (fy D i) b
def l2 (D : zD) (i b c : Int) : mS := mR D b (l1 D i b).2.1 (l1 D i b).2.2.1 c
def l3 (D : zD) (i b c : Int) : mS := mR D c (l2 D i b c).2.1 (l2 D i b c).2.2.1 (refer D)
def lpv (D : zD) (i b c : Int) : Int := if (l1 D i b).1 = 0 then -1 else if (l2 D i b c).1 = 0 then -1 else if (l3 D i b c).1 = 0 then -1 else (((l3 D i b c).2.1 - fx D i).natAbs : Int) + (((l3 D i b c).2.2.1 - fy D i).natAbs : Int)
theorem mR_in {D : zD} (hD : WF D) {a u v b : Int} (h : 1 ≤ (mR D a u v b).1) : (0 ≤ (mR D a u v b).2.1 ∧ (mR D a u v b).2.1 < D 0) ∧ (0 ≤ (mR D a u v b).2.2.1 ∧ (mR D a u v b).2.2.1 < D 1) := by
  have t := hD.2.1
  unfold WFs at t
  have := ((mR_I hD a u v b).2.1 h).1
  omega
section LX
variable {K : Int → zSt → Prop} {KX : String → zSt → Prop} {D : zD} {σ : zSt}
theorem sX_fx (h : XQ σ D) {i : Int} (i0 : 0 ≤ i) (i1 : i < D 4) : σ (σ 0 0 + 7 + 1) i = fx D i ∧ σ (σ 0 0 + 7 + 2) i = fy D i := by
  have := h.1.2.2.2.1.2 i i0 i1
  rw [show σ 0 0 + 7 + 1 = σ 0 0 + 8 by omega, show σ 0 0 + 7 + 2 = σ 0 0 + 9 by omega]
  exact this
theorem sX11_errorOfLoop {i b c : Int} (h : XA σ D) (i0 : 0 ≤ i) (i1 : i < D 4) (hb : isFr D b) (hc : isFr D c) (hK : ∀ τ, frm pQ σ τ → XA τ D → K (lpv D i b c) τ) : fX11_errorOfLoop K σ i b c := by
  have hD := h.1.1.1
  have q := hD.1
  unfold WFa at q
  have cc := hD.2.2.2.2.1.2 i i0 i1
  have rb := refer_b hD
  refine sX11_orA h (fun τ u1 u2 u3 => ⟨rfl, u2.1.1.k, by omega, ?_⟩)
  have ef := sX_fx u2.1 i0 i1
  rw [ef.1, ef.2, u3.1]
  have sr : ∀ (υ : zSt) (a u v b : Int) (K2 : zSt → Prop), frm pQ σ υ → XA υ D → OI υ D → zrg a → zrg u → zrg v → zrg b → (∀ φ, frm pQ σ φ → XA φ D → OI φ D → RX φ (mR D a u v b) → K2 φ) → fX5_search K2 υ (υ 0 0) a u v b := fun υ a u v b K2 w1 w2 w3 za zu' zv zb k => sX5_search w2.1.1 w3 za zb zu' zv (fun φ x1 x2 => k φ (w1.tr (x1.mo (fun a b z => by omega))) (w2.fr (fun a b z => x1 a b (by omega))) (w3.fr (fun a b a0 a1 _ => x1 a b (by omega))) x2)
  have B140n : ∀ (υ : zSt) (st : mS), frm pQ σ υ → XA υ D → RX υ st → mI D 100 st → st.1 = 0 → lpv D i b c = -1 → fX11_errorOfLoop_B140 K υ (fx D i) (fy D i) := fun υ st w1 w2 w3 w4 z e =>
    sX5_exists w3 w4 (fun y => by omega) (fun _ => zb0 (by rw [← e]; exact hK υ w1 w2))
  refine sr τ (refer D) (fx D i) (fy D i) b _ u1 u2 u3 (by omega) (by show zrg (D (20 + (2 * i))); omega) (by show zrg (D (20 + (2 * i) + 1)); omega) (by omega) (fun υ v1 v2 v3 v4 => ?_)
  have v4 : RX υ (l1 D i b) := v4
  have m1' : mI D 100 (l1 D i b) := mR_I hD _ _ _ _
  refine sX5_exists v4 m1' (fun z1 => zb1 ⟨v2.1.1.k, ?_⟩) (fun z1 => zb0 ?_)
  · have p1 : (0 ≤ (l1 D i b).2.1 ∧ (l1 D i b).2.1 < D 0) ∧ (0 ≤ (l1 D i b).2.2.1 ∧ (l1 D i b).2.2.1 < D 1) := mR_in hD z1
    rw [(v4.2.1 z1).1, (v4.2.1 z1).2.1]
    refine sr υ b (l1 D i b).2.1 (l1 D i b).2.2.1 c _ v1 v2 v3 (by omega) (by omega) (by omega) (by omega) (fun φ w1 w2 w3 w4 => ?_)
    have w4 : RX φ (l2 D i b c) := w4
    have m2' : mI D 100 (l2 D i b c) := mR_I hD _ _ _ _
    refine sX5_exists w4 m2' (fun z2 => zb1 ⟨w2.1.1.k, ?_⟩) (fun z2 => zb0 ?_)
    · have p2 : (0 ≤ (l2 D i b c).2.1 ∧ (l2 D i b c).2.1 < D 0) ∧ (0 ≤ (l2 D i b c).2.2.1 ∧ (l2 D i b c).2.2.1 < D 1) := mR_in hD z2
      rw [(w4.2.1 z2).1, (w4.2.1 z2).2.1]
      refine sr φ c (l2 D i b c).2.1 (l2 D i b c).2.2.1 (refer D) _ w1 w2 w3 (by omega) (by omega) (by omega) (by omega) (fun ψ x1 x2 x3 x4 => ?_)
      have x4 : RX ψ (l3 D i b c) := x4
      have m3' : mI D 100 (l3 D i b c) := mR_I hD _ _ _ _
      refine sX5_exists x4 m3' (fun z3 => zb1 ?_) (fun z3 => zb0 ?_)
      · have p3 : (0 ≤ (l3 D i b c).2.1 ∧ (l3 D i b c).2.1 < D 0) ∧ (0 ≤ (l3 D i b c).2.2.1 ∧ (l3 D i b c).2.2.1 < D 1) := mR_in hD z3
        rw [(x4.2.1 z3).1, (x4.2.1 z3).2.1]
        have hk := hK ψ x1 x2
        unfold lpv at hk
        rw [if_neg (by omega), if_neg (by omega), if_neg (by omega)] at hk
        refine ⟨?_, ?_, hk⟩
        · show zrg ((l3 D i b c).2.1 - D (20 + (2 * i))); omega
        · show zrg ((l3 D i b c).2.2.1 - D (20 + (2 * i) + 1)); omega
      · have hk := hK ψ x1 x2
        unfold lpv at hk
        rw [if_neg (by omega), if_neg (by omega), if_pos z3] at hk
        exact hk
    · exact B140n φ _ w1 w2 w4 m2' z2 (by unfold lpv; rw [if_neg (by omega), if_pos z2])
  · unfold fX11_errorOfLoop_B100
    exact sX5_exists v4 m1' (fun y => by omega) (fun _ => zb0 (B140n υ _ v1 v2 v4 m1' z1 (by unfold lpv; rw [if_pos z1])))
def A_loopError (D : zD) (i b c : Int) : Int × Int := if isFt D i ∧ isFr D b ∧ isFr D c then (0, lpv D i b c) else (1, 0)
theorem rX_loopError {i b c : Int} (h : XA σ D) (hi : zrg i) (hb : zrg b) (hc : zrg c) (hK : xK K KX σ D (A_loopError D i b c)) : fX11_loopError K KX σ i b c := by
  have no : ¬ (isFt D i ∧ isFr D b ∧ isFr D c) → KX eIO σ := fun z => hK.2.1 σ frm.rf h (by unfold A_loopError; rw [if_neg z])
  refine sX11_requireFeature h.1 hi (fun i0 i1 => sX11_requireFrame h.1 hb (fun b0 b1 => sX11_requireFrame h.1 hc (fun c0 c1 => sX11_errorOfLoop h i0 i1 ⟨b0, b1⟩ ⟨c0, c1⟩ (fun τ u1 u2 => ?_)) (fun z => no (fun w => z w.2.2))) (fun z => no (fun w => z w.2.1))) (fun z => no (fun w => z w.1))
  have := hK.1 τ u1 u2 (by unfold A_loopError; rw [if_pos ⟨⟨i0, i1⟩, ⟨b0, b1⟩, ⟨c0, c1⟩⟩])
  unfold A_loopError at this; rw [if_pos ⟨⟨i0, i1⟩, ⟨b0, b1⟩, ⟨c0, c1⟩⟩] at this
  exact this
theorem sM_loop {i b c : Int} (hd : σ 1 = D) (hD : WF D) (hM : MO σ D) (i0 : 0 ≤ i) (i1 : i < D 4) (hb : isFr D b) (hc : isFr D c) (hK : ∀ τ, frm pms σ τ → K (lpv D i b c) τ) : fX12_loop K σ i b c := by
  have q := hD.1
  unfold WFa at q
  have cc := hD.2.2.2.2.1.2 i i0 i1
  have rb := refer_b hD
  have ob := oriF_s hD b
  have oc := oriF_s hD c
  have ef : σ 1 (20 + (2 * i)) = fx D i := by rw [hd]
  have ef2 : σ 1 ((20 + (2 * i)) + 1) = fy D i := by rw [hd]
  have n1 : (oriF D b).1 ≠ 1 → lpv D i b c = -1 := fun z => by
    unfold lpv
    rw [if_pos]
    show (mR D (refer D) (fx D i) (fy D i) b).1 = 0
    unfold mR; rw [if_neg (fun w => z w.2.1)]
  have n2 : (oriF D c).1 ≠ 1 → lpv D i b c = -1 := fun z => by
    have e : (l2 D i b c).1 = 0 := by
      show (mR D b (l1 D i b).2.1 (l1 D i b).2.2.1 c).1 = 0
      unfold mR; rw [if_neg (fun w => z w.2.1)]
    unfold lpv
    by_cases y : (l1 D i b).1 = 0
    · rw [if_pos y]
    · rw [if_neg y, if_pos e]
  have out : lpv D i b c = -1 → ∀ τ, frm pms σ τ → K (-1) τ := fun e τ u => by rw [← e]; exact hK τ u
  unfold fX12_loop
  rw [ef, ef2, hM.1, (hM.2 b hb.1 hb.2).1, (hM.2 c hc.1 hc.2).1]
  refine ⟨by omega, by omega, by omega, fun z => out ?_ σ frm.rf, fun z => ⟨by omega, by omega, fun z1 => out (n1 (by omega)) σ frm.rf, fun z1 => ⟨by omega, by omega, fun z2 => out (n2 (by omega)) σ frm.rf, fun z2 => ?_⟩⟩⟩
  · unfold lpv
    rw [if_pos]
    show (mR D (refer D) (fx D i) (fy D i) b).1 = 0
    unfold mR
    rw [if_neg]
    intro w
    have := oriF_in w.1
    omega
  · have zr : (oriF D (refer D)).1 = 1 := by unfold oriF; rw [if_pos (by omega), if_pos rfl]
    refine sM_search hd hD hM zr (by omega) (by show -1000 ≤ D (20 + (2 * i)) ∧ D (20 + (2 * i)) ≤ 1000; omega) (by show -1000 ≤ D (20 + (2 * i) + 1) ∧ D (20 + (2 * i) + 1) ≤ 1000; omega) (fun τ u1 u2 u3 => zb1 ?_) (fun τ u1 u2 u3 => zb0 (out ?_ τ u1))
    · have u2 : RM τ (l1 D i b) := u2
      have u3 : 1 ≤ (l1 D i b).1 := u3
      have p1 : (0 ≤ (l1 D i b).2.1 ∧ (l1 D i b).2.1 < D 0) ∧ (0 ≤ (l1 D i b).2.2.1 ∧ (l1 D i b).2.2.1 < D 1) := mR_in hD u3
      have dτ : τ 1 = D := u1.D hd (fun b => by omega)
      have Mτ : MO τ D := hM.mv (fun a b z => u1 a b (by omega))
      rw [(u2.2.2 u3).1, (u2.2.2 u3).2]
      refine sM_search dτ hD Mτ (by omega) (by omega) (by omega) (by omega) (fun υ v1 v2 v3 => zb1 ?_) (fun υ v1 v2 v3 => zb0 (out ?_ υ (u1.tr v1)))
      · have v2 : RM υ (l2 D i b c) := v2
        have v3 : 1 ≤ (l2 D i b c).1 := v3
        have p2 : (0 ≤ (l2 D i b c).2.1 ∧ (l2 D i b c).2.1 < D 0) ∧ (0 ≤ (l2 D i b c).2.2.1 ∧ (l2 D i b c).2.2.1 < D 1) := mR_in hD v3
        have dυ : υ 1 = D := v1.D dτ (fun b => by omega)
        have Mυ : MO υ D := Mτ.mv (fun a b z => v1 a b (by omega))
        rw [(v2.2.2 v3).1, (v2.2.2 v3).2, Mυ.1]
        refine sM_search dυ hD Mυ (by omega) zr (by omega) (by omega) (fun φ w1 w2 w3 => zb1 ?_) (fun φ w1 w2 w3 => zb0 (out ?_ φ ((u1.tr v1).tr w1)))
        · have w2 : RM φ (l3 D i b c) := w2
          have w3 : 1 ≤ (l3 D i b c).1 := w3
          have p3 : (0 ≤ (l3 D i b c).2.1 ∧ (l3 D i b c).2.1 < D 0) ∧ (0 ≤ (l3 D i b c).2.2.1 ∧ (l3 D i b c).2.2.1 < D 1) := mR_in hD w3
          have hk := hK φ ((u1.tr v1).tr w1)
          unfold lpv at hk
          rw [if_neg (by omega), if_neg (by omega), if_neg (by omega)] at hk
          rw [(w2.2.2 w3).1]
          refine sM_absolute (by show zrg ((l3 D i b c).2.1 - D (20 + (2 * i))); omega) ?_
          rw [(w2.2.2 w3).2]
          exact sM_absolute (by show zrg ((l3 D i b c).2.2.1 - D (20 + (2 * i) + 1)); omega) hk
        · have e3 : (l3 D i b c).1 = 0 := w3
          unfold lpv
          rw [if_neg (by omega), if_neg (by omega), if_pos e3]
      · have e2 : (l2 D i b c).1 = 0 := v3
        unfold lpv
        rw [if_neg (by omega), if_pos e2]
    · have e1 : (l1 D i b).1 = 0 := u3
      unfold lpv
      rw [if_pos e1]
theorem rM_loopError {i b c : Int} (hd : σ 1 = D) (hD : WF D) (hi : zrg i) (hb : zrg b) (hc : zrg c) (hK : rK K σ (A_loopError D i b c)) : fX12_loopError K σ i b c := by
  have no : ¬ (isFt D i ∧ isFr D b ∧ isFr D c) → fX12_loopError_B30 K σ i b c 0 := fun z => by
    rw [show A_loopError D i b c = (1, 0) by unfold A_loopError; rw [if_neg z]] at hK
    exact sM_fails0 (fun τ u1 u2 => zb1 (hK _ τ (p4_q u1) u2 (fun w => absurd w (by decide))))
  refine sM_isFeature hd hD hi (fun i0 i1 => zb1 (sM_isFrame hd hD hb (fun b0 b1 => zb1 (sM_isFrame hd hD hc (fun c0 c1 => zb1 (sM_fails1 (fun τ u1 u2 => zb0 ?_))) (fun z => zb0 (no (fun w => z w.2.2))))) (fun z => zb0 (no (fun w => z w.2.1))))) (fun z => zb0 (no (fun w => z w.1)))
  rw [show A_loopError D i b c = (0, _) by unfold A_loopError; rw [if_pos ⟨⟨i0, i1⟩, ⟨b0, b1⟩, ⟨c0, c1⟩⟩]] at hK
  refine sM_orient (p4_D u1 hd) hD (fun υ v1 v2 => ?_)
  have uq : frm pMq σ υ := (p4_q u1).q v1 (fun a b z => by omega)
  exact sM_loop (uq.D hd (fun b => by omega)) hD v2 i0 i1 ⟨b0, b1⟩ ⟨c0, c1⟩ (fun φ w1 => hK _ φ (uq.q w1 (fun a b z => by omega)) (w1.q4 (v1.q4 u2 (by omega)) (by omega)) (fun _ => rfl))
def lpc (D : zD) (i b c a : Int) : Int := if lpv D i b c = 0 then a + 1 else a
def lpr (D : zD) (i b a : Int) : Int := lp (lpc D i b) (D 2 - (b + 1)).toNat (b + 1) a
def lps (D : zD) (i : Int) : Int := if refer D = -1 then 0 else lp (lpr D i) (D 2 - (refer D + 1)).toNat (refer D + 1) 0
def A_closedLoops (D : zD) (i : Int) : Int × Int := if isFt D i then (0, lps D i) else (1, 0)
theorem sX11_closedLoops_B45 {i b : Int} (i0 : 0 ≤ i) (i1 : i < D 4) (hb : isFr D b) {k27 : zSt → Int → Int → Int → Prop} : ∀ (m : Nat) (c a : Int) (σ1 : zSt), c + m = D 2 → 0 ≤ c → frm pQ σ σ1 → XA σ1 D → (∀ τ, frm pQ σ τ → XA τ D → k27 τ i (lp (lpc D i b) m c a) (b + 1)) → fX11_closedLoops_B45 K KX k27 (m + 1) σ1 i a b c := by
  intro m
  induction m with
  | zero =>
    intro c a σ1 e c0 fr h hk
    have q := h.1.1.1.1
    unfold WFa at q
    have e2 : σ1 (σ1 0 0) 2 = D 2 := h.1.1.2.1.2.2.2.1
    rw [uX11_closedLoops_B45, e2]
    exact ⟨h.1.1.k, by omega, by omega, fun _ => hk σ1 fr h, fun w => (w (by omega)).elim⟩
  | succ m ih =>
    intro c a σ1 e c0 fr h hk
    have q := h.1.1.1.1
    unfold WFa at q
    have e2 : σ1 (σ1 0 0) 2 = D 2 := h.1.1.2.1.2.2.2.1
    rw [uX11_closedLoops_B45, e2]
    refine ⟨h.1.1.k, by omega, by omega, fun w => by omega, fun _ => sX11_errorOfLoop h i0 i1 hb ⟨c0, by omega⟩ (fun τ u1 u2 => ?_)⟩
    have zr : zrg (lpv D i b c) := by
      have cc := h.1.1.1.2.2.2.2.1.2 i i0 i1
      unfold lpv
      split
      · omega
      · split
        · omega
        · split
          · omega
          · rename_i w1 w2 w3
            have p3 : (0 ≤ (l3 D i b c).2.1 ∧ (l3 D i b c).2.1 < D 0) ∧ (0 ≤ (l3 D i b c).2.2.1 ∧ (l3 D i b c).2.2.1 < D 1) := mR_in h.1.1.1 (by have := (mR_I h.1.1.1 c (l2 D i b c).2.1 (l2 D i b c).2.2.1 (refer D)).1; show 1 ≤ (l3 D i b c).1; unfold l3 at w3 ⊢; omega)
            show zrg ((((l3 D i b c).2.1 - D (20 + (2 * i))).natAbs : Int) + (((l3 D i b c).2.2.1 - D (20 + (2 * i) + 1)).natAbs : Int))
            omega
    have fr2 : frm pQ σ τ := fr.tr u1
    refine ⟨zr, fun z => ih (c + 1) (a + 1) τ (by omega) (by omega) fr2 u2 (fun υ v1 v2 => ?_), fun z => ih (c + 1) a τ (by omega) (by omega) fr2 u2 (fun υ v1 v2 => ?_)⟩
    · have := hk υ v1 v2
      rw [lp_s, show lpc D i b c a = a + 1 by unfold lpc; rw [if_pos z]] at this
      exact this
    · have := hk υ v1 v2
      rw [lp_s, show lpc D i b c a = a by unfold lpc; rw [if_neg z]] at this
      exact this
theorem sX11_closedLoops_B27 {i : Int} (i0 : 0 ≤ i) (i1 : i < D 4) : ∀ (m : Nat) (b a : Int) (σ1 : zSt), b + m = D 2 → 0 ≤ b → frm pQ σ σ1 → XA σ1 D → (∀ τ, frm pQ σ τ → XA τ D → K (lp (lpr D i) m b a) τ) → fX11_closedLoops_B27 K KX (m + 1) σ1 i a b := by
  intro m
  induction m with
  | zero =>
    intro b a σ1 e b0 fr h hk
    have q := h.1.1.1.1
    unfold WFa at q
    have e2 : σ1 (σ1 0 0) 2 = D 2 := h.1.1.2.1.2.2.2.1
    rw [uX11_closedLoops_B27, e2]
    exact ⟨h.1.1.k, by omega, by omega, fun _ => hk σ1 fr h, fun w => (w (by omega)).elim⟩
  | succ m ih =>
    intro b a σ1 e b0 fr h hk
    have q := h.1.1.1.1
    unfold WFa at q
    have e2 : σ1 (σ1 0 0) 2 = D 2 := h.1.1.2.1.2.2.2.1
    rw [uX11_closedLoops_B27, e2]
    refine ⟨h.1.1.k, by omega, by omega, fun w => by omega, fun _ => ⟨(D 2 - (b + 1)).toNat + 1, sX11_closedLoops_B45 (σ := σ) i0 i1 ⟨b0, by omega⟩ _ (b + 1) a σ1 (by omega) (by omega) fr h (fun τ u1 u2 => ih (b + 1) _ τ (by omega) (by omega) u1 u2 (fun υ v1 v2 => ?_))⟩⟩
    have := hk υ v1 v2
    rw [lp_s] at this
    exact this
theorem rX_closedLoops {i : Int} (h : XA σ D) (hi : zrg i) (hK : xK K KX σ D (A_closedLoops D i)) : fX11_closedLoops K KX σ i := by
  have q := h.1.1.1.1
  unfold WFa at q
  have rb := refer_b h.1.1.1
  refine sX11_requireFeature h.1 hi (fun i0 i1 => sX11_orA h (fun τ u1 u2 u3 => ⟨rfl, ?_⟩)) (fun z => hK.2.1 σ frm.rf h (by unfold A_closedLoops; rw [if_neg z]))
  have hk : ∀ υ, frm pQ σ υ → XA υ D → K (lps D i) υ := fun υ v1 v2 => by
    have := hK.1 υ v1 v2 (by unfold A_closedLoops; rw [if_pos ⟨i0, i1⟩])
    unfold A_closedLoops at this; rw [if_pos ⟨i0, i1⟩] at this
    exact this
  rw [u3.1]
  refine ⟨by omega, fun z => ?_, fun z => ⟨(D 2 - (refer D + 1)).toNat + 1, sX11_closedLoops_B27 (σ := σ) i0 i1 _ (refer D + 1) 0 τ (by omega) (by omega) u1 u2 (fun υ v1 v2 => ?_)⟩⟩
  · have := hk τ u1 u2
    unfold lps at this; rw [if_pos z] at this
    exact this
  · have := hk υ v1 v2
    unfold lps at this; rw [if_neg z] at this
    exact this
theorem lpv_z {i b c : Int} (hD : WF D) (i0 : 0 ≤ i) (i1 : i < D 4) : zrg (lpv D i b c) := by
  have q := hD.1
  unfold WFa at q
  have cc := hD.2.2.2.2.1.2 i i0 i1
  unfold lpv
  split
  · omega
  · split
    · omega
    · split
      · omega
      · rename_i w1 w2 w3
        have p3 : (0 ≤ (l3 D i b c).2.1 ∧ (l3 D i b c).2.1 < D 0) ∧ (0 ≤ (l3 D i b c).2.2.1 ∧ (l3 D i b c).2.2.1 < D 1) := mR_in hD (by have := (mR_I hD c (l2 D i b c).2.1 (l2 D i b c).2.2.1 (refer D)).1; show 1 ≤ (l3 D i b c).1; unfold l3 at w3 ⊢; omega)
        show zrg ((((l3 D i b c).2.1 - D (20 + (2 * i))).natAbs : Int) + (((l3 D i b c).2.2.1 - D (20 + (2 * i) + 1)).natAbs : Int))
        omega
abbrev pMl : Int → Int → Prop := fun a b => (5 ≤ a ∧ a ≤ 8) ∨ (a = 0 ∧ (b = 17 ∨ (22 ≤ b ∧ b ≤ 25)))
theorem sM_closedLoops_B49 {i b : Int} (hD : WF D) (i0 : 0 ≤ i) (i1 : i < D 4) (hb : isFr D b) {k27 : zSt → Int → Int → Int → Prop} : ∀ (m : Nat) (c a : Int) (σ1 : zSt), c + m = D 2 → 0 ≤ c → frm pMl σ σ1 → σ1 1 = D → MO σ1 D → (∀ τ, frm pMl σ τ → τ 1 = D → MO τ D → k27 τ i (lp (lpc D i b) m c a) (b + 1)) → fX12_closedLoops_B49 K k27 (m + 1) σ1 i a b c := by
  have q := hD.1
  unfold WFa at q
  intro m
  induction m with
  | zero =>
    intro c a σ1 e c0 fr hd hM hk
    have e2 : σ1 1 2 = D 2 := by rw [hd]
    rw [uX12_closedLoops_B49, e2]
    exact ⟨by omega, by omega, fun _ => hk σ1 fr hd hM, fun w => (w (by omega)).elim⟩
  | succ m ih =>
    intro c a σ1 e c0 fr hd hM hk
    have e2 : σ1 1 2 = D 2 := by rw [hd]
    rw [uX12_closedLoops_B49, e2]
    refine ⟨by omega, by omega, fun w => by omega, fun _ => sM_loop hd hD hM i0 i1 hb ⟨c0, by omega⟩ (fun τ u1 => ?_)⟩
    have fr2 : frm pMl σ τ := fr.tr (u1.mo (fun a b z => by omega))
    have d2 : τ 1 = D := u1.D hd (fun b => by omega)
    have M2 : MO τ D := hM.mv (fun a b z => u1 a b (by omega))
    refine ⟨lpv_z hD i0 i1, fun z => ih (c + 1) (a + 1) τ (by omega) (by omega) fr2 d2 M2 (fun υ v1 v2 v3 => ?_), fun z => ih (c + 1) (a + 0) τ (by omega) (by omega) fr2 d2 M2 (fun υ v1 v2 v3 => ?_)⟩
    · have := hk υ v1 v2 v3
      rw [lp_s, show lpc D i b c a = a + 1 by unfold lpc; rw [if_pos z]] at this
      exact this
    · have := hk υ v1 v2 v3
      rw [lp_s, show lpc D i b c a = a + 0 by unfold lpc; rw [if_neg z]; omega] at this
      exact this
theorem sM_closedLoops_B27 {i : Int} (hD : WF D) (i0 : 0 ≤ i) (i1 : i < D 4) (hr : 0 ≤ refer D) : ∀ (m : Nat) (b a : Int) (σ1 : zSt), b + m = D 2 → 0 ≤ b → frm pMl σ σ1 → σ1 1 = D → MO σ1 D → (∀ τ, frm pMl σ τ → K (lp (lpr D i) m b a) τ) → fX12_closedLoops_B27 K (m + 1) σ1 i a b := by
  have q := hD.1
  unfold WFa at q
  have rb := refer_b hD
  intro m
  induction m with
  | zero =>
    intro b a σ1 e b0 fr hd hM hk
    have e2 : σ1 1 2 = D 2 := by rw [hd]
    rw [uX12_closedLoops_B27, e2, hM.1]
    exact ⟨by omega, fun w => by omega, fun _ => ⟨by omega, by omega, fun _ => hk σ1 fr, fun w => (w (by omega)).elim⟩⟩
  | succ m ih =>
    intro b a σ1 e b0 fr hd hM hk
    have e2 : σ1 1 2 = D 2 := by rw [hd]
    rw [uX12_closedLoops_B27, e2, hM.1]
    refine ⟨by omega, fun w => by omega, fun _ => ⟨by omega, by omega, fun w => by omega, fun _ => ⟨(D 2 - (b + 1)).toNat + 1, sM_closedLoops_B49 (σ := σ) hD i0 i1 ⟨b0, by omega⟩ _ (b + 1) a σ1 (by omega) (by omega) fr hd hM (fun τ u1 u2 u3 => ih (b + 1) _ τ (by omega) (by omega) u1 u2 u3 (fun υ v1 => ?_))⟩⟩⟩
    have := hk υ v1
    rw [lp_s] at this
    exact this
theorem rM_closedLoops {i : Int} (hd : σ 1 = D) (hD : WF D) (hi : zrg i) (hK : rK K σ (A_closedLoops D i)) : fX12_closedLoops K σ i := by
  have q := hD.1
  unfold WFa at q
  have rb := refer_b hD
  refine sM_isFeature hd hD hi (fun i0 i1 => sM_fails1 (fun τ u1 u2 => zb0 ?_)) (fun z => sM_fails0 (fun τ u1 u2 => zb1 (hK _ τ (p4_q u1) (by unfold A_closedLoops; rw [if_neg z]; exact u2) (fun w => by unfold A_closedLoops at w; rw [if_neg z] at w; exact absurd w (by decide)))))
  rw [show A_closedLoops D i = (0, _) by unfold A_closedLoops; rw [if_pos ⟨i0, i1⟩]] at hK
  refine sM_orient (p4_D u1 hd) hD (fun υ v1 v2 => ?_)
  have uq : frm pMq σ υ := (p4_q u1).q v1 (fun a b z => by omega)
  have v4 : υ 0 4 = 0 := v1.q4 u2 (by omega)
  have dυ : υ 1 = D := uq.D hd (fun b => by omega)
  rw [v2.1]
  by_cases z : refer D = -1
  · refine ⟨1, ?_⟩
    rw [uX12_closedLoops_B27, v2.1]
    refine ⟨by omega, fun _ => hK _ υ uq v4 (fun _ => ?_), fun w => by omega⟩
    show (0 : Int) = lps D i
    unfold lps; rw [if_pos z]
  · refine ⟨(D 2 - (refer D + 1)).toNat + 1, sM_closedLoops_B27 (σ := υ) hD i0 i1 (by omega) _ (refer D + 1) 0 υ (by omega) (by omega) frm.rf dυ v2 (fun φ w1 => hK _ φ (uq.q w1 (fun a b z => by omega)) (w1.q4 v4 (by omega)) (fun _ => ?_))⟩
    show _ = lps D i
    unfold lps; rw [if_neg z]
end LX
/-! the least tolerance -/
theorem tstep_mono {D : zD} {lim : Int} : ∀ (m : Nat) (f : Int) (st : tS), st.2.2.1 ≤ (lp (tstep D lim) m f st).2.2.1 ∧ st.2.2.2 ≤ (lp (tstep D lim) m f st).2.2.2 := by
  intro m
  induction m with
  | zero => intro f st; rw [lp_0]; omega
  | succ m ih =>
    intro f st
    rw [lp_s]
    have := ih (f + 1) (tstep D lim f st)
    have s1 : st.2.2.1 ≤ (tstep D lim f st).2.2.1 ∧ st.2.2.2 ≤ (tstep D lim f st).2.2.2 := by
      unfold tstep
      split
      · split
        · show st.2.2.1 ≤ st.2.2.1 ∧ st.2.2.2 ≤ max st.2.2.2 _
          omega
        · show st.2.2.1 ≤ st.2.2.1 + 1 ∧ st.2.2.2 ≤ st.2.2.2
          omega
      · omega
    omega
theorem tol_up {D : zD} {L M : Int} (h : L ≤ M) : ∀ (m : Nat) (f : Int) (st : tS), (lp (tstep D L) m f st).2.2.1 = st.2.2.1 → lp (tstep D M) m f st = lp (tstep D L) m f st ∧ (lp (tstep D L) m f st).2.2.2 ≤ max st.2.2.2 L := by
  intro m
  induction m with
  | zero => intro f st _; rw [lp_0, lp_0]; exact ⟨rfl, by omega⟩
  | succ m ih =>
    intro f st e
    rw [lp_s] at e
    rw [lp_s, lp_s]
    have mo := tstep_mono (D := D) (lim := L) m (f + 1) (tstep D L f st)
    by_cases zo : (oriF D f).1 = 1
    · by_cases zt : tok D L f (st.2.1 (st.1 - 1))
      · have eL : tstep D L f st = tyes D f st := by unfold tstep; rw [if_pos zo, if_pos zt]
        have eM : tstep D M f st = tyes D f st := by unfold tstep; rw [if_pos zo, if_pos ⟨zt.1, by have := zt.2.1; omega, zt.2.2⟩]
        rw [eL] at e mo ⊢
        rw [eM]
        have el : (tyes D f st).2.2.1 = st.2.2.1 := rfl
        have ew : (tyes D f st).2.2.2 = max st.2.2.2 (m1 D (st.2.1 (st.1 - 1)) f).2.2.2.1 := rfl
        have r := ih (f + 1) (tyes D f st) (by omega)
        have := zt.2.1
        exact ⟨r.1, by have := r.2; omega⟩
      · have eL : tstep D L f st = tno st := by unfold tstep; rw [if_pos zo, if_neg zt]
        rw [eL] at e mo
        have el : (tno st).2.2.1 = st.2.2.1 + 1 := rfl
        omega
    · have eL : tstep D L f st = st := by unfold tstep; rw [if_neg zo]
      have eM : tstep D M f st = st := by unfold tstep; rw [if_neg zo]
      rw [eL] at e ⊢
      rw [eM]
      exact ih (f + 1) st e
theorem tol_dn {D : zD} {L M : Int} (h : L ≤ M) : ∀ (m : Nat) (f : Int) (st : tS), (lp (tstep D M) m f st).2.2.1 = st.2.2.1 → (lp (tstep D M) m f st).2.2.2 ≤ L → lp (tstep D L) m f st = lp (tstep D M) m f st := by
  intro m
  induction m with
  | zero => intro f st _ _; rw [lp_0, lp_0]
  | succ m ih =>
    intro f st e w
    rw [lp_s] at e w
    rw [lp_s, lp_s]
    have mo := tstep_mono (D := D) (lim := M) m (f + 1) (tstep D M f st)
    by_cases zo : (oriF D f).1 = 1
    · by_cases zt : tok D M f (st.2.1 (st.1 - 1))
      · have eM : tstep D M f st = tyes D f st := by unfold tstep; rw [if_pos zo, if_pos zt]
        rw [eM] at e w mo ⊢
        have el : (tyes D f st).2.2.1 = st.2.2.1 := rfl
        have ew : (tyes D f st).2.2.2 = max st.2.2.2 (m1 D (st.2.1 (st.1 - 1)) f).2.2.2.1 := rfl
        have eL : tstep D L f st = tyes D f st := by unfold tstep; rw [if_pos zo, if_pos ⟨zt.1, by omega, zt.2.2⟩]
        rw [eL]
        exact ih (f + 1) (tyes D f st) (by omega) w
      · have eM : tstep D M f st = tno st := by unfold tstep; rw [if_pos zo, if_neg zt]
        rw [eM] at e mo
        have el : (tno st).2.2.1 = st.2.2.1 + 1 := rfl
        omega
    · have eM : tstep D M f st = st := by unfold tstep; rw [if_neg zo]
      have eL : tstep D L f st = st := by unfold tstep; rw [if_neg zo]
      rw [eM] at e w ⊢
      rw [eL]
      exact ih (f + 1) st e w
theorem tol_iff {D : zD} (hD : WF D) (hr : refer D ≠ -1) {i t : Int} (ht : 0 ≤ t ∧ t ≤ 9) : (trk D i t).2.2.1 = 0 ↔ ((trk D i 9).2.2.1 = 0 ∧ (trk D i 9).2.2.2 ≤ t * win D) := by
  have wb := win_b hD
  have le : t * win D ≤ 9 * win D := Int.mul_le_mul_of_nonneg_right ht.2 (by omega)
  have ge : 0 ≤ t * win D := Int.mul_nonneg ht.1 (by omega)
  unfold trk
  rw [if_neg hr, if_neg hr]
  have s0 : (tini D i).2.2.1 = 0 := rfl
  have s1 : (tini D i).2.2.2 = 0 := rfl
  constructor
  · intro h
    have := tol_up le (D 2 - (refer D + 1)).toNat (refer D + 1) (tini D i) (h.trans s0.symm)
    rw [this.1]
    exact ⟨h, by omega⟩
  · intro h
    rw [tol_dn le (D 2 - (refer D + 1)).toNat (refer D + 1) (tini D i) (h.1.trans s0.symm) h.2]
    exact h.1
def ltv (D : zD) (i : Int) : Int := if refer D = -1 then -1 else if (trk D i 9).2.2.1 = 0 then ((trk D i 9).2.2.2 + win D - 1) / win D else -1
def A_leastTolerance (D : zD) (i : Int) : Int × Int := if isFt D i then (0, ltv D i) else (1, 0)
theorem ltv_at {D : zD} (hD : WF D) (hr : refer D ≠ -1) {i t : Int} (ht : 0 ≤ t ∧ t ≤ 9) (h : (trk D i t).2.2.1 = 0) (hb : ∀ s, 0 ≤ s → s < t → (trk D i s).2.2.1 ≠ 0) (h9 : 0 ≤ (trk D i 9).2.2.2) : ltv D i = t := by
  have wb := win_b hD
  obtain ⟨a, b⟩ := (tol_iff hD hr ht).mp h
  unfold ltv
  rw [if_neg hr, if_pos a]
  refine ediv_u (by omega) ?_ (by rw [Int.add_mul]; omega)
  by_cases z : t = 0
  · rw [z]; omega
  · have c : ¬ (trk D i 9).2.2.2 ≤ (t - 1) * win D := fun w => hb (t - 1) (by omega) (by omega) ((tol_iff hD hr (by omega)).mpr ⟨a, w⟩)
    rw [Int.sub_mul] at c
    omega
section LT
variable {K : Int → zSt → Prop} {KX : String → zSt → Prop} {D : zD} {σ : zSt}
theorem rX_leastTolerance {i : Int} (h : XA σ D) (hi : zrg i) (hK : xK K KX σ D (A_leastTolerance D i)) : fX11_leastTolerance K KX σ i := by
  have hD := h.1.1.1
  have q := hD.1
  unfold WFa at q
  have wb := win_b hD
  refine sX11_requireFeature h.1 hi (fun i0 i1 => ⟨h.1.1.k, sX11_orA h (fun τ u1 u2 u3 => ⟨rfl, ?_⟩)⟩) (fun z => hK.2.1 σ frm.rf h (by unfold A_leastTolerance; rw [if_neg z]))
  have e0 : τ 0 0 = σ 0 0 := u1 0 0 (by omega)
  rw [show cGREAT 4 = 9 by decide, ← e0]
  refine sX10_trace u2.1.1 u3 (by decide) i0 i1 (by decide) (fun υ v1 v2 => ?_)
  have G : TG D (trk D i 9) := trk_G hD i0 i1
  have vX : XA υ D := ⟨u2.1.fr (fun a b z => v1 a b (by omega)), fun j j0 j1 => by
    obtain ⟨p1, p2⟩ := u2.2 j j0 j1
    rw [v1 (24 + j) 0 (by omega), v1 0 8 (by omega)]
    exact ⟨p1, fun e => ⟨(p2 e).1, (p2 e).2.mv (fun a b z => v1 a b (by omega))⟩⟩⟩
  have hk : ∀ r, r = ltv D i → K r υ := fun r e => by
    have := hK.1 υ (u1.tr (v1.mo (fun a b z => by omega))) vX (by unfold A_leastTolerance; rw [if_pos ⟨i0, i1⟩])
    unfold A_leastTolerance at this; rw [if_pos ⟨i0, i1⟩] at this
    rw [e]; exact this
  have g1 := G.1
  have g4 := G.2.2.2
  have n0 : (trk D i 9).1 = 0 ↔ refer D = -1 := by
    constructor
    · intro z
      by_cases w : refer D = -1
      · exact w
      · have := (trk_B (tol := 9) hD i0 i1 w).1; omega
    · intro z; unfold trk; rw [if_pos z]
  rw [v2.1]
  refine ⟨by omega, fun z => hk _ ?_, fun z => ?_⟩
  · unfold ltv; rw [if_pos (n0.mp z)]
  · have rn : refer D ≠ -1 := fun w => z (n0.mpr w)
    rw [v2.2.1]
    refine ⟨by omega, fun w => ⟨vX.1.1.k, sX8_windowPixels vX.1.1 ?_⟩, fun w => hk _ ?_⟩
    · rw [v2.2.2.1]
      refine sX11_quotient (by omega) (by omega) ?_
      rw [if_neg (by omega)]
      refine hk _ ?_
      unfold ltv
      rw [if_neg rn, if_pos (by omega), Int.tdiv_eq_ediv_of_nonneg (by omega)]
    · unfold ltv
      rw [if_neg rn, if_neg (by omega)]
theorem rM_leastTolerance {i : Int} (hd : σ 1 = D) (hD : WF D) (hi : zrg i) (hK : rK K σ (A_leastTolerance D i)) : fX12_leastTolerance K σ i := by
  have q := hD.1
  unfold WFa at q
  have rb := refer_b hD
  refine sM_isFeature hd hD hi (fun i0 i1 => sM_fails1 (fun τ u1 u2 => zb0 ?_)) (fun z => sM_fails0 (fun τ u1 u2 => zb1 (hK _ τ (p4_q u1) (by unfold A_leastTolerance; rw [if_neg z]; exact u2) (fun w => by unfold A_leastTolerance at w; rw [if_neg z] at w; exact absurd w (by decide)))))
  rw [show A_leastTolerance D i = (0, _) by unfold A_leastTolerance; rw [if_pos ⟨i0, i1⟩]] at hK
  have w9 : 0 ≤ (trk D i 9).2.2.2 := by have := (trk_G (tol := 9) hD i0 i1).2.2.2; omega
  have L : ∀ (m : Nat) (t : Int) (σ1 : zSt), t + m = 10 → 0 ≤ t → frm pMq σ σ1 → σ1 0 4 = 0 → (refer D ≠ -1 → ∀ s, 0 ≤ s → s < t → (trk D i s).2.2.1 ≠ 0) → fX12_leastTolerance_B16 K (m + 1) σ1 i t := by
    intro m
    induction m with
    | zero =>
      intro t σ1 e t0 fr f4 hb
      rw [uX12_leastTolerance_B16]
      refine ⟨by omega, fun _ => hK _ σ1 fr f4 (fun _ => ?_), fun w => (w (by omega)).elim⟩
      show (-1 : Int) = ltv D i
      unfold ltv
      by_cases z : refer D = -1
      · rw [if_pos z]
      · rw [if_neg z, if_neg (hb z 9 (by decide) (by omega))]
    | succ m ih =>
      intro t σ1 e t0 fr f4 hb
      rw [uX12_leastTolerance_B16]
      have d1 : σ1 1 = D := fr.D hd (fun b => by omega)
      refine ⟨by omega, fun w => by omega, fun _ => sM_track d1 hD i0 i1 (by omega) (fun υ v1 v2 v3 => ?_)⟩
      have fr2 : frm pMq σ υ := fr.q v1 (fun a b z => by omega)
      have f42 : υ 0 4 = 0 := v1.q4 f4 (by omega)
      have G := trk_G (tol := t) hD i0 i1
      rw [v2.1]
      refine ⟨by omega, fun z => ih (t + 1) υ (by omega) (by omega) fr2 f42 (fun w => by omega), fun z => sM_lost (i := i) (tol := t) (v1.D d1 (fun b => by omega)) hD i0 i1 v2 v3 ?_⟩
      refine ⟨by have := G.2.2.2; omega, fun w => hK _ υ fr2 f42 (fun _ => ?_), fun w => ih (t + 1) υ (by omega) (by omega) fr2 f42 (fun y s s0 s1 => ?_)⟩
      · exact (ltv_at hD (by omega) (by omega) w (hb (by omega)) w9).symm
      · by_cases x : s = t
        · rw [x]; exact w
        · exact hb y s s0 (by omega)
  exact ⟨_, L 10 0 τ (by decide) (by decide) (p4_q u1) u2 (fun _ s s0 s1 => by omega)⟩
theorem rX_fastestFeature (h : XA σ D) (hK : ∀ τ, frm pQ σ τ → XA τ D → K (A_fastest D) τ) : fX11_fastestFeature K σ := by
  have hD := h.1.1.1
  have q := hD.1
  unfold WFa at q
  have t := hD.2.1
  unfold WFs at t
  have L : ∀ (m : Nat) (i x2 : Int) (p : Int × Int) (σ1 : zSt), i + m = D 4 → 0 ≤ i → (-1 ≤ p.1 ∧ p.1 < i) → ((p.1 = -1 ∧ p.2 = -1) ∨ (0 ≤ p.1 ∧ x2 = p.2 ∧ 0 ≤ p.2 ∧ p.2 ≤ 150000)) → frm pQ σ σ1 → XA σ1 D → lp (fst' D) m i p = lp (fst' D) (D 4).toNat 0 (-1, -1) → fX11_fastestFeature_B6 K (m + 1) σ1 p.1 x2 i := by
    intro m
    induction m with
    | zero =>
      intro i x2 p σ1 e i0 pb hp fr hX hs
      have e4 : σ1 (σ1 0 0 + 7) 3 = D 4 := hX.1.1.2.1.2.2.2.2.2.2.1
      rw [lp_0] at hs
      rw [uX11_fastestFeature_B6, e4]
      refine ⟨hX.1.1.k, by omega, by omega, fun _ => ?_, fun w => (w (by omega)).elim⟩
      have hk := hK σ1 fr hX
      unfold A_fastest at hk
      rw [← hs] at hk
      exact hk
    | succ m ih =>
      intro i x2 p σ1 e i0 pb hp fr hX hs
      have e4 : σ1 (σ1 0 0 + 7) 3 = D 4 := hX.1.1.2.1.2.2.2.2.2.2.1
      have i1 : i < D 4 := by omega
      rw [lp_s] at hs
      rw [uX11_fastestFeature_B6, e4]
      have hG : TG D (tk D i) := trk_G hD i0 i1
      have ab := avg_b hD hG (sc := D 88) (by omega)
      have g1 := hG.1
      refine ⟨hX.1.1.k, by omega, by omega, fun w => by omega, fun _ => sX11_trackOf hX i0 i1 (fun τ u1 u2 u3 => ⟨kX_T (by omega), u2.1.1.k, ?_⟩)⟩
      have fr2 : frm pQ σ τ := fr.tr u1
      have e5 : τ (τ 0 0 + 1) 5 = D 88 := u2.1.set (i := 5) (by decide) (by decide)
      rw [e5]
      refine sX10_averageSpeed hD (by omega) u3 hG (by omega) (sX10_segments (by omega) u3 hG ⟨by unfold tseg; omega, fun z => ?_, fun z => ⟨by omega, fun w => ?_, fun w => ⟨by omega, by omega, fun y => ?_, fun y => ?_⟩⟩⟩)
      · refine ih (i + 1) x2 p τ (by omega) (by omega) (by omega) hp fr2 u2 ?_
        rw [← hs]; unfold fst'; rw [if_pos (by unfold tseg at z; omega)]
      · refine ih (i + 1) _ (i, avg D (tk D i) (D 88)) τ (by omega) (by omega) (by show -1 ≤ i ∧ i < i + 1; omega) (Or.inr ⟨i0, rfl, ab⟩) fr2 u2 ?_
        rw [← hs]; unfold fst'; rw [if_neg (by unfold tseg at z; omega), if_pos (by omega)]
      · refine ih (i + 1) x2 p τ (by omega) (by omega) (by omega) hp fr2 u2 ?_
        rw [← hs]; unfold fst'; rw [if_neg (by unfold tseg at z; omega), if_neg (by omega)]
      · refine ih (i + 1) _ (i, avg D (tk D i) (D 88)) τ (by omega) (by omega) (by show -1 ≤ i ∧ i < i + 1; omega) (Or.inr ⟨i0, rfl, ab⟩) fr2 u2 ?_
        rw [← hs]; unfold fst'; rw [if_neg (by unfold tseg at z; omega), if_pos (by omega)]
  have hh := L (D 4).toNat 0 0 (-1, -1) σ (by omega) (by decide) (by decide) (Or.inl ⟨rfl, rfl⟩) frm.rf h rfl
  exact ⟨_, hh⟩
end LT
