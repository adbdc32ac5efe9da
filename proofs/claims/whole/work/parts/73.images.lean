/-! registered pixels, changed pixels, the snow line: both sides -/
def rg (D : zD) (f x y : Int) : Int := if (oriF D f).1 = 1 ∧ isPx D (x + (oriF D f).2.1) (y + (oriF D f).2.2.1) then px D f (x + (oriF D f).2.1) (y + (oriF D f).2.2.1) else -1
theorem rg_b {D : zD} (hD : WF D) {f x y : Int} : -1 ≤ rg D f x y ∧ rg D f x y ≤ 9 := by
  unfold rg
  split
  · rename_i h
    have o := oriF_in h.1
    have := hD.2.2.2.1 f _ _ o.1 o.2 h.2.1 h.2.2.1 h.2.2.2.1 h.2.2.2.2
    omega
  · omega
def chc (D : zD) (a b th y x acc : Int) : Int := if rg D a x y ≠ -1 ∧ rg D b x y ≠ -1 ∧ th ≤ ((rg D a x y - rg D b x y).natAbs : Int) then acc + 1 else acc
def chr (D : zD) (a b th y acc : Int) : Int := lp (chc D a b th y) (D 0).toNat 0 acc
def chp (D : zD) (a b th : Int) : Int := lp (chr D a b th) (D 1).toNat 0 0
def snc (D : zD) (f th y x acc : Int) : Int := if px D f x y < th then acc else acc + 1
def snr (D : zD) (f th y : Int) : Int := lp (snc D f th y) (D 0).toNat 0 0
def snf (D : zD) (f th : Int) : Nat → Int → Int
  | 0, _ => D 1
  | m + 1, y => if D 0 ≤ 2 * snr D f th y then snf D f th m (y + 1) else y
theorem chc_b {D : zD} {a b th y x acc : Int} : acc ≤ chc D a b th y x acc ∧ chc D a b th y x acc ≤ acc + 1 := by unfold chc; split <;> omega
theorem snc_b {D : zD} {f th y x acc : Int} : acc ≤ snc D f th y x acc ∧ snc D f th y x acc ≤ acc + 1 := by unfold snc; split <;> omega
section IM
variable {K : Int → zSt → Prop} {KX : String → zSt → Prop} {D : zD} {σ : zSt}
theorem sX11_registeredAt {f x y : Int} (h : XQ σ D) (hO : OI σ D) (hf : isFr D f) (hx : -1000 ≤ x ∧ x ≤ 1000) (hy : -1000 ≤ y ∧ y ≤ 1000) (hK : K (rg D f x y) σ) : fX11_registeredAt K σ f x y := by
  have hD := h.1.1
  have q := hD.1
  unfold WFa at q
  have o := oriF_s hD f
  have no : ¬ ((oriF D f).1 = 1 ∧ isPx D (x + (oriF D f).2.1) (y + (oriF D f).2.2.1)) → K (-1) σ := fun z => by
    unfold rg at hK; rwa [if_neg z] at hK
  refine sX6_xShiftOf hO hD (by omega) (sX6_yShiftOf hO hD (by omega) (sX6_cov hO (by omega) (by omega) hD (fun _ z => zb1 ⟨h.1.k, sX8_hasPixel h.1 (by omega) (by omega) (fun a b c d => zb1 (zb1 ⟨h.1.k, ?_⟩)) (fun w => zb0 (zb0 (no (fun v => w v.2))))⟩) (fun z => zb0 (zb0 (no (fun v => z v.1))))))
  refine sX8_brightnessAt h.1 (by omega) (by omega) (by omega) (fun p1 p2 => ?_) (fun w => (w ⟨hf, ⟨a, b, c, d⟩⟩).elim)
  unfold rg at hK; rw [if_pos ⟨z, p2⟩] at hK
  exact hK
theorem sM_registeredAt {f x y : Int} (hd : σ 1 = D) (hD : WF D) (hM : MO σ D) (hf : isFr D f) (hx : -1000 ≤ x ∧ x ≤ 1000) (hy : -1000 ≤ y ∧ y ≤ 1000) (hK : K (rg D f x y) σ) : fX12_registeredAt K σ f x y := by
  have q := hD.1
  unfold WFa at q
  have o := oriF_s hD f
  have no : ¬ ((oriF D f).1 = 1 ∧ isPx D (x + (oriF D f).2.1) (y + (oriF D f).2.2.1)) → K (-1) σ := fun z => by
    unfold rg at hK; rwa [if_neg z] at hK
  have M := hM.2 f hf.1 hf.2
  unfold fX12_registeredAt
  rw [M.1, M.2.1, M.2.2.1]
  refine ⟨by omega, by omega, fun z => no (fun w => by omega), fun z => sM_isPixel hd hD (by omega) (by omega) (fun p => zb1 ?_) (fun w => zb0 (no (fun v => w v.2)))⟩
  refine sM_brightness hf.1 (by omega) p.1 (by omega) p.2.2.1 (by omega) ?_
  unfold rg at hK; rw [if_pos ⟨by omega, p⟩] at hK
  rw [hd]; exact hK
def A_registered (D : zD) (f x y : Int) : Int × Int := if isFr D f ∧ isPx D x y then (0, rg D f x y) else (1, 0)
theorem rX_registered {f x y : Int} (h : XA σ D) (hf : zrg f) (hx : zrg x) (hy : zrg y) (hK : xK K KX σ D (A_registered D f x y)) : fX11_registered K KX σ f x y := by
  have q := h.1.1.1.1
  unfold WFa at q
  have no : ¬ (isFr D f ∧ isPx D x y) → KX eIO σ := fun z => hK.2.1 σ frm.rf h (by unfold A_registered; rw [if_neg z])
  refine sX11_requireFrame h.1 hf (fun f0 f1 => sX11_requirePixel h.1 hx hy (fun p => sX11_orA h (fun τ u1 u2 u3 => ⟨rfl, sX11_registeredAt u2.1 u3 ⟨f0, f1⟩ (by have := p.1; have := p.2.1; omega) (by have := p.2.2; omega) ?_⟩)) (fun z => no (fun w => z w.2))) (fun z => no (fun w => z w.1))
  have := hK.1 τ u1 u2 (by unfold A_registered; rw [if_pos ⟨⟨f0, f1⟩, p⟩])
  unfold A_registered at this; rw [if_pos ⟨⟨f0, f1⟩, p⟩] at this
  exact this
theorem rM_registered {f x y : Int} (hd : σ 1 = D) (hD : WF D) (hf : zrg f) (hx : zrg x) (hy : zrg y) (hK : rK K σ (A_registered D f x y)) : fX12_registered K σ f x y := by
  have q := hD.1
  unfold WFa at q
  refine sM_orient hd hD (fun τ u1 u2 => ?_)
  have d1 : τ 1 = D := u1.D hd (fun b => by omega)
  have uq : frm pMq σ τ := u1.mo (fun a b z => by omega)
  have no : ¬ (isFr D f ∧ isPx D x y) → fX12_registered_B27 K τ f x y 0 := fun z => by
    rw [show A_registered D f x y = (1, 0) by unfold A_registered; rw [if_neg z]] at hK
    exact sM_fails0 (fun υ v1 v2 => zb1 (hK _ υ (uq.tr (p4_q v1)) v2 (fun w => absurd w (by decide))))
  refine sM_isFrame d1 hD hf (fun f0 f1 => zb1 (sM_isPixel d1 hD hx hy (fun p => zb1 (sM_fails1 (fun υ v1 v2 => zb0 ?_))) (fun z => zb0 (no (fun w => z w.2))))) (fun z => zb0 (no (fun w => z w.1)))
  rw [show A_registered D f x y = (0, _) by unfold A_registered; rw [if_pos ⟨⟨f0, f1⟩, p⟩]] at hK
  exact sM_registeredAt (p4_D v1 d1) hD (u2.mv (fun a b z => v1 a b (by omega))) ⟨f0, f1⟩ (by have := p.1; have := p.2.1; omega) (by have := p.2.2; omega) (hK _ υ (uq.tr (p4_q v1)) v2 (fun _ => rfl))
def A_changedPixels (D : zD) (a b th : Int) : Int × Int := if isFr D a ∧ isFr D b then (0, if 1 ≤ th ∧ th ≤ 9 then (if (oriF D a).1 = 1 ∧ (oriF D b).1 = 1 then chp D a b th else -1) else -2) else (1, 0)
theorem sX11_chg {a b th : Int} (h : XQ σ D) (hO : OI σ D) (ha : isFr D a) (hb : isFr D b) (ht : 1 ≤ th ∧ th ≤ 9) (hK : K (chp D a b th) σ) : ∃ n, fX11_changedPixels_B55 K KX n σ a b th 0 0 := by
  have hD := h.1.1
  have q := hD.1
  unfold WFa at q
  have eW : σ (σ 0 0) 0 = D 0 := h.1.2.1.2.1
  have eH : σ (σ 0 0) 1 = D 1 := h.1.2.1.2.2.1
  have row : ∀ (k55 : zSt → Int → Int → Int → Int → Int → Prop) (y : Int), (0 ≤ y ∧ y < D 1) → ∀ (m : Nat) (x acc : Int), x + m = D 0 → 0 ≤ x → k55 σ a b th (lp (chc D a b th y) m x acc) (y + 1) → fX11_changedPixels_B70 K KX k55 (m + 1) σ a b th acc y x := by
    intro k55 y hy m
    induction m with
    | zero =>
      intro x acc e x0 hk
      rw [uX11_changedPixels_B70, eW]
      exact ⟨h.1.k, by omega, by omega, fun _ => hk, fun w => (w (by omega)).elim⟩
    | succ m ih =>
      intro x acc e x0 hk
      rw [lp_s] at hk
      have ra := rg_b hD (f := a) (x := x) (y := y)
      have rb := rg_b hD (f := b) (x := x) (y := y)
      rw [uX11_changedPixels_B70, eW]
      refine ⟨h.1.k, by omega, by omega, fun w => by omega, fun _ => sX11_registeredAt h hO ha (by omega) (by omega) (sX11_registeredAt h hO hb (by omega) (by omega) ⟨by omega, fun z => ?_, fun z => ⟨by omega, fun w => ?_, fun w => ⟨by omega, by omega, by omega, fun v => ?_, fun v => ?_⟩⟩⟩)⟩
      · rw [show chc D a b th y x acc = acc by unfold chc; rw [if_neg (fun v => v.1 z)]] at hk
        exact ih (x + 1) acc (by omega) (by omega) hk
      · rw [show chc D a b th y x acc = acc by unfold chc; rw [if_neg (fun v => v.2.1 w)]] at hk
        exact ih (x + 1) acc (by omega) (by omega) hk
      · rw [show chc D a b th y x acc = acc by unfold chc; rw [if_neg (fun u => by have := u.2.2; omega)]] at hk
        exact ih (x + 1) acc (by omega) (by omega) hk
      · rw [show chc D a b th y x acc = acc + 1 by unfold chc; rw [if_pos ⟨z, w, by omega⟩]] at hk
        exact ih (x + 1) (acc + 1) (by omega) (by omega) hk
  have rows : ∀ (m : Nat) (y acc : Int), y + m = D 1 → 0 ≤ y → lp (chr D a b th) m y acc = chp D a b th → fX11_changedPixels_B55 K KX (m + 1) σ a b th acc y := by
    intro m
    induction m with
    | zero =>
      intro y acc e y0 hs
      rw [lp_0] at hs
      rw [uX11_changedPixels_B55, eH]
      exact ⟨h.1.k, by omega, by omega, fun _ => by rw [hs]; exact hK, fun w => (w (by omega)).elim⟩
    | succ m ih =>
      intro y acc e y0 hs
      rw [lp_s] at hs
      rw [uX11_changedPixels_B55, eH]
      exact ⟨h.1.k, by omega, by omega, fun w => by omega, fun _ => ⟨_, row _ y ⟨y0, by omega⟩ (D 0).toNat 0 acc (by omega) (by decide) (ih (y + 1) _ (by omega) (by omega) hs)⟩⟩
  exact ⟨_, rows (D 1).toNat 0 0 (by omega) (by decide) rfl⟩
theorem rX_changedPixels {a b th : Int} (h : XA σ D) (ha : zrg a) (hb : zrg b) (ht : zrg th) (hK : xK K KX σ D (A_changedPixels D a b th)) : fX11_changedPixels K KX σ a b th := by
  have q := h.1.1.1.1
  unfold WFa at q
  have no : ¬ (isFr D a ∧ isFr D b) → KX eIO σ := fun z => hK.2.1 σ frm.rf h (by unfold A_changedPixels; rw [if_neg z])
  refine sX11_requireFrame h.1 ha (fun a0 a1 => sX11_requireFrame h.1 hb (fun b0 b1 => ?_) (fun z => no (fun w => z w.2))) (fun z => no (fun w => z w.1))
  have hk : ∀ r τ, frm pQ σ τ → XA τ D → r = (A_changedPixels D a b th).2 → K r τ := fun r τ u1 u2 e => by rw [e]; exact hK.1 τ u1 u2 (by unfold A_changedPixels; rw [if_pos ⟨⟨a0, a1⟩, ⟨b0, b1⟩⟩])
  have c : isFr D a ∧ isFr D b := ⟨⟨a0, a1⟩, ⟨b0, b1⟩⟩
  refine sX11_isBetween ht (by decide) (by decide) (fun t0 t1 => zb1 (sX11_orA h (fun τ u1 u2 u3 => ⟨rfl, sX6_cov u3 ha (by omega) h.1.1.1 (fun _ za => zb1 (sX6_cov u3 hb (by omega) h.1.1.1 (fun _ zb => zb1 (sX11_chg u2.1 u3 ⟨a0, a1⟩ ⟨b0, b1⟩ ⟨t0, t1⟩ (hk _ τ u1 u2 ?_))) (fun zb => zb0 (hk _ τ u1 u2 ?_)))) (fun za => zb0 (hk _ τ u1 u2 ?_))⟩))) (fun z => zb0 (hk _ σ frm.rf h ?_))
  · unfold A_changedPixels; rw [if_pos c, if_pos ⟨t0, t1⟩, if_pos ⟨za, zb⟩]
  · unfold A_changedPixels; rw [if_pos c, if_pos ⟨t0, t1⟩, if_neg (fun w => zb w.2)]
  · unfold A_changedPixels; rw [if_pos c, if_pos ⟨t0, t1⟩, if_neg (fun w => za w.1)]
  · unfold A_changedPixels; rw [if_pos c, if_neg z]
theorem sM_chg {a b th : Int} (hd : σ 1 = D) (hD : WF D) (hM : MO σ D) (ha : isFr D a) (hb : isFr D b) (ht : 1 ≤ th ∧ th ≤ 9) (hK : K (chp D a b th) σ) : ∃ n, fX12_changedPixels_B73 K n σ a b th 0 0 := by
  have q := hD.1
  unfold WFa at q
  have eW : σ 1 0 = D 0 := by rw [hd]
  have eH : σ 1 1 = D 1 := by rw [hd]
  have row : ∀ (k73 : zSt → Int → Int → Int → Int → Int → Prop) (y : Int), (0 ≤ y ∧ y < D 1) → ∀ (m : Nat) (x acc : Int), x + m = D 0 → 0 ≤ x → k73 σ a b th (lp (chc D a b th y) m x acc) (y + 1) → fX12_changedPixels_B87 K k73 (m + 1) σ a b th acc y x := by
    intro k73 y hy m
    induction m with
    | zero =>
      intro x acc e x0 hk
      rw [uX12_changedPixels_B87, eW]
      exact ⟨by omega, by omega, fun _ => hk, fun w => (w (by omega)).elim⟩
    | succ m ih =>
      intro x acc e x0 hk
      rw [lp_s] at hk
      have ra := rg_b hD (f := a) (x := x) (y := y)
      have rb := rg_b hD (f := b) (x := x) (y := y)
      have same : chc D a b th y x acc = acc → fX12_changedPixels_B87 K k73 (m + 1) σ a b th (acc + 0) y (x + 1) := fun e2 => by
        rw [e2] at hk
        rw [Int.add_zero]
        exact ih (x + 1) acc (by omega) (by omega) hk
      rw [uX12_changedPixels_B87, eW]
      refine ⟨by omega, by omega, fun w => by omega, fun _ => sM_registeredAt hd hD hM ha (by omega) (by omega) (sM_registeredAt hd hD hM hb (by omega) (by omega) ⟨by omega, fun z => same ?_, fun z => ⟨by omega, fun w => same ?_, fun w => sM_absolute (by omega) ⟨by omega, by omega, fun v => same ?_, fun v => ?_⟩⟩⟩)⟩
      · unfold chc; rw [if_neg (fun v => by omega)]
      · unfold chc; rw [if_neg (fun v => by omega)]
      · unfold chc; rw [if_neg (fun u => by have := u.2.2; omega)]
      · rw [show chc D a b th y x acc = acc + 1 by unfold chc; rw [if_pos ⟨by omega, by omega, by omega⟩]] at hk
        exact ih (x + 1) (acc + 1) (by omega) (by omega) hk
  have rows : ∀ (m : Nat) (y acc : Int), y + m = D 1 → 0 ≤ y → lp (chr D a b th) m y acc = chp D a b th → fX12_changedPixels_B73 K (m + 1) σ a b th acc y := by
    intro m
    induction m with
    | zero =>
      intro y acc e y0 hs
      rw [lp_0] at hs
      rw [uX12_changedPixels_B73, eH]
      exact ⟨by omega, by omega, fun _ => by rw [hs]; exact hK, fun w => (w (by omega)).elim⟩
    | succ m ih =>
      intro y acc e y0 hs
      rw [lp_s] at hs
      rw [uX12_changedPixels_B73, eH]
      exact ⟨by omega, by omega, fun w => by omega, fun _ => ⟨_, row _ y ⟨y0, by omega⟩ (D 0).toNat 0 acc (by omega) (by decide) (ih (y + 1) _ (by omega) (by omega) hs)⟩⟩
  exact ⟨_, rows (D 1).toNat 0 0 (by omega) (by decide) rfl⟩
theorem rM_changedPixels {a b th : Int} (hd : σ 1 = D) (hD : WF D) (ha : zrg a) (hb : zrg b) (ht : zrg th) (hK : rK K σ (A_changedPixels D a b th)) : fX12_changedPixels K σ a b th := by
  have q := hD.1
  unfold WFa at q
  have oa := oriF_s hD a
  have ob := oriF_s hD b
  refine sM_orient hd hD (fun τ u1 u2 => ?_)
  have d1 : τ 1 = D := u1.D hd (fun b => by omega)
  have uq : frm pMq σ τ := u1.mo (fun a b z => by omega)
  have no : ¬ (isFr D a ∧ isFr D b) → fX12_changedPixels_B26 K τ a b th 0 := fun z => by
    rw [show A_changedPixels D a b th = (1, 0) by unfold A_changedPixels; rw [if_neg z]] at hK
    exact sM_fails0 (fun υ v1 v2 => zb1 (hK _ υ (uq.tr (p4_q v1)) v2 (fun w => absurd w (by decide))))
  refine sM_isFrame d1 hD ha (fun a0 a1 => zb1 (sM_isFrame d1 hD hb (fun b0 b1 => zb1 (sM_fails1 (fun υ v1 v2 => zb0 ?_))) (fun z => zb0 (no (fun w => z w.2))))) (fun z => zb0 (no (fun w => z w.1)))
  have c : isFr D a ∧ isFr D b := ⟨⟨a0, a1⟩, ⟨b0, b1⟩⟩
  have hk : ∀ r, r = (A_changedPixels D a b th).2 → K r υ := fun r e => hK r υ (uq.tr (p4_q v1)) (by unfold A_changedPixels; rw [if_pos c]; exact v2) (fun _ => e)
  have M : MO υ D := u2.mv (fun a b z => v1 a b (by omega))
  refine sM_inRange ht (by decide) (by decide) (fun t0 t1 => zb1 ⟨by omega, ?_⟩) (fun z => zb0 (hk _ ?_))
  · rw [(M.2 a a0 a1).1, (M.2 b b0 b1).1]
    refine ⟨by omega, fun z => hk _ ?_, fun z => ⟨by omega, by omega, fun w => hk _ ?_, fun w => sM_chg (p4_D v1 d1) hD M ⟨a0, a1⟩ ⟨b0, b1⟩ ⟨t0, t1⟩ (hk _ ?_)⟩⟩
    · unfold A_changedPixels; rw [if_pos c, if_pos ⟨t0, t1⟩, if_neg (fun w => by omega)]
    · unfold A_changedPixels; rw [if_pos c, if_pos ⟨t0, t1⟩, if_neg (fun w => by omega)]
    · unfold A_changedPixels; rw [if_pos c, if_pos ⟨t0, t1⟩, if_pos ⟨by omega, by omega⟩]
  · unfold A_changedPixels; rw [if_pos c, if_neg z]
def A_snowLine (D : zD) (f th : Int) : Int × Int := if isFr D f then (0, if 0 ≤ th ∧ th ≤ 9 then snf D f th (D 1).toNat 0 else -2) else (1, 0)
theorem rX_snowLine {f th : Int} (h : XA σ D) (hf : zrg f) (ht : zrg th) (hK : xK K KX σ D (A_snowLine D f th)) : fX11_snowLine K KX σ f th := by
  have hD := h.1.1.1
  have q := hD.1
  unfold WFa at q
  have eW : σ (σ 0 0) 0 = D 0 := h.1.1.2.1.2.1
  have eH : σ (σ 0 0) 1 = D 1 := h.1.1.2.1.2.2.1
  refine sX11_requireFrame h.1 hf (fun f0 f1 => ?_) (fun z => hK.2.1 σ frm.rf h (by unfold A_snowLine; rw [if_neg z]))
  have hk : ∀ r, r = (A_snowLine D f th).2 → K r σ := fun r e => by rw [e]; exact hK.1 σ frm.rf h (by unfold A_snowLine; rw [if_pos ⟨f0, f1⟩])
  refine sX11_isBetween ht (by decide) (by decide) (fun t0 t1 => zb1 ?_) (fun z => zb0 (hk _ (by unfold A_snowLine; rw [if_pos ⟨f0, f1⟩, if_neg z])))
  have hk2 : K (snf D f th (D 1).toNat 0) σ := hk _ (by unfold A_snowLine; rw [if_pos ⟨f0, f1⟩, if_pos ⟨t0, t1⟩])
  have row : ∀ (k20 : zSt → Int → Int → Int → Prop) (y : Int), (0 ≤ y ∧ y < D 1) → (D 0 ≤ 2 * snr D f th y → k20 σ f th (y + 1)) → (¬ D 0 ≤ 2 * snr D f th y → K y σ) → ∀ (m : Nat) (x acc : Int), x + m = D 0 → 0 ≤ x → (0 ≤ acc ∧ acc ≤ x) → lp (snc D f th y) m x acc = snr D f th y → fX11_snowLine_B37 K KX k20 (m + 1) σ f th y acc x := by
    intro k20 y hy k1 k0 m
    induction m with
    | zero =>
      intro x acc e x0 ab hs
      rw [lp_0] at hs
      rw [uX11_snowLine_B37, eW, hs]
      rw [hs] at ab
      exact ⟨h.1.1.k, by omega, by omega, fun _ => ⟨by omega, k1, k0⟩, fun w => (w (by omega)).elim⟩
    | succ m ih =>
      intro x acc e x0 ab hs
      rw [lp_s] at hs
      have pb := hD.2.2.2.1 f x y f0 f1 x0 (by omega) hy.1 hy.2
      rw [uX11_snowLine_B37, eW]
      refine ⟨h.1.1.k, by omega, by omega, fun w => by omega, fun _ => sX8_brightnessAt h.1.1 hf (by omega) (by omega) (fun _ _ => ⟨by omega, by omega, fun z => ih (x + 1) acc (by omega) (by omega) (by omega) ?_, fun z => ih (x + 1) (acc + 1) (by omega) (by omega) (by omega) ?_⟩) (fun w => (w ⟨⟨f0, f1⟩, x0, by omega, hy.1, hy.2⟩).elim)⟩
      · rw [← hs]; unfold snc; rw [if_pos z]
      · rw [← hs]; unfold snc; rw [if_neg z]
  have rows : ∀ (m : Nat) (y : Int), y + m = D 1 → 0 ≤ y → snf D f th m y = snf D f th (D 1).toNat 0 → fX11_snowLine_B20 K KX (m + 1) σ f th y := by
    intro m
    induction m with
    | zero =>
      intro y e y0 hs
      have hs : D 1 = snf D f th (D 1).toNat 0 := hs
      rw [uX11_snowLine_B20, eH]
      exact ⟨h.1.1.k, by omega, by omega, fun _ => by rw [hs]; exact hk2, fun w => (w (by omega)).elim⟩
    | succ m ih =>
      intro y e y0 hs
      have hs : (if D 0 ≤ 2 * snr D f th y then snf D f th m (y + 1) else y) = snf D f th (D 1).toNat 0 := hs
      rw [uX11_snowLine_B20, eH]
      refine ⟨h.1.1.k, by omega, by omega, fun w => by omega, fun _ => ⟨_, row _ y ⟨y0, by omega⟩ (fun z => ih (y + 1) (by omega) (by omega) ?_) (fun z => ?_) (D 0).toNat 0 0 (by omega) (by decide) (by decide) rfl⟩⟩
      · rw [if_pos z] at hs; exact hs
      · rw [if_neg z] at hs; rw [hs]; exact hk2
  exact ⟨_, rows (D 1).toNat 0 (by omega) (by decide) rfl⟩
theorem rM_snowLine {f th : Int} (hd : σ 1 = D) (hD : WF D) (hf : zrg f) (ht : zrg th) (hK : rK K σ (A_snowLine D f th)) : fX12_snowLine K σ f th := by
  have q := hD.1
  unfold WFa at q
  refine sM_fr hd hD hf hK (fun z => by unfold A_snowLine; rw [if_neg z]) (fun f0 f1 τ u1 u2 u3 => zb0 ?_) (fun τ k => zb1 k)
  have eW : τ 1 0 = D 0 := by rw [u3]
  have eH : τ 1 1 = D 1 := by rw [u3]
  have hk : ∀ r, r = (A_snowLine D f th).2 → K r τ := fun r e => hK r τ u1 (by unfold A_snowLine; rw [if_pos ⟨f0, f1⟩]; exact u2) (fun _ => e)
  refine sM_inRange ht (by decide) (by decide) (fun t0 t1 => zb1 ?_) (fun z => zb0 (hk _ (by unfold A_snowLine; rw [if_pos ⟨f0, f1⟩, if_neg z])))
  have hk2 : K (snf D f th (D 1).toNat 0) τ := hk _ (by unfold A_snowLine; rw [if_pos ⟨f0, f1⟩, if_pos ⟨t0, t1⟩])
  have row : ∀ (k29 : zSt → Int → Int → Int → Prop) (y : Int), (0 ≤ y ∧ y < D 1) → (D 0 ≤ 2 * snr D f th y → k29 τ f th (y + 1)) → (¬ D 0 ≤ 2 * snr D f th y → K y τ) → ∀ (m : Nat) (x acc : Int), x + m = D 0 → 0 ≤ x → (0 ≤ acc ∧ acc ≤ x) → lp (snc D f th y) m x acc = snr D f th y → fX12_snowLine_B45 K k29 (m + 1) τ f th y acc x := by
    intro k29 y hy k1 k0 m
    induction m with
    | zero =>
      intro x acc e x0 ab hs
      rw [lp_0] at hs
      rw [uX12_snowLine_B45, eW, hs]
      rw [hs] at ab
      exact ⟨by omega, by omega, fun _ => ⟨by omega, k1, k0⟩, fun w => (w (by omega)).elim⟩
    | succ m ih =>
      intro x acc e x0 ab hs
      rw [lp_s] at hs
      have pb := hD.2.2.2.1 f x y f0 f1 x0 (by omega) hy.1 hy.2
      rw [uX12_snowLine_B45, eW]
      refine ⟨by omega, by omega, fun w => by omega, fun _ => sM_brightness f0 (by omega) x0 (by omega) hy.1 (by omega) ?_⟩
      rw [u3]
      refine ⟨by omega, by omega, fun z => ih (x + 1) (acc + 0) (by omega) (by omega) (by omega) ?_, fun z => ih (x + 1) (acc + 1) (by omega) (by omega) (by omega) ?_⟩
      · rw [← hs]; unfold snc; rw [if_pos z, Int.add_zero]
      · rw [← hs]; unfold snc; rw [if_neg z]
  have rows : ∀ (m : Nat) (y : Int), y + m = D 1 → 0 ≤ y → snf D f th m y = snf D f th (D 1).toNat 0 → fX12_snowLine_B29 K (m + 1) τ f th y := by
    intro m
    induction m with
    | zero =>
      intro y e y0 hs
      have hs : D 1 = snf D f th (D 1).toNat 0 := hs
      rw [uX12_snowLine_B29, eH]
      exact ⟨by omega, by omega, fun _ => by rw [hs]; exact hk2, fun w => (w (by omega)).elim⟩
    | succ m ih =>
      intro y e y0 hs
      have hs : (if D 0 ≤ 2 * snr D f th y then snf D f th m (y + 1) else y) = snf D f th (D 1).toNat 0 := hs
      rw [uX12_snowLine_B29, eH]
      refine ⟨by omega, by omega, fun w => by omega, fun _ => ⟨_, row _ y ⟨y0, by omega⟩ (fun z => ih (y + 1) (by omega) (by omega) ?_) (fun z => ?_) (D 0).toNat 0 0 (by omega) (by decide) (by decide) rfl⟩⟩
      · rw [if_pos z] at hs; exact hs
      · rw [if_neg z] at hs; rw [hs]; exact hk2
  exact ⟨_, rows (D 1).toNat 0 (by omega) (by decide) rfl⟩
end IM
