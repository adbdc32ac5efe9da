/-! frames, pixels, orientation, matches: both sides -/
section B0
variable {K : Int → zSt → Prop} {Kv : zSt → Prop} {KX : String → zSt → Prop} {D : zD} {σ : zSt}
theorem sM_counted {i : Int} (hd : σ 1 = D) (i0 : 0 ≤ i) (i1 : i < 811) (hK : ∀ τ, frm pMq σ τ → K (D i) τ) : fX12_counted K σ i := fun σ1 e1 => by
  have fr : frm pMq σ σ1 := by rw [e1]; exact frm.wr (by omega)
  refine ⟨⟨i0, i1⟩, ?_⟩
  rw [fr.D hd (fun b => by omega)]
  exact hK σ1 fr
theorem rM_width (hd : σ 1 = D) (hK : ∀ τ, frm pMq σ τ → K (D 0) τ) : fX12_width K σ := sM_counted hd (by decide) (by decide) hK
theorem rX_width (h : XA σ D) (hK : K (D 0) σ) : fX11_width K σ := by
  refine ⟨h.1.1.k, ?_⟩
  rw [h.1.1.2.1.2.1]
  exact hK
theorem rM_height (hd : σ 1 = D) (hK : ∀ τ, frm pMq σ τ → K (D 1) τ) : fX12_height K σ := sM_counted hd (by decide) (by decide) hK
theorem rX_height (h : XA σ D) (hK : K (D 1) σ) : fX11_height K σ := by
  refine ⟨h.1.1.k, ?_⟩
  rw [h.1.1.2.1.2.2.1]
  exact hK
theorem rM_frameCount (hd : σ 1 = D) (hK : ∀ τ, frm pMq σ τ → K (D 2) τ) : fX12_frameCount K σ := sM_counted hd (by decide) (by decide) hK
theorem rX_frameCount (h : XA σ D) (hK : K (D 2) σ) : fX11_frameCount K σ := by
  refine ⟨h.1.1.k, ?_⟩
  rw [h.1.1.2.1.2.2.2.1]
  exact hK
theorem rM_controlCount (hd : σ 1 = D) (hK : ∀ τ, frm pMq σ τ → K (D 3) τ) : fX12_controlCount K σ := sM_counted hd (by decide) (by decide) hK
theorem rX_controlCount (h : XA σ D) (hK : K (D 3) σ) : fX11_controlCount K σ := by
  refine ⟨h.1.1.k, ?_⟩
  rw [h.1.1.2.1.2.2.2.2.2.1]
  exact hK
theorem rM_featureCount (hd : σ 1 = D) (hK : ∀ τ, frm pMq σ τ → K (D 4) τ) : fX12_featureCount K σ := sM_counted hd (by decide) (by decide) hK
theorem rX_featureCount (h : XA σ D) (hK : K (D 4) σ) : fX11_featureCount K σ := by
  refine ⟨h.1.1.k, ?_⟩
  rw [h.1.1.2.1.2.2.2.2.2.2.1]
  exact hK
theorem rM_stakeCount (hd : σ 1 = D) (hK : ∀ τ, frm pMq σ τ → K (D 5) τ) : fX12_stakeCount K σ := sM_counted hd (by decide) (by decide) hK
theorem rX_stakeCount (h : XA σ D) (hK : K (D 5) σ) : fX11_stakeCount K σ := by
  refine ⟨h.1.1.k, ?_⟩
  rw [h.1.1.2.1.2.2.2.2.1]
  exact hK

def A_getSetting (D : zD) (i : Int) : Int := if 0 ≤ i ∧ i ≤ 7 then D (83 + i) else -2
theorem rM_getSetting {i : Int} (hd : σ 1 = D) (hi : zrg i) (hK : ∀ τ, frm pMq σ τ → K (A_getSetting D i) τ) : fX12_getSetting K σ i := fun σ1 e1 => by
  have fr : frm pMq σ σ1 := by rw [e1]; exact frm.wr (by omega)
  have hk := hK σ1 fr
  unfold A_getSetting at hk
  refine sM_inRange hi (by decide) (by decide) (fun a b => zb1 (sM_setting a (by omega) ?_)) (fun z => zb0 ?_)
  · rw [if_pos ⟨a, b⟩] at hk
    rw [fr.D hd (fun b => by omega)]
    exact hk
  · rwa [if_neg z] at hk
theorem sX11_isSetting {i : Int} (hi : zrg i) (h1 : 0 ≤ i → i < 8 → K 1 σ) (h0 : ¬ (0 ≤ i ∧ i < 8) → K 0 σ) : fX11_isSetting K σ i :=
  ⟨hi, fun z => h0 (by omega), fun z => ⟨fun w => h0 (by omega), fun w => h1 (by omega) (by omega)⟩⟩
theorem rX_getSetting {i : Int} (h : XA σ D) (hi : zrg i) (hK : K (A_getSetting D i) σ) : fX11_getSetting K σ i := by
  unfold A_getSetting at hK
  refine sX11_isSetting hi (fun a b => zb1 ⟨h.1.1.k, ⟨a, b⟩, ?_⟩) (fun z => zb0 ?_)
  · rw [if_pos ⟨a, by omega⟩] at hK
    rw [h.1.set a b]
    exact hK
  · rwa [if_neg (by omega)] at hK
def A_frameDay (D : zD) (f : Int) : Int × Int := if isFr D f then (0, D (6 + f)) else (1, 0)
/-- the reference: a frame required -/
theorem sM_fr {g : Int → zSt → Prop} {f : Int} {a : Int × Int} (hd : σ 1 = D) (hD : WF D) (hf : zrg f) (hK : rK K σ a) (ha : ¬ isFr D f → a.1 = 1) (h1 : 0 ≤ f → f < D 2 → ∀ τ, frm pMq σ τ → τ 0 4 = 0 → τ 1 = D → g 0 τ) (h2 : ∀ τ, K 0 τ → g 1 τ) : fX12_isFrame (fun r1 σ1 => fX12_fails g σ1 r1) σ f :=
  sM_isFrame hd hD hf (fun f0 f1 => sM_fails1 (fun τ u1 u2 => h1 f0 f1 τ (p4_q u1) u2 (p4_D u1 hd))) (fun z => sM_fails0 (fun τ u1 u2 => h2 τ (hK 0 τ (p4_q u1) (by rw [ha z]; exact u2) (fun w => by rw [ha z] at w; exact absurd w (by decide)))))
theorem rM_frameDay {f : Int} (hd : σ 1 = D) (hD : WF D) (hf : zrg f) (hK : rK K σ (A_frameDay D f)) : fX12_frameDay K σ f := by
  have q := hD.1
  unfold WFa at q
  refine sM_fr hd hD hf hK (fun z => by unfold A_frameDay; rw [if_neg z]) (fun f0 f1 τ u1 u2 u3 => zb0 ⟨by omega, ?_⟩) (fun τ k => zb1 k)
  rw [u3]
  exact hK _ τ u1 (by unfold A_frameDay; rw [if_pos ⟨f0, f1⟩]; exact u2) (fun _ => by unfold A_frameDay; rw [if_pos ⟨f0, f1⟩])
theorem rX_frameDay {f : Int} (h : XA σ D) (hf : zrg f) (hK : xK K KX σ D (A_frameDay D f)) : fX11_frameDay K KX σ f := by
  refine sX11_requireFrame h.1 hf (fun f0 f1 => ⟨h.1.1.k, sX8_dayOf h.1.1 hf ?_⟩) (fun z => hK.2.1 σ frm.rf h (by unfold A_frameDay; rw [if_neg z]))
  have := hK.1 σ frm.rf h (by unfold A_frameDay; rw [if_pos ⟨f0, f1⟩])
  unfold A_frameDay at this; rw [if_pos ⟨f0, f1⟩] at this
  rw [if_pos ⟨f0, f1⟩]; exact this
theorem sX8_brightnessAt {S f x y : Int} (hS : Sc σ S D) (hf : zrg f) (hx : zrg x) (hy : zrg y) (h1 : isFr D f → isPx D x y → K (px D f x y) σ) (h0 : ¬ (isFr D f ∧ isPx D x y) → K (-1) σ) : fX8_brightnessAt K σ S f x y := by
  have q := hS.1.1
  unfold WFa at q
  refine ⟨hS.k, sX8_hasFrame hS hf (fun f0 f1 => zb1 (sX8_hasPixel hS hx hy (fun a b c d => zb1 ⟨by omega, hS.fr f0 (by omega), by omega, ?_⟩) (fun z => zb0 (h0 (fun w => z w.2))))) (fun z => zb0 (h0 (fun w => z w.1)))⟩
  rw [hS.2.2.1.2.2 f x y f0 f1 a b c d]
  exact h1 ⟨f0, f1⟩ ⟨a, b, c, d⟩
def A_pixel (D : zD) (f x y : Int) : Int × Int := if isFr D f ∧ isPx D x y then (0, px D f x y) else (1, 0)
theorem rM_pixel {f x y : Int} (hd : σ 1 = D) (hD : WF D) (hf : zrg f) (hx : zrg x) (hy : zrg y) (hK : rK K σ (A_pixel D f x y)) : fX12_pixel K σ f x y := by
  have q := hD.1
  unfold WFa at q
  have no : ¬ (isFr D f ∧ isPx D x y) → fX12_pixel_B23 K σ f x y 0 := fun z => by
    rw [show A_pixel D f x y = (1, 0) by unfold A_pixel; rw [if_neg z]] at hK
    exact sM_fails0 (fun τ u1 u2 => zb1 (hK _ τ (p4_q u1) u2 (fun w => absurd w (by decide))))
  refine sM_isFrame hd hD hf (fun f0 f1 => zb1 (sM_isPixel hd hD hx hy (fun p => zb1 (sM_fails1 (fun τ u1 u2 => zb0 ?_))) (fun z => zb0 (no (fun w => z w.2))))) (fun z => zb0 (no (fun w => z w.1)))
  rw [show A_pixel D f x y = (0, _) by unfold A_pixel; rw [if_pos ⟨⟨f0, f1⟩, p⟩]] at hK
  refine sM_brightness f0 (by omega) p.1 (by omega) p.2.2.1 (by omega) ?_
  rw [p4_D u1 hd]
  exact hK _ τ (p4_q u1) u2 (fun _ => rfl)
theorem rX_pixel {f x y : Int} (h : XA σ D) (hf : zrg f) (hx : zrg x) (hy : zrg y) (hK : xK K KX σ D (A_pixel D f x y)) : fX11_pixel K KX σ f x y := by
  have no : ¬ (isFr D f ∧ isPx D x y) → KX eIO σ := fun z => hK.2.1 σ frm.rf h (by unfold A_pixel; rw [if_neg z])
  refine sX11_requireFrame h.1 hf (fun f0 f1 => sX11_requirePixel h.1 hx hy (fun p => ⟨h.1.1.k, sX8_brightnessAt h.1.1 hf hx hy (fun a b => ?_) (fun z => (z ⟨⟨f0, f1⟩, p⟩).elim)⟩) (fun z => no (fun w => z w.2))) (fun z => no (fun w => z w.1))
  have := hK.1 σ frm.rf h (by unfold A_pixel; rw [if_pos ⟨a, b⟩])
  unfold A_pixel at this; rw [if_pos ⟨a, b⟩] at this
  exact this
def A_contrast (D : zD) (f : Int) : Int × Int := if isFr D f then (0, ctr D f) else (1, 0)
theorem rM_contrast {f : Int} (hd : σ 1 = D) (hD : WF D) (hf : zrg f) (hK : rK K σ (A_contrast D f)) : fX12_contrast K σ f := by
  refine sM_fr hd hD hf hK (fun z => by unfold A_contrast; rw [if_neg z]) (fun f0 f1 τ u1 u2 u3 => zb0 ?_) (fun τ k => zb1 k)
  subst hd
  refine sM_contrastOf (by rw [u3]; exact hD) f0 (by rw [u3]; exact f1) ?_
  rw [u3]
  exact hK _ τ u1 (by unfold A_contrast; rw [if_pos ⟨f0, f1⟩]; exact u2) (fun _ => by unfold A_contrast; rw [if_pos ⟨f0, f1⟩])
theorem rX_contrast {f : Int} (h : XA σ D) (hf : zrg f) (hK : xK K KX σ D (A_contrast D f)) : fX11_contrast K KX σ f := by
  refine sX11_requireFrame h.1 hf (fun f0 f1 => ⟨h.1.1.k, sX8_contrastOf h.1.1 f0 f1 ?_⟩) (fun z => hK.2.1 σ frm.rf h (by unfold A_contrast; rw [if_neg z]))
  have := hK.1 σ frm.rf h (by unfold A_contrast; rw [if_pos ⟨f0, f1⟩])
  unfold A_contrast at this; rw [if_pos ⟨f0, f1⟩] at this
  exact this
def A_isUsable (D : zD) (f : Int) : Int × Int := if isFr D f then (0, if D 86 ≤ ctr D f then 1 else 0) else (1, 0)
theorem rM_isUsable {f : Int} (hd : σ 1 = D) (hD : WF D) (hf : zrg f) (hK : rK K σ (A_isUsable D f)) : fX12_isUsable K σ f := by
  refine sM_fr hd hD hf hK (fun z => by unfold A_isUsable; rw [if_neg z]) (fun f0 f1 τ u1 u2 u3 => zb0 ?_) (fun τ k => zb1 k)
  have hk : ∀ r, r = (if D 86 ≤ ctr D f then 1 else 0) → K r τ := fun r e => hK r τ u1 (by unfold A_isUsable; rw [if_pos ⟨f0, f1⟩]; exact u2) (fun _ => by unfold A_isUsable; rw [if_pos ⟨f0, f1⟩]; exact e)
  exact sM_usable' u3 hD f0 f1 (fun w => zb1 (hk _ (by rw [if_pos w]))) (fun w => zb0 (hk _ (by rw [if_neg w])))
theorem rX_isUsable {f : Int} (h : XA σ D) (hf : zrg f) (hK : xK K KX σ D (A_isUsable D f)) : fX11_isUsable K KX σ f := by
  refine sX11_requireFrame h.1 hf (fun f0 f1 => ⟨h.1.1.k, ?_⟩) (fun z => hK.2.1 σ frm.rf h (by unfold A_isUsable; rw [if_neg z]))
  have := hK.1 σ frm.rf h (by unfold A_isUsable; rw [if_pos ⟨f0, f1⟩])
  unfold A_isUsable at this; rw [if_pos ⟨f0, f1⟩] at this
  refine sX8_usable h.1.1 f0 f1 (fun w => ⟨Or.inr rfl, ?_⟩) (fun w => ⟨Or.inl rfl, ?_⟩)
  · rw [show (if D 86 ≤ ctr D f then (1 : Int) else 0) = 1 by rw [if_pos w]] at this; exact this
  · rw [show (if D 86 ≤ ctr D f then (1 : Int) else 0) = 0 by rw [if_neg w]] at this; exact this
theorem rM_referenceFrame (hd : σ 1 = D) (hD : WF D) (hK : ∀ τ, frm pMq σ τ → K (refer D) τ) : fX12_referenceFrame K σ := fun σ1 e1 => by
  have fr : frm pMq σ σ1 := by rw [e1]; exact frm.wr (by omega)
  exact sM_reference' (fr.D hd (fun b => by omega)) hD (hK σ1 fr)
theorem rX_referenceFrame (h : XA σ D) (hK : K (refer D) σ) : fX11_referenceFrame K σ := by
  refine ⟨h.1.1.k, sX8_usableFrom h.1.1 (by decide) (by decide) ?_⟩
  rw [show uf D (D 2 - 0).toNat 0 = refer D by unfold refer; rw [Int.sub_zero]]
  exact hK
theorem sX11_orA (h : XA σ D) (hK : ∀ τ, frm pQ σ τ → XA τ D → OI τ D → K 17 τ) : fX11_currentOrientation K σ :=
  sX11_currentOrientation h.1 (fun τ u1 u2 u3 => hK τ (fun a b z => u1 a b (by omega)) ⟨u2, h.2.fr (fun a b z => u1 a b (by omega))⟩ u3)
theorem sX6_cov {f : Int} (hO : OI σ D) (hf : zrg f) (h2 : D 2 ≤ 6) (hD : WF D) (h1 : isFr D f → (oriF D f).1 = 1 → K 1 σ) (h0 : (oriF D f).1 ≠ 1 → K 0 σ) : fX6_covers K σ f := by
  have out : ¬ (0 ≤ f ∧ f < D 2) → (oriF D f).1 = 0 := fun z => by unfold oriF; rw [if_neg (fun w => z ⟨w.1, w.2.1⟩)]
  refine sX6_covers hf (st := oriF D f) (fun f0 f1 => ⟨hO.2 f f0 f1, ?_⟩) (fun f0 f1 e => ?_) (fun z => ?_)
  · exact oriF_b hD f
  · rcases Classical.em (0 ≤ f ∧ f < D 2) with w | w
    · exact h1 w e
    · have := out w; omega
  · rcases Classical.em (0 ≤ f ∧ f < D 2) with w | w
    · exact h0 (by have := z w.1 (by omega); omega)
    · exact h0 (by have := out w; omega)
def A_isOriented (D : zD) (f : Int) : Int × Int := if isFr D f then (0, (oriF D f).1) else (1, 0)
theorem sM_noFrame {f : Int} (hd : σ 1 = D) (hD : WF D) (hf : zrg f) (h1 : 0 ≤ f → f < D 2 → ∀ τ, frm pMq σ τ → τ 0 4 = 0 → MO τ D → K 0 τ) (h0 : ¬ isFr D f → ∀ τ, frm pMq σ τ → τ 0 4 = 1 → K 1 τ) : fX12_noFrame K σ f := by
  refine sM_orient hd hD (fun τ u1 u2 => ?_)
  have d1 : τ 1 = D := u1.D hd (fun b => by omega)
  have uq : frm pMq σ τ := u1.mo (fun a b z => by omega)
  exact sM_isFrame d1 hD hf (fun f0 f1 => sM_fails1 (fun υ v1 v2 => ⟨Or.inl rfl, h1 f0 f1 υ (uq.tr (p4_q v1)) v2 (u2.mv (fun a b z => v1 a b (by omega)))⟩)) (fun z => sM_fails0 (fun υ v1 v2 => ⟨Or.inr rfl, h0 z υ (uq.tr (p4_q v1)) v2⟩))
theorem rM_isOriented {f : Int} (hd : σ 1 = D) (hD : WF D) (hf : zrg f) (hK : rK K σ (A_isOriented D f)) : fX12_isOriented K σ f := by
  have q := hD.1
  unfold WFa at q
  refine sM_noFrame hd hD hf (fun f0 f1 τ u1 u2 u3 => zb0 ⟨by omega, ?_⟩) (fun z τ u1 u2 => zb1 (hK _ τ u1 (by unfold A_isOriented; rw [if_neg z]; exact u2) (fun w => by unfold A_isOriented at w; rw [if_neg z] at w; exact absurd w (by decide))))
  have o := oriF_s hD f
  have hk : ∀ r, r = (oriF D f).1 → K r τ := fun r e => hK r τ u1 (by unfold A_isOriented; rw [if_pos ⟨f0, f1⟩]; exact u2) (fun _ => by unfold A_isOriented; rw [if_pos ⟨f0, f1⟩]; exact e)
  rw [(u3.2 f f0 f1).1]
  exact ⟨by omega, fun z => hk _ z.symm, fun z => hk _ (by omega)⟩
theorem rX_isOriented {f : Int} (h : XA σ D) (hf : zrg f) (hK : xK K KX σ D (A_isOriented D f)) : fX11_isOriented K KX σ f := by
  have q := h.1.1.1.1
  unfold WFa at q
  refine sX11_requireFrame h.1 hf (fun f0 f1 => sX11_orA h (fun τ u1 u2 u3 => ⟨rfl, ?_⟩)) (fun z => hK.2.1 σ frm.rf h (by unfold A_isOriented; rw [if_neg z]))
  have o := oriF_s h.1.1.1 f
  have hk : ∀ r, r = (oriF D f).1 → K r τ := fun r e => by
    have := hK.1 τ u1 u2 (by unfold A_isOriented; rw [if_pos ⟨f0, f1⟩])
    unfold A_isOriented at this; rw [if_pos ⟨f0, f1⟩] at this
    rw [e]; exact this
  exact sX6_cov u3 hf (by omega) h.1.1.1 (fun _ z => ⟨Or.inr rfl, hk _ z.symm⟩) (fun z => ⟨Or.inl rfl, hk _ (by omega)⟩)
def A_shiftX (D : zD) (f : Int) : Int × Int := if isFr D f then (if (oriF D f).1 = 1 then (0, (oriF D f).2.1) else (2, 0)) else (1, 0)
def A_shiftY (D : zD) (f : Int) : Int × Int := if isFr D f then (if (oriF D f).1 = 1 then (0, (oriF D f).2.2.1) else (2, 0)) else (1, 0)
def A_shiftError (D : zD) (f : Int) : Int × Int := if isFr D f then (0, if (oriF D f).1 = 1 then (oriF D f).2.2.2 else -1) else (1, 0)

theorem rM_shiftX {f : Int} (hd : σ 1 = D) (hD : WF D) (hf : zrg f) (hK : rK K σ (A_shiftX D f)) : fX12_shiftX K σ f := by
  have q := hD.1
  unfold WFa at q
  have o := oriF_s hD f
  refine sM_noFrame hd hD hf (fun f0 f1 τ u1 u2 u3 => zb0 ⟨by omega, ?_⟩) (fun z τ u1 u2 => zb1 (zb1 (hK _ τ u1 (by unfold A_shiftX; rw [if_neg z]; exact u2) (fun w => by unfold A_shiftX at w; rw [if_neg z] at w; exact absurd w (by decide)))))
  rw [(u3.2 f f0 f1).1]
  refine ⟨by omega, fun z σ5 e5 => ?_, fun z σ7 e7 => ?_⟩
  · have c4 : σ5 0 4 = 2 := by rw [e5, zu_eq]
    have fr : frm pMq σ σ5 := by rw [e5]; exact u1.z (by omega)
    have ea : A_shiftX D f = (2, 0) := by unfold A_shiftX; rw [if_pos ⟨f0, f1⟩, if_neg (by omega)]
    rw [c4]
    exact ⟨by decide, fun w => absurd w (by decide), fun _ => zb1 (hK _ σ5 fr (by rw [ea]; exact c4) (fun w => by rw [ea] at w; exact absurd w (by decide)))⟩
  · have c4 : σ7 0 4 = 0 := by rw [e7, zu_eq]
    have fr : frm pMq σ σ7 := by rw [e7]; exact u1.z (by omega)
    have ea : A_shiftX D f = (0, (oriF D f).2.1) := by unfold A_shiftX; rw [if_pos ⟨f0, f1⟩, if_pos (by omega)]
    have cx : σ7 6 f = (oriF D f).2.1 := by rw [e7, zu_ne (by omega)]; exact (u3.2 f f0 f1).2.1
    rw [c4]
    refine ⟨by decide, fun _ => zb0 ⟨by omega, ?_⟩, fun w => absurd (by decide) w⟩
    exact hK _ σ7 fr (by rw [ea]; exact c4) (fun _ => by rw [ea]; exact cx)
theorem rX_shiftX {f : Int} (h : XA σ D) (hf : zrg f) (hK : xK K KX σ D (A_shiftX D f)) : fX11_shiftX K KX σ f := by
  have q := h.1.1.1.1
  unfold WFa at q
  refine sX11_requireFrame h.1 hf (fun f0 f1 => sX11_orA h (fun τ u1 u2 u3 => ⟨rfl, ?_⟩)) (fun z => hK.2.1 σ frm.rf h (by unfold A_shiftX; rw [if_neg z]))
  refine sX6_cov u3 hf (by omega) h.1.1.1 (fun _ z => zb1 (sX6_xShiftOf u3 h.1.1.1 hf ?_)) (fun z => zb0 (hK.2.2 τ u1 u2 (by unfold A_shiftX; rw [if_pos ⟨f0, f1⟩, if_neg z])))
  have := hK.1 τ u1 u2 (by unfold A_shiftX; rw [if_pos ⟨f0, f1⟩, if_pos z])
  unfold A_shiftX at this; rw [if_pos ⟨f0, f1⟩, if_pos z] at this
  exact this

theorem rM_shiftY {f : Int} (hd : σ 1 = D) (hD : WF D) (hf : zrg f) (hK : rK K σ (A_shiftY D f)) : fX12_shiftY K σ f := by
  have q := hD.1
  unfold WFa at q
  have o := oriF_s hD f
  refine sM_noFrame hd hD hf (fun f0 f1 τ u1 u2 u3 => zb0 ⟨by omega, ?_⟩) (fun z τ u1 u2 => zb1 (zb1 (hK _ τ u1 (by unfold A_shiftY; rw [if_neg z]; exact u2) (fun w => by unfold A_shiftY at w; rw [if_neg z] at w; exact absurd w (by decide)))))
  rw [(u3.2 f f0 f1).1]
  refine ⟨by omega, fun z σ5 e5 => ?_, fun z σ7 e7 => ?_⟩
  · have c4 : σ5 0 4 = 2 := by rw [e5, zu_eq]
    have fr : frm pMq σ σ5 := by rw [e5]; exact u1.z (by omega)
    have ea : A_shiftY D f = (2, 0) := by unfold A_shiftY; rw [if_pos ⟨f0, f1⟩, if_neg (by omega)]
    rw [c4]
    exact ⟨by decide, fun w => absurd w (by decide), fun _ => zb1 (hK _ σ5 fr (by rw [ea]; exact c4) (fun w => by rw [ea] at w; exact absurd w (by decide)))⟩
  · have c4 : σ7 0 4 = 0 := by rw [e7, zu_eq]
    have fr : frm pMq σ σ7 := by rw [e7]; exact u1.z (by omega)
    have ea : A_shiftY D f = (0, (oriF D f).2.2.1) := by unfold A_shiftY; rw [if_pos ⟨f0, f1⟩, if_pos (by omega)]
    have cx : σ7 7 f = (oriF D f).2.2.1 := by rw [e7, zu_ne (by omega)]; exact (u3.2 f f0 f1).2.2.1
    rw [c4]
    refine ⟨by decide, fun _ => zb0 ⟨by omega, ?_⟩, fun w => absurd (by decide) w⟩
    exact hK _ σ7 fr (by rw [ea]; exact c4) (fun _ => by rw [ea]; exact cx)
theorem rX_shiftY {f : Int} (h : XA σ D) (hf : zrg f) (hK : xK K KX σ D (A_shiftY D f)) : fX11_shiftY K KX σ f := by
  have q := h.1.1.1.1
  unfold WFa at q
  refine sX11_requireFrame h.1 hf (fun f0 f1 => sX11_orA h (fun τ u1 u2 u3 => ⟨rfl, ?_⟩)) (fun z => hK.2.1 σ frm.rf h (by unfold A_shiftY; rw [if_neg z]))
  refine sX6_cov u3 hf (by omega) h.1.1.1 (fun _ z => zb1 (sX6_yShiftOf u3 h.1.1.1 hf ?_)) (fun z => zb0 (hK.2.2 τ u1 u2 (by unfold A_shiftY; rw [if_pos ⟨f0, f1⟩, if_neg z])))
  have := hK.1 τ u1 u2 (by unfold A_shiftY; rw [if_pos ⟨f0, f1⟩, if_pos z])
  unfold A_shiftY at this; rw [if_pos ⟨f0, f1⟩, if_pos z] at this
  exact this

theorem rM_shiftError {f : Int} (hd : σ 1 = D) (hD : WF D) (hf : zrg f) (hK : rK K σ (A_shiftError D f)) : fX12_shiftError K σ f := by
  have q := hD.1
  unfold WFa at q
  have o := oriF_s hD f
  refine sM_noFrame hd hD hf (fun f0 f1 τ u1 u2 u3 => zb0 ⟨by omega, ?_⟩) (fun z τ u1 u2 => zb1 (hK _ τ u1 (by unfold A_shiftError; rw [if_neg z]; exact u2) (fun w => by unfold A_shiftError at w; rw [if_neg z] at w; exact absurd w (by decide))))
  have hk : ∀ r, r = (A_shiftError D f).2 → K r τ := fun r e => hK r τ u1 (by unfold A_shiftError; rw [if_pos ⟨f0, f1⟩]; exact u2) (fun _ => e)
  rw [(u3.2 f f0 f1).1]
  refine ⟨by omega, fun z => hk _ ?_, fun z => hk _ ?_⟩
  · unfold A_shiftError; rw [if_pos ⟨f0, f1⟩, if_neg (by omega)]
  · unfold A_shiftError; rw [if_pos ⟨f0, f1⟩, if_pos (by omega)]; exact (u3.2 f f0 f1).2.2.2
theorem rX_shiftError {f : Int} (h : XA σ D) (hf : zrg f) (hK : xK K KX σ D (A_shiftError D f)) : fX11_shiftError K KX σ f := by
  refine sX11_requireFrame h.1 hf (fun f0 f1 => sX11_orA h (fun τ u1 u2 u3 => ⟨rfl, sX6_errorOf u3 h.1.1.1 hf ?_⟩)) (fun z => hK.2.1 σ frm.rf h (by unfold A_shiftError; rw [if_neg z]))
  have := hK.1 τ u1 u2 (by unfold A_shiftError; rw [if_pos ⟨f0, f1⟩])
  unfold A_shiftError at this; rw [if_pos ⟨f0, f1⟩] at this
  exact this
abbrev isM (D : zD) (a u v b : Int) : Prop := isFr D a ∧ isFr D b ∧ isPx D u v
theorem sM_noMatch {a u v b : Int} (hd : σ 1 = D) (hD : WF D) (ha : zrg a) (hu : zrg u) (hv : zrg v) (hb : zrg b) (h1 : isM D a u v b → ∀ τ, frm pMq σ τ → τ 0 4 = 0 → RM τ (mR D a u v b) → 1 ≤ (mR D a u v b).1 → K 0 τ) (h2 : isM D a u v b → ∀ τ, frm pMq σ τ → τ 0 4 = 0 → (mR D a u v b).1 = 0 → K 1 τ) (h0 : ¬ isM D a u v b → ∀ τ, frm pMq σ τ → τ 0 4 = 1 → K 1 τ) : fX12_noMatch K σ a u v b := by
  have q := hD.1
  unfold WFa at q
  refine sM_orient hd hD (fun τ u1 u2 => ?_)
  have d1 : τ 1 = D := u1.D hd (fun b => by omega)
  have uq : frm pMq σ τ := u1.mo (fun a b z => by omega)
  have no : ¬ isM D a u v b → fX12_noMatch_B36 K τ a u v b 0 := fun z => sM_fails0 (fun υ v1 v2 => zb1 (h0 z υ (uq.tr (p4_q v1)) v2))
  refine sM_isFrame d1 hD ha (fun a0 a1 => zb1 (sM_isFrame d1 hD hb (fun b0 b1 => zb1 (sM_isPixel d1 hD hu hv (fun p => zb1 (sM_fails1 (fun υ v1 v2 => zb0 ⟨by omega, ?_⟩))) (fun z => zb0 (no (fun w => z w.2.2))))) (fun z => zb0 (no (fun w => z w.2.1))))) (fun z => zb0 (no (fun w => z w.1)))
  have hc : isM D a u v b := ⟨⟨a0, a1⟩, ⟨b0, b1⟩, p⟩
  have M : MO υ D := u2.mv (fun a b z => v1 a b (by omega))
  have vq : frm pMq σ υ := uq.tr (p4_q v1)
  have oa := oriF_s hD a
  have ob := oriF_s hD b
  have nz : ¬ ((oriF D a).1 = 1 ∧ (oriF D b).1 = 1) → (mR D a u v b).1 = 0 := fun z => by unfold mR; rw [if_neg (fun w => z ⟨w.1, w.2.1⟩)]
  rw [(M.2 a a0 a1).1, (M.2 b b0 b1).1]
  refine ⟨by omega, fun z => h2 hc υ vq v2 (nz (by omega)), fun z => ⟨by omega, by omega, fun w => h2 hc υ vq v2 (nz (by omega)), fun w => ?_⟩⟩
  refine sM_search (p4_D v1 d1) hD M (by omega) (by omega) (by omega) (by omega) (fun φ w1 w2 w3 => zb1 (h1 hc φ (vq.q w1 (fun a b z => by omega)) (w1.q4 v2 (by omega)) w2 w3)) (fun φ w1 w2 w3 => zb0 (h2 hc φ (vq.q w1 (fun a b z => by omega)) (w1.q4 v2 (by omega)) w3))
def A_match (D : zD) (a u v b : Int) : Int × Int := if isM D a u v b then (0, if (mR D a u v b).1 = 0 then -1 else 16 * (mR D a u v b).2.1 + (mR D a u v b).2.2.1) else (1, 0)
def A_matchError (D : zD) (a u v b : Int) : Int × Int := if isM D a u v b then (0, if (mR D a u v b).1 = 0 then -1 else (mR D a u v b).2.2.2.1) else (1, 0)
def A_matchMargin (D : zD) (a u v b : Int) : Int × Int := if isM D a u v b then (0, if (mR D a u v b).1 ≤ 1 then -1 else (mR D a u v b).2.2.2.2.2 - (mR D a u v b).2.2.2.1) else (1, 0)

theorem rM_match {a u v b : Int} (hd : σ 1 = D) (hD : WF D) (ha : zrg a) (hu : zrg u) (hv : zrg v) (hb : zrg b) (hK : rK K σ (A_match D a u v b)) : fX12_match K σ a u v b := by
  have hI := mR_I hD a u v b
  refine sM_noMatch hd hD ha hu hv hb (fun hc τ u1 u2 u3 u4 => zb0 ?_) (fun hc τ u1 u2 u3 => zb1 ?_) (fun hc τ u1 u2 => zb1 ?_)
  · have hk : ∀ r, r = (A_match D a u v b).2 → K r τ := fun r e => hK r τ u1 (by unfold A_match; rw [if_pos hc]; exact u2) (fun _ => e)
    refine hk _ ?_
    rw [(u3.2.2 u4).1, (u3.2.2 u4).2]
    unfold A_match; rw [if_pos hc, if_neg (by omega)]
  · rw [show fX12_unmatched (fun r3 σ3 => K r3 σ3) τ = (zrg (τ 0 4) ∧ ((τ 0 4 ≤ 0 → K (-1) τ) ∧ (¬ τ 0 4 ≤ 0 → K 0 τ))) from rfl, u2]
    refine ⟨by decide, fun _ => hK _ τ u1 (by unfold A_match; rw [if_pos hc]; exact u2) (fun _ => ?_), fun w => absurd (by decide) w⟩
    unfold A_match; rw [if_pos hc, if_pos (by omega)]
  · rw [show fX12_unmatched (fun r3 σ3 => K r3 σ3) τ = (zrg (τ 0 4) ∧ ((τ 0 4 ≤ 0 → K (-1) τ) ∧ (¬ τ 0 4 ≤ 0 → K 0 τ))) from rfl, u2]
    exact ⟨by decide, fun w => absurd w (by decide), fun _ => hK _ τ u1 (by unfold A_match; rw [if_neg hc]; exact u2) (fun w => by unfold A_match at w; rw [if_neg hc] at w; exact absurd w (by decide))⟩

theorem rM_matchError {a u v b : Int} (hd : σ 1 = D) (hD : WF D) (ha : zrg a) (hu : zrg u) (hv : zrg v) (hb : zrg b) (hK : rK K σ (A_matchError D a u v b)) : fX12_matchError K σ a u v b := by
  have hI := mR_I hD a u v b
  refine sM_noMatch hd hD ha hu hv hb (fun hc τ u1 u2 u3 u4 => zb0 ?_) (fun hc τ u1 u2 u3 => zb1 ?_) (fun hc τ u1 u2 => zb1 ?_)
  · have hk : ∀ r, r = (A_matchError D a u v b).2 → K r τ := fun r e => hK r τ u1 (by unfold A_matchError; rw [if_pos hc]; exact u2) (fun _ => e)
    refine hk _ ?_
    rw [u3.1, if_neg (by omega)]
    unfold A_matchError; rw [if_pos hc, if_neg (by omega)]
  · rw [show fX12_unmatched (fun r3 σ3 => K r3 σ3) τ = (zrg (τ 0 4) ∧ ((τ 0 4 ≤ 0 → K (-1) τ) ∧ (¬ τ 0 4 ≤ 0 → K 0 τ))) from rfl, u2]
    refine ⟨by decide, fun _ => hK _ τ u1 (by unfold A_matchError; rw [if_pos hc]; exact u2) (fun _ => ?_), fun w => absurd (by decide) w⟩
    unfold A_matchError; rw [if_pos hc, if_pos (by omega)]
  · rw [show fX12_unmatched (fun r3 σ3 => K r3 σ3) τ = (zrg (τ 0 4) ∧ ((τ 0 4 ≤ 0 → K (-1) τ) ∧ (¬ τ 0 4 ≤ 0 → K 0 τ))) from rfl, u2]
    exact ⟨by decide, fun w => absurd w (by decide), fun _ => hK _ τ u1 (by unfold A_matchError; rw [if_neg hc]; exact u2) (fun w => by unfold A_matchError at w; rw [if_neg hc] at w; exact absurd w (by decide))⟩

theorem rM_matchMargin {a u v b : Int} (hd : σ 1 = D) (hD : WF D) (ha : zrg a) (hu : zrg u) (hv : zrg v) (hb : zrg b) (hK : rK K σ (A_matchMargin D a u v b)) : fX12_matchMargin K σ a u v b := by
  have hI := mR_I hD a u v b
  refine sM_noMatch hd hD ha hu hv hb (fun hc τ u1 u2 u3 u4 => zb0 ?_) (fun hc τ u1 u2 u3 => zb1 ?_) (fun hc τ u1 u2 => zb1 ?_)
  · have hk : ∀ r, r = (A_matchMargin D a u v b).2 → K r τ := fun r e => hK r τ u1 (by unfold A_matchMargin; rw [if_pos hc]; exact u2) (fun _ => e)
    obtain ⟨i1, i2, i3⟩ := hI
    have p := i2 u4
    rw [u3.1, u3.2.1, if_neg (show ¬ (mR D a u v b).1 = 0 by omega)]
    by_cases z : (mR D a u v b).1 ≤ 1
    · rw [if_pos z]
      exact ⟨by decide, fun w => absurd w (by decide), fun _ => hk _ (by unfold A_matchMargin; rw [if_pos hc, if_pos z])⟩
    · have p2 := i3 (by omega)
      rw [if_neg z]
      exact ⟨by omega, fun _ => hk _ (by unfold A_matchMargin; rw [if_pos hc, if_neg z]), fun w => by omega⟩
  · rw [show fX12_unmatched (fun r3 σ3 => K r3 σ3) τ = (zrg (τ 0 4) ∧ ((τ 0 4 ≤ 0 → K (-1) τ) ∧ (¬ τ 0 4 ≤ 0 → K 0 τ))) from rfl, u2]
    refine ⟨by decide, fun _ => hK _ τ u1 (by unfold A_matchMargin; rw [if_pos hc]; exact u2) (fun _ => ?_), fun w => absurd (by decide) w⟩
    unfold A_matchMargin; rw [if_pos hc, if_pos (by omega)]
  · rw [show fX12_unmatched (fun r3 σ3 => K r3 σ3) τ = (zrg (τ 0 4) ∧ ((τ 0 4 ≤ 0 → K (-1) τ) ∧ (¬ τ 0 4 ≤ 0 → K 0 τ))) from rfl, u2]
    exact ⟨by decide, fun w => absurd w (by decide), fun _ => hK _ τ u1 (by unfold A_matchMargin; rw [if_neg hc]; exact u2) (fun w => by unfold A_matchMargin at w; rw [if_neg hc] at w; exact absurd w (by decide))⟩

theorem sX11_matchOf {a u v b : Int} (h : XA σ D) (ha : zrg a) (hu : zrg u) (hv : zrg v) (hb : zrg b) (h1 : isM D a u v b → ∀ τ, frm pQ σ τ → XA τ D → RX τ (mR D a u v b) → K 22 τ) (h0 : ¬ isM D a u v b → KX eIO σ) : fX11_matchOf K KX σ a u v b := by
  refine sX11_requireFrame h.1 ha (fun a0 a1 => sX11_requireFrame h.1 hb (fun b0 b1 => sX11_requirePixel h.1 hu hv (fun p => ⟨h.1.1.k, sX11_orA h (fun τ u1 u2 u3 => ⟨rfl, ?_⟩)⟩) (fun z => h0 (fun w => z w.2.2))) (fun z => h0 (fun w => z w.2.1))) (fun z => h0 (fun w => z w.1))
  have e0 : τ 0 0 = σ 0 0 := u1 0 0 (by omega)
  rw [← e0]
  exact sX5_search u2.1.1 u3 ha hb hu hv (fun υ v1 v2 => h1 ⟨⟨a0, a1⟩, ⟨b0, b1⟩, p⟩ υ (u1.tr (v1.mo (fun a b z => by omega))) (u2.fr (fun a b z => v1 a b (by omega))) v2)
theorem rX_match {a u v b : Int} (h : XA σ D) (ha : zrg a) (hu : zrg u) (hv : zrg v) (hb : zrg b) (hK : xK K KX σ D (A_match D a u v b)) : fX11_match K KX σ a u v b := by
  have hI := mR_I h.1.1.1 a u v b
  refine sX11_matchOf h ha hu hv hb (fun hc τ u1 u2 u3 => ⟨rfl, ?_⟩) (fun z => hK.2.1 σ frm.rf h (by unfold A_match; rw [if_neg z]))
  have hk : ∀ r, r = (A_match D a u v b).2 → K r τ := fun r e => by rw [e]; exact hK.1 τ u1 u2 (by unfold A_match; rw [if_pos hc])
  refine sX5_exists u3 hI (fun z => zb1 (hk _ ?_)) (fun z => zb0 (hk _ ?_))
  · rw [(u3.2.1 z).1, (u3.2.1 z).2.1]
    unfold A_match; rw [if_pos hc, if_neg (by omega)]
  · unfold A_match; rw [if_pos hc, if_pos z]
theorem rX_matchError {a u v b : Int} (h : XA σ D) (ha : zrg a) (hu : zrg u) (hv : zrg v) (hb : zrg b) (hK : xK K KX σ D (A_matchError D a u v b)) : fX11_matchError K KX σ a u v b := by
  have hI := mR_I h.1.1.1 a u v b
  refine sX11_matchOf h ha hu hv hb (fun hc τ u1 u2 u3 => ⟨rfl, ?_⟩) (fun z => hK.2.1 σ frm.rf h (by unfold A_matchError; rw [if_neg z]))
  have hk : ∀ r, r = (A_matchError D a u v b).2 → K r τ := fun r e => by rw [e]; exact hK.1 τ u1 u2 (by unfold A_matchError; rw [if_pos hc])
  refine sX5_exists u3 hI (fun z => zb1 (hk _ ?_)) (fun z => zb0 (hk _ ?_))
  · rw [(u3.2.1 z).2.2.1]
    unfold A_matchError; rw [if_pos hc, if_neg (by omega)]
  · unfold A_matchError; rw [if_pos hc, if_pos z]
theorem rX_matchMargin {a u v b : Int} (h : XA σ D) (ha : zrg a) (hu : zrg u) (hv : zrg v) (hb : zrg b) (hK : xK K KX σ D (A_matchMargin D a u v b)) : fX11_matchMargin K KX σ a u v b := by
  have hI := mR_I h.1.1.1 a u v b
  refine sX11_matchOf h ha hu hv hb (fun hc τ u1 u2 u3 => ⟨rfl, ?_⟩) (fun z => hK.2.1 σ frm.rf h (by unfold A_matchMargin; rw [if_neg z]))
  have hk : ∀ r, r = (A_matchMargin D a u v b).2 → K r τ := fun r e => by rw [e]; exact hK.1 τ u1 u2 (by unfold A_matchMargin; rw [if_pos hc])
  have i1 := hI.1
  rw [u3.1]
  refine ⟨by omega, fun z => hk _ ?_, fun z => hk _ ?_⟩
  · unfold A_matchMargin; rw [if_pos hc, if_pos z]
  · rw [u3.2.2 (by omega), (u3.2.1 (by omega)).2.2.1]
    unfold A_matchMargin; rw [if_pos hc, if_neg z]
end B0
