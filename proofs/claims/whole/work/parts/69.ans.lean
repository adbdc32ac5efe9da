/-! the class's answers: tracks kept, queries that read them -/
abbrev pQ : Int → Int → Prop := fun a _ => 17 ≤ a ∧ a ≤ 72
def XT (σ : zSt) (D : zD) : Prop := ∀ i, 0 ≤ i → i < 6 → (-1 ≤ σ (24 + i) 0 ∧ σ (24 + i) 0 ≤ σ 0 8) ∧ (σ (24 + i) 0 = σ 0 8 → i < D 4 ∧ TI σ (24 + i) D (tk D i))
def XA (σ : zSt) (D : zD) : Prop := XQ σ D ∧ XT σ D
abbrev eIO : String := "java/lang/IndexOutOfBoundsException"
abbrev eIS : String := "java/lang/IllegalStateException"
abbrev xK (K : Int → zSt → Prop) (KX : String → zSt → Prop) (σ : zSt) (D : zD) (a : Int × Int) : Prop := (∀ τ, frm pQ σ τ → XA τ D → a.1 = 0 → K a.2 τ) ∧ (∀ τ, frm pQ σ τ → XA τ D → a.1 = 1 → KX eIO τ) ∧ (∀ τ, frm pQ σ τ → XA τ D → a.1 = 2 → KX eIS τ)
section XR
variable {K : Int → zSt → Prop} {Kv : zSt → Prop} {KX : String → zSt → Prop} {D : zD} {σ : zSt}
theorem XQ.fr {τ : zSt} (h : XQ σ D) (g : ∀ a b, a ≤ 21 ∨ 73 ≤ a → τ a b = σ a b) : XQ τ D := by
  obtain ⟨hS, hv, ho, hc⟩ := h
  have e0 : τ 0 0 = σ 0 0 := g _ _ (by omega)
  have e8 : τ 0 8 = σ 0 8 := g _ _ (by omega)
  have e7 : τ 17 0 = σ 17 0 := g _ _ (by omega)
  refine ⟨by rw [e0]; exact hS.mono (fun a b p => g a b (by omega)), by rw [e8]; exact hv, by rw [e7, e8]; exact ho, fun e => ?_⟩
  rw [e7, e8] at e
  exact (hc e).fr (fun a b a0 a1 _ => g a b (by omega))
theorem XQ.set (h : XQ σ D) {i : Int} (i0 : 0 ≤ i) (i1 : i < 8) : σ (σ 0 0 + 1) i = D (83 + i) := h.1.2.1.2.2.2.2.2.2.2 i i0 i1
theorem XT.fr {τ : zSt} (h : XT σ D) (g : ∀ a b, (24 ≤ a ∧ a ≤ 72) ∨ (a = 0 ∧ b = 8) → τ a b = σ a b) : XT τ D := fun i i0 i1 => by
  obtain ⟨a, b⟩ := h i i0 i1
  have e0 : τ (24 + i) 0 = σ (24 + i) 0 := g _ _ (by omega)
  have e8 : τ 0 8 = σ 0 8 := g _ _ (by omega)
  rw [e0, e8]
  exact ⟨a, fun e => ⟨(b e).1, (b e).2.mv (fun a b z => g a b (by omega))⟩⟩
theorem XA.fr {τ : zSt} (h : XA σ D) (g : ∀ a b, a ≤ 21 ∨ 23 ≤ a → τ a b = σ a b) : XA τ D := ⟨h.1.fr (fun a b z => g a b (by omega)), h.2.fr (fun a b z => g a b (by omega))⟩
theorem sX11_requireFrame {f : Int} (h : XQ σ D) (hf : zrg f) (h1 : 0 ≤ f → f < D 2 → Kv σ) (h0 : ¬ isFr D f → KX eIO σ) : fX11_requireFrame Kv KX σ f :=
  ⟨h.1.k, sX8_hasFrame h.1 hf (fun a b => zb1 (h1 a b)) (fun z => zb0 (h0 z))⟩
theorem sX11_requirePixel {x y : Int} (h : XQ σ D) (hx : zrg x) (hy : zrg y) (h1 : isPx D x y → Kv σ) (h0 : ¬ isPx D x y → KX eIO σ) : fX11_requirePixel Kv KX σ x y :=
  ⟨h.1.k, sX8_hasPixel h.1 hx hy (fun a b c d => zb1 (h1 ⟨a, b, c, d⟩)) (fun z => zb0 (h0 z))⟩
theorem sX11_requireFeature {i : Int} (h : XQ σ D) (hi : zrg i) (h1 : 0 ≤ i → i < D 4 → Kv σ) (h0 : ¬ isFt D i → KX eIO σ) : fX11_requireFeature Kv KX σ i :=
  ⟨h.1.k, sX7_has7 h.1 hi (fun a b => zb1 (h1 a b)) (fun z => zb0 (h0 z))⟩
theorem sX11_isBetween {x a b : Int} (hx : zrg x) (ha : zrg a) (hb : zrg b) (h1 : a ≤ x → x ≤ b → K 1 σ) (h0 : ¬ (a ≤ x ∧ x ≤ b) → K 0 σ) : fX11_isBetween K σ x a b :=
  ⟨hx, ha, fun z => h0 (by omega), fun z => ⟨hb, fun w => h0 (by omega), fun w => h1 (by omega) (by omega)⟩⟩
theorem sX11_trackOf2 {i : Int} (h : XA σ D) (i0 : 0 ≤ i) (i1 : i < D 4) (hK : ∀ τ, frm pQ σ τ → XA τ D → TI τ (24 + i) D (tk D i) → (∀ T st, 24 ≤ T → T ≤ 29 → T ≠ 24 + i → TI σ T D st → TI τ T D st) → K (24 + i) τ) : fX11_trackOf K σ i := by
  have q := h.1.1.1.1
  unfold WFa at q
  have t := h.1.1.1.2.1
  unfold WFs at t
  obtain ⟨a, b⟩ := h.2 i i0 (by omega)
  have v := h.1.2.1
  refine ⟨by omega, by omega, by omega, fun e => hK σ frm.rf h (b e).2 (fun T st _ _ _ w => w), fun e => ⟨h.1.1.k, sX11_currentOrientation h.1 (fun τ u1 u2 u3 => ⟨rfl, u2.1.k, ?_⟩)⟩⟩
  have e0 : τ 0 0 = σ 0 0 := u1 0 0 (by omega)
  rw [← e0, u2.set (i := 4) (by decide) (by decide)]
  refine sX10_trace u2.1 u3 (by omega) i0 i1 (by show 0 ≤ D 87 ∧ D 87 ≤ 9; omega) (fun υ v1 v2 σ9 e9 => ?_)
  have v2 : TI υ (24 + i) D (tk D i) := v2
  have f9 : ∀ a b, ¬ (a = 22 ∨ a = 24 + i ∨ (31 + 6 * i ≤ a ∧ a ≤ 31 + 6 * i + 5)) → σ9 a b = τ a b := fun a b z => by rw [e9, zu_ne (by omega)]; exact v1 a b (by omega)
  have f1 : ∀ a b, ¬ (17 ≤ a ∧ a ≤ 22 ∨ a = 24 + i ∨ (31 + 6 * i ≤ a ∧ a ≤ 31 + 6 * i + 5)) → σ9 a b = σ a b := fun a b z => (f9 a b (by omega)).trans (u1 a b (by omega))
  have T9 : TI σ9 (24 + i) D (tk D i) := v2.mv (fun a b z => by rw [e9, zu_ne (by omega)])
  have c8 : σ9 0 8 = σ 0 8 := f1 0 8 (by omega)
  have c0 : σ9 (24 + i) 0 = σ 0 8 := by rw [e9, zu_eq, v1 0 8 (by omega)]; exact u1 0 8 (by omega)
  refine hK σ9 (fun a b z => f1 a b (by omega)) ⟨u2.fr (fun a b z => f9 a b (by omega)), fun j j0 j1 => ?_⟩ T9 (fun T st T0 T1 T2 w => w.mv (fun a b z => f1 a b (by omega)))
  by_cases w : j = i
  · subst w
    rw [c0, c8]
    exact ⟨by omega, fun _ => ⟨i1, T9⟩⟩
  · obtain ⟨p1, p2⟩ := h.2 j j0 j1
    rw [f1 (24 + j) 0 (by omega), c8]
    exact ⟨p1, fun e => ⟨(p2 e).1, (p2 e).2.mv (fun a b z => f1 a b (by omega))⟩⟩
theorem sX11_trackOf {i : Int} (h : XA σ D) (i0 : 0 ≤ i) (i1 : i < D 4) (hK : ∀ τ, frm pQ σ τ → XA τ D → TI τ (24 + i) D (tk D i) → K (24 + i) τ) : fX11_trackOf K σ i := sX11_trackOf2 h i0 i1 (fun τ a b c _ => hK τ a b c)
/-- a feature required, its track at hand -/
theorem sX11_ft {f : Int → zSt → Prop} {i : Int} (h : XA σ D) (hi : zrg i) (h1 : 0 ≤ i → i < D 4 → ∀ τ, frm pQ σ τ → XA τ D → TI τ (24 + i) D (tk D i) → f (24 + i) τ) (h0 : ¬ isFt D i → KX eIO σ) : fX11_requireFeature (fun σ1 => fX11_trackOf f σ1 i) KX σ i :=
  sX11_requireFeature h.1 hi (fun i0 i1 => sX11_trackOf h i0 i1 (fun τ a b c => h1 i0 i1 τ a b c)) h0

theorem rX_trackX {i f : Int} (h : XA σ D) (hi : zrg i) (hf : zrg f) (hK : xK K KX σ D (A_trackX D i f)) : fX11_trackX K KX σ i f := by
  have q := h.1.1.1.1
  unfold WFa at q
  have no : ¬ (isFt D i ∧ isFr D f) → KX eIO σ := fun z => hK.2.1 σ frm.rf h (by unfold A_trackX; rw [if_neg z])
  refine sX11_requireFeature h.1 hi (fun i0 i1 => sX11_requireFrame h.1 hf (fun f0 f1 => sX11_trackOf h i0 i1 (fun τ u1 u2 u3 => ⟨kX_T (by omega), ?_⟩)) (fun z => no (fun w => z w.2))) (fun z => no (fun w => z w.1))
  have hG : TG D (tk D i) := trk_G h.1.1.1 i0 i1
  have hk : ∀ r, r = (A_trackX D i f).2 → K r τ := fun r e => by rw [e]; exact hK.1 τ u1 u2 (by unfold A_trackX; rw [if_pos ⟨⟨i0, i1⟩, ⟨f0, f1⟩⟩])
  refine sX10_columnIn (by omega) u3 hG hf (by omega) (fun k k0 k1 e => hk _ ?_) (fun z => hk _ ?_)
  · unfold A_trackX; rw [if_pos ⟨⟨i0, i1⟩, ⟨f0, f1⟩⟩, tfd_in hG k0 k1 e, if_neg (by omega)]
  · unfold A_trackX; rw [if_pos ⟨⟨i0, i1⟩, ⟨f0, f1⟩⟩, tfd_no hG.1.1 z]; rfl

theorem rX_trackY {i f : Int} (h : XA σ D) (hi : zrg i) (hf : zrg f) (hK : xK K KX σ D (A_trackY D i f)) : fX11_trackY K KX σ i f := by
  have q := h.1.1.1.1
  unfold WFa at q
  have no : ¬ (isFt D i ∧ isFr D f) → KX eIO σ := fun z => hK.2.1 σ frm.rf h (by unfold A_trackY; rw [if_neg z])
  refine sX11_requireFeature h.1 hi (fun i0 i1 => sX11_requireFrame h.1 hf (fun f0 f1 => sX11_trackOf h i0 i1 (fun τ u1 u2 u3 => ⟨kX_T (by omega), ?_⟩)) (fun z => no (fun w => z w.2))) (fun z => no (fun w => z w.1))
  have hG : TG D (tk D i) := trk_G h.1.1.1 i0 i1
  have hk : ∀ r, r = (A_trackY D i f).2 → K r τ := fun r e => by rw [e]; exact hK.1 τ u1 u2 (by unfold A_trackY; rw [if_pos ⟨⟨i0, i1⟩, ⟨f0, f1⟩⟩])
  refine sX10_rowIn (by omega) u3 hG hf (by omega) (fun k k0 k1 e => hk _ ?_) (fun z => hk _ ?_)
  · unfold A_trackY; rw [if_pos ⟨⟨i0, i1⟩, ⟨f0, f1⟩⟩, tfd_in hG k0 k1 e, if_neg (by omega)]
  · unfold A_trackY; rw [if_pos ⟨⟨i0, i1⟩, ⟨f0, f1⟩⟩, tfd_no hG.1.1 z]; rfl

theorem rX_lostCount {i : Int} (h : XA σ D) (hi : zrg i) (hK : xK K KX σ D (A_lostCount D i)) : fX11_lostCount K KX σ i := by
  have q := h.1.1.1.1
  unfold WFa at q
  refine sX11_ft h hi (fun i0 i1 τ u1 u2 u3 => ⟨kX_T (by omega), ?_⟩) (fun z => hK.2.1 σ frm.rf h (by unfold A_lostCount; rw [if_neg z]))
  rw [u3.2.1]
  have := hK.1 τ u1 u2 (by unfold A_lostCount; rw [if_pos ⟨i0, i1⟩])
  unfold A_lostCount at this; rw [if_pos ⟨i0, i1⟩] at this
  exact this
theorem rX_segmentCount {i : Int} (h : XA σ D) (hi : zrg i) (hK : xK K KX σ D (A_segmentCount D i)) : fX11_segmentCount K KX σ i := by
  have q := h.1.1.1.1
  unfold WFa at q
  refine sX11_ft h hi (fun i0 i1 τ u1 u2 u3 => ⟨kX_T (by omega), ?_⟩) (fun z => hK.2.1 σ frm.rf h (by unfold A_segmentCount; rw [if_neg z]))
  have := hK.1 τ u1 u2 (by unfold A_segmentCount; rw [if_pos ⟨i0, i1⟩])
  unfold A_segmentCount at this; rw [if_pos ⟨i0, i1⟩] at this
  exact sX10_segments (by omega) u3 (trk_G h.1.1.1 i0 i1) this
theorem rX_speed {i k : Int} (h : XA σ D) (hi : zrg i) (hk : zrg k) (hK : xK K KX σ D (A_speed D i k)) : fX11_speed K KX σ i k := by
  have q := h.1.1.1.1
  unfold WFa at q
  have t := h.1.1.1.2.1
  unfold WFs at t
  refine sX11_ft h hi (fun i0 i1 τ u1 u2 u3 => ⟨kX_T (by omega), ?_⟩) (fun z => hK.2.1 σ frm.rf h (by unfold A_speed; rw [if_neg (fun w => z w.1)]))
  have hG : TG D (tk D i) := trk_G h.1.1.1 i0 i1
  refine ⟨kX_T (by omega), sX10_hasSegment (by omega) u3 hG hk (fun k0 k1 => zb1 ⟨u2.1.1.k, ?_⟩) (fun z => zb0 (hK.2.1 τ u1 u2 (by unfold A_speed; rw [if_neg (fun w => z w.2)])))⟩
  rw [u2.1.set (i := 5) (by decide) (by decide)]
  have := hK.1 τ u1 u2 (by unfold A_speed; rw [if_pos ⟨⟨i0, i1⟩, k0, k1⟩])
  unfold A_speed at this; rw [if_pos ⟨⟨i0, i1⟩, k0, k1⟩] at this
  exact sX10_speedOf h.1.1.1 (by omega) u3 hG k0 k1 (by show 0 ≤ D 88 ∧ D 88 ≤ 1000; omega) this
theorem rX_meanSpeed {i : Int} (h : XA σ D) (hi : zrg i) (hK : xK K KX σ D (A_meanSpeed D i)) : fX11_meanSpeed K KX σ i := by
  have q := h.1.1.1.1
  unfold WFa at q
  have t := h.1.1.1.2.1
  unfold WFs at t
  refine sX11_ft h hi (fun i0 i1 τ u1 u2 u3 => ⟨kX_T (by omega), u2.1.1.k, ?_⟩) (fun z => hK.2.1 σ frm.rf h (by unfold A_meanSpeed; rw [if_neg z]))
  rw [u2.1.set (i := 5) (by decide) (by decide)]
  have := hK.1 τ u1 u2 (by unfold A_meanSpeed; rw [if_pos ⟨i0, i1⟩])
  unfold A_meanSpeed at this; rw [if_pos ⟨i0, i1⟩] at this
  exact sX10_averageSpeed h.1.1.1 (by omega) u3 (trk_G h.1.1.1 i0 i1) (by show 0 ≤ D 88 ∧ D 88 ≤ 1000; omega) this
theorem rX_meanSpeedWithScale {i sc : Int} (h : XA σ D) (hi : zrg i) (hs : zrg sc) (hK : xK K KX σ D (A_meanSpeedWithScale D i sc)) : fX11_meanSpeedWithScale K KX σ i sc := by
  have q := h.1.1.1.1
  unfold WFa at q
  refine sX11_requireFeature h.1 hi (fun i0 i1 => ?_) (fun z => hK.2.1 σ frm.rf h (by unfold A_meanSpeedWithScale; rw [if_neg z]))
  have e1 : cLEAST 5 = 1 := by decide
  have e2 : cGREAT 5 = 1000 := by decide
  rw [e1, e2]
  have hk : ∀ r τ, frm pQ σ τ → XA τ D → r = (A_meanSpeedWithScale D i sc).2 → K r τ := fun r τ u1 u2 e => by rw [e]; exact hK.1 τ u1 u2 (by unfold A_meanSpeedWithScale; rw [if_pos ⟨i0, i1⟩])
  refine sX11_isBetween hs (by decide) (by decide) (fun s0 s1 => zb1 (sX11_trackOf h i0 i1 (fun τ u1 u2 u3 => ⟨kX_T (by omega), ?_⟩))) (fun z => zb0 (hk _ σ frm.rf h ?_))
  · refine sX10_averageSpeed h.1.1.1 (by omega) u3 (trk_G h.1.1.1 i0 i1) (by omega) (hk _ τ u1 u2 ?_)
    unfold A_meanSpeedWithScale; rw [if_pos ⟨i0, i1⟩, if_pos ⟨s0, s1⟩]
  · unfold A_meanSpeedWithScale; rw [if_pos ⟨i0, i1⟩, if_neg z]
theorem rX_surgeCount {i : Int} (h : XA σ D) (hi : zrg i) (hK : xK K KX σ D (A_surgeCount D i)) : fX11_surgeCount K KX σ i := by
  have q := h.1.1.1.1
  unfold WFa at q
  have t := h.1.1.1.2.1
  unfold WFs at t
  refine sX11_ft h hi (fun i0 i1 τ u1 u2 u3 => ⟨kX_T (by omega), u2.1.1.k, ?_⟩) (fun z => hK.2.1 σ frm.rf h (by unfold A_surgeCount; rw [if_neg z]))
  rw [u2.1.set (i := 5) (by decide) (by decide), u2.1.set (i := 7) (by decide) (by decide)]
  have := hK.1 τ u1 u2 (by unfold A_surgeCount; rw [if_pos ⟨i0, i1⟩])
  unfold A_surgeCount at this; rw [if_pos ⟨i0, i1⟩] at this
  exact sX10_surges h.1.1.1 (by omega) u3 (trk_G h.1.1.1 i0 i1) (by show 0 ≤ D 88 ∧ D 88 ≤ 1000; omega) (by show zrg (D 90); omega) this
theorem bgF_b {i s : Int} (hG : TG D (tk D i)) : bgF D i s = -1 ∨ (0 ≤ bgF D i s ∧ bgF D i s < tseg (tk D i)) := by
  have step : ∀ (m : Nat) (k a : Int), 0 ≤ k → sfind D (tk D i) (D 88) (D 90) s m k a = -1 ∨ (0 ≤ sfind D (tk D i) (D 88) (D 90) s m k a ∧ sfind D (tk D i) (D 88) (D 90) s m k a < k + m) := by
    intro m
    induction m with
    | zero => intro k a k0; exact Or.inl rfl
    | succ m ih =>
      intro k a k0
      unfold sfind
      by_cases z : sbeg D (tk D i) (D 88) (D 90) k
      · rw [if_pos z]
        by_cases w : a = s
        · rw [if_pos w]; omega
        · rw [if_neg w]; have := ih (k + 1) (a + 1) (by omega); omega
      · rw [if_neg z]; have := ih (k + 1) a (by omega); omega
  have g1 := hG.1
  have := step (tseg (tk D i)).toNat 0 0 (by decide)
  unfold bgF sbgn
  unfold tseg at this ⊢
  omega
theorem rX_surgeStart {i s : Int} (h : XA σ D) (hi : zrg i) (hs : zrg s) (hK : xK K KX σ D (A_surgeStart D i s)) : fX11_surgeStart K KX σ i s := by
  have q := h.1.1.1.1
  unfold WFa at q
  have t := h.1.1.1.2.1
  unfold WFs at t
  refine sX11_ft h hi (fun i0 i1 τ u1 u2 u3 => ⟨kX_T (by omega), u2.1.1.k, ?_⟩) (fun z => hK.2.1 σ frm.rf h (by unfold A_surgeStart; rw [if_neg z]))
  have hG : TG D (tk D i) := trk_G h.1.1.1 i0 i1
  rw [u2.1.set (i := 5) (by decide) (by decide), u2.1.set (i := 7) (by decide) (by decide)]
  have hk : ∀ r, r = (A_surgeStart D i s).2 → K r τ := fun r e => by rw [e]; exact hK.1 τ u1 u2 (by unfold A_surgeStart; rw [if_pos ⟨i0, i1⟩])
  have bb := bgF_b (s := s) hG
  have g1 := hG.1
  refine sX10_surgeBegin h.1.1.1 (by omega) u3 hG (by show 0 ≤ D 88 ∧ D 88 ≤ 1000; omega) (by show zrg (D 90); omega) hs ?_
  show zrg (bgF D i s) ∧ ((bgF D i s = -1 → K (-1) τ) ∧ (¬ bgF D i s = -1 → fX10_dayOf (fun r7 σ7 => K r7 σ7) τ (24 + i) (bgF D i s)))
  refine ⟨by unfold tseg at bb; omega, fun z => hk _ ?_, fun z => sX10_dayOf (by omega) u3 hG (by unfold tseg at bb; omega) (hk _ ?_)⟩
  · unfold A_surgeStart; rw [if_pos ⟨i0, i1⟩, if_pos z]
  · unfold A_surgeStart; rw [if_pos ⟨i0, i1⟩, if_neg z]
theorem rX_surgeDays {i s : Int} (h : XA σ D) (hi : zrg i) (hs : zrg s) (hK : xK K KX σ D (A_surgeDays D i s)) : fX11_surgeDays K KX σ i s := by
  have q := h.1.1.1.1
  unfold WFa at q
  have t := h.1.1.1.2.1
  unfold WFs at t
  refine sX11_ft h hi (fun i0 i1 τ u1 u2 u3 => ⟨kX_T (by omega), u2.1.1.k, ?_⟩) (fun z => hK.2.1 σ frm.rf h (by unfold A_surgeDays; rw [if_neg z]))
  have hG : TG D (tk D i) := trk_G h.1.1.1 i0 i1
  have e5 : τ (τ 0 0 + 1) 5 = D 88 := u2.1.set (i := 5) (by decide) (by decide)
  have e7 : τ (τ 0 0 + 1) 7 = D 90 := u2.1.set (i := 7) (by decide) (by decide)
  rw [e5, e7]
  have hk : ∀ r, r = (A_surgeDays D i s).2 → K r τ := fun r e => by rw [e]; exact hK.1 τ u1 u2 (by unfold A_surgeDays; rw [if_pos ⟨i0, i1⟩])
  have bb := bgF_b (s := s) hG
  have g1 := hG.1
  refine sX10_surgeBegin h.1.1.1 (by omega) u3 hG (by omega) (by omega) hs ?_
  show zrg (bgF D i s) ∧ ((bgF D i s = -1 → K (-1) τ) ∧ (¬ bgF D i s = -1 → kX (τ 0 0) = 8 ∧ fX10_surgeEnd (fun r8 σ8 => fX10_dayOf (fun r9 σ9 => fX10_dayOf (fun r10 σ10 => K (r9 - r10) σ10) σ9 (24 + i) (bgF D i s)) σ8 (24 + i) r8) τ (24 + i) (bgF D i s) (τ (τ 0 0 + 1) 5) (τ (τ 0 0 + 1) 7)))
  rw [e5, e7]
  refine ⟨by unfold tseg at bb; omega, fun z => hk _ ?_, fun z => ⟨u2.1.1.k, ?_⟩⟩
  · unfold A_surgeDays; rw [if_pos ⟨i0, i1⟩, if_pos z]
  · have sb : bgF D i s ≤ enF D i s ∧ enF D i s ≤ tseg (tk D i) := send_b (D := D) (st := tk D i) (sc := D 88) (th := D 90) (show bgF D i s ≤ tseg (tk D i) by omega)
    refine sX10_surgeEnd h.1.1.1 (by omega) u3 hG (by omega) (by omega) (by omega) (by omega) (sX10_dayOf (by omega) u3 hG (show zrg (enF D i s) by unfold tseg at sb; omega) (sX10_dayOf (by omega) u3 hG (by unfold tseg at bb; omega) (hk _ ?_)))
    unfold A_surgeDays; rw [if_pos ⟨i0, i1⟩, if_neg z]

theorem rX_positionX {i day : Int} (h : XA σ D) (hi : zrg i) (hd : zrg day) (hK : xK K KX σ D (A_positionX D i day)) : fX11_positionX K KX σ i day := by
  have q := h.1.1.1.1
  unfold WFa at q
  refine sX11_ft h hi (fun i0 i1 τ u1 u2 u3 => ⟨kX_T (by omega), ?_⟩) (fun z => hK.2.1 σ frm.rf h (by unfold A_positionX; rw [if_neg z]))
  have hG : TG D (tk D i) := trk_G h.1.1.1 i0 i1
  have := hK.1 τ u1 u2 (by unfold A_positionX; rw [if_pos ⟨i0, i1⟩])
  unfold A_positionX at this; rw [if_pos ⟨i0, i1⟩] at this
  exact sX10_interpolate (C := tX D (tk D i)) h.1.1.1 (by omega) u3 hG (by rw [kX_14]; omega) (fun k k0 k1 => (u3.2.2.2 k k0 k1).2.2.2.2.1) (fun k k0 k1 => by have := tX_b h.1.1.1 hG k0 k1; omega) hd this

theorem rX_positionY {i day : Int} (h : XA σ D) (hi : zrg i) (hd : zrg day) (hK : xK K KX σ D (A_positionY D i day)) : fX11_positionY K KX σ i day := by
  have q := h.1.1.1.1
  unfold WFa at q
  refine sX11_ft h hi (fun i0 i1 τ u1 u2 u3 => ⟨kX_T (by omega), ?_⟩) (fun z => hK.2.1 σ frm.rf h (by unfold A_positionY; rw [if_neg z]))
  have hG : TG D (tk D i) := trk_G h.1.1.1 i0 i1
  have := hK.1 τ u1 u2 (by unfold A_positionY; rw [if_pos ⟨i0, i1⟩])
  unfold A_positionY at this; rw [if_pos ⟨i0, i1⟩] at this
  exact sX10_interpolate (C := tY D (tk D i)) h.1.1.1 (by omega) u3 hG (by rw [kX_14]; omega) (fun k k0 k1 => (u3.2.2.2 k k0 k1).2.2.2.2.2) (fun k k0 k1 => by have := tX_b h.1.1.1 hG k0 k1; omega) hd this

theorem rX_direction {i : Int} (h : XA σ D) (hi : zrg i) (hK : xK K KX σ D (A_direction D i)) : fX11_direction K KX σ i := by
  have q := h.1.1.1.1
  unfold WFa at q
  refine sX11_ft h hi (fun i0 i1 τ u1 u2 u3 => ⟨kX_T (by omega), ?_⟩) (fun z => hK.2.1 σ frm.rf h (by unfold A_direction; rw [if_neg z]))
  have hG : TG D (tk D i) := trk_G h.1.1.1 i0 i1
  have this := hK.1 τ u1 u2 (by unfold A_direction; rw [if_pos ⟨i0, i1⟩])
  unfold A_direction at this; rw [if_pos ⟨i0, i1⟩] at this
  have tb := trv_b h.1.1.1 hG
  refine sX10_travelled (C := tX D (tk D i)) (by omega) u3 hG (by rw [kX_14]; omega) (fun k k0 k1 => (u3.2.2.2 k k0 k1).2.2.2.2.1) (sX10_travelled (C := tY D (tk D i)) (by omega) u3 hG (by rw [kX_14]; omega) (fun k k0 k1 => (u3.2.2.2 k k0 k1).2.2.2.2.2) ?_)
  have B : ∀ a b : Int, (-100 ≤ a ∧ a ≤ 100) → (-100 ≤ b ∧ b ≤ 100) → K (dirv a b) τ → zrg a ∧ ((a = 0 → zrg b ∧ ((b = 0 → K (-1) τ) ∧ (¬ b = 0 → fX11_direction_B41 K KX τ a b))) ∧ (¬ a = 0 → fX11_direction_B41 K KX τ a b)) := fun a b ha hb hk => by
    have k : ∀ r, dirv a b = r → K r τ := fun r e => by rw [← e]; exact hk
    have m : ¬ (a = 0 ∧ b = 0) → fX11_direction_B41 K KX τ a b := fun hn => by
      refine ⟨by omega, by omega, by omega, by omega, fun z => ⟨by omega, by omega, fun w => ⟨fun u => ⟨fun v => k _ ?_, fun v => k _ ?_⟩, fun u => ⟨fun v => k _ ?_, fun v => k _ ?_⟩⟩, fun w => ⟨fun v => k _ ?_, fun v => k _ ?_⟩⟩, fun z => ⟨fun v => k _ ?_, fun v => k _ ?_⟩⟩
      · unfold dirv; rw [if_neg hn, if_pos z, if_pos w, if_neg (by omega), if_pos u]
      · unfold dirv; rw [if_neg hn, if_pos z, if_pos w, if_pos (by omega), if_pos u]
      · unfold dirv; rw [if_neg hn, if_pos z, if_pos w, if_pos v, if_neg u]
      · unfold dirv; rw [if_neg hn, if_pos z, if_pos w, if_neg v, if_neg u]
      · unfold dirv; rw [if_neg hn, if_pos z, if_neg w, if_pos v]
      · unfold dirv; rw [if_neg hn, if_pos z, if_neg w, if_neg v]
      · unfold dirv; rw [if_neg hn, if_neg z, if_pos v]
      · unfold dirv; rw [if_neg hn, if_neg z, if_neg v]
    refine ⟨by omega, fun za => ⟨by omega, fun zb => k _ ?_, fun zb => m (by omega)⟩, fun za => m (by omega)⟩
    rw [za, zb]; rfl
  exact B _ _ tb.1 tb.2 this
theorem sX10_dst {T2 f : Int} {st st2 : tS} {T : Int} (hD : WF D) (hT : 24 ≤ T ∧ T ≤ 30) (hT2 : 24 ≤ T2 ∧ T2 ≤ 30) (hI : TI σ T D st) (hI2 : TI σ T2 D st2) (hG : TG D st) (hG2 : TG D st2) (hf : zrg f) (hD2 : D 2 ≤ 6) (y1 : tin st f) (y2 : tin st2 f) (hK : K (dst D st st2 f) σ) : fX10_distanceTo K σ T T2 f :=
  sX10_distanceTo hD hT hT2 hI hI2 hG hG2 hf hD2 y1 y2 (fun k j k0 k1 ek j0 j1 ej => by
    unfold dst at hK
    rw [tfd_in hG k0 k1 ek, tfd_in hG2 j0 j1 ej] at hK
    exact hK)
def sR (D : zD) (st st2 : tS) (p : Int × Int) (n a b : Int) : Prop := (n = 0 ∧ p.1 = -1 ∧ p.2 = -1) ∨ ((n = 1 ∧ 0 ≤ p.1 ∧ p.1 = p.2 ∨ 2 ≤ n ∧ 0 ≤ p.1 ∧ p.1 < p.2) ∧ a = dst D st st2 p.1 ∧ b = dst D st st2 p.2)
theorem sX11_strain_B35 {T T2 : Int} {st st2 : tS} (h : XA σ D) (hT : 24 ≤ T ∧ T ≤ 30) (hT2 : 24 ≤ T2 ∧ T2 ≤ 30) (hI : TI σ T D st) (hI2 : TI σ T2 D st2) (hG : TG D st) (hG2 : TG D st2) (hK : K (strv D st st2) σ) : ∀ (m : Nat) (f n a b : Int) (p : Int × Int), f + m = D 2 → 0 ≤ f → (0 ≤ n ∧ n ≤ f) → cI st st2 f p → sR D st st2 p n a b → lp (cmn st st2) m f p = cfl D st st2 → fX11_strain_B35 K KX (m + 1) σ T T2 n a b f := by
  have q := h.1.1.1.1
  unfold WFa at q
  have e2 : σ (σ 0 0) 2 = D 2 := h.1.1.2.1.2.2.2.1
  intro m
  induction m with
  | zero =>
    intro f n a b p e f0 hn hI0 hR hs
    rw [lp_0] at hs
    rw [uX11_strain_B35, e2]
    unfold strv at hK
    rw [← hs] at hK
    refine ⟨h.1.1.k, by omega, by omega, fun _ => ⟨by omega, fun z => ?_, fun z => ?_⟩, fun w => (w (by omega)).elim⟩
    · rcases hR with hR | ⟨hR, ha, hb⟩
      · omega
      · rw [if_neg (by omega)] at hK
        rw [ha, hb]; exact hK
    · rw [if_pos (by rcases hR with hR | ⟨hR, ha, hb⟩ <;> omega)] at hK
      exact hK
  | succ m ih =>
    intro f n a b p e f0 hn hI0 hR hs
    rw [lp_s] at hs
    have f1 : f < D 2 := by omega
    have hI2' := cI_s hG hG2 f0 hI0
    rw [uX11_strain_B35, e2]
    refine ⟨h.1.1.k, by omega, by omega, fun w => by omega, fun _ => sX10_isTrackedIn hT hI hG (by omega) (by omega) (fun y1 => zb1 (sX10_isTrackedIn hT2 hI2 hG2 (by omega) (by omega) (fun y2 => zb1 (sX10_dst h.1.1.1 hT hT2 hI hI2 hG hG2 (by omega) (by omega) y1 y2 ⟨by omega, fun z => ?_, fun z => ?_⟩)) (fun y2 => zb0 ?_))) (fun y1 => zb0 ?_)⟩
    · have y : tfd st f ≠ -1 ∧ tfd st2 f ≠ -1 := ⟨(tfd_t hG).mpr y1, (tfd_t hG2).mpr y2⟩
      have ec : cmn st st2 f p = (f, f) := by
        unfold cmn
        rw [if_pos y, if_neg (by rcases hR with hR | ⟨hR, -⟩ <;> omega)]
      rw [ec] at hs hI2'
      exact ih (f + 1) (n + 1) _ _ (f, f) (by omega) (by omega) (by omega) hI2' (Or.inr ⟨Or.inl ⟨by omega, f0, rfl⟩, rfl, rfl⟩) hs
    · have y : tfd st f ≠ -1 ∧ tfd st2 f ≠ -1 := ⟨(tfd_t hG).mpr y1, (tfd_t hG2).mpr y2⟩
      rcases hR with hR | ⟨hR, ha, hb⟩
      · omega
      · have ec : cmn st st2 f p = (p.1, f) := by
          unfold cmn
          rw [if_pos y, if_pos (by omega)]
        rw [ec] at hs hI2'
        refine ih (f + 1) (n + 1) _ _ (p.1, f) (by omega) (by omega) (by omega) hI2' (Or.inr ⟨Or.inr ⟨by omega, by show 0 ≤ p.1; omega, ?_⟩, ha, rfl⟩) hs
        show p.1 < f
        rcases hI0 with w | ⟨w, -⟩ <;> omega
    · have ec : cmn st st2 f p = p := by
        unfold cmn
        rw [if_neg (fun w => y2 ((tfd_t hG2).mp w.2))]
      rw [ec] at hs hI2'
      exact ih (f + 1) n a b p (by omega) (by omega) (by omega) hI2' hR hs
    · have ec : cmn st st2 f p = p := by
        unfold cmn
        rw [if_neg (fun w => y1 ((tfd_t hG).mp w.1))]
      rw [ec] at hs hI2'
      exact ih (f + 1) n a b p (by omega) (by omega) (by omega) hI2' hR hs
theorem rX_strain {i j : Int} (h : XA σ D) (hi : zrg i) (hj : zrg j) (hK : xK K KX σ D (A_strain D i j)) : fX11_strain K KX σ i j := by
  have q := h.1.1.1.1
  unfold WFa at q
  have no : ¬ (isFt D i ∧ isFt D j) → KX eIO σ := fun z => hK.2.1 σ frm.rf h (by unfold A_strain; rw [if_neg z])
  refine sX11_requireFeature h.1 hi (fun i0 i1 => sX11_requireFeature h.1 hj (fun j0 j1 => sX11_trackOf h i0 i1 (fun τ u1 u2 u3 => ⟨kX_T (by omega), sX11_trackOf2 u2 j0 j1 (fun υ v1 v2 v3 v4 => ⟨kX_T (by omega), ?_⟩)⟩)) (fun z => no (fun w => z w.2))) (fun z => no (fun w => z w.1))
  have this := hK.1 υ (u1.tr v1) v2 (by unfold A_strain; rw [if_pos ⟨⟨i0, i1⟩, ⟨j0, j1⟩⟩])
  unfold A_strain at this; rw [if_pos ⟨⟨i0, i1⟩, ⟨j0, j1⟩⟩] at this
  have TI1 : TI υ (24 + i) D (tk D i) := by
    by_cases w : j = i
    · rw [← w]; exact v3
    · exact v4 _ _ (by omega) (by omega) (by omega) u3
  exact ⟨(D 2).toNat + 1, sX11_strain_B35 v2 (by omega) (by omega) TI1 v3 (trk_G h.1.1.1 i0 i1) (trk_G h.1.1.1 j0 j1) this _ 0 0 0 0 (-1, -1) (by omega) (by decide) (by decide) (Or.inl ⟨rfl, rfl⟩) (Or.inl ⟨rfl, rfl, rfl⟩) rfl⟩
end XR
