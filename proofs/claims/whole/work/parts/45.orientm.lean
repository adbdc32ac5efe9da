/-! the reference's orientation -/
def MOf (σ : zSt) (f : Int) (st : oS) : Prop := σ 5 f = st.1 ∧ σ 6 f = st.2.1 ∧ σ 7 f = st.2.2.1 ∧ σ 8 f = st.2.2.2
def MO (σ : zSt) (D : zD) : Prop := σ 0 17 = refer D ∧ ∀ g, 0 ≤ g → g < D 2 → MOf σ g (oriF D g)
abbrev pm (f : Int) : Int → Int → Prop := fun a b => (5 ≤ a ∧ a ≤ 8) ∧ b = f
abbrev pMo : Int → Int → Prop := fun a b => (5 ≤ a ∧ a ≤ 8) ∨ (a = 0 ∧ b = 17)
theorem MOf.mv {σ τ : zSt} {f : Int} {st : oS} (h : MOf σ f st) (g : ∀ a, 5 ≤ a → a ≤ 8 → τ a f = σ a f) : MOf τ f st := by
  obtain ⟨a, b, c, d⟩ := h
  exact ⟨(g 5 (by decide) (by decide)).trans a, (g 6 (by decide) (by decide)).trans b, (g 7 (by decide) (by decide)).trans c, (g 8 (by decide) (by decide)).trans d⟩
theorem frm.D {P : Int → Int → Prop} {σ τ : zSt} {D : zD} (h : frm P σ τ) (hd : σ 1 = D) (p : ∀ b, ¬ P 1 b) : τ 1 = D := by rw [← hd]; funext b; exact h 1 b (p b)
section OM
variable {K : zSt → Prop} {D : zD}
theorem sM_usable' {Kb : Int → zSt → Prop} {σ : zSt} {f : Int} (hd : σ 1 = D) (hD : WF D) (f0 : 0 ≤ f) (f1 : f < D 2) (h1 : D 86 ≤ ctr D f → Kb 1 σ) (h0 : ¬ D 86 ≤ ctr D f → Kb 0 σ) : fX12_usable Kb σ f := by subst hd; exact sM_usable hD f0 f1 h1 h0
theorem sM_reference' {Kb : Int → zSt → Prop} {σ : zSt} (hd : σ 1 = D) (hD : WF D) (hK : Kb (refer D) σ) : fX12_reference Kb σ := by subst hd; exact sM_reference hD hK
theorem sM_errorOf' {Kb : Int → zSt → Prop} {σ : zSt} {r f sx sy : Int} (hd : σ 1 = D) (hr : σ 0 17 = r) (hD : WF D) (a0 : 0 ≤ r) (a1 : r < D 2) (b0 : 0 ≤ f) (b1 : f < D 2) (x0 : -3 ≤ sx ∧ sx ≤ 3) (y0 : -3 ≤ sy ∧ sy ≤ 3) (hK : Kb (errS D r f sx sy) σ) : fX12_errorOf Kb σ f sx sy := by subst hd hr; exact sM_errorOf hD a0 a1 b0 b1 x0 y0 hK
theorem sM_B107 {k19 : zSt → Int → Int → Int → Int → Prop} {k29 : zSt → Int → Int → Int → Int → Int → Prop} {σ : zSt} {f e sx sy n : Int} {rg : Int} (f0 : 0 ≤ f) (f1 : f < 6) (hK : ∀ τ, frm (pm f) σ τ → MOf τ f (1, sx, sy, e) → k29 τ f rg n sy (sx + 1)) : fX12_orientBySearch_B107 K k19 k29 σ f rg sy sx e n := by
  refine ⟨⟨f0, f1⟩, fun σ3 e3 σ4 e4 σ5 e5 σ6 e6 => hK _ ?_ ?_⟩
  · subst e3 e4 e5 e6
    exact (((frm.rf.z ⟨by decide, rfl⟩).z ⟨by decide, rfl⟩).z ⟨by decide, rfl⟩).z ⟨by decide, rfl⟩
  · subst e3 e4 e5 e6
    exact ⟨by simp [zu], by simp [zu], by simp [zu], by simp [zu]⟩
def nrO (st : oS) (n : Int) : Prop := (0 ≤ n ∧ n ≤ 6) ∧ (st.1 = 1 → n = (st.2.1.natAbs : Int) + (st.2.2.1.natAbs : Int))
theorem sM_orientBySearch_B29 {k19 : zSt → Int → Int → Int → Int → Prop} {r f sy : Int} (hD : WF D) (a0 : 0 ≤ r) (a1 : r < D 2) (b0 : 0 ≤ f) (b1 : f < D 2) (y0 : -3 ≤ sy ∧ sy ≤ 3) : ∀ (m : Nat) (sx n : Int) (σ : zSt) (st : oS), σ 1 = D → σ 0 17 = r → MOf σ f st → oB st → nrO st n → sx + m = D 85 + 1 → -(D 85) ≤ sx → (∀ τ n', frm (pm f) σ τ → MOf τ f (lp (sstep D r f sy) m sx st) → nrO (lp (sstep D r f sy) m sx st) n' → k19 τ f (D 85) n' (sy + 1)) → fX12_orientBySearch_B29 K k19 (m + 1) σ f (D 85) n sy sx := by
  have t := hD.2.1
  unfold WFs at t
  have q := hD.1
  unfold WFa at q
  intro m
  induction m with
  | zero =>
    intro sx n σ st hd hr hO hB hn e e0 hk
    rw [uX12_orientBySearch_B29]
    exact ⟨by omega, by omega, fun _ => hk σ n frm.rf hO hn, fun h => (h (by omega)).elim⟩
  | succ m ih =>
    intro sx n σ st hd hr hO hB hn e e0 hk
    have eb := errS_b hD a0 a1 b0 b1 (sx := sx) (sy := sy)
    rw [uX12_orientBySearch_B29]
    refine ⟨by omega, by omega, fun h => by omega, fun h => sM_errorOf' hd hr hD a0 a1 b0 b1 (by omega) y0 (sM_absolute (by omega) (sM_absolute (by omega) ⟨by omega, fun g => ?_, fun g => ?_⟩))⟩
    · have g' : ¬ errS D r f sx sy = -1 := by omega
      obtain ⟨o1, o2, o3, o4⟩ := hO
      have take : obet st sx sy (errS D r f sx sy) → fX12_orientBySearch_B107 K k19 (fX12_orientBySearch_B29 K k19 (m + 1)) σ f (D 85) sy sx (errS D r f sx sy) ((sx.natAbs : Int) + (sy.natAbs : Int)) := fun z => by
        refine sM_B107 b0 (by omega) (fun υ u1 u2 => ?_)
        have e2 : sstep D r f sy sx st = (1, sx, sy, errS D r f sx sy) := by unfold sstep; rw [if_neg g', if_pos z]
        have bb := sstep_b hD a0 a1 b0 b1 (sx := sx) (by omega) y0 hB
        rw [e2] at bb
        refine ih (sx + 1) _ υ _ (u1.D hd (fun b => by omega)) ((u1 0 17 (by omega)).trans hr) u2 bb ⟨by omega, fun _ => rfl⟩ (by omega) (by omega) (fun τ n' h1 h2 h3 => hk τ n' (u1.tr h1) ?_ ?_)
        · rw [lp_s, e2]; exact h2
        · rw [lp_s, e2]; exact h3
      have skip : ¬ obet st sx sy (errS D r f sx sy) → fX12_orientBySearch_B29 K k19 (m + 1) σ f (D 85) n sy (sx + 1) := fun z => by
        have e2 : sstep D r f sy sx st = st := by unfold sstep; rw [if_neg g', if_neg z]
        refine ih (sx + 1) n σ st hd hr ⟨o1, o2, o3, o4⟩ hB hn (by omega) (by omega) (fun τ n' h1 h2 h3 => hk τ n' h1 ?_ ?_)
        · rw [lp_s, e2]; exact h2
        · rw [lp_s, e2]; exact h3
      rw [o1, o4]
      rcases hB with rfl | ⟨c1, c2, c3, c4⟩
      · exact ⟨⟨b0, by omega⟩, by decide, fun _ => take (Or.inl rfl), fun z => (z rfl).elim⟩
      · have hn2 := hn.2 c1
        have hn1 := hn.1
        refine ⟨⟨b0, by omega⟩, by omega, fun z => by omega, fun _ => ⟨by omega, fun z => skip (fun w => ?_), fun z => ⟨fun w => ⟨by omega, by omega, fun y => take (Or.inr (Or.inr ⟨w, by omega⟩)), fun y => skip (fun w2 => ?_)⟩, fun w => take (Or.inr (Or.inl (by omega)))⟩⟩⟩
        · rcases w with w | w | ⟨w, w2⟩ <;> omega
        · rcases w2 with w2 | w2 | ⟨w2, w3⟩ <;> omega
    · have e2 : sstep D r f sy sx st = st := by unfold sstep; rw [if_pos (by omega)]
      refine ih (sx + 1) n σ st hd hr hO hB hn (by omega) (by omega) (fun τ n' h1 h2 h3 => hk τ n' h1 ?_ ?_)
      · rw [lp_s, e2]; exact h2
      · rw [lp_s, e2]; exact h3
theorem sM_orientBySearch_B19 {r f : Int} (hD : WF D) (a0 : 0 ≤ r) (a1 : r < D 2) (b0 : 0 ≤ f) (b1 : f < D 2) : ∀ (m : Nat) (sy n : Int) (σ : zSt) (st : oS), σ 1 = D → σ 0 17 = r → MOf σ f st → oB st → nrO st n → sy + m = D 85 + 1 → -(D 85) ≤ sy → (∀ τ, frm (pm f) σ τ → MOf τ f (lp (srow D r f) m sy st) → K τ) → fX12_orientBySearch_B19 K (m + 1) σ f (D 85) n sy := by
  have t := hD.2.1
  unfold WFs at t
  intro m
  induction m with
  | zero =>
    intro sy n σ st hd hr hO hB hn e e0 hk
    rw [uX12_orientBySearch_B19]
    exact ⟨by omega, by omega, fun _ => hk σ frm.rf hO, fun h => (h (by omega)).elim⟩
  | succ m ih =>
    intro sy n σ st hd hr hO hB hn e e0 hk
    rw [uX12_orientBySearch_B19]
    refine ⟨by omega, by omega, fun h => by omega, fun h => ⟨(2 * D 85 + 1).toNat + 1, ?_⟩⟩
    refine sM_orientBySearch_B29 hD a0 a1 b0 b1 (by omega) _ _ n σ st hd hr hO hB hn (by omega) (by omega) (fun υ n' u1 u2 u3 => ?_)
    exact ih (sy + 1) n' υ _ (u1.D hd (fun b => by omega)) ((u1 0 17 (by omega)).trans hr) u2 (srow_b hD a0 a1 b0 b1 (by omega) hB) u3 (by omega) (by omega) (fun τ h1 h2 => hk τ (u1.tr h1) h2)
theorem sM_orientBySearch {σ : zSt} {r f : Int} (hd : σ 1 = D) (hr : σ 0 17 = r) (hD : WF D) (a0 : 0 ≤ r) (a1 : r < D 2) (b0 : 0 ≤ f) (b1 : f < D 2) (hO : MOf σ f (0, 0, 0, 0)) (hK : ∀ τ, frm (pm f) σ τ → MOf τ f (sbest D r f (0, 0, 0, 0)) → K τ) : fX12_orientBySearch K σ f := by
  have t := hD.2.1
  unfold WFs at t
  have q := hD.1
  unfold WFa at q
  refine sM_setting (by decide) (by decide) ⟨by omega, fun σ3 e3 => ⟨(2 * D 85 + 1).toNat + 1, ?_⟩⟩
  subst e3
  have e5 : σ 1 (83 + 2) = D 85 := by rw [hd]; rfl
  rw [e5]
  have hf : frm (pm f) σ (zu σ 5 f 0) := frm.wr ⟨by decide, rfl⟩
  refine sM_orientBySearch_B19 hD a0 a1 b0 b1 _ _ 0 _ (0, 0, 0, 0) (hf.D hd (fun b => by omega)) ((hf 0 17 (by omega)).trans hr) ?_ (Or.inl rfl) ⟨by decide, fun z => absurd z (by decide)⟩ (by omega) (by omega) (fun τ h1 h2 => hK τ (hf.tr h1) h2)
  obtain ⟨o1, o2, o3, o4⟩ := hO
  exact ⟨zu_eq .., (zu_ne (Or.inl (by decide))).trans o2, (zu_ne (Or.inl (by decide))).trans o3, (zu_ne (Or.inl (by decide))).trans o4⟩
theorem sM_orient_B38 {k10 : zSt → Int → Prop} {σ : zSt} {f s0 : Int} (hd : σ 1 = D) (hr : σ 0 17 = refer D) (hD : WF D) (b0 : 0 ≤ f) (b1 : f < D 2) (hs : s0 = if f = refer D then 1 else 0) (hK : ∀ τ, frm (pm f) σ τ → MOf τ f (oriF D f) → k10 τ (f + 1)) : fX12_orient_B38 K k10 σ f s0 f := by
  have q := hD.1
  unfold WFa at q
  refine ⟨by omega, ?_, fun σ8 e8 => ⟨by omega, fun σ10 e10 σ11 e11 σ12 e12 => ?_⟩⟩
  · rw [hs]; split <;> simp
  · have hf : frm (pm f) σ σ12 := by
      subst e8 e10 e11 e12
      exact (((frm.rf.z ⟨by decide, rfl⟩).z ⟨by decide, rfl⟩).z ⟨by decide, rfl⟩).z ⟨by decide, rfl⟩
    have hm : MOf σ12 f (s0, 0, 0, 0) := by
      subst e8 e10 e11 e12
      exact ⟨by simp [zu], by simp [zu], by simp [zu], by simp [zu]⟩
    have hr2 : σ12 0 17 = refer D := (hf 0 17 (by omega)).trans hr
    have hd2 := hf.D hd (fun b => by omega)
    have rb := refer_b hD
    rw [hr2]
    refine ⟨by omega, by omega, fun z => hK _ hf ?_, fun z => sM_usable' hd2 hD b0 b1 (fun w => zb1 ?_) (fun w => zb0 (hK _ hf ?_))⟩
    · have zz : D 86 ≤ ctr D f := by rw [z]; omega
      unfold oriF
      rw [if_pos ⟨b0, b1, zz⟩, if_pos z]
      rw [if_pos z] at hs
      rw [← hs]
      exact hm
    · have rr := refer_ex hD b0 b1 w
      rw [if_neg z] at hs
      rw [hs] at hm
      refine sM_orientBySearch hd2 hr2 hD rr.1 rr.2 b0 b1 hm (fun τ h1 h2 => hK τ (hf.tr h1) ?_)
      unfold oriF
      rw [if_pos ⟨b0, b1, w⟩, if_neg z]
      exact h2
    · rw [if_neg z] at hs
      rw [hs] at hm
      rw [oriF_no (fun k => w k.2.2)]
      exact hm
theorem sM_orient_B10 (hD : WF D) : ∀ (m : Nat) (i : Int) (σ : zSt), i + m = D 2 → 0 ≤ i → σ 1 = D → σ 0 17 = refer D → (∀ g, 0 ≤ g → g < i → MOf σ g (oriF D g)) → (∀ τ, frm pMo σ τ → MO τ D → K τ) → fX12_orient_B10 K (m + 1) σ i := by
  have q := hD.1
  unfold WFa at q
  have rb := refer_b hD
  intro m
  induction m with
  | zero =>
    intro i σ e i0 hd hr hg hk
    have e2 : σ 1 2 = D 2 := by rw [hd]
    rw [uX12_orient_B10, e2]
    exact ⟨by omega, by omega, fun _ => hk σ frm.rf ⟨hr, fun g g0 g1 => hg g g0 (by omega)⟩, fun h => (h (by omega)).elim⟩
  | succ m ih =>
    intro i σ e i0 hd hr hg hk
    have e2 : σ 1 2 = D 2 := by rw [hd]
    have go : ∀ τ, frm (pm i) σ τ → MOf τ i (oriF D i) → fX12_orient_B10 K (m + 1) τ (i + 1) := fun τ h1 h2 => by
      refine ih (i + 1) τ (by omega) (by omega) (h1.D hd (fun b => by omega)) ((h1 0 17 (by omega)).trans hr) (fun g g0 g1 => ?_) (fun υ u1 u2 => hk υ ((h1.mo (fun a b p => Or.inl p.1)).tr u1) u2)
      by_cases z : g = i
      · rw [z]; exact h2
      · exact (hg g g0 (by omega)).mv (fun a a0 a1 => h1 a g (by omega))
    rw [uX12_orient_B10, e2, hr]
    exact ⟨by omega, by omega, fun h => by omega, fun h => ⟨by omega, fun z => sM_orient_B38 hd hr hD i0 (by omega) (by rw [if_pos z]) go, fun z => sM_orient_B38 hd hr hD i0 (by omega) (by rw [if_neg z]) go⟩⟩
theorem sM_orient {σ : zSt} (hd : σ 1 = D) (hD : WF D) (hK : ∀ τ, frm pMo σ τ → MO τ D → K τ) : fX12_orient K σ := by
  have q := hD.1
  unfold WFa at q
  refine sM_reference' hd hD (fun σ2 e2 => ⟨(D 2).toNat + 1, ?_⟩)
  subst e2
  have hf : frm pMo σ (zu σ 0 17 (refer D)) := frm.wr (Or.inr ⟨rfl, rfl⟩)
  exact sM_orient_B10 hD _ _ _ (by omega) (by decide) (hf.D hd (fun b => by omega)) (zu_eq ..) (fun g g0 g1 => by omega) (fun τ h1 h2 => hK τ (hf.tr h1) h2)
end OM
