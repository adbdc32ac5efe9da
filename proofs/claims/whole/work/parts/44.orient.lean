/-! frames of stores, the best shift, the orientation -/
abbrev frm (P : Int → Int → Prop) (σ τ : zSt) : Prop := ∀ a b, ¬ P a b → τ a b = σ a b
theorem frm.rf {P : Int → Int → Prop} {σ : zSt} : frm P σ σ := fun _ _ _ => rfl
theorem frm.tr {P : Int → Int → Prop} {σ τ υ : zSt} (h : frm P σ τ) (g : frm P τ υ) : frm P σ υ := fun a b n => (g a b n).trans (h a b n)
theorem frm.mo {P Q : Int → Int → Prop} {σ τ : zSt} (h : frm P σ τ) (q : ∀ a b, P a b → Q a b) : frm Q σ τ := fun a b n => h a b (fun z => n (q a b z))
theorem frm.wr {P : Int → Int → Prop} {σ : zSt} {k i v : Int} (h : P k i) : frm P σ (zu σ k i v) := fun a b n => zu_ne (by
  rcases Classical.em (a = k) with e | e
  · rcases Classical.em (b = i) with e2 | e2
    · exact absurd (e ▸ e2 ▸ h) n
    · exact Or.inr e2
  · exact Or.inl e)
theorem Sc.mono {σ τ : zSt} {S : Int} {D : zD} (h : Sc σ S D) (g : ∀ a b, 73 ≤ a → τ a b = σ a b) : Sc τ S D := by
  obtain ⟨h0, ⟨s0, s1, s2, s3, s4, s5, s6, s7⟩, ⟨f0, f1, f2⟩, ⟨c1, c2⟩, h4⟩ := h
  have a := h0.1
  unfold WFa at a
  have g2 : ∀ f, 0 ≤ f → f < 6 → τ (S + 2) f = σ (S + 2) f := fun f _ _ => g _ _ (by omega)
  refine ⟨h0, ⟨s0, by rw [g _ _ (by omega), s1], by rw [g _ _ (by omega), s2], by rw [g _ _ (by omega), s3], by rw [g _ _ (by omega), s4], by rw [g _ _ (by omega), s5], by rw [g _ _ (by omega), s6], fun i i0 i1 => by rw [g _ _ (by omega), s7 i i0 i1]⟩, ⟨fun f p q => by rw [g2 f p q]; exact f0 f p q, fun f p q => ?_, fun f x y p q r s t u => ?_⟩, ⟨fun k p q => by rw [g _ _ (by omega), g _ _ (by omega)]; exact c1 k p q, fun k p q => by rw [g _ _ (by omega), g _ _ (by omega)]; exact c2 k p q⟩, fun t p q => ?_⟩
  · have := f0 f p (by omega)
    rw [g2 f p (by omega), g _ _ (by omega)]
    exact f1 f p q
  · have := f0 f p (by omega)
    rw [g2 f p (by omega), g _ _ (by omega)]
    exact f2 f x y p q r s t u
  · obtain ⟨e1, e2⟩ := h4 t p q
    exact ⟨by rw [g _ _ (by omega)]; exact e1, fun r r0 r1 => by rw [g _ _ (by omega), g _ _ (by omega)]; exact e2 r r0 r1⟩
abbrev oS : Type := Int × Int × Int × Int
abbrev obet (st : oS) (sx sy e : Int) : Prop := st.1 = 0 ∨ e < st.2.2.2 ∨ (e = st.2.2.2 ∧ (sx.natAbs : Int) + (sy.natAbs : Int) < (st.2.1.natAbs : Int) + (st.2.2.1.natAbs : Int))
def sstep (D : zD) (r f sy sx : Int) (st : oS) : oS := if errS D r f sx sy = -1 then st else if obet st sx sy (errS D r f sx sy) then (1, sx, sy, errS D r f sx sy) else st
def srow (D : zD) (r f sy : Int) (st : oS) : oS := lp (sstep D r f sy) (2 * D 85 + 1).toNat (-(D 85)) st
def sbest (D : zD) (r f : Int) (st : oS) : oS := lp (srow D r f) (2 * D 85 + 1).toNat (-(D 85)) st
def oB (st : oS) : Prop := st = (0, 0, 0, 0) ∨ (st.1 = 1 ∧ (-3 ≤ st.2.1 ∧ st.2.1 ≤ 3) ∧ (-3 ≤ st.2.2.1 ∧ st.2.2.1 ≤ 3) ∧ (0 ≤ st.2.2.2 ∧ st.2.2.2 ≤ 900))
theorem sstep_b {D : zD} (hD : WF D) {r f sx sy : Int} (a0 : 0 ≤ r) (a1 : r < D 2) (b0 : 0 ≤ f) (b1 : f < D 2) (x0 : -3 ≤ sx ∧ sx ≤ 3) (y0 : -3 ≤ sy ∧ sy ≤ 3) {st : oS} (h : oB st) : oB (sstep D r f sy sx st) := by
  have e := errS_b hD a0 a1 b0 b1 (sx := sx) (sy := sy)
  unfold sstep
  split
  · exact h
  · split
    · exact Or.inr ⟨rfl, x0, y0, by show 0 ≤ errS D r f sx sy ∧ errS D r f sx sy ≤ 900; omega⟩
    · exact h
theorem srow_b {D : zD} (hD : WF D) {r f sy : Int} (a0 : 0 ≤ r) (a1 : r < D 2) (b0 : 0 ≤ f) (b1 : f < D 2) (y0 : -3 ≤ sy ∧ sy ≤ 3) {st : oS} (h : oB st) : oB (srow D r f sy st) := by
  have t := hD.2.1
  unfold WFs at t
  exact lp_inv oB (lo := -(D 85)) (hi := D 85 + 1) (fun x q h0 h1 hq => sstep_b hD a0 a1 b0 b1 (by omega) y0 hq) _ _ _ (by omega) (by omega) h
theorem sbest_b {D : zD} (hD : WF D) {r f : Int} (a0 : 0 ≤ r) (a1 : r < D 2) (b0 : 0 ≤ f) (b1 : f < D 2) {st : oS} (h : oB st) : oB (sbest D r f st) := by
  have t := hD.2.1
  unfold WFs at t
  exact lp_inv oB (lo := -(D 85)) (hi := D 85 + 1) (fun x q h0 h1 hq => srow_b hD a0 a1 b0 b1 (by omega) hq) _ _ _ (by omega) (by omega) h
def oriF (D : zD) (f : Int) : oS := if 0 ≤ f ∧ f < D 2 ∧ D 86 ≤ ctr D f then (if f = refer D then (1, 0, 0, 0) else sbest D (refer D) f (0, 0, 0, 0)) else (0, 0, 0, 0)
theorem refer_b {D : zD} (hD : WF D) : refer D = -1 ∨ (0 ≤ refer D ∧ refer D < D 2 ∧ D 86 ≤ ctr D (refer D)) := by
  have a := hD.1
  unfold WFa at a
  rcases uf_b (D := D) (D 2).toNat 0 with q | ⟨q1, q2, q3⟩
  · exact Or.inl q
  · exact Or.inr ⟨q1, by unfold refer; omega, q3⟩
theorem uf_ex {D : zD} : ∀ (m : Nat) (i f : Int), i ≤ f → f < i + m → D 86 ≤ ctr D f → uf D m i ≠ -1 ∨ i < 0 := by
  intro m
  induction m with
  | zero => intro i f h1 h2 _; omega
  | succ m ih =>
    intro i f h1 h2 h3
    unfold uf
    by_cases q : D 86 ≤ ctr D i
    · rw [if_pos q]; omega
    · rw [if_neg q]
      have : f ≠ i := fun e => q (e ▸ h3)
      rcases ih (i + 1) f (by omega) (by omega) h3 with z | z
      · exact Or.inl z
      · exact Or.inr (by omega)
theorem refer_ex {D : zD} (hD : WF D) {f : Int} (f0 : 0 ≤ f) (f1 : f < D 2) (h : D 86 ≤ ctr D f) : 0 ≤ refer D ∧ refer D < D 2 := by
  have a := hD.1
  unfold WFa at a
  have q := uf_ex (D := D) (D 2).toNat 0 f f0 (by omega) h
  have r := refer_b hD
  unfold refer at r ⊢
  omega
theorem oriF_b {D : zD} (hD : WF D) (f : Int) : oB (oriF D f) := by
  unfold oriF
  split
  · rename_i h
    have r := refer_ex hD h.1 h.2.1 h.2.2
    split
    · exact Or.inr ⟨rfl, by decide, by decide, by decide⟩
    · exact sbest_b hD r.1 r.2 h.1 h.2.1 (Or.inl rfl)
  · exact Or.inl rfl
/-- the class's record of frame f -/
def OIf (σ : zSt) (f : Int) (st : oS) : Prop := σ 18 f = st.1 ∧ (st.1 = 1 → σ 19 f = st.2.1 ∧ σ 20 f = st.2.2.1 ∧ σ 21 f = st.2.2.2)
def OI (σ : zSt) (D : zD) : Prop := σ 17 1 = refer D ∧ ∀ f, 0 ≤ f → f < 6 → OIf σ f (oriF D f)
abbrev pf (f : Int) : Int → Int → Prop := fun a b => (18 ≤ a ∧ a ≤ 21) ∧ b = f
section OX
variable {K : zSt → Prop} {S : Int} {D : zD}
theorem sX6_covers {Kb : Int → zSt → Prop} {σ : zSt} {f : Int} (hf : zrg f) {st : oS} (h : 0 ≤ f → f < 6 → OIf σ f st ∧ oB st) (h1 : 0 ≤ f → f < 6 → st.1 = 1 → Kb 1 σ) (h0 : (0 ≤ f → f < 6 → st.1 = 0) → Kb 0 σ) : fX6_covers Kb σ f := by
  refine ⟨hf, fun g => h0 (fun _ _ => by omega), fun g => ⟨fun k => h0 (fun _ _ => by omega), fun k => ⟨by omega, ?_⟩⟩⟩
  obtain ⟨⟨e, -⟩, b⟩ := h (by omega) (by omega)
  rw [e]
  rcases b with rfl | ⟨b1, -⟩
  · exact ⟨by decide, fun _ => h0 (fun _ _ => rfl), fun z => (z rfl).elim⟩
  · rw [b1]
    exact ⟨by decide, fun z => absurd z (by decide), fun _ => h1 (by omega) (by omega) b1⟩
theorem sX6_isBetter {Kb : Int → zSt → Prop} {σ : zSt} {f sx sy e : Int} (f0 : 0 ≤ f) (f1 : f < 6) {st : oS} (hO : OIf σ f st) (hB : oB st) (x0 : -3 ≤ sx ∧ sx ≤ 3) (y0 : -3 ≤ sy ∧ sy ≤ 3) (e0 : -1 ≤ e ∧ e ≤ 900) (h1 : obet st sx sy e → Kb 1 σ) (h0 : ¬ obet st sx sy e → Kb 0 σ) : fX6_isBetter Kb σ f sx sy e := by
  refine sX6_covers (st := st) (by omega) (fun _ _ => ⟨hO, hB⟩) (fun _ _ q => zb1 ?_) (fun q => zb0 (h1 (Or.inl (q f0 f1))))
  obtain ⟨o1, o2⟩ := hO
  obtain ⟨p1, p2, p3⟩ := o2 q
  rcases hB with rfl | ⟨b1, b2, b3, b4⟩
  · exact absurd q (by decide)
  · rw [p1, p2, p3]
    refine ⟨⟨f0, f1⟩, by omega, by omega, fun y6 e6 => ⟨by omega, by omega, fun g => h1 (Or.inr (Or.inl g)), fun g => ⟨fun k => ⟨by omega, by omega, by omega, by omega, fun j => h0 (fun z => ?_), fun j => h1 (Or.inr (Or.inr ⟨k, by omega⟩))⟩, fun k => h0 (fun z => ?_)⟩⟩⟩
    · rcases z with z | z | ⟨z, z2⟩ <;> omega
    · rcases z with z | z | ⟨z, z2⟩ <;> omega
theorem sX6_take {σ : zSt} {f sx sy e : Int} (f0 : 0 ≤ f) (f1 : f < 6) (hK : ∀ τ, frm (pf f) σ τ → OIf τ f (1, sx, sy, e) → K τ) : fX6_take K σ f sx sy e := by
  refine ⟨by omega, fun g => by omega, fun g => ⟨fun k => by omega, fun k => ⟨⟨f0, f1⟩, fun σ3 e3 σ4 e4 σ5 e5 σ6 e6 => hK _ ?_ ?_⟩⟩⟩
  · subst e3 e4 e5 e6
    exact (frm.wr (P := pf f) ⟨by decide, rfl⟩).tr ((frm.wr (P := pf f) ⟨by decide, rfl⟩).tr ((frm.wr (P := pf f) ⟨by decide, rfl⟩).tr (frm.wr (P := pf f) ⟨by decide, rfl⟩)))
  · subst e3 e4 e5 e6
    exact ⟨by simp [zu], fun _ => ⟨by simp [zu], by simp [zu], by simp [zu]⟩⟩
theorem pf_sc {σ τ : zSt} {f : Int} (h : frm (pf f) σ τ) (hS : Sc σ S D) : Sc τ S D := hS.mono (fun a b q => h a b (by omega))
theorem sX6_findShift_B30 {k20 : zSt → Int → Int → Int → Int → Prop} {r f sy : Int} (a0 : 0 ≤ r) (a1 : r < D 2) (b0 : 0 ≤ f) (b1 : f < D 2) (y0 : -3 ≤ sy ∧ sy ≤ 3) : ∀ (m : Nat) (sx : Int) (σ : zSt) (st : oS), Sc σ S D → σ 17 1 = r → OIf σ f st → oB st → sx + m = D 85 + 1 → -(D 85) ≤ sx → (∀ τ, frm (pf f) σ τ → OIf τ f (lp (sstep D r f sy) m sx st) → k20 τ S f (D 85) (sy + 1)) → fX6_findShift_B30 K k20 (m + 1) σ S f (D 85) sy sx := by
  intro m
  induction m with
  | zero =>
    intro sx σ st hS hr hO hB e e0 hk
    have t := hS.1.2.1
    unfold WFs at t
    rw [uX6_findShift_B30]
    exact ⟨by omega, by omega, fun _ => hk σ frm.rf hO, fun h => (h (by omega)).elim⟩
  | succ m ih =>
    intro sx σ st hS hr hO hB e e0 hk
    have t := hS.1.2.1
    unfold WFs at t
    have q := hS.1.1
    unfold WFa at q
    have eb := errS_b hS.1 a0 a1 b0 b1 (sx := sx) (sy := sy)
    rw [uX6_findShift_B30, hr]
    refine ⟨by omega, by omega, fun h => by omega, fun h => sX8_errorOfShift hS a0 a1 b0 b1 (by omega) y0 ⟨by omega, fun g => ?_, fun g => ?_⟩⟩
    · refine ih (sx + 1) σ st hS hr hO hB (by omega) (by omega) (fun τ h1 h2 => hk τ h1 ?_)
      rw [lp_s]
      unfold sstep
      rw [if_pos g]
      exact h2
    · refine sX6_isBetter b0 (by omega) hO hB (by omega) y0 (by omega) (fun z => zb1 ?_) (fun z => zb0 ?_)
      · refine sX6_take b0 (by omega) (fun υ u1 u2 => ?_)
        have e2 : sstep D r f sy sx st = (1, sx, sy, errS D r f sx sy) := by unfold sstep; rw [if_neg g, if_pos z]
        have bb := sstep_b hS.1 a0 a1 b0 b1 (sx := sx) (by omega) y0 hB
        rw [e2] at bb
        refine ih (sx + 1) υ _ (pf_sc u1 hS) ((u1 17 1 (by omega)).trans hr) u2 bb (by omega) (by omega) (fun τ h1 h2 => hk τ (u1.tr h1) ?_)
        rw [lp_s, e2]
        exact h2
      · refine ih (sx + 1) σ st hS hr hO hB (by omega) (by omega) (fun τ h1 h2 => hk τ h1 ?_)
        rw [lp_s]
        unfold sstep
        rw [if_neg g, if_neg z]
        exact h2
theorem sX6_findShift_B20 {r f : Int} (a0 : 0 ≤ r) (a1 : r < D 2) (b0 : 0 ≤ f) (b1 : f < D 2) : ∀ (m : Nat) (sy : Int) (σ : zSt) (st : oS), Sc σ S D → σ 17 1 = r → OIf σ f st → oB st → sy + m = D 85 + 1 → -(D 85) ≤ sy → (∀ τ, frm (pf f) σ τ → OIf τ f (lp (srow D r f) m sy st) → K τ) → fX6_findShift_B20 K (m + 1) σ S f (D 85) sy := by
  intro m
  induction m with
  | zero =>
    intro sy σ st hS hr hO hB e e0 hk
    have t := hS.1.2.1
    unfold WFs at t
    rw [uX6_findShift_B20]
    exact ⟨by omega, by omega, fun _ => hk σ frm.rf hO, fun h => (h (by omega)).elim⟩
  | succ m ih =>
    intro sy σ st hS hr hO hB e e0 hk
    have t := hS.1.2.1
    unfold WFs at t
    rw [uX6_findShift_B20]
    refine ⟨by omega, by omega, fun h => by omega, fun h => ⟨(2 * D 85 + 1).toNat + 1, ?_⟩⟩
    refine sX6_findShift_B30 a0 a1 b0 b1 (by omega) _ _ σ st hS hr hO hB (by omega) (by omega) (fun υ u1 u2 => ?_)
    exact ih (sy + 1) υ _ (pf_sc u1 hS) ((u1 17 1 (by omega)).trans hr) u2 (srow_b hS.1 a0 a1 b0 b1 (by omega) hB) (by omega) (by omega) (fun τ h1 h2 => hk τ (u1.tr h1) h2)
theorem sX6_findShift {σ : zSt} {f : Int} (hS : Sc σ S D) (hr : σ 17 1 = refer D) (b0 : 0 ≤ f) (b1 : f < D 2) (hu : D 86 ≤ ctr D f) (hO : OIf σ f (if f = refer D then (1, 0, 0, 0) else (0, 0, 0, 0))) (hK : ∀ τ, frm (pf f) σ τ → OIf τ f (oriF D f) → K τ) : fX6_findShift K σ S f := by
  have t := hS.1.2.1
  unfold WFs at t
  have q := hS.1.1
  unfold WFa at q
  have rr := refer_ex hS.1 b0 b1 hu
  have e2 : σ (S + 1) 2 = D 85 := hS.2.1.2.2.2.2.2.2.2 2 (by decide) (by decide)
  have eo : oriF D f = if f = refer D then (1, 0, 0, 0) else sbest D (refer D) f (0, 0, 0, 0) := by unfold oriF; rw [if_pos ⟨b0, b1, hu⟩]
  unfold fX6_findShift
  rw [hr, e2]
  refine ⟨hS.k, by omega, by omega, fun h => hK σ frm.rf ?_, fun h => ⟨(2 * D 85 + 1).toNat + 1, ?_⟩⟩
  · rw [if_pos h] at hO
    rw [eo, if_pos h]
    exact hO
  · rw [if_neg h] at hO
    refine sX6_findShift_B20 rr.1 rr.2 b0 b1 _ _ σ _ hS hr hO (Or.inl rfl) (by omega) (by omega) (fun τ h1 h2 => hK τ h1 ?_)
    rw [eo, if_neg h]
    exact h2
abbrev pO : Int → Int → Prop := fun a _ => 17 ≤ a ∧ a ≤ 21
def oini (D : zD) (f : Int) : oS := if f = refer D then (1, 0, 0, 0) else (0, 0, 0, 0)
theorem sX6_begin_B7 {σ0 : zSt} {r : Int} (r0 : r = -1 ∨ 0 ≤ r ∧ r < 6) : ∀ (m : Nat) (i : Int) (σ : zSt), i + m = 6 → 0 ≤ i → frm pO σ0 σ → σ 17 1 = r → (∀ g, 0 ≤ g → g < i → σ 18 g = 0) → (∀ τ, frm pO σ0 τ → τ 17 1 = r → (∀ g, 0 ≤ g → g < 6 → OIf τ g (if g = r then (1, 0, 0, 0) else (0, 0, 0, 0))) → K τ) → fX6_begin_B7 K (m + 1) σ i := by
  intro m
  induction m with
  | zero =>
    intro i σ e i0 hf hr hg hk
    rw [uX6_begin_B7, hr]
    refine ⟨by omega, fun _ => ?_, fun h => (h (by omega)).elim⟩
    rcases r0 with rfl | ⟨ra, rb⟩
    · refine ⟨by decide, fun _ => hk σ hf hr (fun g g0 g1 => ?_), fun z => absurd (by decide) z⟩
      rw [if_neg (by omega)]
      exact ⟨hg g g0 (by omega), fun z => absurd z (by decide)⟩
    · refine sX6_take ra rb (fun τ h1 h2 => hk τ (hf.tr (h1.mo (fun a b q => by omega))) ((h1 17 1 (by omega)).trans hr) (fun g g0 g1 => ?_))
      by_cases z : g = r
      · rw [if_pos z, z]; exact h2
      · rw [if_neg z]
        exact ⟨(h1 18 g (by omega)).trans (hg g g0 (by omega)), fun z => absurd z (by decide)⟩
  | succ m ih =>
    intro i σ e i0 hf hr hg hk
    rw [uX6_begin_B7]
    refine ⟨by omega, fun h => by omega, fun h => ⟨by omega, fun σ5 e5 => ?_⟩⟩
    subst e5
    refine ih (i + 1) _ (by omega) (by omega) (hf.tr (frm.wr (P := pO) ⟨by decide, by decide⟩)) ((zu_ne (Or.inl (by decide))).trans hr) (fun g g0 g1 => ?_) hk
    by_cases z : g = i
    · rw [z]; exact zu_eq ..
    · rw [zu_ne (Or.inr z)]; exact hg g g0 (by omega)
theorem sX6_begin {σ : zSt} {r : Int} (r0 : r = -1 ∨ 0 ≤ r ∧ r < 6) (hK : ∀ τ, frm pO σ τ → τ 17 1 = r → (∀ g, 0 ≤ g → g < 6 → OIf τ g (if g = r then (1, 0, 0, 0) else (0, 0, 0, 0))) → K τ) : fX6_begin K σ r := by
  intro σ1 e1
  subst e1
  exact ⟨6 + 1, sX6_begin_B7 r0 _ _ _ (by omega) (by omega) (frm.wr (P := pO) (by decide)) (zu_eq ..) (fun g g0 g1 => by omega) hK⟩
end OX
theorem frm.z {P : Int → Int → Prop} {σ τ : zSt} {k i v : Int} (h : frm P σ τ) (p : P k i) : frm P σ (zu τ k i v) := h.tr (frm.wr p)
theorem OIf.mv {σ τ : zSt} {f : Int} {st : oS} (h : OIf σ f st) (g : ∀ a, 18 ≤ a → a ≤ 21 → τ a f = σ a f) : OIf τ f st := by
  obtain ⟨h1, h2⟩ := h
  exact ⟨(g 18 (by decide) (by decide)).trans h1, fun z => by
    obtain ⟨a, b, c⟩ := h2 z
    exact ⟨(g 19 (by decide) (by decide)).trans a, (g 20 (by decide) (by decide)).trans b, (g 21 (by decide) (by decide)).trans c⟩⟩
theorem oriF_no {D : zD} {f : Int} (h : ¬ (0 ≤ f ∧ f < D 2 ∧ D 86 ≤ ctr D f)) : oriF D f = (0, 0, 0, 0) := by unfold oriF; rw [if_neg h]
theorem oini_no {D : zD} (hD : WF D) {f : Int} (f0 : 0 ≤ f) (h : ¬ (f < D 2 ∧ D 86 ≤ ctr D f)) : (if f = refer D then ((1, 0, 0, 0) : oS) else (0, 0, 0, 0)) = (0, 0, 0, 0) := by
  rw [if_neg]
  intro e
  rcases refer_b hD with r | ⟨r1, r2, r3⟩
  · omega
  · rw [← e] at r2 r3
    exact h ⟨r2, r3⟩
section OX2
variable {K : Int → zSt → Prop} {S : Int} {D : zD}
theorem sX11_currentOrientation_B31 {σ0 : zSt} (hS0 : σ0 0 0 = S) : ∀ (m : Nat) (i : Int) (σ : zSt), i + m = D 2 → 0 ≤ i → Sc σ S D → frm pO σ0 σ → σ 17 1 = refer D → (∀ g, 0 ≤ g → g < 6 → OIf σ g (if g < i then oriF D g else (if g = refer D then (1, 0, 0, 0) else (0, 0, 0, 0)))) → (∀ τ, frm pO σ0 τ → OI τ D → τ 17 0 = σ0 0 8 → K 17 τ) → fX11_currentOrientation_B31 K (m + 1) σ i := by
  intro m
  induction m with
  | zero =>
    intro i σ e i0 hS hf hr hg hk
    have q := hS.1.1
    unfold WFa at q
    rw [uX11_currentOrientation_B31, show σ 0 0 = S from (hf 0 0 (by omega)).trans hS0, hS.2.1.2.2.2.1]
    refine ⟨hS.k, by omega, by omega, fun _ σ9 e9 => ?_, fun h => (h (by omega)).elim⟩
    subst e9
    refine hk _ (hf.z (by decide)) ⟨(zu_ne (by decide)).trans hr, fun g g0 g1 => ?_⟩ ((zu_eq ..).trans (hf 0 8 (by omega)))
    refine OIf.mv ?_ (fun a a0 a1 => zu_ne (Or.inl (by omega)))
    have hh := hg g g0 g1
    by_cases z : g < i
    · rwa [if_pos z] at hh
    · rw [if_neg z, oini_no hS.1 g0 (by omega)] at hh
      rw [oriF_no (by omega)]
      exact hh
  | succ m ih =>
    intro i σ e i0 hS hf hr hg hk
    have q := hS.1.1
    unfold WFa at q
    have e00 : σ 0 0 = S := (hf 0 0 (by omega)).trans hS0
    rw [uX11_currentOrientation_B31, e00, hS.2.1.2.2.2.1]
    have hgi := hg i i0 (by omega)
    rw [if_neg (by omega)] at hgi
    refine ⟨hS.k, by omega, by omega, fun h => by omega, fun h => sX8_usable hS i0 (by omega) (fun z => zb1 ?_) (fun z => zb0 ?_)⟩
    · refine ⟨by rw [e00]; exact hS.k, ?_⟩
      rw [e00]
      refine sX6_findShift hS hr i0 (by omega) z hgi (fun τ h1 h2 => ?_)
      refine ih (i + 1) τ (by omega) (by omega) (pf_sc h1 hS) (hf.tr (h1.mo (fun a b q => by omega))) ((h1 17 1 (by omega)).trans hr) (fun g g0 g1 => ?_) hk
      by_cases y : g = i
      · rw [y, if_pos (by omega)]; exact h2
      · have hh := hg g g0 g1
        by_cases w : g < i
        · rw [if_pos w] at hh
          rw [if_pos (by omega)]
          exact hh.mv (fun a a0 a1 => h1 a g (by omega))
        · rw [if_neg w] at hh
          rw [if_neg (by omega)]
          exact hh.mv (fun a a0 a1 => h1 a g (by omega))
    · refine ih (i + 1) σ (by omega) (by omega) hS hf hr (fun g g0 g1 => ?_) hk
      have hh := hg g g0 g1
      by_cases w : g < i
      · rw [if_pos w] at hh
        rw [if_pos (by omega)]
        exact hh
      · rw [if_neg w] at hh
        by_cases y : g = i
        · subst y
          rw [oini_no hS.1 g0 (fun k => z k.2)] at hh
          rw [if_pos (by omega), oriF_no (fun k => z k.2.2)]
          exact hh
        · rw [if_neg (by omega)]
          exact hh
/-- what every query keeps: the scene, the numbers of changes, the orientation if it is of now -/
def XQ (σ : zSt) (D : zD) : Prop := Sc σ (σ 0 0) D ∧ (0 ≤ σ 0 8 ∧ σ 0 8 < 100000) ∧ (-1 ≤ σ 17 0 ∧ σ 17 0 ≤ σ 0 8) ∧ (σ 17 0 = σ 0 8 → OI σ D)
theorem sX11_currentOrientation {σ : zSt} (h : XQ σ D) (hK : ∀ τ, frm pO σ τ → XQ τ D → OI τ D → K 17 τ) : fX11_currentOrientation K σ := by
  obtain ⟨hS, hv, ho, hc⟩ := h
  have q := hS.1.1
  unfold WFa at q
  refine ⟨by omega, by omega, fun e => hK σ frm.rf ⟨hS, hv, ho, hc⟩ (hc e), fun e => ⟨hS.k, sX8_usableFrom hS (by decide) (by decide) ?_⟩⟩
  have rb := refer_b hS.1
  have er : uf D (D 2 - 0).toNat 0 = refer D := by unfold refer; rw [Int.sub_zero]
  rw [er]
  refine sX6_begin (by omega) (fun τ h1 h2 h3 => ⟨(D 2).toNat + 1, ?_⟩)
  refine sX11_currentOrientation_B31 (S := σ 0 0) (σ0 := σ) rfl _ _ τ (by omega) (by decide) (hS.mono (fun a b p => h1 a b (by omega))) h1 h2 (fun g g0 g1 => ?_) (fun υ u1 u2 u3 => ?_)
  · rw [if_neg (by omega)]
    exact h3 g g0 g1
  · have e0 : υ 0 0 = σ 0 0 := u1 0 0 (by omega)
    have e8 : υ 0 8 = σ 0 8 := u1 0 8 (by omega)
    refine hK υ u1 ⟨?_, by rw [e8]; exact hv, by rw [u3, e8]; omega, fun _ => u2⟩ u2
    rw [e0]
    exact hS.mono (fun a b p => u1 a b (by omega))
end OX2
