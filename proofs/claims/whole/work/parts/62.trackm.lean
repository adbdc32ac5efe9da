/-! the reference's tracks -/
def tin (st : tS) (g : Int) : Prop := ∃ k, 0 ≤ k ∧ k < st.1 ∧ (st.2.1 k).1 = g
def MT (σ : zSt) (st : tS) (hi : Int) : Prop := (∀ g, 0 ≤ g → g < hi → (σ 9 g = 0 ∨ σ 9 g = 1) ∧ (σ 9 g = 1 ↔ tin st g)) ∧ ∀ k, 0 ≤ k → k < st.1 → σ 10 (st.2.1 k).1 = (st.2.1 k).2.1 ∧ σ 11 (st.2.1 k).1 = (st.2.1 k).2.2
abbrev pmF (f : Int) : Int → Int → Prop := fun a b => (a = 0 ∧ 22 ≤ b ∧ b ≤ 25) ∨ ((a = 10 ∨ a = 11) ∧ b = f)
abbrev pMt : Int → Int → Prop := fun a b => (5 ≤ a ∧ a ≤ 11) ∨ (a = 0 ∧ (b = 17 ∨ (22 ≤ b ∧ b ≤ 25)))
theorem MO.mv {σ τ : zSt} {D : zD} (h : MO σ D) (g : ∀ a b, (5 ≤ a ∧ a ≤ 8) ∨ (a = 0 ∧ b = 17) → τ a b = σ a b) : MO τ D := ⟨(g 0 17 (Or.inr ⟨rfl, rfl⟩)).trans h.1, fun f f0 f1 => (h.2 f f0 f1).mv (fun a a0 a1 => g a f (Or.inl ⟨a0, a1⟩))⟩
theorem uf_bef {D : zD} : ∀ (m : Nat) (i j : Int), i ≤ j → j < i + m → (uf D m i = -1 ∨ j < uf D m i) → 0 ≤ i → ¬ D 86 ≤ ctr D j := by
  intro m
  induction m with
  | zero => intro i j h1 h2; omega
  | succ m ih =>
    intro i j h1 h2 h3 h4
    unfold uf at h3
    by_cases q : D 86 ≤ ctr D i
    · rw [if_pos q] at h3; omega
    · rw [if_neg q] at h3
      by_cases e : j = i
      · rw [e]; exact q
      · exact ih (i + 1) j (by omega) (by omega) h3 (by omega)
theorem bef_ref {D : zD} (hD : WF D) {f : Int} (f0 : 0 ≤ f) (f1 : f < D 2) (h : refer D = -1 ∨ f < refer D) : (oriF D f).1 = 0 := by
  have a := hD.1
  unfold WFa at a
  have q := uf_bef (D := D) (D 2).toNat 0 f f0 (by omega) h (by decide)
  rw [oriF_no (fun z => q z.2.2)]
section TM
variable {D : zD}
theorem sM_windowSize {K : Int → zSt → Prop} {σ : zSt} (hd : σ 1 = D) (hK : K (win D) σ) : fX12_windowSize K σ := by
  subst hd
  exact sM_setting (by decide) (by decide) hK
theorem sM_follow {K : Int → zSt → Prop} {σ : zSt} {p x y f tol : Int} (hd : σ 1 = D) (hD : WF D) (hM : MO σ D) (zp : (oriF D p).1 = 1) (zf : (oriF D f).1 = 1) (hx : σ 10 p = x) (hy : σ 11 p = y) (x0 : 0 ≤ x ∧ x < D 0) (y0 : 0 ≤ y ∧ y < D 1) (ht : 0 ≤ tol ∧ tol ≤ 9) (h1 : tok D (tol * win D) f (p, x, y) → ∀ τ, frm (pmF f) σ τ → τ 10 f = (m1 D (p, x, y) f).2.1 → τ 11 f = (m1 D (p, x, y) f).2.2.1 → K 1 τ) (h0 : ¬ tok D (tol * win D) f (p, x, y) → ∀ τ, frm pms σ τ → K 0 τ) : fX12_follow K σ p f tol := by
  have q := hD.1
  unfold WFa at q
  have t := hD.2.1
  unfold WFs at t
  have lb := lim_b hD ht
  have ip := oriF_in zp
  have jf := oriF_in zf
  have mi : mI D 100 (m1 D (p, x, y) f) := mR_I hD p x y f
  have mi2 : mI D 100 (m2 D (p, x, y) f) := mR_I hD f _ _ p
  unfold fX12_follow
  rw [hx, hy]
  refine ⟨by omega, sM_search hd hD hM zp zf (by omega) (by omega) (fun τ u1 u2 u3 => zb1 ?_) (fun τ u1 u2 u3 => zb0 (h0 (fun k => ?_) τ u1))⟩
  · have u2 : RM τ (m1 D (p, x, y) f) := u2
    have u3 : 1 ≤ (m1 D (p, x, y) f).1 := u3
    obtain ⟨r1, r2, r3⟩ := u2
    have pI := mi.2.1 u3
    obtain ⟨r4, r5⟩ := r3 u3
    rw [if_neg (by omega)] at r1
    have hd2 := u1.D hd (fun b => by omega)
    have hM2 : MO τ D := hM.mv (fun a b z => u1 a b (by omega))
    refine sM_windowSize hd2 ?_
    rw [r1, r4, r5]
    refine ⟨by omega, by omega, fun z2 => ?_, fun z2 => h0 (fun k => z2 k.2.1) τ u1⟩
    refine sM_search hd2 hD hM2 zf zp (by omega) (by omega) (fun υ w1 w2 w3 => zb1 ?_) (fun υ w1 w2 w3 => zb0 (h0 (fun k => ?_) υ (u1.tr w1)))
    · have w2 : RM υ (m2 D (p, x, y) f) := w2
      have w3 : 1 ≤ (m2 D (p, x, y) f).1 := w3
      obtain ⟨s1, s2, s3⟩ := w2
      obtain ⟨s4, s5⟩ := s3 w3
      have pI2 := mi2.2.1 w3
      have hx2 : υ 10 p = x := ((u1.tr w1) 10 p (by omega)).trans hx
      have hy2 : υ 11 p = y := ((u1.tr w1) 11 p (by omega)).trans hy
      rw [s4, hx2]
      refine sM_absolute (by omega) ⟨by omega, fun y1 => h0 (fun k => ?_) υ (u1.tr w1), fun y1 => ?_⟩
      · have := k.2.2.2.1
        have e : ((p, x, y) : Int × Int × Int).2.1 = x := rfl
        omega
      · rw [s5, hy2]
        refine sM_absolute (by omega) ⟨by omega, fun y2 => ⟨by omega, fun σ14 e14 σ15 e15 => ?_⟩, fun y2 => h0 (fun k => y2 k.2.2.2.2) υ (u1.tr w1)⟩
        refine h1 ⟨u3, z2, w3, by show (((m2 D (p, x, y) f).2.1 - x).natAbs : Int) ≤ 1; omega, y2⟩ σ15 ?_ ?_ ?_
        · rw [e15, e14]
          exact (((u1.tr w1).mo (fun a b z => Or.inl z)).z (Or.inr ⟨Or.inl rfl, rfl⟩)).z (Or.inr ⟨Or.inr rfl, rfl⟩)
        · rw [e15, e14, zu_ne (Or.inl (by decide)), zu_eq]
        · rw [e15, zu_eq]
    · have w3 : (m2 D (p, x, y) f).1 = 0 := w3
      have := k.2.2.1
      omega
  · have u3 : (m1 D (p, x, y) f).1 = 0 := u3
    have := k.1
    omega
theorem MT.up {σ τ : zSt} {st : tS} {f : Int} (h : MT σ st f) (hB : tB D f st) (n : (τ 9 f = 0)) (g : ∀ a b, 9 ≤ a → a ≤ 11 → (a = 9 → b ≠ f) → b < f → τ a b = σ a b) : MT τ st (f + 1) := by
  obtain ⟨h1, h2⟩ := h
  refine ⟨fun j j0 j1 => ?_, fun k k0 k1 => ?_⟩
  · by_cases z : j = f
    · rw [z, n]
      refine ⟨Or.inl rfl, fun y => absurd y (by decide), fun ⟨k, k0, k1, e⟩ => ?_⟩
      have := (hB.2.1 k k0 k1).1
      omega
    · rw [g 9 j (by decide) (by decide) (fun _ => z) (by omega)]
      exact h1 j j0 (by omega)
  · have := (hB.2.1 k k0 k1).1
    obtain ⟨a, b⟩ := h2 k k0 k1
    exact ⟨(g 10 _ (by decide) (by decide) (fun z => by omega) (by omega)).trans a, (g 11 _ (by decide) (by decide) (fun z => by omega) (by omega)).trans b⟩
theorem MT.add {σ τ : zSt} {st : tS} {f : Int} (h : MT σ st f) (hB : tB D f st) (n : τ 9 f = 1) (x : τ 10 f = (m1 D (st.2.1 (st.1 - 1)) f).2.1) (y : τ 11 f = (m1 D (st.2.1 (st.1 - 1)) f).2.2.1) (g : ∀ a b, 9 ≤ a → a ≤ 11 → b < f → τ a b = σ a b) : MT τ (tyes D f st) (f + 1) := by
  obtain ⟨h1, h2⟩ := h
  have b1 := hB.1
  refine ⟨fun j j0 j1 => ?_, fun k k0 k1 => ?_⟩
  · by_cases z : j = f
    · rw [z, n]
      refine ⟨Or.inr rfl, fun _ => ⟨st.1, by omega, by show st.1 < st.1 + 1; omega, ?_⟩, fun _ => rfl⟩
      show (tadd st.2.1 st.1 _ st.1).1 = f
      rw [tadd_eq]
    · rw [g 9 j (by decide) (by decide) (by omega)]
      obtain ⟨p, q⟩ := h1 j j0 (by omega)
      refine ⟨p, fun w => ?_, fun ⟨k, k0, k1, e⟩ => ?_⟩
      · obtain ⟨k, k0, k1, e⟩ := q.mp w
        refine ⟨k, k0, by show k < st.1 + 1; omega, ?_⟩
        show (tadd st.2.1 st.1 _ k).1 = j
        rw [tadd_ne (by omega)]; exact e
      · have k1 : k < st.1 + 1 := k1
        have e : (tadd st.2.1 st.1 _ k).1 = j := e
        by_cases y : k = st.1
        · rw [y, tadd_eq] at e
          exact absurd e.symm z
        · rw [tadd_ne y] at e
          exact q.mpr ⟨k, k0, by omega, e⟩
  · have k1 : k < st.1 + 1 := k1
    show τ 10 (tadd st.2.1 st.1 _ k).1 = (tadd st.2.1 st.1 _ k).2.1 ∧ τ 11 (tadd st.2.1 st.1 _ k).1 = (tadd st.2.1 st.1 _ k).2.2
    by_cases z : k = st.1
    · rw [z, tadd_eq]; exact ⟨x, y⟩
    · rw [tadd_ne z]
      have := (hB.2.1 k k0 (by omega)).1
      obtain ⟨a, b⟩ := h2 k k0 (by omega)
      exact ⟨(g 10 _ (by decide) (by decide) (by omega)).trans a, (g 11 _ (by decide) (by decide) (by omega)).trans b⟩
theorem MT.tno {σ : zSt} {st : tS} {f : Int} (h : MT σ st f) : MT σ (tno st) f := h
theorem sM_track_B12 {K : zSt → Prop} {i tol : Int} (hD : WF D) (hr : 0 ≤ refer D) (ht : 0 ≤ tol ∧ tol ≤ 9) : ∀ (m : Nat) (f : Int) (σ : zSt) (st : tS), f + m = D 2 → refer D < f → σ 1 = D → MO σ D → tB D f st → MT σ st f → (∀ τ, frm pMt σ τ → MO τ D → MT τ (lp (tstep D (tol * win D)) m f st) (D 2) → K τ) → fX12_track_B12 K (m + 1) σ i tol (st.2.1 (st.1 - 1)).1 f := by
  have q := hD.1
  unfold WFa at q
  intro m
  induction m with
  | zero =>
    intro f σ st e e0 hd hM hB hT hk
    have e2 : σ 1 2 = D 2 := by rw [hd]
    rw [uX12_track_B12, e2]
    refine ⟨by omega, by omega, fun _ => hk σ frm.rf hM ?_, fun h => (h (by omega)).elim⟩
    rw [lp_0, show D 2 = f by omega]
    exact hT
  | succ m ih =>
    intro f σ st e e0 hd hM hB hT hk
    have e2 : σ 1 2 = D 2 := by rw [hd]
    have b1 := hB.1
    have b2 := hB.2.1 (st.1 - 1) (by omega) (by omega)
    rw [uX12_track_B12, e2, hM.1]
    refine ⟨by omega, by omega, fun h => by omega, fun h => ⟨by omega, fun z => by omega, fun _ => ⟨by omega, Or.inl rfl, fun σ7 e7 => ?_⟩⟩⟩
    have hf7 : frm pMt σ σ7 := by rw [e7]; exact frm.wr (by omega)
    have hM7 : MO σ7 D := hM.mv (fun a b z => by rw [e7, zu_ne (by omega)])
    have hd7 := hf7.D hd (fun b => by omega)
    have o := oriF_s hD f
    rw [hM7.1, (hM7.2 f (by omega) (by omega)).1]
    refine ⟨by omega, by omega, fun z => by omega, fun _ => ⟨by omega, by omega, fun z => ?_, fun z => ?_⟩⟩
    · have es : tstep D (tol * win D) f st = st := by unfold tstep; rw [if_neg (by omega)]
      have hT7 : MT σ7 st (f + 1) := hT.up hB (by rw [e7]; exact zu_eq ..) (fun a b a0 a1 a2 b3 => by rw [e7, zu_ne (by omega)])
      refine ih (f + 1) σ7 st (by omega) (by omega) hd7 hM7 (tB_up hB) hT7 (fun τ h1 h2 h3 => hk τ (hf7.tr h1) h2 ?_)
      rw [lp_s, es]; exact h3
    · have zo : (oriF D f).1 = 1 := by omega
      obtain ⟨t1, t2⟩ := hT.2 (st.1 - 1) (by omega) (by omega)
      have t17 : σ7 10 (st.2.1 (st.1 - 1)).1 = (st.2.1 (st.1 - 1)).2.1 := by rw [e7, zu_ne (by omega)]; exact t1
      have t27 : σ7 11 (st.2.1 (st.1 - 1)).1 = (st.2.1 (st.1 - 1)).2.2 := by rw [e7, zu_ne (by omega)]; exact t2
      refine sM_follow hd7 hD hM7 b2.2.1 zo t17 t27 b2.2.2.1 b2.2.2.2 ht (fun k τ u1 u2 u3 => ⟨Or.inr rfl, fun σ14 e14 => ?_⟩) (fun k τ u1 => ⟨Or.inl rfl, fun σ14 e14 => ?_⟩)
      · have es : tstep D (tol * win D) f st = tyes D f st := by unfold tstep; rw [if_pos zo, if_pos k]
        have n9 : σ14 9 f = 1 := by rw [e14]; exact zu_eq ..
        have hf14 : frm pMt σ σ14 := by rw [e14]; exact (hf7.tr (u1.mo (fun a b z => by omega))).z (by omega)
        have hM14 : MO σ14 D := hM7.mv (fun a b z => by rw [e14, zu_ne (by omega)]; exact u1 a b (by omega))
        have hT14 : MT σ14 (tyes D f st) (f + 1) := hT.add hB n9 (by rw [e14, zu_ne (Or.inl (by decide))]; exact u2) (by rw [e14, zu_ne (Or.inl (by decide))]; exact u3) (fun a b a0 a1 b0 => by rw [e14, zu_ne (by omega), u1 a b (by omega), e7, zu_ne (by omega)])
        have el : ((tyes D f st).2.1 ((tyes D f st).1 - 1)).1 = f := by
          show (tadd st.2.1 st.1 _ (st.1 + 1 - 1)).1 = f
          rw [show st.1 + 1 - 1 = st.1 by omega, tadd_eq]
        rw [n9]
        refine ⟨by decide, fun z => absurd z (by decide), fun _ => ?_⟩
        have hh := ih (f + 1) σ14 (tyes D f st) (by omega) (by omega) (hf14.D hd (fun b => by omega)) hM14 (tyes_B hD hB zo k) hT14 (fun τ h1 h2 h3 => hk τ (hf14.tr h1) h2 (by rw [lp_s, es]; exact h3))
        rw [el] at hh
        exact hh
      · have es : tstep D (tol * win D) f st = tno st := by unfold tstep; rw [if_pos zo, if_neg k]
        have n9 : σ14 9 f = 0 := by rw [e14]; exact zu_eq ..
        have hf14 : frm pMt σ σ14 := by rw [e14]; exact (hf7.tr (u1.mo (fun a b z => by omega))).z (by omega)
        have hM14 : MO σ14 D := hM7.mv (fun a b z => by rw [e14, zu_ne (by omega)]; exact u1 a b (by omega))
        have hT14 : MT σ14 (tno st) (f + 1) := (hT.up hB n9 (fun a b a0 a1 a2 b0 => by rw [e14, zu_ne (by omega), u1 a b (by omega), e7, zu_ne (by omega)])).tno
        rw [n9]
        refine ⟨by decide, fun _ => ?_, fun z => (z rfl).elim⟩
        exact ih (f + 1) σ14 (tno st) (by omega) (by omega) (hf14.D hd (fun b => by omega)) hM14 (tno_B hB) hT14 (fun τ h1 h2 h3 => hk τ (hf14.tr h1) h2 (by rw [lp_s, es]; exact h3))
theorem sM_track_B12_0 {K : zSt → Prop} {i tol : Int} (hD : WF D) (i0 : 0 ≤ i) (i1 : i < D 4) (ht : 0 ≤ tol ∧ tol ≤ 9) : ∀ (m : Nat) (f : Int) (σ : zSt), f + m = D 2 → 0 ≤ f → (refer D = -1 ∨ f ≤ refer D) → σ 1 = D → MO σ D → (∀ g, 0 ≤ g → g < f → σ 9 g = 0) → (∀ τ, frm pMt σ τ → MO τ D → MT τ (trk D i tol) (D 2) → K τ) → fX12_track_B12 K (m + 1) σ i tol (refer D) f := by
  have q := hD.1
  unfold WFa at q
  have rb := refer_b hD
  intro m
  induction m with
  | zero =>
    intro f σ e f0 hf hd hM hg hk
    have e2 : σ 1 2 = D 2 := by rw [hd]
    rw [uX12_track_B12, e2]
    refine ⟨by omega, by omega, fun _ => hk σ frm.rf hM ?_, fun h => (h (by omega)).elim⟩
    unfold trk
    rw [if_pos (by omega)]
    refine ⟨fun g g0 g1 => ?_, fun k k0 k1 => by have k1 : k < 0 := k1; omega⟩
    rw [hg g g0 (by omega)]
    exact ⟨Or.inl rfl, fun z => absurd z (by decide), fun ⟨k, k0, k1, _⟩ => by have k1 : k < 0 := k1; omega⟩
  | succ m ih =>
    intro f σ e f0 hf hd hM hg hk
    have e2 : σ 1 2 = D 2 := by rw [hd]
    rw [uX12_track_B12, e2, hM.1]
    refine ⟨by omega, by omega, fun h => by omega, fun h => ⟨by omega, fun z => ⟨by omega, Or.inr rfl, fun σ7 e7 => ?_⟩, fun z => ⟨by omega, Or.inl rfl, fun σ7 e7 => ?_⟩⟩⟩
    · have hf7 : frm pMt σ σ7 := by rw [e7]; exact frm.wr (by omega)
      have hM7 : MO σ7 D := hM.mv (fun a b z => by rw [e7, zu_ne (by omega)])
      have hd7 := hf7.D hd (fun b => by omega)
      rw [hM7.1]
      refine ⟨by omega, by omega, fun _ => ⟨by omega, by omega, fun σ18 e18 => ⟨by omega, fun σ20 e20 => ?_⟩⟩, fun y => absurd z y⟩
      have hf20 : frm pMt σ σ20 := by rw [e20, e18]; exact (hf7.z (by omega)).z (by omega)
      have hd18 : σ18 1 = D := by rw [e18]; exact (hf7.z (k := 10) (by omega)).D hd (fun b => by omega)
      have hM20 : MO σ20 D := hM7.mv (fun a b z => by rw [e20, zu_ne (by omega), e18, zu_ne (by omega)])
      rw [hd7] at e18
      rw [hd18] at e20
      have hT20 : MT σ20 (tini D i) (refer D + 1) := by
        refine ⟨fun g g0 g1 => ?_, fun k k0 k1 => ?_⟩
        · rw [e20, zu_ne (Or.inl (by decide)), e18, zu_ne (Or.inl (by decide)), e7]
          by_cases w : g = f
          · rw [w, zu_eq]
            exact ⟨Or.inr rfl, fun _ => ⟨0, by decide, by show (0 : Int) < 1; decide, z.symm⟩, fun _ => rfl⟩
          · rw [zu_ne (Or.inr w), hg g g0 (by omega)]
            refine ⟨Or.inl rfl, fun y => absurd y (by decide), fun ⟨k, k0, k1, y⟩ => ?_⟩
            have y : refer D = g := y
            omega
        · show σ20 10 (refer D) = D (20 + 2 * i) ∧ σ20 11 (refer D) = D (20 + 2 * i + 1)
          rw [← z]
          exact ⟨by rw [e20, zu_ne (Or.inl (by decide)), e18, zu_eq], by rw [e20, zu_eq]⟩
      have hr : refer D ≠ -1 := by omega
      have hh := sM_track_B12 (K := K) (i := i) hD (by omega) ht m (f + 1) σ20 (tini D i) (by omega) (by omega) (hf20.D hd (fun b => by omega)) hM20 (by rw [z]; exact tini_B hD i0 i1 hr) (by rw [z]; exact hT20) (fun τ h1 h2 h3 => hk τ (hf20.tr h1) h2 (by
        unfold trk
        rw [if_neg hr, ← z, show (D 2 - (f + 1)).toNat = m by omega]
        exact h3))
      exact hh
    · have hf7 : frm pMt σ σ7 := by rw [e7]; exact frm.wr (by omega)
      have hM7 : MO σ7 D := hM.mv (fun a b z => by rw [e7, zu_ne (by omega)])
      have hd7 := hf7.D hd (fun b => by omega)
      rw [hM7.1, (hM7.2 f (by omega) (by omega)).1, bef_ref hD f0 (by omega) (by omega)]
      refine ⟨by omega, by omega, fun y => absurd y z, fun _ => ⟨by omega, by decide, fun _ => ?_, fun y => (y rfl).elim⟩⟩
      refine ih (f + 1) σ7 (by omega) (by omega) (by omega) hd7 hM7 (fun g g0 g1 => ?_) (fun τ h1 h2 h3 => hk τ (hf7.tr h1) h2 h3)
      by_cases w : g = f
      · rw [w, e7]; exact zu_eq ..
      · rw [e7, zu_ne (Or.inr w)]; exact hg g g0 (by omega)
theorem sM_track {K : zSt → Prop} {σ : zSt} {i tol : Int} (hd : σ 1 = D) (hD : WF D) (i0 : 0 ≤ i) (i1 : i < D 4) (ht : 0 ≤ tol ∧ tol ≤ 9) (hK : ∀ τ, frm pMt σ τ → MO τ D → MT τ (trk D i tol) (D 2) → K τ) : fX12_track K σ i tol := by
  have q := hD.1
  unfold WFa at q
  have rb := refer_b hD
  refine sM_orient hd hD (fun τ h1 h2 => ⟨(D 2).toNat + 1, ?_⟩)
  rw [h2.1]
  exact sM_track_B12_0 hD i0 i1 ht _ _ τ (by omega) (by decide) (by omega) (h1.D hd (fun b => by omega)) h2 (fun g g0 g1 => by omega) (fun υ u1 u2 u3 => hK υ ((h1.mo (fun a b z => by omega)).tr u1) u2 u3)
/-- the frames lost -/
noncomputable def tl (D : zD) (st : tS) (g acc : Int) : Int := @ite _ ((oriF D g).1 = 1 ∧ ¬ tin st g) (Classical.propDecidable _) (acc + 1) acc
theorem lp_last {α : Type} (g : Int → α → α) : ∀ (m : Nat) (x : Int) (a : α), lp g (m + 1) x a = g (x + m) (lp g m x a) := by
  intro m
  induction m with
  | zero => intro x a; rw [lp_s, lp_0, lp_0]; simp
  | succ m ih =>
    intro x a
    rw [lp_s, ih, lp_s]
    rw [show x + 1 + (m : Int) = x + ((m + 1 : Nat) : Int) by omega]
theorem lp_cong {α : Type} {g h : Int → α → α} : ∀ (m : Nat) (x : Int) (a : α), (∀ y b, x ≤ y → y < x + m → g y b = h y b) → lp g m x a = lp h m x a := by
  intro m
  induction m with
  | zero => intro x a _; rfl
  | succ m ih =>
    intro x a e
    rw [lp_s, lp_s, e x a (by omega) (by omega)]
    exact ih (x + 1) _ (fun y b h1 h2 => e y b (by omega) (by omega))
def tL (D : zD) (f : Int) (st : tS) : Prop := tB D f st ∧ st.2.2.1 = lp (tl D st) f.toNat 0 0
theorem tL_step {D : zD} (hD : WF D) (hr : 0 ≤ refer D) {lim f : Int} {st : tS} (h : tL D f st) : tL D (f + 1) (tstep D lim f st) := by
  obtain ⟨hB, hL⟩ := h
  have hb := tstep_B (lim := lim) hD hB
  refine ⟨hb, ?_⟩
  have b1 := hB.1
  have en : (f + 1).toNat = f.toNat + 1 := by omega
  have ef : (0 : Int) + (f.toNat : Int) = f := by omega
  have nin : ¬ tin st f := fun ⟨k, k0, k1, e⟩ => by
    have := (hB.2.1 k k0 k1).1
    omega
  rw [en, lp_last, ef]
  by_cases zo : (oriF D f).1 = 1
  · by_cases zt : tok D lim f (st.2.1 (st.1 - 1))
    · have es : tstep D lim f st = tyes D f st := by unfold tstep; rw [if_pos zo, if_pos zt]
      rw [es]
      have yin : tin (tyes D f st) f := ⟨st.1, by omega, by show st.1 < st.1 + 1; omega, by show (tadd st.2.1 st.1 _ st.1).1 = f; rw [tadd_eq]⟩
      unfold tl
      rw [if_neg (fun z => z.2 yin)]
      show st.2.2.1 = _
      rw [hL]
      refine lp_cong _ _ _ (fun y b y0 y1 => ?_)
      have eqv : tin (tyes D f st) y ↔ tin st y := by
        constructor
        · rintro ⟨k, k0, k1, e⟩
          have k1 : k < st.1 + 1 := k1
          have e : (tadd st.2.1 st.1 _ k).1 = y := e
          by_cases w : k = st.1
          · rw [w, tadd_eq] at e
            have e : f = y := e
            omega
          · rw [tadd_ne w] at e
            exact ⟨k, k0, by omega, e⟩
        · rintro ⟨k, k0, k1, e⟩
          exact ⟨k, k0, by show k < st.1 + 1; omega, by show (tadd st.2.1 st.1 _ k).1 = y; rw [tadd_ne (by omega)]; exact e⟩
      unfold tl
      by_cases w : (oriF D y).1 = 1 ∧ ¬ tin st y
      · rw [if_pos w, if_pos ⟨w.1, fun z => w.2 (eqv.mp z)⟩]
      · rw [if_neg w, if_neg (fun z => w ⟨z.1, fun k => z.2 (eqv.mpr k)⟩)]
    · have es : tstep D lim f st = tno st := by unfold tstep; rw [if_pos zo, if_neg zt]
      rw [es]
      have : tl D (tno st) f = fun acc => acc + 1 := by
        funext acc
        unfold tl
        rw [if_pos ⟨zo, nin⟩]
      rw [this]
      show st.2.2.1 + 1 = _ + 1
      rw [hL]
      rfl
  · have es : tstep D lim f st = st := by unfold tstep; rw [if_neg zo]
    rw [es]
    have : tl D st f = fun acc => acc := by
      funext acc
      unfold tl
      rw [if_neg (fun z => zo z.1)]
    rw [this, hL]
theorem lp_const {α : Type} {g : Int → α → α} : ∀ (m : Nat) (x : Int) (a : α), (∀ y b, x ≤ y → y < x + m → g y b = b) → lp g m x a = a := by
  intro m
  induction m with
  | zero => intro x a _; rfl
  | succ m ih => intro x a h; rw [lp_s, h x a (by omega) (by omega)]; exact ih (x + 1) a (fun y b h1 h2 => h y b (by omega) (by omega))
theorem trk_L {D : zD} (hD : WF D) {i tol : Int} (i0 : 0 ≤ i) (i1 : i < D 4) : (trk D i tol).2.2.1 = lp (tl D (trk D i tol)) (D 2).toNat 0 0 := by
  have q := hD.1
  unfold WFa at q
  have rb := refer_b hD
  by_cases hr : refer D = -1
  · have e : (trk D i tol).2.2.1 = 0 := by unfold trk; rw [if_pos hr]
    rw [e]
    refine (lp_const _ _ _ (fun y b y0 y1 => ?_)).symm
    unfold tl
    rw [if_neg (fun z => by have := bef_ref hD y0 (by omega) (Or.inl hr); omega)]
  · have h0 : tL D (refer D + 1) (tini D i) := by
      refine ⟨tini_B hD i0 i1 hr, ?_⟩
      show (0 : Int) = _
      refine (lp_const _ _ _ (fun y b y0 y1 => ?_)).symm
      unfold tl
      rw [if_neg]
      intro z
      by_cases w : y = refer D
      · exact z.2 ⟨0, by decide, by show (0 : Int) < 1; decide, w.symm⟩
      · have := bef_ref hD y0 (by omega) (Or.inr (by omega : y < refer D))
        omega
    have := lp_inv2 (tL D) (g := tstep D (tol * win D)) (fun x a h => tL_step hD (by omega) h) (D 2 - (refer D + 1)).toNat (refer D + 1) _ h0
    rw [show refer D + 1 + ((D 2 - (refer D + 1)).toNat : Int) = D 2 by omega] at this
    unfold trk
    rw [if_neg hr]
    exact this.2
theorem sM_lost_B4 {K : Int → zSt → Prop} {σ : zSt} {st : tS} (hd : σ 1 = D) (hD : WF D) (hM : MO σ D) (hT : MT σ st (D 2)) : ∀ (m : Nat) (f acc : Int), f + m = D 2 → 0 ≤ f → K (lp (tl D st) m f acc) σ → fX12_lost_B4 K (m + 1) σ acc f := by
  have q := hD.1
  unfold WFa at q
  have e2 : σ 1 2 = D 2 := by rw [hd]
  intro m
  induction m with
  | zero =>
    intro f acc e f0 hk
    rw [uX12_lost_B4, e2]
    exact ⟨by omega, by omega, fun _ => hk, fun h => (h (by omega)).elim⟩
  | succ m ih =>
    intro f acc e f0 hk
    have o := oriF_s hD f
    obtain ⟨t1, t2⟩ := hT.1 f f0 (by omega)
    rw [uX12_lost_B4, e2, (hM.2 f f0 (by omega)).1]
    rw [lp_s] at hk
    refine ⟨by omega, by omega, fun h => by omega, fun h => ⟨by omega, by omega, fun z => ih (f + 1) _ (by omega) (by omega) ?_, fun z => ⟨by omega, fun y => ih (f + 1) _ (by omega) (by omega) ?_, fun y => ih (f + 1) _ (by omega) (by omega) ?_⟩⟩⟩
    · rw [show tl D st f acc = acc + 0 by unfold tl; rw [if_neg (fun k => by omega)]; omega] at hk
      exact hk
    · rw [show tl D st f acc = acc + 1 by unfold tl; rw [if_pos ⟨by omega, fun k => by have := t2.mpr k; omega⟩]] at hk
      exact hk
    · rw [show tl D st f acc = acc + 0 by unfold tl; rw [if_neg (fun k => k.2 (t2.mp (by omega)))]; omega] at hk
      exact hk
theorem sM_lost {K : Int → zSt → Prop} {σ : zSt} {i tol : Int} (hd : σ 1 = D) (hD : WF D) (i0 : 0 ≤ i) (i1 : i < D 4) (hM : MO σ D) (hT : MT σ (trk D i tol) (D 2)) (hK : K (trk D i tol).2.2.1 σ) : fX12_lost K σ := by
  have q := hD.1
  unfold WFa at q
  rw [trk_L hD i0 i1] at hK
  exact ⟨(D 2).toNat + 1, sM_lost_B4 hd hD hM hT _ _ _ (by omega) (by decide) hK⟩
end TM
