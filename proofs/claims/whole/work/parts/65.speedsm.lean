/-! the reference's segments, speeds, positions -/
abbrev jx (st : tS) (j f : Int) : Prop := (0 ≤ j ∧ j ≤ st.1) ∧ (∀ k, 0 ≤ k → k < j → (st.2.1 k).1 < f) ∧ (∀ k, j ≤ k → k < st.1 → f ≤ (st.2.1 k).1)
section SZ
variable {K : Int → zSt → Prop} {D : zD} {σ : zSt}
theorem jx_at {st : tS} (hG : TG D st) (hT : MT σ st (D 2)) {j f : Int} (f0 : 0 ≤ f) (f1 : f < D 2) (h : jx st j f) : (j < st.1 ∧ (st.2.1 j).1 = f ∧ σ 9 f = 1 ∧ jx st (j + 1) (f + 1)) ∨ (σ 9 f = 0 ∧ jx st j (f + 1)) := by
  obtain ⟨h1, h2, h3⟩ := h
  obtain ⟨t1, t2⟩ := hT.1 f f0 f1
  by_cases z : j < st.1 ∧ (st.2.1 j).1 = f
  · refine Or.inl ⟨z.1, z.2, t2.mpr ⟨j, h1.1, z.1, z.2⟩, by omega, fun k k0 k1 => ?_, fun k k0 k1 => ?_⟩
    · by_cases w : k = j
      · rw [w, z.2]; omega
      · have := h2 k k0 (by omega); omega
    · have := hG.2.2.1 j k h1.1 (by omega) k1; omega
  · have nt : ¬ tin st f := fun ⟨k, k0, k1, e⟩ => by
      by_cases w : k < j
      · have := h2 k k0 w; omega
      · by_cases y : k = j
        · rw [y] at e k1; exact z ⟨k1, e⟩
        · have := hG.2.2.1 j k h1.1 (by omega) k1
          have := h3 j (by omega) (by omega)
          omega
    refine Or.inr ⟨?_, h1, fun k k0 k1 => ?_, fun k k0 k1 => ?_⟩
    · rcases t1 with t1 | t1
      · exact t1
      · exact absurd (t2.mp t1) nt
    · have := h2 k k0 k1; omega
    · have a := h3 k k0 k1
      by_cases w : (st.2.1 k).1 = f
      · exact absurd ⟨k, by omega, k1, w⟩ nt
      · omega
theorem sM_rootOf_B6 {v : Int} (hv : 0 ≤ v ∧ v < 2147483648) (hK : K (sq v) σ) : ∀ (m : Nat) (lo hi : Int), 0 ≤ lo → lo ≤ hi → hi ≤ 40000 → hi - lo ≤ m → lo * lo ≤ v → v < (hi + 1) * (hi + 1) → fX12_rootOf_B6 K (m + 1) σ v lo hi := by
  intro m
  induction m with
  | zero =>
    intro lo hi l0 lh h4 hm h1 h2
    rw [uX12_rootOf_B6]
    refine ⟨by omega, by omega, fun _ => ?_, fun h => (h (by omega)).elim⟩
    rw [sq_u l0 h1 (by rw [show lo = hi by omega]; exact h2)]; exact hK
  | succ m ih =>
    intro lo hi l0 lh h4 hm h1 h2
    rw [uX12_rootOf_B6]
    have em : (lo + hi + 1).tdiv 2 = (lo + hi + 1) / 2 := Int.tdiv_eq_ediv_of_nonneg (by omega)
    rw [em]
    generalize hmid : (lo + hi + 1) / 2 = mid
    refine ⟨by omega, by omega, fun z => ?_, fun z => ?_⟩
    · rw [sq_u l0 h1 (by rw [show lo = hi by omega]; exact h2)]; exact hK
    · have b := Int.mul_le_mul (show mid ≤ 40000 by omega) (show mid ≤ 40000 by omega) (by omega) (by omega)
      have b0 := Int.mul_nonneg (show 0 ≤ mid by omega) (show 0 ≤ mid by omega)
      refine ⟨by omega, by omega, by omega, fun w => ih lo (mid - 1) l0 (by omega) (by omega) (by omega) h1 (by rw [show mid - 1 + 1 = mid by omega]; exact w), fun w => ih mid hi (by omega) (by omega) h4 (by omega) (by omega) h2⟩
theorem sM_rootOf {v : Int} (hv : 0 ≤ v ∧ v < 1600000000) (hK : K (sq v) σ) : fX12_rootOf K σ v := ⟨40000 + 1, sM_rootOf_B6 (by omega) hK _ _ _ (by decide) (by decide) (by decide) (by decide) (by omega) (by omega)⟩
theorem sM_trueX {st : tS} {k : Int} (hD : WF D) (hG : TG D st) (hM : MO σ D) (hT : MT σ st (D 2)) (k0 : 0 ≤ k) (k1 : k < st.1) (hK : K (tX D st k) σ) : fX12_trueX K σ (st.2.1 k).1 := by
  have q := hD.1
  unfold WFa at q
  have g := (hG.2.1 k k0 k1).1
  refine ⟨by omega, ?_⟩
  rw [(hT.2 k k0 k1).1, (hM.2 _ g.1 g.2).2.1]
  exact hK
theorem sM_trueY {st : tS} {k : Int} (hD : WF D) (hG : TG D st) (hM : MO σ D) (hT : MT σ st (D 2)) (k0 : 0 ≤ k) (k1 : k < st.1) (hK : K (tY D st k) σ) : fX12_trueY K σ (st.2.1 k).1 := by
  have q := hD.1
  unfold WFa at q
  have g := (hG.2.1 k k0 k1).1
  refine ⟨by omega, ?_⟩
  rw [(hT.2 k k0 k1).2, (hM.2 _ g.1 g.2).2.2.1]
  exact hK
theorem MT.fr {τ : zSt} {st : tS} {f : Int} (h : MT σ st f) (g : ∀ a b, 9 ≤ a → a ≤ 11 → τ a b = σ a b) : MT τ st f := ⟨fun j j0 j1 => by rw [g 9 j (by decide) (by decide)]; exact h.1 j j0 j1, fun k k0 k1 => by rw [g 10 _ (by decide) (by decide), g 11 _ (by decide) (by decide)]; exact h.2 k k0 k1⟩
abbrev pMc : Int → Int → Prop := fun a b => (12 ≤ a ∧ a ≤ 14) ∨ (a = 0 ∧ b = 29)
def MCj (σ : zSt) (D : zD) (st : tS) (sc j : Int) : Prop := σ 0 29 = max (j - 1) 0 ∧ ∀ k, 0 ≤ k → k + 1 < j → σ 12 k = (st.2.1 k).1 ∧ σ 13 k = (st.2.1 (k + 1)).1 ∧ σ 14 k = slen D st sc k
abbrev MC (σ : zSt) (D : zD) (st : tS) (sc : Int) : Prop := MCj σ D st sc st.1
theorem sM_cut_B9 {K : zSt → Prop} {st : tS} {sc : Int} (hD : WF D) (hG : TG D st) (s0 : 0 ≤ sc ∧ sc ≤ 1000) : ∀ (m : Nat) (f j : Int) (σ : zSt), f + m = D 2 → 0 ≤ f → jx st j f → σ 1 = D → MO σ D → MT σ st (D 2) → MCj σ D st sc j → (∀ τ, frm pMc σ τ → MC τ D st sc → K τ) → fX12_cut_B9 K (m + 1) σ sc (if j = 0 then -1 else (st.2.1 (j - 1)).1) f := by
  have q := hD.1
  unfold WFa at q
  have g1 := hG.1
  intro m
  induction m with
  | zero =>
    intro f j σ e f0 hj hd hM hT hC hk
    have e2 : σ 1 2 = D 2 := by rw [hd]
    rw [uX12_cut_B9, e2]
    refine ⟨by omega, by omega, fun _ => hk σ frm.rf ?_, fun h => (h (by omega)).elim⟩
    have : j = st.1 := by
      rcases Classical.em (j < st.1) with w | w
      · have a := hj.2.2 j (by omega) w
        have b := (hG.2.1 j hj.1.1 w).1
        omega
      · have := hj.1; omega
    rw [this] at hC; exact hC
  | succ m ih =>
    intro f j σ e f0 hj hd hM hT hC hk
    have e2 : σ 1 2 = D 2 := by rw [hd]
    rw [uX12_cut_B9, e2]
    rcases jx_at hG hT f0 (by omega) hj with ⟨j1, je, n9, hj2⟩ | ⟨n9, hj2⟩
    · rw [n9]
      refine ⟨by omega, by omega, fun h => by omega, fun h => ⟨by omega, by decide, fun z => absurd z (by decide), fun _ => ?_⟩⟩
      by_cases z : j = 0
      · rw [if_pos z]
        refine ⟨by decide, fun _ => ?_, fun w => absurd (by decide) w⟩
        have hh := ih (f + 1) (j + 1) σ (by omega) (by omega) hj2 hd hM hT ⟨by rw [hC.1]; omega, fun k k0 k1 => by omega⟩ hk
        rw [if_neg (by omega), show j + 1 - 1 = j by omega, je] at hh
        exact hh
      · rw [if_neg z]
        have gj := (hG.2.1 (j - 1) (by have := hj.1; omega) (by omega)).1
        have jb := hj.1
        refine ⟨by omega, fun w => by omega, fun _ => ?_⟩
        have nn := slen_n hD hG (k := j - 1) (by omega) (by omega) s0
        rw [show j - 1 + 1 = j by omega] at nn
        have c1 : σ 0 29 = j - 1 := by rw [hC.1]; omega
        rw [← je]
        refine sM_trueX hD hG hM hT jb.1 j1 (sM_trueX hD hG hM hT (by omega) (by omega) (sM_trueY hD hG hM hT jb.1 j1 (sM_trueY hD hG hM hT (by omega) (by omega) ?_)))
        rw [c1]
        refine ⟨by omega, fun σ12 e12 => ?_⟩
        have c12 : σ12 0 29 = j - 1 := by rw [e12, zu_ne (by omega)]; exact c1
        rw [c12]
        refine ⟨by omega, fun σ14 e14 => sM_rootOf (by omega) ?_⟩
        have c14 : σ14 0 29 = j - 1 := by rw [e14, zu_ne (by omega)]; exact c12
        rw [c14]
        refine ⟨by omega, fun σ17 e17 σ18 e18 => ?_⟩
        have c17 : σ17 0 29 = j - 1 := by rw [e17, zu_ne (by omega)]; exact c14
        rw [c17] at e18
        have hf : frm pMc σ σ18 := by rw [e18, e17, e14, e12]; exact (((frm.rf.z (by omega)).z (by omega)).z (by omega)).z (by omega)
        have esl : sq (((tX D st j - tX D st (j - 1)) * (tX D st j - tX D st (j - 1)) + (tY D st j - tY D st (j - 1)) * (tY D st j - tY D st (j - 1))) * sc * sc) = slen D st sc (j - 1) := by unfold slen; rw [show j - 1 + 1 = j by omega]
        have hh := ih (f + 1) (j + 1) σ18 (by omega) (by omega) hj2 (hf.D hd (fun b => by omega)) (hM.mv (fun a b z => hf a b (by omega))) (hT.fr (fun a b a0 a1 => hf a b (by omega))) ⟨by rw [e18, zu_eq]; omega, fun k k0 k1 => ?_⟩ (fun τ h1 h2 => hk τ (hf.tr h1) h2)
        · rw [if_neg (by omega), show j + 1 - 1 = j by omega, je] at hh
          rw [je]
          exact hh
        · by_cases w : k = j - 1
          · rw [w, show j - 1 + 1 = j by omega]
            refine ⟨?_, ?_, ?_⟩
            · rw [e18, zu_ne (by omega), e17, zu_ne (by omega), e14, zu_ne (by omega), e12, zu_eq]
            · rw [e18, zu_ne (by omega), e17, zu_ne (by omega), e14, zu_eq]
            · rw [e18, zu_ne (by omega), e17, zu_eq, esl]
          · obtain ⟨x, y, zz⟩ := hC.2 k k0 (by omega)
            refine ⟨?_, ?_, ?_⟩
            · rw [e18, zu_ne (by omega), e17, zu_ne (by omega), e14, zu_ne (by omega), e12, zu_ne (by omega)]; exact x
            · rw [e18, zu_ne (by omega), e17, zu_ne (by omega), e14, zu_ne (by omega), e12, zu_ne (by omega)]; exact y
            · rw [e18, zu_ne (by omega), e17, zu_ne (by omega), e14, zu_ne (by omega), e12, zu_ne (by omega)]; exact zz
    · rw [n9]
      exact ⟨by omega, by omega, fun h => by omega, fun h => ⟨by omega, by decide, fun _ => ih (f + 1) j σ (by omega) (by omega) hj2 hd hM hT hC hk, fun z => (z rfl).elim⟩⟩
theorem sM_cut {K : zSt → Prop} {st : tS} {sc : Int} (hd : σ 1 = D) (hD : WF D) (hG : TG D st) (s0 : 0 ≤ sc ∧ sc ≤ 1000) (hM : MO σ D) (hT : MT σ st (D 2)) (hK : ∀ τ, frm pMc σ τ → MC τ D st sc → K τ) : fX12_cut K σ sc := by
  have q := hD.1
  unfold WFa at q
  intro σ1 e1
  have hf : frm pMc σ σ1 := by rw [e1]; exact frm.wr (by omega)
  have hh := sM_cut_B9 (K := K) hD hG s0 (D 2).toNat 0 0 σ1 (by omega) (by decide) ⟨⟨by decide, hG.1.1⟩, fun k k0 k1 => by omega, fun k k0 k1 => (hG.2.1 k k0 k1).1.1⟩ (hf.D hd (fun b => by omega)) (hM.mv (fun a b z => hf a b (by omega))) (hT.fr (fun a b a0 a1 => hf a b (by omega))) ⟨by rw [e1, zu_eq]; decide, fun k k0 k1 => by omega⟩ (fun τ h1 h2 => hK τ (hf.tr h1) h2)
  exact ⟨_, hh⟩
theorem sM_dayOf {k : Int} {st : tS} (hd : σ 1 = D) (hD : WF D) (hG : TG D st) (k0 : 0 ≤ k) (k1 : k < st.1) (hK : K (tday D st k) σ) : fX12_dayOf K σ (st.2.1 k).1 := by
  have q := hD.1
  unfold WFa at q
  have g := (hG.2.1 k k0 k1).1
  refine ⟨by omega, ?_⟩
  unfold tday at hK
  rw [if_pos ⟨k0, k1⟩] at hK
  rw [hd]; exact hK
theorem sM_speedOf {k sc : Int} {st : tS} (hd : σ 1 = D) (hD : WF D) (hG : TG D st) (hC : MC σ D st sc) (s0 : 0 ≤ sc ∧ sc ≤ 1000) (k0 : 0 ≤ k) (k1 : k + 1 < st.1) (hK : K (spd D st sc k) σ) : fX12_speedOf K σ k := by
  have g1 := hG.1
  have a := slen_b hD hG k0 k1 s0
  have b := tday_lt hD hG k0 (show k < k + 1 by omega) k1
  have c := tday_b hD hG k
  have d := tday_b hD hG (k + 1)
  obtain ⟨x, y, z⟩ := hC.2 k k0 k1
  unfold fX12_speedOf
  rw [y]
  refine ⟨by omega, sM_dayOf hd hD hG (by omega) k1 ?_⟩
  rw [x]
  refine sM_dayOf hd hD hG k0 (by omega) ?_
  rw [z]
  exact ⟨by omega, by omega, by omega, hK⟩
theorem sM_mean_B13 {sc : Int} {st : tS} (hd : σ 1 = D) (hD : WF D) (hG : TG D st) (hC : MC σ D st sc) (s0 : 0 ≤ sc ∧ sc ≤ 1000) (hn : 1 < st.1) (hK : K (avg D st sc) σ) : ∀ (m : Nat) (k a : Int), k + m = tseg st → 0 ≤ k → lp (fun k a => a + slen D st sc k) m k a = ssum D st sc → fX12_mean_B13 K (m + 1) σ a k := by
  have g1 := hG.1
  have sb := ssum_b hD hG s0
  have ts : tseg st = st.1 - 1 := by unfold tseg; omega
  have c1 : σ 0 29 = st.1 - 1 := by rw [hC.1]; omega
  have b := tday_lt hD hG (j := 0) (k := st.1 - 1) (by decide) (by omega) (by omega)
  have c := tday_b hD hG 0
  have d := tday_b hD hG (st.1 - 1)
  intro m
  induction m with
  | zero =>
    intro k a e k0 hs
    rw [lp_0] at hs
    rw [uX12_mean_B13, c1]
    refine ⟨by omega, by omega, fun _ => ⟨by omega, ?_⟩, fun h => (h (by omega)).elim⟩
    obtain ⟨-, y, -⟩ := hC.2 (st.1 - 1 - 1) (by omega) (by omega)
    rw [y, show st.1 - 1 - 1 + 1 = st.1 - 1 by omega]
    refine sM_dayOf hd hD hG (by omega) (by omega) ?_
    rw [(hC.2 0 (by decide) (by omega)).1]
    refine sM_dayOf hd hD hG (by decide) (by omega) ⟨by omega, by omega, by omega, ?_⟩
    unfold avg at hK
    rw [if_neg (by omega)] at hK
    rw [hs]; exact hK
  | succ m ih =>
    intro k a e k0 hs
    rw [lp_s] at hs
    rw [uX12_mean_B13, c1]
    refine ⟨by omega, by omega, fun h => by omega, fun h => ⟨by omega, ?_⟩⟩
    rw [(hC.2 k k0 (by omega)).2.2]
    exact ih (k + 1) _ (by omega) (by omega) hs
theorem sM_mean {sc : Int} {st : tS} (hd : σ 1 = D) (hD : WF D) (hG : TG D st) (hC : MC σ D st sc) (s0 : 0 ≤ sc ∧ sc ≤ 1000) (hK : K (avg D st sc) σ) : fX12_mean K σ := by
  have g1 := hG.1
  unfold fX12_mean
  rw [hC.1]
  refine ⟨by omega, fun z => ?_, fun z => ⟨(tseg st).toNat + 1, sM_mean_B13 hd hD hG hC s0 (by omega) hK _ _ _ (by unfold tseg; omega) (by decide) rfl⟩⟩
  unfold avg at hK
  rwa [if_pos (by omega)] at hK
theorem sM_positionOn_B5 {st : tS} {day col : Int} {C : Int → Int} (hd : σ 1 = D) (hD : WF D) (hG : TG D st) (hM : MO σ D) (hT : MT σ st (D 2)) (hdr : zrg day) (hcol : (col = 1 ∧ C = tX D st) ∨ (col = 0 ∧ C = tY D st)) (hK : K (tpos D st C day) σ) : ∀ (m : Nat) (f j : Int), f + m = D 2 → 0 ≤ f → jx st j f → (∀ k, 0 ≤ k → k < j → tday D st k < day) → fX12_positionOn_B5 K (m + 1) σ day col (if j = 0 then -1 else (st.2.1 (j - 1)).1) f := by
  have q := hD.1
  unfold WFa at q
  have g1 := hG.1
  have e2 : σ 1 2 = D 2 := by rw [hd]
  have hC : ∀ k, 0 ≤ k → k < st.1 → -3 ≤ C k ∧ C k ≤ 14 := fun k k0 k1 => by
    have := tX_b hD hG k0 k1
    rcases hcol with ⟨-, rfl⟩ | ⟨-, rfl⟩ <;> omega
  have out : tpo D st day → K (-2147483648) σ := fun z => by unfold tpos at hK; rwa [if_pos z] at hK
  have at' : ∀ e, ¬ tpo D st day → tpP D st day e → K (tpv D st C day e) σ := fun e z h => by
    unfold tpos at hK
    rw [if_neg z, tpe_u hD hG h] at hK
    exact hK
  intro m
  induction m with
  | zero =>
    intro f j e f0 hj ha
    rw [uX12_positionOn_B5, e2]
    refine ⟨by omega, by omega, fun _ => out ?_, fun h => (h (by omega)).elim⟩
    have ej : j = st.1 := by
      rcases Classical.em (j < st.1) with w | w
      · have a := hj.2.2 j (by omega) w
        have b := (hG.2.1 j hj.1.1 w).1
        omega
      · have := hj.1; omega
    by_cases z : st.1 = 0
    · exact Or.inl z
    · exact Or.inr (Or.inr (ha (st.1 - 1) (by omega) (by omega)))
  | succ m ih =>
    intro f j e f0 hj ha
    rw [uX12_positionOn_B5, e2]
    rcases jx_at hG hT f0 (by omega) hj with ⟨j1, je, n9, hj2⟩ | ⟨n9, hj2⟩
    · rw [n9]
      have jb := hj.1
      have hd0 := tday_b hD hG j
      have B48 : fX12_positionOn_B48 K (fX12_positionOn_B5 K (m + 1)) σ day col (if j = 0 then -1 else (st.2.1 (j - 1)).1) f (C j) := by
        have prev : j ≠ 0 → tday D st (j - 1) < day := fun z => ha (j - 1) (by omega) (by omega)
        have nout : tday D st j = day ∨ (day < tday D st j ∧ j ≠ 0) → ¬ tpo D st day := fun z y => by
          have l0 : tday D st 0 ≤ tday D st j := by
            by_cases w : j = 0
            · rw [w]; omega
            · have := tday_lt hD hG (j := 0) (k := j) (by decide) (by omega) j1; omega
          have l1 : tday D st j ≤ tday D st (st.1 - 1) := by
            by_cases w : j = st.1 - 1
            · rw [w]; omega
            · have := tday_lt hD hG (j := j) (k := st.1 - 1) jb.1 (by omega) (by omega); omega
          have l2 : j ≠ 0 → tday D st 0 ≤ tday D st (j - 1) := fun w => by
            by_cases v : j - 1 = 0
            · rw [v]; omega
            · have := tday_lt hD hG (j := 0) (k := j - 1) (by decide) (by omega) (by omega); omega
          rcases z with z | ⟨z, z2⟩
          · rcases y with y | y | y <;> omega
          · have := prev z2
            have := l2 z2
            rcases y with y | y | y <;> omega
        unfold fX12_positionOn_B48
        rw [← je]
        refine sM_dayOf hd hD hG jb.1 j1 ⟨by omega, hdr, fun z => ?_, fun z => sM_dayOf hd hD hG jb.1 j1 ⟨by omega, fun w => ?_, fun w => ?_⟩⟩
        · have := at' j (nout (Or.inl z)) ⟨⟨jb.1, j1⟩, by omega, fun w => by have := tday_lt hD hG jb.1 (show j < j + 1 by omega) w; omega⟩
          unfold tpv at this
          by_cases w : j + 1 < st.1
          · rw [if_pos w, show day - tday D st j = 0 by omega] at this
            simpa using this
          · rw [if_neg w] at this; exact this
        · have hh := ih (f + 1) (j + 1) (by omega) (by omega) hj2 (fun k k0 k1 => by
            by_cases y : k = j
            · rw [y]; omega
            · exact ha k k0 (by omega))
          rw [if_neg (by omega), show j + 1 - 1 = j by omega, je] at hh
          rw [je]
          exact hh
        · by_cases y : j = 0
          · rw [if_pos y]
            refine ⟨by decide, fun v => absurd v (by decide), fun _ => out (Or.inr (Or.inl ?_))⟩
            rw [← y]; omega
          · rw [if_neg y]
            have gj := (hG.2.1 (j - 1) (by omega) (by omega)).1
            have pv := prev y
            have pd := tday_b hD hG (j - 1)
            have P : tpP D st day (j - 1) := ⟨by omega, by omega, fun _ => by rw [show j - 1 + 1 = j by omega]; omega⟩
            have kk := at' (j - 1) (nout (Or.inr ⟨by omega, y⟩)) P
            have nn := tpn hD hG hC P (by omega)
            unfold tpv at kk
            rw [if_pos (by omega), show j - 1 + 1 = j by omega] at kk
            rw [show j - 1 + 1 = j by omega] at nn
            have B101 : fX12_positionOn_B101 K σ day (st.2.1 (j - 1)).1 (st.2.1 j).1 (C j) (C (j - 1)) := by
              refine sM_dayOf hd hD hG (by omega) (by omega) (sM_dayOf hd hD hG jb.1 j1 (sM_dayOf hd hD hG (by omega) (by omega) (sM_floorOf nn (by omega) (by omega) kk)))
            refine ⟨by omega, fun _ => ?_, fun v => by omega⟩
            rcases hcol with ⟨hc, hC2⟩ | ⟨hc, hC2⟩
            · rw [hc] at *
              refine ⟨by decide, fun v => absurd v (by decide), fun _ => sM_trueX hD hG hM hT (by omega) (by omega) ?_⟩
              rw [hC2] at B101
              rw [hC2]
              exact B101
            · rw [hc] at *
              refine ⟨by decide, fun _ => sM_trueY hD hG hM hT (by omega) (by omega) ?_, fun v => (v rfl).elim⟩
              rw [hC2] at B101
              rw [hC2]
              exact B101
      refine ⟨by omega, by omega, fun h => by omega, fun h => ⟨by omega, by decide, fun z => absurd z (by decide), fun _ => ?_⟩⟩
      rcases hcol with ⟨hc, hC2⟩ | ⟨hc, hC2⟩
      · refine ⟨by omega, fun z => by omega, fun _ => ?_⟩
        have := sM_trueX (K := fun r7 σ7 => fX12_positionOn_B48 K (fX12_positionOn_B5 K (m + 1)) σ7 day col (if j = 0 then -1 else (st.2.1 (j - 1)).1) f r7) hD hG hM hT jb.1 j1 (by rw [hC2] at B48; exact B48)
        rw [je] at this
        exact this
      · refine ⟨by omega, fun _ => ?_, fun z => by omega⟩
        have := sM_trueY (K := fun r7 σ7 => fX12_positionOn_B48 K (fX12_positionOn_B5 K (m + 1)) σ7 day col (if j = 0 then -1 else (st.2.1 (j - 1)).1) f r7) hD hG hM hT jb.1 j1 (by rw [hC2] at B48; exact B48)
        rw [je] at this
        exact this
    · rw [n9]
      exact ⟨by omega, by omega, fun h => by omega, fun h => ⟨by omega, by decide, fun _ => ih (f + 1) j (by omega) (by omega) hj2 ha, fun z => (z rfl).elim⟩⟩
theorem sM_positionOn {st : tS} {day col : Int} {C : Int → Int} (hd : σ 1 = D) (hD : WF D) (hG : TG D st) (hM : MO σ D) (hT : MT σ st (D 2)) (hdr : zrg day) (hcol : (col = 1 ∧ C = tX D st) ∨ (col = 0 ∧ C = tY D st)) (hK : K (tpos D st C day) σ) : fX12_positionOn K σ day col := by
  have q := hD.1
  unfold WFa at q
  have hh := sM_positionOn_B5 hd hD hG hM hT hdr hcol hK (D 2).toNat 0 0 (by omega) (by decide) ⟨⟨by decide, hG.1.1⟩, fun k k0 k1 => by omega, fun k k0 k1 => (hG.2.1 k k0 k1).1.1⟩ (fun k k0 k1 => by omega)
  exact ⟨_, hh⟩
end SZ
