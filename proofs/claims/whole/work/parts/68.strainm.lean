/-! the reference: direction, strain, the fastest feature -/
def dirv (a b : Int) : Int := if a = 0 ∧ b = 0 then -1 else if (a.natAbs : Int) ≤ 2 * (b.natAbs : Int) then (if (b.natAbs : Int) ≤ 2 * (a.natAbs : Int) then (if a ≤ 0 then (if b ≤ 0 then 5 else 3) else (if b ≤ 0 then 7 else 1)) else (if b ≤ 0 then 6 else 2)) else (if a ≤ 0 then 4 else 0)
def cmn (st st2 : tS) (f : Int) (p : Int × Int) : Int × Int := if tfd st f ≠ -1 ∧ tfd st2 f ≠ -1 then (if 0 ≤ p.1 then (p.1, f) else (f, f)) else p
def dst (D : zD) (st st2 : tS) (f : Int) : Int := tdis D st st2 (tfd st f) (tfd st2 f)
def cfl (D : zD) (st st2 : tS) : Int × Int := lp (cmn st st2) (D 2).toNat 0 (-1, -1)
def strv (D : zD) (st st2 : tS) : Int := if (cfl D st st2).1 = (cfl D st st2).2 then -2147483648 else dst D st st2 (cfl D st st2).2 - dst D st st2 (cfl D st st2).1
theorem tfd_t {D : zD} {st : tS} {f : Int} (hG : TG D st) : tfd st f ≠ -1 ↔ tin st f := by
  constructor
  · intro h
    rcases Classical.em (tin st f) with z | z
    · exact z
    · exact absurd (tfd_no hG.1.1 z) h
  · rintro ⟨k, k0, k1, e⟩
    rw [tfd_in hG k0 k1 e]
    omega
def cI (st st2 : tS) (f : Int) (p : Int × Int) : Prop := (p.1 = -1 ∧ p.2 = -1) ∨ ((0 ≤ p.1 ∧ p.1 ≤ p.2 ∧ p.2 < f) ∧ (tin st p.1 ∧ tin st2 p.1) ∧ (tin st p.2 ∧ tin st2 p.2))
theorem cI_s {D : zD} {st st2 : tS} {f : Int} {p : Int × Int} (hG : TG D st) (hG2 : TG D st2) (f0 : 0 ≤ f) (h : cI st st2 f p) : cI st st2 (f + 1) (cmn st st2 f p) := by
  unfold cmn
  by_cases z : tfd st f ≠ -1 ∧ tfd st2 f ≠ -1
  · rw [if_pos z]
    have t1 := (tfd_t hG).mp z.1
    have t2 := (tfd_t hG2).mp z.2
    rcases h with h | ⟨h1, h2, h3⟩
    · rw [if_neg (by omega)]
      exact Or.inr ⟨⟨f0, Int.le_refl f, by show f < f + 1; omega⟩, ⟨t1, t2⟩, ⟨t1, t2⟩⟩
    · rw [if_pos h1.1]
      exact Or.inr ⟨⟨h1.1, by show p.1 ≤ f; omega, by show f < f + 1; omega⟩, h2, ⟨t1, t2⟩⟩
  · rw [if_neg z]
    rcases h with h | ⟨h1, h2, h3⟩
    · exact Or.inl h
    · exact Or.inr ⟨⟨h1.1, h1.2.1, by omega⟩, h2, h3⟩
def MS (σ : zSt) (D : zD) (st : tS) (hi : Int) : Prop := ∀ f, 0 ≤ f → f < hi → (σ 19 f = 0 ∨ σ 19 f = 1) ∧ (σ 19 f = 1 ↔ tin st f) ∧ (∀ k, 0 ≤ k → k < st.1 → (st.2.1 k).1 = f → σ 20 f = tX D st k ∧ σ 21 f = tY D st k)
abbrev pMs : Int → Int → Prop := fun a _ => 19 ≤ a ∧ a ≤ 21
section TZ
variable {K : Int → zSt → Prop} {D : zD} {σ : zSt}
theorem sM_abs {x : Int} (hx : -2147483648 < x ∧ x ≤ 2147483647) (hK : K (x.natAbs : Int) σ) : fX12_absolute K σ x :=
  ⟨by omega, fun z => by rw [show x = (x.natAbs : Int) by omega]; exact hK, fun z => by rw [show -x = (x.natAbs : Int) by omega]; exact hK⟩
theorem sM_direction_B83 {a b : Int} (ha : -1000 ≤ a ∧ a ≤ 1000) (hb : -1000 ≤ b ∧ b ≤ 1000) (hn : ¬ (a = 0 ∧ b = 0)) (hK : K (dirv a b) σ) : fX12_direction_B83 K σ a b := by
  have k : ∀ r, dirv a b = r → K r σ := fun r e => by rw [← e]; exact hK
  refine sM_abs (by omega) (sM_abs (by omega) ⟨by omega, by omega, fun z => sM_abs (by omega) (sM_abs (by omega) ⟨by omega, by omega, fun w => ⟨by omega, fun u => ⟨by omega, fun v => k _ ?_, fun v => k _ ?_⟩, fun u => ⟨by omega, fun v => k _ ?_, fun v => k _ ?_⟩⟩, fun w => ⟨by omega, fun v => k _ ?_, fun v => k _ ?_⟩⟩), fun z => ⟨by omega, fun v => k _ ?_, fun v => k _ ?_⟩⟩)
  · unfold dirv; rw [if_neg hn, if_pos z, if_pos w, if_pos u, if_pos v]
  · unfold dirv; rw [if_neg hn, if_pos z, if_pos w, if_pos u, if_neg v]
  · unfold dirv; rw [if_neg hn, if_pos z, if_pos w, if_neg u, if_pos v]
  · unfold dirv; rw [if_neg hn, if_pos z, if_pos w, if_neg u, if_neg v]
  · unfold dirv; rw [if_neg hn, if_pos z, if_neg w, if_pos v]
  · unfold dirv; rw [if_neg hn, if_pos z, if_neg w, if_neg v]
  · unfold dirv; rw [if_neg hn, if_neg z, if_pos v]
  · unfold dirv; rw [if_neg hn, if_neg z, if_neg v]
def trv (st : tS) (C : Int → Int) : Int := if st.1 = 0 then 0 else C (st.1 - 1) - C 0
def A_direction (D : zD) (i : Int) : Int × Int := if isFt D i then (0, dirv (trv (tk D i) (tX D (tk D i))) (trv (tk D i) (tY D (tk D i)))) else (1, 0)
theorem trv_b {st : tS} (hD : WF D) (hG : TG D st) : (-100 ≤ trv st (tX D st) ∧ trv st (tX D st) ≤ 100) ∧ (-100 ≤ trv st (tY D st) ∧ trv st (tY D st) ≤ 100) := by
  have g1 := hG.1
  unfold trv
  by_cases z : st.1 = 0
  · rw [if_pos z, if_pos z]; omega
  · have a := tX_b hD hG (k := 0) (by decide) (by omega)
    have b := tX_b hD hG (k := st.1 - 1) (by omega) (by omega)
    rw [if_neg z, if_neg z]; omega
theorem rM_direction {i : Int} (hd : σ 1 = D) (hD : WF D) (hi : zrg i) (hK : rK K σ (A_direction D i)) : fX12_direction K σ i := by
  refine sM_noSegments hd hD hi (fun i0 i1 τ u1 u2 u3 u4 u5 => zb0 ?_) (fun z τ u1 u2 => zb1 ?_)
  · rw [show A_direction D i = (0, _) by unfold A_direction; rw [if_pos ⟨i0, i1⟩]] at hK
    have hG : TG D (tk D i) := trk_G hD i0 i1
    have g1 := hG.1
    have tb := trv_b hD hG
    have hk : ∀ r, dirv (trv (tk D i) (tX D (tk D i))) (trv (tk D i) (tY D (tk D i))) = r → K r τ := fun r e => hK r τ u1 u2 (fun _ => e.symm)
    have c29 : τ 0 29 = max ((tk D i).1 - 1) 0 := u5.1
    rw [c29]
    refine ⟨by omega, fun z => hk _ ?_, fun z => ⟨by omega, ?_⟩⟩
    · have ez : ∀ C, trv (tk D i) C = 0 := fun C => by
        unfold trv
        by_cases w : (tk D i).1 = 0
        · rw [if_pos w]
        · rw [if_neg w, show (tk D i).1 - 1 = 0 by omega]; omega
      rw [ez, ez]; rfl
    · have n1 : 1 < (tk D i).1 := by omega
      have em : max ((tk D i).1 - 1) 0 - 1 = (tk D i).1 - 1 - 1 := by omega
      rw [em]
      have l0 := u5.2 0 (by decide) (by omega)
      have l1 := u5.2 ((tk D i).1 - 1 - 1) (by omega) (by omega)
      rw [show (tk D i).1 - 1 - 1 + 1 = (tk D i).1 - 1 by omega] at l1
      have ex : trv (tk D i) (tX D (tk D i)) = tX D (tk D i) ((tk D i).1 - 1) - tX D (tk D i) 0 := by unfold trv; rw [if_neg (by omega)]
      have ey : trv (tk D i) (tY D (tk D i)) = tY D (tk D i) ((tk D i).1 - 1) - tY D (tk D i) 0 := by unfold trv; rw [if_neg (by omega)]
      rw [l1.2.1]
      refine sM_trueX hD hG u3 u4 (by omega) (by omega) ?_
      rw [l0.1]
      refine sM_trueX hD hG u3 u4 (by decide) (by omega) ⟨by rw [c29]; omega, ?_⟩
      rw [c29, em, l1.2.1]
      refine sM_trueY hD hG u3 u4 (by omega) (by omega) ?_
      rw [l0.1]
      refine sM_trueY hD hG u3 u4 (by decide) (by omega) ?_
      rw [← ex, ← ey]
      refine ⟨by omega, fun za => ⟨by omega, fun zb => hk _ ?_, fun zb => sM_direction_B83 (by omega) (by omega) (by omega) (hk _ rfl)⟩, fun za => sM_direction_B83 (by omega) (by omega) (by omega) (hk _ rfl)⟩
      rw [za, zb]; rfl
  · rw [show A_direction D i = (1, 0) by unfold A_direction; rw [if_neg z]] at hK
    exact hK _ τ u1 u2 (fun w => absurd w (by decide))
theorem sM_distanceIn {st st2 : tS} {f : Int} (hD : WF D) (hG : TG D st) (hG2 : TG D st2) (hM : MO σ D) (hT : MT σ st (D 2)) (hS : MS σ D st2 (D 2)) (y1 : tin st f) (y2 : tin st2 f) (hK : K (dst D st st2 f) σ) : fX12_distanceIn K σ f := by
  have q := hD.1
  unfold WFa at q
  obtain ⟨k, k0, k1, ek⟩ := y1
  obtain ⟨j, j0, j1, ej⟩ := y2
  have g := (hG.2.1 k k0 k1).1
  have n := tdis_n hD hG hG2 k0 k1 j0 j1
  have m := (hS f (by omega) (by omega)).2.2 j j0 j1 ej
  have ev : dst D st st2 f = tdis D st st2 k j := by unfold dst; rw [tfd_in hG k0 k1 ek, tfd_in hG2 j0 j1 ej]
  rw [ev] at hK
  have hx := sM_trueX (K := fun r1 σ1 => (0 ≤ f ∧ f < 6) ∧ fX12_trueY (fun r3 σ3 => fX12_rootOf (fun r4 σ4 => K r4 σ4) σ3 (10000 * ((r1 - σ1 20 f) * (r1 - σ1 20 f) + (r3 - σ3 21 f) * (r3 - σ3 21 f)))) σ1 f) hD hG hM hT k0 k1
  rw [ek] at hx
  refine hx ⟨by omega, ?_⟩
  have hy := sM_trueY (K := fun r3 σ3 => fX12_rootOf (fun r4 σ4 => K r4 σ4) σ3 (10000 * ((tX D st k - σ 20 f) * (tX D st k - σ 20 f) + (r3 - σ3 21 f) * (r3 - σ3 21 f)))) hD hG hM hT k0 k1
  rw [ek] at hy
  refine hy ?_
  rw [m.1, m.2]
  exact sM_rootOf (by omega) hK
theorem sM_strain_B136 {st st2 : tS} (hd : σ 1 = D) (hD : WF D) (hG : TG D st) (hG2 : TG D st2) (hM : MO σ D) (hT : MT σ st (D 2)) (hS : MS σ D st2 (D 2)) (hK : K (strv D st st2) σ) : ∀ (m : Nat) (f : Int) (p : Int × Int), f + m = D 2 → 0 ≤ f → cI st st2 f p → lp (cmn st st2) m f p = cfl D st st2 → fX12_strain_B136 K (m + 1) σ p.1 p.2 f := by
  have q := hD.1
  unfold WFa at q
  have e2 : σ 1 2 = D 2 := by rw [hd]
  intro m
  induction m with
  | zero =>
    intro f p e f0 hI hs
    rw [lp_0] at hs
    rw [uX12_strain_B136, e2]
    unfold strv at hK
    rw [← hs] at hK
    have zz : zrg p.1 ∧ zrg p.2 := by
      rcases hI with h | ⟨h, -⟩
      · rw [h.1, h.2]; decide
      · exact ⟨by omega, by omega⟩
    refine ⟨by omega, by omega, fun _ => ⟨zz.1, zz.2, fun z => ?_, fun z => ?_⟩, fun h => (h (by omega)).elim⟩
    · rw [if_pos z] at hK; exact hK
    · rw [if_neg z] at hK
      rcases hI with h | ⟨h1, h2, h3⟩
      · omega
      · exact sM_distanceIn hD hG hG2 hM hT hS h3.1 h3.2 (sM_distanceIn hD hG hG2 hM hT hS h2.1 h2.2 hK)
  | succ m ih =>
    intro f p e f0 hI hs
    rw [lp_s] at hs
    have f1 : f < D 2 := by omega
    obtain ⟨t1, t2⟩ := hT.1 f f0 f1
    obtain ⟨s1, s2, -⟩ := hS f f0 f1
    have hI2 := cI_s hG hG2 f0 hI
    have nx := ih (f + 1) (cmn st st2 f p) (by omega) (by omega) hI2 hs
    rw [uX12_strain_B136, e2]
    refine ⟨by omega, by omega, fun h => by omega, fun _ => ⟨by omega, by omega, fun z => ?_, fun z => ⟨by omega, fun w => ?_, fun w => ?_⟩⟩⟩
    · rw [show cmn st st2 f p = p by unfold cmn; rw [if_neg (fun y => by have := t2.mpr ((tfd_t hG).mp y.1); omega)]] at nx
      exact nx
    · rw [show cmn st st2 f p = p by unfold cmn; rw [if_neg (fun y => by have := s2.mpr ((tfd_t hG2).mp y.2); omega)]] at nx
      exact nx
    · have y : tfd st f ≠ -1 ∧ tfd st2 f ≠ -1 := ⟨(tfd_t hG).mpr (t2.mp (by omega)), (tfd_t hG2).mpr (s2.mp (by omega))⟩
      rw [show cmn st st2 f p = if 0 ≤ p.1 then (p.1, f) else (f, f) by unfold cmn; rw [if_pos y]] at nx
      refine ⟨by rcases hI with h | ⟨h, -⟩ <;> omega, fun v => ?_, fun v => ?_⟩
      · rw [if_pos v] at nx; exact nx
      · rw [if_neg v] at nx; exact nx
theorem MS.fr {τ : zSt} {st : tS} {hi : Int} (h : MS σ D st hi) (g : ∀ a b, 19 ≤ a → a ≤ 21 → τ a b = σ a b) : MS τ D st hi := fun f f0 f1 => by
  rw [g 19 f (by decide) (by decide), g 20 f (by decide) (by decide), g 21 f (by decide) (by decide)]
  exact h f f0 f1
theorem sM_strain_B42 {st2 : tS} {i : Int} (hD : WF D) (hG2 : TG D st2) (i0 : 0 ≤ i) (i1 : i < D 4) (hK : ∀ τ, frm pMq σ τ → τ 0 4 = σ 0 4 → K (strv D (tk D i) st2) τ) : ∀ (m : Nat) (f : Int) (σ1 : zSt), f + m = D 2 → 0 ≤ f → frm pMs σ σ1 → σ1 1 = D → MO σ1 D → MT σ1 st2 (D 2) → MS σ1 D st2 f → fX12_strain_B42 K (m + 1) σ1 i f := by
  have q := hD.1
  unfold WFa at q
  have t := hD.2.1
  unfold WFs at t
  intro m
  induction m with
  | zero =>
    intro f σ1 e f0 fr hd hM hT hS
    have e2 : σ1 1 2 = D 2 := by rw [hd]
    rw [uX12_strain_B42, e2]
    refine ⟨by omega, by omega, fun _ => sM_setting (by decide) (by decide) ?_, fun h => (h (by omega)).elim⟩
    rw [hd]
    refine sM_track hd hD i0 i1 (by show 0 ≤ D 87 ∧ D 87 ≤ 9; omega) (fun τ u1 u2 u3 => ?_)
    have u3 : MT τ (tk D i) (D 2) := u3
    have ef : f = D 2 := by omega
    have hS2 : MS τ D st2 (D 2) := by rw [ef] at hS; exact hS.fr (fun a b a0 a1 => u1 a b (by omega))
    have hh := sM_strain_B136 (K := K) (u1.D hd (fun b => by omega)) hD (trk_G hD i0 i1) hG2 u2 u3 hS2 (hK τ ((fr.mo (fun a b z => by omega)).tr (u1.mo (fun a b z => by omega))) ((u1 0 4 (by omega)).trans (fr 0 4 (by omega)))) (D 2).toNat 0 (-1, -1) (by omega) (by decide) (Or.inl ⟨rfl, rfl⟩) rfl
    exact ⟨_, hh⟩
  | succ m ih =>
    intro f σ1 e f0 fr hd hM hT hS
    have e2 : σ1 1 2 = D 2 := by rw [hd]
    have f1 : f < D 2 := by omega
    obtain ⟨t1, t2⟩ := hT.1 f f0 f1
    rw [uX12_strain_B42, e2]
    have step : ∀ (σ2 : zSt), frm pMs σ1 σ2 → (σ2 19 f = σ1 9 f) → (∀ a b, b ≠ f → σ2 a b = σ1 a b) → (∀ k, 0 ≤ k → k < st2.1 → (st2.2.1 k).1 = f → σ2 20 f = tX D st2 k ∧ σ2 21 f = tY D st2 k) → fX12_strain_B42 K (m + 1) σ2 i (f + 1) := fun σ2 g1 g2 g3 g4 => by
      refine ih (f + 1) σ2 (by omega) (by omega) (fr.tr g1) (g1.D hd (fun b => by omega)) (hM.mv (fun a b z => g1 a b (by omega))) (hT.fr (fun a b a0 a1 => g1 a b (by omega))) (fun g p0 p1 => ?_)
      by_cases w : g = f
      · rw [w, g2]; exact ⟨t1, t2, g4⟩
      · rw [g3 19 g w, g3 20 g w, g3 21 g w]; exact hS g p0 (by omega)
    refine ⟨by omega, by omega, fun h => by omega, fun _ => ⟨by omega, t1, fun σ15 e15 => ?_⟩⟩
    have fr15 : frm pMs σ1 σ15 := by rw [e15]; exact frm.wr (by omega)
    have c9 : σ15 9 f = σ1 9 f := fr15 9 f (by omega)
    rw [c9]
    refine ⟨by omega, fun z => ?_, fun z => ?_⟩
    · refine ⟨by omega, fun σ29 e29 => ⟨by omega, ?_⟩⟩
      have c9' : σ29 9 f = σ1 9 f := by rw [e29, zu_ne (by omega)]; exact c9
      rw [c9']
      refine ⟨by omega, fun _ σ32 e32 => ?_, fun w => absurd z w⟩
      refine step σ32 (by rw [e32, e29]; exact (fr15.z (by omega)).z (by omega)) (by rw [e32, zu_ne (by omega), e29, zu_ne (by omega), e15, zu_eq]) (fun a b hb => by rw [e32, zu_ne (Or.inr hb), e29, zu_ne (Or.inr hb), e15, zu_ne (Or.inr hb)]) (fun k k0 k1 ek => ?_)
      have := t2.mpr ⟨k, k0, k1, ek⟩
      omega
    · obtain ⟨k, k0, k1, ek⟩ := t2.mp (by omega)
      have hM15 : MO σ15 D := hM.mv (fun a b z => fr15 a b (by omega))
      have hT15 : MT σ15 st2 (D 2) := hT.fr (fun a b a0 a1 => fr15 a b (by omega))
      have hh := sM_trueX (K := fun r17 σ17 => fX12_strain_B87 K (fX12_strain_B42 K (m + 1)) σ17 i f r17 f) hD hG2 hM15 hT15 k0 k1
      rw [ek] at hh
      refine hh ⟨by omega, fun σ29 e29 => ⟨by omega, ?_⟩⟩
      have fr29 : frm pMs σ1 σ29 := by rw [e29]; exact fr15.z (by omega)
      have c9' : σ29 9 f = σ1 9 f := fr29 9 f (by omega)
      rw [c9']
      refine ⟨by omega, fun w => absurd w z, fun _ => ?_⟩
      have hM29 : MO σ29 D := hM.mv (fun a b z => fr29 a b (by omega))
      have hT29 : MT σ29 st2 (D 2) := hT.fr (fun a b a0 a1 => fr29 a b (by omega))
      have h2 := sM_trueY (K := fun r33 σ33 => ∀ σ34, σ34 = zu σ33 21 f r33 → fX12_strain_B42 K (m + 1) σ34 i (f + 1)) hD hG2 hM29 hT29 k0 k1
      rw [ek] at h2
      refine h2 (fun σ34 e34 => ?_)
      refine step σ34 (by rw [e34]; exact fr29.z (by omega)) (by rw [e34, zu_ne (by omega), e29, zu_ne (by omega), e15, zu_eq]) (fun a b hb => by rw [e34, zu_ne (Or.inr hb), e29, zu_ne (Or.inr hb), e15, zu_ne (Or.inr hb)]) (fun k' k0' k1' ek' => ?_)
      have ekk : k' = k := by rw [← tfd_in hG2 k0' k1' ek', tfd_in hG2 k0 k1 ek]
      rw [ekk]
      exact ⟨by rw [e34, zu_ne (by omega), e29, zu_eq], by rw [e34, zu_eq]⟩
def A_strain (D : zD) (i j : Int) : Int × Int := if isFt D i ∧ isFt D j then (0, strv D (tk D i) (tk D j)) else (1, 0)
theorem rM_strain {i j : Int} (hd : σ 1 = D) (hD : WF D) (hi : zrg i) (hj : zrg j) (hK : rK K σ (A_strain D i j)) : fX12_strain K σ i j := by
  have q := hD.1
  unfold WFa at q
  have t := hD.2.1
  unfold WFs at t
  have no : ¬ (isFt D i ∧ isFt D j) → fX12_strain_B22 K σ i j 0 := fun z => by
    rw [show A_strain D i j = (1, 0) by unfold A_strain; rw [if_neg z]] at hK
    exact sM_fails0 (fun τ u1 u2 => zb1 (hK _ τ (p4_q u1) u2 (fun w => absurd w (by decide))))
  refine sM_isFeature hd hD hi (fun i0 i1 => zb1 (sM_isFeature hd hD hj (fun f0 f1 => zb1 ?_) (fun z => zb0 (no (fun w => z w.2))))) (fun z => zb0 (no (fun w => z w.1)))
  rw [show A_strain D i j = (0, _) by unfold A_strain; rw [if_pos ⟨⟨i0, i1⟩, ⟨f0, f1⟩⟩]] at hK
  refine sM_fails1 (fun τ u1 u2 => zb0 (sM_setting (by decide) (by decide) ?_))
  rw [p4_D u1 hd]
  refine sM_track (p4_D u1 hd) hD f0 f1 (by show 0 ≤ D 87 ∧ D 87 ≤ 9; omega) (fun υ v1 v2 v3 => ⟨(D 2).toNat + 1, ?_⟩)
  have uq : frm pMq σ υ := (p4_q u1).q v1 (fun a b z => by omega)
  have v4 : υ 0 4 = 0 := v1.q4 u2 (by omega)
  have v3 : MT υ (tk D j) (D 2) := v3
  exact sM_strain_B42 (σ := υ) hD (trk_G hD f0 f1) i0 i1 (fun φ w1 w2 => hK _ φ (uq.tr w1) (w2.trans v4) (fun _ => rfl)) _ 0 υ (by omega) (by decide) frm.rf (uq.D hd (fun b => by omega)) v2 v3 (fun f a b => by omega)
def fst' (D : zD) (i : Int) (p : Int × Int) : Int × Int := if (tk D i).1 ≤ 1 then p else (if p.2 < avg D (tk D i) (D 88) then (i, avg D (tk D i) (D 88)) else p)
def A_fastest (D : zD) : Int := (lp (fst' D) (D 4).toNat 0 (-1, -1)).1
theorem avg_b {st : tS} (hD : WF D) (hG : TG D st) {sc : Int} (s0 : 0 ≤ sc ∧ sc ≤ 1000) : 0 ≤ avg D st sc ∧ avg D st sc ≤ 150000 := by
  have a := ssum_b hD hG s0
  unfold avg
  by_cases z : st.1 ≤ 1
  · rw [if_pos z]; decide
  · have b := tday_lt hD hG (j := 0) (k := st.1 - 1) (by decide) (by omega) (by omega)
    rw [if_neg z, Int.tdiv_eq_ediv_of_nonneg a.1]
    exact ⟨Int.ediv_nonneg a.1 (by omega), Int.le_trans (Int.ediv_le_self _ a.1) a.2⟩
theorem sM_fastest_B11 (hD : WF D) (hK : ∀ τ, frm pMq σ τ → K (A_fastest D) τ) : ∀ (m : Nat) (i : Int) (p : Int × Int) (σ1 : zSt), i + m = D 4 → 0 ≤ i → (-1 ≤ p.2 ∧ p.2 ≤ 150000) → frm pMq σ σ1 → σ1 1 = D → lp (fst' D) m i p = lp (fst' D) (D 4).toNat 0 (-1, -1) → fX12_fastestFeature_B11 K (m + 1) σ1 p.1 p.2 i := by
  have q := hD.1
  unfold WFa at q
  have t := hD.2.1
  unfold WFs at t
  intro m
  induction m with
  | zero =>
    intro i p σ1 e i0 hp fr hd hs
    have e4 : σ1 1 4 = D 4 := by rw [hd]
    rw [lp_0] at hs
    rw [uX12_fastestFeature_B11, e4]
    refine ⟨by omega, by omega, fun _ => ?_, fun h => (h (by omega)).elim⟩
    have hk := hK σ1 fr
    unfold A_fastest at hk
    rw [← hs] at hk
    exact hk
  | succ m ih =>
    intro i p σ1 e i0 hp fr hd hs
    have e4 : σ1 1 4 = D 4 := by rw [hd]
    have i1 : i < D 4 := by omega
    rw [lp_s] at hs
    rw [uX12_fastestFeature_B11, e4]
    refine ⟨by omega, by omega, fun h => by omega, fun _ => sM_setting (by decide) (by decide) ?_⟩
    have hG : TG D (tk D i) := trk_G hD i0 i1
    have ab := avg_b hD hG (sc := D 88) (by omega)
    have g1 := hG.1
    rw [hd]
    refine sM_track hd hD i0 i1 (by show 0 ≤ D 87 ∧ D 87 ≤ 9; omega) (fun τ u1 u2 u3 => sM_setting (by decide) (by decide) ?_)
    have u3 : MT τ (tk D i) (D 2) := u3
    have d1 : τ 1 = D := u1.D hd (fun b => by omega)
    rw [d1]
    refine sM_cut d1 hD hG (by show 0 ≤ D 88 ∧ D 88 ≤ 1000; omega) u2 u3 (fun υ v1 v2 => ?_)
    have v2 : MC υ D (tk D i) (D 88) := v2
    have d2 : υ 1 = D := v1.D d1 (fun b => by omega)
    have fr2 : frm pMq σ υ := (fr.q u1 (fun a b z => by omega)).q v1 (fun a b z => by omega)
    have c29 : υ 0 29 = max ((tk D i).1 - 1) 0 := v2.1
    rw [c29]
    refine ⟨by omega, fun z => ?_, fun z => ?_⟩
    · refine ih (i + 1) p υ (by omega) (by omega) hp fr2 d2 ?_
      rw [← hs]; unfold fst'; rw [if_pos (by omega)]
    · refine sM_mean d2 hD hG v2 (by omega) ⟨by omega, by omega, fun w => sM_mean d2 hD hG v2 (by omega) ?_, fun w => ?_⟩
      · refine ih (i + 1) (i, avg D (tk D i) (D 88)) υ (by omega) (by omega) (by show -1 ≤ avg D (tk D i) (D 88) ∧ avg D (tk D i) (D 88) ≤ 150000; omega) fr2 d2 ?_
        rw [← hs]; unfold fst'; rw [if_neg (by omega), if_pos w]
      · refine ih (i + 1) p υ (by omega) (by omega) hp fr2 d2 ?_
        rw [← hs]; unfold fst'; rw [if_neg (by omega), if_neg w]
theorem rM_fastestFeature (hd : σ 1 = D) (hD : WF D) (hK : ∀ τ, frm pMq σ τ → K (A_fastest D) τ) : fX12_fastestFeature K σ := by
  have q := hD.1
  unfold WFa at q
  intro σ1 e1
  have fr : frm pMq σ σ1 := by rw [e1]; exact frm.wr (by omega)
  have hh := sM_fastest_B11 hD hK (D 4).toNat 0 (-1, -1) σ1 (by omega) (by decide) (by decide) fr (fr.D hd (fun b => by omega)) rfl
  exact ⟨_, hh⟩
end TZ
