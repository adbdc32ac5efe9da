/-! the reference takes a reading out -/
def RC (D D' : zD) (t p : Int) : Prop := (∀ i, stO t i → D' i = D i) ∧ nS D' t = nS D t - 1 ∧ ∀ r, 0 ≤ r → r < nS D t - 1 → dS D' t r = dS (rcut D t p) t r ∧ lS D' t r = lS (rcut D t p) t r
section RF
variable {D : zD} {t : Int} {n : Nat} {H : Nat → zD}
theorem sM_removeReading_B35 {K : Int → zSt → Prop} {σ0 : zSt} {p : Int} (hp : 0 ≤ p) (hn : nS D t ≤ 8) (ht3 : 0 ≤ t ∧ t < 3) (pn : p < nS D t) (hK : ∀ τ, frm (fun a _ => a = 1) σ0 τ → RC D (τ 1) t p → K (nS D t - 1) τ) : ∀ (m : Nat) (j : Int) (σ : zSt), j + m = nS D t - 1 → p ≤ j → frm (fun a _ => a = 1) σ0 σ → (∀ i, stO t i ∨ i = 32 + t → σ 1 i = D i) → (∀ r, 0 ≤ r → r < nS D t → dS (σ 1) t r = (if p ≤ r ∧ r < j then dS D t (r + 1) else dS D t r) ∧ lS (σ 1) t r = (if p ≤ r ∧ r < j then lS D t (r + 1) else lS D t r)) → fX12_removeReading_B35 K (m + 1) σ t j := by
  intro m
  induction m with
  | zero =>
    intro j σ e jn fr ho hs
    have c0 : σ 1 (32 + t) = nS D t := ho _ (Or.inr rfl)
    rw [uX12_removeReading_B35]
    refine ⟨⟨by omega, by omega⟩, ?_⟩
    rw [c0]
    refine ⟨by omega, by omega, fun _ => ⟨by omega, fun σ12 e12 => ⟨⟨by omega, by omega⟩, ?_⟩⟩, fun z => (z (by omega)).elim⟩
    rw [c0] at e12
    have cn : σ12 1 (32 + t) = nS D t - 1 := by rw [e12, zu_eq]
    have k : ∀ i, i ≠ 32 + t → σ12 1 i = σ 1 i := fun i a => by rw [e12, zu_ne (by omega)]
    rw [cn]
    refine hK σ12 (by rw [e12]; exact fr.z rfl) ⟨fun i hi => ?_, cn, fun r r0 r1 => ?_⟩
    · rw [k i hi.1]; exact ho i (Or.inl hi)
    · have y := hs r r0 (by omega)
      rw [rcut_d ht3 r0 (by omega), rcut_l ht3 r0 (by omega), show dS (σ12 1) t r = dS (σ 1) t r from k _ (by omega), show lS (σ12 1) t r = lS (σ 1) t r from k _ (by omega), y.1, y.2]
      by_cases w : r < p
      · rw [if_pos w, if_pos w, if_neg (by omega), if_neg (by omega)]; exact ⟨rfl, rfl⟩
      · rw [if_neg w, if_neg w, if_pos (show p ≤ r ∧ r < j by omega), if_pos (show p ≤ r ∧ r < j by omega), if_neg (show ¬ r = 7 by omega), if_neg (show ¬ r = 7 by omega)]; exact ⟨rfl, rfl⟩
  | succ m ih =>
    intro j σ e jn fr ho hs
    have c0 : σ 1 (32 + t) = nS D t := ho _ (Or.inr rfl)
    have y := hs (j + 1) (by omega) (by omega)
    rw [if_neg (by omega), if_neg (by omega)] at y
    have y1 : σ 1 (35 + 8 * t + (j + 1)) = dS D t (j + 1) := y.1
    have y2 : σ 1 (59 + 8 * t + (j + 1)) = lS D t (j + 1) := y.2
    rw [uX12_removeReading_B35]
    refine ⟨⟨by omega, by omega⟩, ?_⟩
    rw [c0]
    refine ⟨by omega, by omega, fun z => by omega, fun _ => ⟨by omega, ?_⟩⟩
    rw [y1]
    refine ⟨by omega, fun σ16 e16 => ⟨by omega, ?_⟩⟩
    have y3 : σ16 1 (59 + 8 * t + (j + 1)) = lS D t (j + 1) := by rw [e16, zu_ne (by omega)]; exact y2
    rw [y3]
    refine ⟨by omega, fun σ19 e19 => ih (j + 1) σ19 (by omega) (by omega) (by rw [e19, e16]; exact (fr.z rfl).z rfl) (fun i hi => ?_) (fun r r0 r1 => ?_)⟩
    · rw [e19, zu_ne (by omega), e16, zu_ne (by omega)]; exact ho i hi
    · by_cases z : r = j
      · rw [z, if_pos ⟨jn, by omega⟩, if_pos ⟨jn, by omega⟩]
        refine ⟨?_, ?_⟩
        · show σ19 1 (35 + (8 * t) + j) = _
          rw [e19, zu_ne (by omega), e16, zu_eq]
        · show σ19 1 (59 + (8 * t) + j) = _
          rw [e19, zu_eq]
      · have x := hs r r0 r1
        have k1 : dS (σ19 1) t r = dS (σ 1) t r := by show σ19 1 (35 + (8 * t) + r) = σ 1 (35 + (8 * t) + r); rw [e19, zu_ne (by omega), e16, zu_ne (by omega)]
        have k2 : lS (σ19 1) t r = lS (σ 1) t r := by show σ19 1 (59 + (8 * t) + r) = σ 1 (59 + (8 * t) + r); rw [e19, zu_ne (by omega), e16, zu_ne (by omega)]
        rw [k1, k2, x.1, x.2]
        by_cases w : p ≤ r ∧ r < j
        · rw [if_pos w, if_pos w, if_pos ⟨w.1, by omega⟩, if_pos ⟨w.1, by omega⟩]; exact ⟨rfl, rfl⟩
        · rw [if_neg w, if_neg w, if_neg (by omega), if_neg (by omega)]; exact ⟨rfl, rfl⟩
theorem rM_removeReading {K : Int → zSt → Prop} {σ : zSt} {day : Int} (hd : σ 1 = D) (hD : WF D) (hr0 : HR σ n H) (ht : zrg t) (hdy : zrg day) (h1 : isSk D t → ∀ p, 0 ≤ p → p < nS D t → dS D t p = day → ∀ τ, frm pMm σ τ → RC D (τ 1) t p → HR τ (rec1 n) (hcn D H) → K (nS D t - 1) τ) (h0 : ¬ (isSk D t ∧ ∃ p, 0 ≤ p ∧ p < nS D t ∧ dS D t p = day) → ∀ τ, frm p4 σ τ → K (-1) τ) : fX12_removeReading K σ t day := fun σ1 e1 => by
  have fr : frm p4 σ σ1 := by rw [e1]; exact frm.wr ⟨rfl, rfl⟩
  have d1 : σ1 1 = D := p4_D fr hd
  have hr : HR σ1 n H := hr0.fr (fun b => fr 3 b (by omega)) (fr 0 3 (by omega)) (fun i _ => fr 1 i (by omega))
  refine sM_isStake d1 hD ht (fun t0 t1 => zb1 ?_) (fun z => zb0 (h0 (fun y => z y.1) σ1 fr))
  have hs : isSk D t := ⟨t0, t1⟩
  have t3 := isSk3 hD hs
  have nb := nS_b hD hs
  refine sM_readingOn d1 hD hs hdy (fun q q0 q1 eq => ⟨by omega, fun _ => sM_remember hr (fun τ u1 u2 => ?_), fun z => by omega⟩) (fun hn => ⟨by decide, fun z => absurd z (by decide), fun _ => h0 (fun ⟨_, p, p0, p1, e⟩ => hn p p0 p1 e) σ1 fr⟩)
  have d2 : τ 1 = D := u1.D d1 (fun b => by omega)
  rw [d1] at u2
  refine sM_readingOn d2 hD hs hdy (fun p p0 p1 e => ?_) (fun hn => (hn q q0 q1 eq).elim)
  have hh := sM_removeReading_B35 (K := K) (σ0 := τ) (p := p) p0 nb.2 t3 p1 (fun υ v1 v2 => h1 hs p p0 p1 e υ ((fr.mo (fun a b z => by omega)).tr ((u1.mo (fun a b z => by omega)).tr (v1.mo (fun a b z => Or.inl z)))) v2 (u2.fr (fun b => v1 3 b (by omega)) (v1 0 3 (by omega)) (fun i hi => by rw [v2.1 i (by omega), d2]))) (nS D t - 1 - p).toNat p τ (by omega) (by omega) frm.rf (fun i _ => by rw [d2]) (fun r r0 r1 => by
      rw [d2, if_neg (by omega), if_neg (by omega)]
      exact ⟨rfl, rfl⟩)
  exact ⟨_, hh⟩
end RF
