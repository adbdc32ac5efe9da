/-! the reference: a day looked for, a reading added -/
section RE
variable {D : zD} {σ : zSt} {t : Int} {n : Nat} {H : Nat → zD}
theorem sM_readingOn {K : Int → zSt → Prop} {day : Int} (hd : σ 1 = D) (hD : WF D) (ht : isSk D t) (hdy : zrg day) (h1 : ∀ r, 0 ≤ r → r < nS D t → dS D t r = day → K r σ) (h0 : (∀ r, 0 ≤ r → r < nS D t → dS D t r ≠ day) → K (-1) σ) : fX12_readingOn K σ t day := by
  have t3 := isSk3 hD ht
  have nb := nS_b hD ht
  have L : ∀ (m : Nat) (r : Int), r + m = nS D t → 0 ≤ r → (∀ q, 0 ≤ q → q < r → dS D t q ≠ day) → fX12_readingOn_B2 K (m + 1) σ t day r := by
    intro m
    induction m with
    | zero =>
      intro r e r0 hq
      rw [uX12_readingOn_B2]
      exact sM_readings hd t3 ⟨by omega, by omega, fun _ => h0 (fun q q0 q1 => hq q q0 (by omega)), fun z => (z (by omega)).elim⟩
    | succ m ih =>
      intro r e r0 hq
      have rb := rS_b hD ht (r := r) r0 (by omega)
      rw [uX12_readingOn_B2]
      refine sM_readings hd t3 ⟨by omega, by omega, fun z => by omega, fun _ => sM_readDay hd t3 (by omega) ⟨by omega, hdy, fun z => h1 r r0 (by omega) z, fun z => ih (r + 1) (by omega) (by omega) (fun u u0 u1 => ?_)⟩⟩
      by_cases v : u = r
      · rw [v]; exact z
      · exact hq u u0 (by omega)
  exact ⟨_, L (nS D t).toNat 0 (by omega) (by decide) (fun q a b => by omega)⟩
theorem rM_addReading {K : Int → zSt → Prop} {day len : Int} (hd : σ 1 = D) (hD : WF D) (hr0 : HR σ n H) (ht : zrg t) (hdy : zrg day) (hl : zrg len) (h1 : isSk D t → 0 ≤ day → day ≤ 9999 → 0 ≤ len → len ≤ 9999 → (∀ r, 0 ≤ r → r < nS D t → dS D t r ≠ day) → nS D t < 8 → ∀ τ, frm pMm σ τ → RA D (τ 1) t (ix D t day) day len → HR τ (rec1 n) (hcn D H) → K (nS D t + 1) τ) (h3 : isSk D t → (0 ≤ day ∧ day ≤ 9999 ∧ 0 ≤ len ∧ len ≤ 9999) → (∀ r, 0 ≤ r → r < nS D t → dS D t r ≠ day) → nS D t = 8 → ∀ τ, frm p4 σ τ → K (-3) τ) (h2 : isSk D t → ¬ ((0 ≤ day ∧ day ≤ 9999 ∧ 0 ≤ len ∧ len ≤ 9999) ∧ (∀ r, 0 ≤ r → r < nS D t → dS D t r ≠ day)) → ∀ τ, frm p4 σ τ → K (-2) τ) (h0 : ¬ isSk D t → ∀ τ, frm p4 σ τ → K (-1) τ) : fX12_addReading K σ t day len := fun σ1 e1 => by
  have fr : frm p4 σ σ1 := by rw [e1]; exact frm.wr ⟨rfl, rfl⟩
  have d1 : σ1 1 = D := p4_D fr hd
  have hr : HR σ1 n H := hr0.fr (fun b => fr 3 b (by omega)) (fr 0 3 (by omega)) (fun i _ => fr 1 i (by omega))
  refine sM_isStake d1 hD ht (fun t0 t1 => zb1 (sM_inRange hdy (by decide) (by decide) (fun a b => zb1 (sM_inRange hl (by decide) (by decide) (fun c d => zb1 ?_) (fun z => zb0 (h2 ⟨t0, t1⟩ (fun y => z (by omega)) σ1 fr)))) (fun z => zb0 (h2 ⟨t0, t1⟩ (fun y => z (by omega)) σ1 fr)))) (fun z => zb0 (h0 z σ1 fr))
  have hs : isSk D t := ⟨t0, t1⟩
  have t3 := isSk3 hD hs
  have nb := nS_b hD hs
  refine sM_readingOn d1 hD hs hdy (fun r r0 r1 e => ⟨by omega, fun z => by omega, fun _ => h2 hs (fun y => y.2 r r0 r1 e) σ1 fr⟩) (fun hn => ⟨by decide, fun _ => sM_readings d1 t3 ⟨by omega, fun z => h3 hs (by omega) hn z σ1 fr, fun z => sM_remember hr (fun τ u1 u2 => ?_)⟩, fun z => absurd (by decide) z⟩)
  have d2 : τ 1 = D := u1.D d1 (fun b => by omega)
  rw [d1] at u2
  refine sM_readings d2 t3 ?_
  have hx := ix_ex (V := D) (t := t) (day := day) nb.1 (fun r r0 r1 => dS_lt2 hD hs r0 (show r < r + 1 by omega) r1)
  have hh := sM_addReading_B73 (K := K) (σ0 := τ) (p := ix D t day) (day := day) (len := len) hx.1.1 (by omega) t3 hdy (fun r r0 r1 => by have := rS_b hD hs r0 r1; omega) hx.2.1 (fun r r0 r1 => by
    have x := hx.2.2 r r0 r1
    have y := hn r (by have := hx.1; omega) r1
    omega) (fun υ v1 v2 => h1 hs a b c d hn (by omega) υ ((fr.mo (fun a b z => by omega)).tr ((u1.mo (fun a b z => by omega)).tr (v1.mo (fun a b z => Or.inl z)))) v2 (u2.fr (fun b => v1 3 b (by omega)) (v1 0 3 (by omega)) (fun i hi => by rw [v2.1 i (by omega), d2]))) (nS D t - ix D t day).toNat (nS D t) τ (by have := hx.1; omega) (by omega) frm.rf (fun i _ => by rw [d2]) (fun r r0 r1 rj => by
      rw [d2, if_pos (by omega), if_pos (by omega)]
      exact ⟨rfl, rfl⟩)
  exact ⟨_, hh⟩
end RE
