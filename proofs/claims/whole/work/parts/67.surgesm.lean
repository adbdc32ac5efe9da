/-! the reference: surges, directions, strain, the fastest feature -/
def srn (D : zD) (st : tS) (sc th k b : Int) : Int := srun D st sc th (k - b).toNat b
theorem srun_s {D : zD} {st : tS} {sc th : Int} : ∀ (m : Nat) (b : Int), srun D st sc th (m + 1) b = if srun D st sc th m b = b + m ∧ sfast D st sc th (b + m) then b + m + 1 else srun D st sc th m b := by
  intro m
  induction m with
  | zero =>
    intro b
    have e : b + ((0 : Nat) : Int) = b := by omega
    rw [e]
    show (if sfast D st sc th b then b + 1 else b) = if b = b ∧ sfast D st sc th b then b + 1 else b
    by_cases z : sfast D st sc th b
    · rw [if_pos z, if_pos ⟨rfl, z⟩]
    · rw [if_neg z, if_neg (fun w => z w.2)]
  | succ m ih =>
    intro b
    have e1 : srun D st sc th (m + 1 + 1) b = if sfast D st sc th b then srun D st sc th (m + 1) (b + 1) else b := rfl
    have e2 : srun D st sc th (m + 1) b = if sfast D st sc th b then srun D st sc th m (b + 1) else b := rfl
    have e3 : b + 1 + (m : Int) = b + ((m + 1 : Nat) : Int) := by omega
    rw [e1, e2]
    by_cases z : sfast D st sc th b
    · rw [if_pos z, if_pos z, ih (b + 1), e3]
    · rw [if_neg z, if_neg z, if_neg (fun w => by have := w.1; omega)]
theorem srun_b {D : zD} {st : tS} {sc th : Int} : ∀ (m : Nat) (b : Int), b ≤ srun D st sc th m b ∧ srun D st sc th m b ≤ b + m := by
  intro m
  induction m with
  | zero => intro b; show b ≤ b ∧ b ≤ b + ((0 : Nat) : Int); omega
  | succ m ih =>
    intro b
    have := ih b
    rw [srun_s]
    split <;> omega
theorem srn_b {D : zD} {st : tS} {sc th k b : Int} (h : b ≤ k) : b ≤ srn D st sc th k b ∧ srn D st sc th k b ≤ k := by
  have := srun_b (D := D) (st := st) (sc := sc) (th := th) (k - b).toNat b
  unfold srn
  omega
theorem srn_s {D : zD} {st : tS} {sc th k b : Int} (h : b ≤ k) : srn D st sc th (k + 1) b = if srn D st sc th k b = k ∧ sfast D st sc th k then k + 1 else srn D st sc th k b := by
  have e : (k + 1 - b).toNat = (k - b).toNat + 1 := by omega
  have e2 : b + ((k - b).toNat : Int) = k := by omega
  unfold srn
  rw [e, srun_s, e2]
theorem srn_self {D : zD} {st : tS} {sc th b : Int} : srn D st sc th b b = b := by
  have := srn_b (D := D) (st := st) (sc := sc) (th := th) (show b ≤ b by omega)
  omega
theorem srn_last {D : zD} {st : tS} {sc th k b : Int} (h : b < k) (e : srn D st sc th k b = k) : sfast D st sc th (k - 1) := by
  have e1 := srn_s (D := D) (st := st) (sc := sc) (th := th) (show b ≤ k - 1 by omega)
  have b1 := srn_b (D := D) (st := st) (sc := sc) (th := th) (show b ≤ k - 1 by omega)
  by_cases z : srn D st sc th (k - 1) b = k - 1 ∧ sfast D st sc th (k - 1)
  · exact z.2
  · rw [if_neg z, show k - 1 + 1 = k by omega, e] at e1; omega
theorem scnt_ge {D : zD} {st : tS} {sc th : Int} : ∀ (m : Nat) (k a : Int), a ≤ lp (scnt D st sc th) m k a ∧ lp (scnt D st sc th) m k a ≤ a + m := by
  intro m
  induction m with
  | zero => intro k a; rw [lp_0]; omega
  | succ m ih =>
    intro k a
    rw [lp_s]
    have := ih (k + 1) (scnt D st sc th k a)
    unfold scnt at this ⊢
    split <;> rename_i z
    · rw [if_pos z] at this; omega
    · rw [if_neg z] at this; omega
theorem sfind_hi {D : zD} {st : tS} {sc th s : Int} : ∀ (m : Nat) (k a : Int), lp (scnt D st sc th) m k a ≤ s ∨ s < a → sfind D st sc th s m k a = -1 := by
  intro m
  induction m with
  | zero => intro k a _; rfl
  | succ m ih =>
    intro k a h
    rw [lp_s] at h
    unfold sfind
    have g := scnt_ge (D := D) (st := st) (sc := sc) (th := th) m (k + 1) (scnt D st sc th k a)
    by_cases z : sbeg D st sc th k
    · have e : scnt D st sc th k a = a + 1 := by unfold scnt; rw [if_pos z]
      rw [e] at h g
      rw [if_pos z, if_neg (by omega)]
      exact ih (k + 1) (a + 1) (by omega)
    · have e : scnt D st sc th k a = a := by unfold scnt; rw [if_neg z]
      rw [e] at h
      rw [if_neg z]
      exact ih (k + 1) a h
theorem sbgn_no {D : zD} {st : tS} {sc th s : Int} (h : ¬ (0 ≤ s ∧ s < snum D st sc th)) : sbgn D st sc th s = -1 := by
  unfold sbgn
  unfold snum at h
  exact sfind_hi _ _ _ (by omega)
theorem snum_b {D : zD} {st : tS} {sc th : Int} (hG : TG D st) : 0 ≤ snum D st sc th ∧ snum D st sc th ≤ 5 := by
  have g1 := hG.1
  have := scnt_ge (D := D) (st := st) (sc := sc) (th := th) (tseg st).toNat 0 0
  unfold snum
  unfold tseg at this ⊢
  omega
def SG (σ : zSt) (D : zD) (st : tS) (sc th k a : Int) : Prop := σ 0 33 = a ∧ (0 ≤ a ∧ a ≤ k) ∧ (sfast D st sc th (k - 1) → 1 ≤ a) ∧ ∀ s, 0 ≤ s → s < a → (0 ≤ sbgn D st sc th s ∧ sbgn D st sc th s < k) ∧ σ 15 s = (st.2.1 (sbgn D st sc th s)).1 ∧ σ 16 s = (st.2.1 (srn D st sc th k (sbgn D st sc th s))).1 ∧ (srn D st sc th k (sbgn D st sc th s) = k → s = a - 1) ∧ (sfast D st sc th (k - 1) → s = a - 1 → srn D st sc th k (sbgn D st sc th s) = k)
abbrev pMg : Int → Int → Prop := fun a b => a = 15 ∨ a = 16 ∨ (a = 0 ∧ b = 33)
def SF (σ : zSt) (D : zD) (st : tS) (sc th : Int) : Prop := σ 0 33 = snum D st sc th ∧ ∀ s, 0 ≤ s → s < snum D st sc th → (0 ≤ sbgn D st sc th s ∧ sbgn D st sc th s < tseg st) ∧ σ 15 s = (st.2.1 (sbgn D st sc th s)).1 ∧ σ 16 s = (st.2.1 (send D st sc th (sbgn D st sc th s))).1
theorem send_b {D : zD} {st : tS} {sc th b : Int} (h : b ≤ tseg st) : b ≤ send D st sc th b ∧ send D st sc th b ≤ tseg st := srn_b h
theorem MC.fr {σ τ : zSt} {D : zD} {st : tS} {sc : Int} (h : MC σ D st sc) (g : ∀ a b, (12 ≤ a ∧ a ≤ 14) ∨ (a = 0 ∧ b = 29) → τ a b = σ a b) : MC τ D st sc := ⟨(g _ _ (by omega)).trans h.1, fun k k0 k1 => by rw [g 12 k (by omega), g 13 k (by omega), g 14 k (by omega)]; exact h.2 k k0 k1⟩
section SM
variable {K : Int → zSt → Prop} {D : zD}
theorem sM_noSurges_B19 {st : tS} {sc : Int} (hD : WF D) (hG : TG D st) (s0 : 0 ≤ sc ∧ sc ≤ 1000) : ∀ (m : Nat) (k a x2 : Int) (σ : zSt), k + m = tseg st → 0 ≤ k → σ 1 = D → MC σ D st sc → SG σ D st sc (D 90) k a → (∀ s, a ≤ s → sfind D st sc (D 90) s m k a = sbgn D st sc (D 90) s) → lp (scnt D st sc (D 90)) m k a = snum D st sc (D 90) → ((x2 = 1 ∧ sfast D st sc (D 90) (k - 1)) ∨ (x2 = 0 ∧ ¬ sfast D st sc (D 90) (k - 1))) → (∀ τ, frm pMg σ τ → SF τ D st sc (D 90) → K 0 τ) → fX12_noSurges_B19 K (m + 1) σ x2 k := by
  have t := hD.2.1
  unfold WFs at t
  have g1 := hG.1
  have tsb : 0 ≤ tseg st ∧ tseg st ≤ 5 := by unfold tseg; omega
  intro m
  induction m with
  | zero =>
    intro k a x2 σ e k0 hd hC hS hF hs hx hk
    have c29 : σ 0 29 = tseg st := hC.1
    rw [lp_0] at hs
    rw [uX12_noSurges_B19, c29]
    refine ⟨by omega, by omega, fun _ => hk σ frm.rf ⟨hS.1.trans hs, fun s s0 s1 => ?_⟩, fun h => (h (by omega)).elim⟩
    obtain ⟨r1, r2, r3, -⟩ := hS.2.2.2 s s0 (by omega)
    have ek : k = tseg st := by omega
    rw [ek] at r1 r3
    exact ⟨r1, r2, r3⟩
  | succ m ih =>
    intro k a x2 σ e k0 hd hC hS hF hs hx hk
    have c29 : σ 0 29 = tseg st := hC.1
    have k1 : k + 1 < st.1 := by unfold tseg at e; omega
    have sb := spd_b hD hG k0 k1 s0
    have e90 : σ 1 (83 + 7) = D 90 := by rw [hd]; rfl
    obtain ⟨h1, h2, h3, h4⟩ := hS
    rw [lp_s] at hs
    rw [uX12_noSurges_B19, c29]
    refine ⟨by omega, by omega, fun h => by omega, fun _ => sM_speedOf hd hD hG hC s0 k0 k1 (sM_setting (by decide) (by decide) ?_)⟩
    rw [e90]
    have kk : k + 1 - 1 = k := by omega
    refine ⟨by omega, by omega, fun z => ?_, fun z => ?_⟩
    · have nf : ¬ sfast D st sc (D 90) k := fun w => by have := w.2.2; omega
      have nb : ¬ sbeg D st sc (D 90) k := fun w => nf w.1
      rw [show scnt D st sc (D 90) k a = a by unfold scnt; rw [if_neg nb]] at hs
      refine ⟨by decide, fun _ => ⟨by decide, fun _ => ?_, fun w => (w rfl).elim⟩, fun w => (w rfl).elim⟩
      refine ih (k + 1) a 0 σ (by omega) (by omega) hd hC ⟨h1, by omega, fun w => absurd (kk ▸ w) nf, fun s p0 p1 => ?_⟩ (fun s p => ?_) hs (Or.inr ⟨rfl, fun w => nf (kk ▸ w)⟩) hk
      · obtain ⟨r1, r2, r3, r4, r5⟩ := h4 s p0 p1
        have en := srn_s (D := D) (st := st) (sc := sc) (th := D 90) (show sbgn D st sc (D 90) s ≤ k by omega)
        rw [if_neg (fun w => nf w.2)] at en
        have bb := srn_b (D := D) (st := st) (sc := sc) (th := D 90) (show sbgn D st sc (D 90) s ≤ k by omega)
        rw [en]
        exact ⟨by omega, r2, r3, fun w => by omega, fun w => absurd (kk ▸ w) nf⟩
      · have := hF s p
        unfold sfind at this
        rw [if_neg nb] at this
        exact this
    · have yf : sfast D st sc (D 90) k := ⟨k0, k1, by omega⟩
      refine ⟨by decide, fun w => absurd w (by decide), fun _ => ⟨by omega, fun x0 => ⟨by omega, by omega, fun σ14 e14 σ15 e15 => ?_⟩, fun x1 => ?_⟩⟩
      · have np : ¬ sfast D st sc (D 90) (k - 1) := by
          rcases hx with ⟨hx, -⟩ | ⟨-, hx⟩
          · omega
          · exact hx
        have yb : sbeg D st sc (D 90) k := ⟨yf, np⟩
        rw [show scnt D st sc (D 90) k a = a + 1 by unfold scnt; rw [if_pos yb]] at hs
        have eb : sbgn D st sc (D 90) a = k := by
          rw [← hF a (by omega)]
          unfold sfind
          rw [if_pos yb, if_pos rfl]
        have c33 : σ15 0 33 = a + 1 := by rw [e15, zu_eq, e14, zu_ne (by omega), h1]
        refine ⟨by decide, fun w => absurd w (by decide), fun _ => ⟨by omega, by omega, fun σ19 e19 => ?_⟩⟩
        have fr : frm pMg σ σ19 := by rw [e19, e15, e14]; exact ((frm.rf.z (by omega)).z (by omega)).z (by omega)
        have v13 : σ15 13 k = (st.2.1 (k + 1)).1 := by rw [e15, zu_ne (by omega), e14, zu_ne (by omega)]; exact (hC.2 k k0 k1).2.1
        rw [c33, v13, show a + 1 - 1 = a by omega] at e19
        refine ih (k + 1) (a + 1) 1 σ19 (by omega) (by omega) (fr.D hd (fun b => by omega)) (hC.fr (fun a b w => fr a b (by omega))) ⟨by rw [e19, zu_ne (by omega)]; exact c33, by omega, fun _ => by omega, fun s p0 p1 => ?_⟩ (fun s p => ?_) hs (Or.inl ⟨rfl, by rw [kk]; exact yf⟩) (fun τ w1 w2 => hk τ (fr.tr w1) w2)
        · by_cases q : s = a
          · subst q
            rw [eb]
            have en := srn_s (D := D) (st := st) (sc := sc) (th := D 90) (show k ≤ k by omega)
            rw [if_pos ⟨srn_self, yf⟩] at en
            rw [en]
            refine ⟨by omega, ?_, ?_, fun _ => by omega, fun _ _ => rfl⟩
            · rw [e19, zu_ne (by omega), e15, zu_ne (by omega), e14, h1, zu_eq]
              exact (hC.2 k k0 k1).1
            · rw [e19, zu_eq]
          · obtain ⟨r1, r2, r3, r4, r5⟩ := h4 s p0 (by omega)
            have ne : srn D st sc (D 90) k (sbgn D st sc (D 90) s) ≠ k := fun w => np (srn_last (by omega) w)
            have en := srn_s (D := D) (st := st) (sc := sc) (th := D 90) (show sbgn D st sc (D 90) s ≤ k by omega)
            rw [if_neg (fun w => ne w.1)] at en
            have bb := srn_b (D := D) (st := st) (sc := sc) (th := D 90) (show sbgn D st sc (D 90) s ≤ k by omega)
            rw [en]
            refine ⟨by omega, ?_, ?_, fun w => by omega, fun _ w => by omega⟩
            · rw [e19, zu_ne (by omega), e15, zu_ne (by omega), e14, h1, zu_ne (by omega)]; exact r2
            · rw [e19, zu_ne (by omega), e15, zu_ne (by omega), e14, zu_ne (by omega)]; exact r3
        · have := hF s (by omega)
          unfold sfind at this
          rw [if_pos yb, if_neg (by omega)] at this
          exact this
      · have yp : sfast D st sc (D 90) (k - 1) := by
          rcases hx with ⟨-, hx⟩ | ⟨hx, -⟩
          · exact hx
          · exact absurd hx x1
        have a1 := h3 yp
        have nb : ¬ sbeg D st sc (D 90) k := fun w => w.2 yp
        rw [show scnt D st sc (D 90) k a = a by unfold scnt; rw [if_neg nb]] at hs
        refine ⟨by decide, fun w => absurd w (by decide), fun _ => ⟨by omega, by omega, fun σ19 e19 => ?_⟩⟩
        have fr : frm pMg σ σ19 := by rw [e19]; exact frm.wr (by omega)
        rw [h1, (hC.2 k k0 k1).2.1] at e19
        refine ih (k + 1) a 1 σ19 (by omega) (by omega) (fr.D hd (fun b => by omega)) (hC.fr (fun a b w => fr a b (by omega))) ⟨by rw [e19, zu_ne (by omega)]; exact h1, by omega, fun _ => by omega, fun s p0 p1 => ?_⟩ (fun s p => ?_) hs (Or.inl ⟨rfl, by rw [kk]; exact yf⟩) (fun τ w1 w2 => hk τ (fr.tr w1) w2)
        · obtain ⟨r1, r2, r3, r4, r5⟩ := h4 s p0 p1
          have en := srn_s (D := D) (st := st) (sc := sc) (th := D 90) (show sbgn D st sc (D 90) s ≤ k by omega)
          have bb := srn_b (D := D) (st := st) (sc := sc) (th := D 90) (show sbgn D st sc (D 90) s ≤ k by omega)
          by_cases q : s = a - 1
          · rw [if_pos ⟨r5 yp q, yf⟩] at en
            rw [en]
            refine ⟨by omega, ?_, ?_, fun _ => q, fun _ _ => rfl⟩
            · rw [e19, zu_ne (by omega)]; exact r2
            · rw [e19, q, zu_eq]
          · rw [if_neg (fun w => q (r4 w.1))] at en
            rw [en]
            refine ⟨by omega, ?_, ?_, fun w => by omega, fun _ w => absurd w q⟩
            · rw [e19, zu_ne (by omega)]; exact r2
            · rw [e19, zu_ne (by omega)]; exact r3
        · have := hF s p
          unfold sfind at this
          rw [if_neg nb] at this
          exact this
theorem sM_noSurges {σ : zSt} {i : Int} (hd : σ 1 = D) (hD : WF D) (hi : zrg i) (h1 : 0 ≤ i → i < D 4 → ∀ τ, frm pMq σ τ → τ 0 4 = 0 → SF τ D (tk D i) (D 88) (D 90) → K 0 τ) (h0 : ¬ isFt D i → ∀ τ, frm pMq σ τ → τ 0 4 = 1 → K 1 τ) : fX12_noSurges K σ i := by
  have t := hD.2.1
  unfold WFs at t
  refine sM_noSegments hd hD hi (fun i0 i1 τ u1 u2 u3 u4 u5 => zb0 (fun σ3 e3 => ?_)) (fun z τ u1 u2 => zb1 (h0 z τ u1 u2))
  have hG : TG D (tk D i) := trk_G hD i0 i1
  have g1 := hG.1
  have fr : frm pMg τ σ3 := by rw [e3]; exact frm.wr (by omega)
  have nf : ¬ sfast D (tk D i) (D 88) (D 90) (0 - 1) := fun w => by have := w.1; omega
  refine ⟨(tseg (tk D i)).toNat + 1, sM_noSurges_B19 hD hG (by omega) _ 0 0 0 σ3 (by unfold tseg; omega) (by decide) (fr.D (u1.D hd (fun b => by omega)) (fun b => by omega)) (u5.fr (fun a b w => fr a b (by omega))) ⟨by rw [e3, zu_eq], by decide, fun w => absurd w nf, fun s p0 p1 => by omega⟩ (fun s _ => rfl) rfl (Or.inr ⟨rfl, nf⟩) (fun υ w1 w2 => h1 i0 i1 υ (u1.q (fr.tr w1) (fun a b z => by omega)) ((fr.tr w1).q4 u2 (by omega)) w2)⟩
def A_surgeCount (D : zD) (i : Int) : Int × Int := if isFt D i then (0, snum D (tk D i) (D 88) (D 90)) else (1, 0)
theorem rM_surgeCount {σ : zSt} {i : Int} (hd : σ 1 = D) (hD : WF D) (hi : zrg i) (hK : rK K σ (A_surgeCount D i)) : fX12_surgeCount K σ i := by
  refine sM_noSurges hd hD hi (fun i0 i1 τ u1 u2 u3 => zb0 ?_) (fun z τ u1 u2 => zb1 ?_)
  · rw [show A_surgeCount D i = (0, _) by unfold A_surgeCount; rw [if_pos ⟨i0, i1⟩]] at hK
    exact hK _ τ u1 u2 (fun _ => u3.1)
  · rw [show A_surgeCount D i = (1, 0) by unfold A_surgeCount; rw [if_neg z]] at hK
    exact hK _ τ u1 u2 (fun w => absurd w (by decide))
abbrev bgF (D : zD) (i s : Int) : Int := sbgn D (tk D i) (D 88) (D 90) s
abbrev enF (D : zD) (i s : Int) : Int := send D (tk D i) (D 88) (D 90) (bgF D i s)
def A_surgeStart (D : zD) (i s : Int) : Int × Int := if isFt D i then (0, if bgF D i s = -1 then -1 else tday D (tk D i) (bgF D i s)) else (1, 0)
theorem rM_surgeStart {σ : zSt} {i s : Int} (hd : σ 1 = D) (hD : WF D) (hi : zrg i) (hs : zrg s) (hK : rK K σ (A_surgeStart D i s)) : fX12_surgeStart K σ i s := by
  refine sM_noSurges hd hD hi (fun i0 i1 τ u1 u2 u3 => zb0 ?_) (fun z τ u1 u2 => zb1 ?_)
  · rw [show A_surgeStart D i s = (0, _) by unfold A_surgeStart; rw [if_pos ⟨i0, i1⟩]] at hK
    have hG : TG D (tk D i) := trk_G hD i0 i1
    have g1 := hG.1
    have nb := snum_b (sc := D 88) (th := D 90) hG
    rw [u3.1]
    refine sM_inRange hs (by decide) (by omega) (fun a b => zb1 ⟨by omega, ?_⟩) (fun z => zb0 (hK _ τ u1 u2 (fun _ => by rw [if_pos (sbgn_no (fun w => z (by omega)))])))
    obtain ⟨r1, r2, r3⟩ := u3.2 s a (by omega)
    have r1 : 0 ≤ bgF D i s ∧ bgF D i s < tseg (tk D i) := r1
    have r2 : τ 15 s = ((tk D i).2.1 (bgF D i s)).1 := r2
    have r3 : τ 16 s = ((tk D i).2.1 (enF D i s)).1 := r3
    have b1 : bgF D i s < (tk D i).1 := by unfold tseg at r1; omega
    rw [r2]
    exact sM_dayOf (u1.D hd (fun b => by omega)) hD hG r1.1 b1 (hK _ τ u1 u2 (fun _ => by rw [if_neg (show ¬ bgF D i s = -1 by omega)]))
  · rw [show A_surgeStart D i s = (1, 0) by unfold A_surgeStart; rw [if_neg z]] at hK
    exact hK _ τ u1 u2 (fun w => absurd w (by decide))
def A_surgeDays (D : zD) (i s : Int) : Int × Int := if isFt D i then (0, if bgF D i s = -1 then -1 else tday D (tk D i) (enF D i s) - tday D (tk D i) (bgF D i s)) else (1, 0)
theorem rM_surgeDays {σ : zSt} {i s : Int} (hd : σ 1 = D) (hD : WF D) (hi : zrg i) (hs : zrg s) (hK : rK K σ (A_surgeDays D i s)) : fX12_surgeDays K σ i s := by
  refine sM_noSurges hd hD hi (fun i0 i1 τ u1 u2 u3 => zb0 ?_) (fun z τ u1 u2 => zb1 ?_)
  · rw [show A_surgeDays D i s = (0, _) by unfold A_surgeDays; rw [if_pos ⟨i0, i1⟩]] at hK
    have hG : TG D (tk D i) := trk_G hD i0 i1
    have g1 := hG.1
    have nb := snum_b (sc := D 88) (th := D 90) hG
    rw [u3.1]
    refine sM_inRange hs (by decide) (by omega) (fun a b => zb1 ⟨by omega, ?_⟩) (fun z => zb0 (hK _ τ u1 u2 (fun _ => by rw [if_pos (sbgn_no (fun w => z (by omega)))])))
    obtain ⟨r1, r2, r3⟩ := u3.2 s a (by omega)
    have r1 : 0 ≤ bgF D i s ∧ bgF D i s < tseg (tk D i) := r1
    have r2 : τ 15 s = ((tk D i).2.1 (bgF D i s)).1 := r2
    have r3 : τ 16 s = ((tk D i).2.1 (enF D i s)).1 := r3
    have sb : bgF D i s ≤ enF D i s ∧ enF D i s ≤ tseg (tk D i) := send_b (D := D) (st := tk D i) (sc := D 88) (th := D 90) (show bgF D i s ≤ tseg (tk D i) by omega)
    have tt : tseg (tk D i) < (tk D i).1 := by unfold tseg at r1 ⊢; omega
    have d1 : τ 1 = D := u1.D hd (fun b => by omega)
    rw [r3]
    refine sM_dayOf d1 hD hG (by omega) (by omega) ?_
    rw [r2]
    exact sM_dayOf d1 hD hG r1.1 (by omega) (hK _ τ u1 u2 (fun _ => by rw [if_neg (show ¬ bgF D i s = -1 by omega)]))
  · rw [show A_surgeDays D i s = (1, 0) by unfold A_surgeDays; rw [if_neg z]] at hK
    exact hK _ τ u1 u2 (fun w => absurd w (by decide))
end SM
