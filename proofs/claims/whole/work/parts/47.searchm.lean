/-! the reference's search of a match -/
def RM (σ : zSt) (st : mS) : Prop := σ 0 24 = (if st.1 = 0 then -1 else st.2.2.2.1) ∧ σ 0 25 = (if st.1 ≤ 1 then -1 else st.2.2.2.2.2) ∧ (1 ≤ st.1 → σ 0 22 = st.2.1 ∧ σ 0 23 = st.2.2.1)
def nrM (st : mS) (n : Int) : Prop := (0 ≤ n ∧ n ≤ 8) ∧ (1 ≤ st.1 → n = st.2.2.2.2.1)
abbrev pms : Int → Int → Prop := fun a b => a = 0 ∧ 22 ≤ b ∧ b ≤ 25
section SM
variable {K : Int → zSt → Prop} {D : zD} {k74 : zSt → Int → Int → Int → Int → Int → Int → Int → Int → Int → Prop} {k91 : zSt → Int → Int → Int → Int → Int → Int → Int → Int → Int → Int → Prop}
theorem sM_better {σ : zSt} {st : mS} {n a u v b ex ey rg nr cy cx m w : Int} (hR : RM σ st) (hI : mI D n st) (hm : 0 ≤ m ∧ m ≤ 225) (hw : 0 ≤ w ∧ w ≤ 8) (hb : mbet st m w) (hK : ∀ τ n', frm pms σ τ → RM τ (mcon cx cy m w st) → nrM (mcon cx cy m w st) n' → k91 τ a u v b ex ey rg n' cy (cx + 1)) : fX12_search_B181 K k74 k91 σ a u v b ex ey rg nr cy cx m w := by
  obtain ⟨r1, r2, r3⟩ := hR
  obtain ⟨i1, i2, i3⟩ := hI
  have e : mcon cx cy m w st = (st.1 + 1, cx, cy, m, w, st.2.2.2.1) := by unfold mcon; rw [if_pos hb]
  rw [e] at hK
  have fin : ∀ σ', frm pms σ σ' → (1 ≤ st.1 → σ' 0 25 = st.2.2.2.1) → (st.1 = 0 → σ' 0 25 = -1) → fX12_search_B231 K k74 k91 σ' a u v b ex ey rg nr cy cx m w 1 := fun σ' hf h25 h25' => by
    refine ⟨by decide, fun z => absurd z (by decide), fun _ σ26 e26 σ27 e27 σ28 e28 => ?_⟩
    subst e26 e27 e28
    refine hK _ w (((hf.z ⟨rfl, by decide, by decide⟩).z ⟨rfl, by decide, by decide⟩).z ⟨rfl, by decide, by decide⟩) ⟨?_, ?_, fun _ => ⟨by simp [zu], by simp [zu]⟩⟩ ⟨hw, fun _ => rfl⟩
    · show _ = if st.1 + 1 = 0 then -1 else m
      rw [if_neg (by omega)]
      simp [zu]
    · show _ = if st.1 + 1 ≤ 1 then -1 else st.2.2.2.1
      by_cases z : st.1 = 0
      · rw [if_pos (by omega)]; simp [zu, h25' z]
      · rw [if_neg (by omega)]; simp [zu, h25 (by omega)]
  refine ⟨by decide, fun z => absurd z (by decide), fun _ => ?_⟩
  rw [r1]
  by_cases z : st.1 = 0
  · rw [if_pos z]
    rw [if_pos (by omega)] at r2
    exact ⟨by decide, fun _ => fin σ frm.rf (fun k => by omega) (fun _ => r2), fun k => absurd (by decide) k⟩
  · rw [if_neg z]
    have p := i2 (by omega)
    refine ⟨by omega, fun k => by omega, fun _ => ?_⟩
    have b225 : fX12_search_B225 K k74 k91 σ a u v b ex ey rg nr cy cx m w 1 st.2.2.2.1 := by
      intro σ29 e29
      subst e29
      exact fin _ (frm.rf.z ⟨rfl, by decide, by decide⟩) (fun _ => zu_eq ..) (fun k => absurd k z)
    by_cases y : st.1 ≤ 1
    · rw [if_pos y] at r2
      rw [r2]
      exact ⟨by decide, fun _ => b225, fun k => absurd (by decide) k⟩
    · rw [if_neg y] at r2
      have q := i3 (by omega)
      refine ⟨by omega, fun k => by omega, fun _ => ⟨fun k => fin σ frm.rf (fun _ => by omega) (fun k => absurd k z), fun _ => b225⟩⟩
theorem sM_worse {σ : zSt} {st : mS} {n a u v b ex ey rg nr cy cx m w : Int} (hR : RM σ st) (hI : mI D n st) (hN : nrM st nr) (hm : 0 ≤ m ∧ m ≤ 225) (hb : ¬ mbet st m w) (hK : ∀ τ n', frm pms σ τ → RM τ (mcon cx cy m w st) → nrM (mcon cx cy m w st) n' → k91 τ a u v b ex ey rg n' cy (cx + 1)) : fX12_search_B185 K k74 k91 σ a u v b ex ey rg nr cy cx m w := by
  obtain ⟨r1, r2, r3⟩ := hR
  obtain ⟨i1, i2, i3⟩ := hI
  have z0 : ¬ st.1 = 0 := fun k => hb (Or.inl k)
  have e : mcon cx cy m w st = (st.1 + 1, st.2.1, st.2.2.1, st.2.2.2.1, st.2.2.2.2.1, if st.1 = 1 ∨ m < st.2.2.2.2.2 then m else st.2.2.2.2.2) := by unfold mcon; rw [if_neg hb]
  rw [e] at hK
  have fin : ∀ σ', frm pms σ σ' → σ' 0 24 = σ 0 24 → σ' 0 22 = σ 0 22 → σ' 0 23 = σ 0 23 → σ' 0 25 = (if st.1 = 1 ∨ m < st.2.2.2.2.2 then m else st.2.2.2.2.2) → fX12_search_B231 K k74 k91 σ' a u v b ex ey rg nr cy cx m w 0 := fun σ' hf h24 h22 h23 h25 => by
    refine ⟨by decide, fun _ => hK σ' nr hf ⟨?_, ?_, fun _ => ?_⟩ ⟨hN.1, fun _ => hN.2 (by omega)⟩, fun z => (z rfl).elim⟩
    · show _ = if st.1 + 1 = 0 then -1 else st.2.2.2.1
      rw [if_neg (by omega), h24, r1, if_neg z0]
    · show _ = if st.1 + 1 ≤ 1 then -1 else _
      rw [if_neg (by omega), h25]
    · rw [h22, h23]; exact r3 (by omega)
  have b225 : (if st.1 = 1 ∨ m < st.2.2.2.2.2 then m else st.2.2.2.2.2) = m → fX12_search_B225 K k74 k91 σ a u v b ex ey rg nr cy cx m w 0 m := fun hm2 => by
    intro σ29 e29
    subst e29
    exact fin _ (frm.rf.z ⟨rfl, by decide, by decide⟩) (zu_ne (by decide)) (zu_ne (by decide)) (zu_ne (by decide)) ((zu_eq ..).trans hm2.symm)
  refine ⟨by decide, fun _ => ⟨by omega, fun k => by omega, fun _ => ?_⟩, fun z => (z rfl).elim⟩
  by_cases y : st.1 ≤ 1
  · rw [if_pos y] at r2
    rw [r2]
    exact ⟨by decide, fun _ => b225 (if_pos (Or.inl (by omega))), fun k => absurd (by decide) k⟩
  · rw [if_neg y] at r2
    have q := i3 (by omega)
    have p := i2 (by omega)
    refine ⟨by omega, fun k => by omega, fun _ => ⟨fun k => fin σ frm.rf rfl rfl rfl ?_, fun k => b225 (if_pos (Or.inr (by omega)))⟩⟩
    rw [r2, if_neg (by omega)]
theorem sM_isInside' {σ : zSt} {x y : Int} (hd : σ 1 = D) (hD : WF D) (hx : -1000 ≤ x ∧ x ≤ 1000) (hy : -1000 ≤ y ∧ y ≤ 1000) (h1 : ins D x y → K 1 σ) (h0 : ¬ ins D x y → K 0 σ) : fX12_isInside K σ x y := by subst hd; exact sM_isInside hD (Or.inl hx) (Or.inl hy) h1 h0
theorem sM_mismatch' {σ : zSt} {a u v b w z : Int} (hd : σ 1 = D) (hD : WF D) (a0 : 0 ≤ a) (a1 : a < D 2) (b0 : 0 ≤ b) (b1 : b < D 2) (h1 : ins D u v) (h2 : ins D w z) (hK : K (mm D a u v b w z) σ) : fX12_mismatch K σ a u v b w z := by subst hd; exact sM_mismatch hD a0 a1 b0 b1 h1 h2 hK
theorem sM_search_B91 {a u v b ex ey dy : Int} (hD : WF D) (a0 : 0 ≤ a) (a1 : a < D 2) (b0 : 0 ≤ b) (b1 : b < D 2) (h1 : ins D u v) (x0 : -100 ≤ ex ∧ ex ≤ 100) (y0 : -100 ≤ ey ∧ ey ≤ 100) (d0 : -(D 84) ≤ dy ∧ dy ≤ D 84) : ∀ (m : Nat) (dx n nr : Int) (σ : zSt) (st : mS), σ 1 = D → RM σ st → mI D n st → nrM st nr → n + m ≤ 1000 → dx + m = D 84 + 1 → -(D 84) ≤ dx → (∀ τ n', frm pms σ τ → RM τ (lp (mst D a u v b ex ey dy) m dx st) → nrM (lp (mst D a u v b ex ey dy) m dx st) n' → k74 τ a u v b ex ey (D 84) n' (ey + dy + 1)) → fX12_search_B91 K k74 (m + 1) σ a u v b ex ey (D 84) nr (ey + dy) (ex + dx) := by
  have t := hD.2.1
  unfold WFs at t
  have q := hD.1
  unfold WFa at q
  intro m
  induction m with
  | zero =>
    intro dx n nr σ st hd hR hI hN hn e e0 hk
    rw [uX12_search_B91]
    exact ⟨by omega, by omega, fun _ => hk σ nr frm.rf hR hN, fun h => (h (by omega)).elim⟩
  | succ m ih =>
    intro dx n nr σ st hd hR hI hN hn e e0 hk
    have hI2 := mst_I hD (ex := ex) (ey := ey) a0 a1 b0 b1 h1 (dx := dx) (by omega) d0 hI
    rw [uX12_search_B91, show ex + dx - ex = dx by omega, show ey + dy - ey = dy by omega]
    refine ⟨by omega, by omega, fun h => by omega, fun h => sM_isInside' hd hD (by omega) (by omega) (fun g => zb1 (sM_mismatch' hd hD a0 a1 b0 b1 h1 g (sM_absolute (by omega) (sM_absolute (by omega) ?_)))) (fun g => zb0 ?_)⟩
    · have e2 : mst D a u v b ex ey dy dx st = mcon (ex + dx) (ey + dy) (mm D a u v b (ex + dx) (ey + dy)) ((dx.natAbs : Int) + (dy.natAbs : Int)) st := by unfold mst; rw [if_pos g]
      have hm := mm_b hD a0 a1 b0 b1 h1 g
      have go : ∀ τ n', frm pms σ τ → RM τ (mcon (ex + dx) (ey + dy) (mm D a u v b (ex + dx) (ey + dy)) ((dx.natAbs : Int) + (dy.natAbs : Int)) st) → nrM (mcon (ex + dx) (ey + dy) (mm D a u v b (ex + dx) (ey + dy)) ((dx.natAbs : Int) + (dy.natAbs : Int)) st) n' → fX12_search_B91 K k74 (m + 1) τ a u v b ex ey (D 84) n' (ey + dy) (ex + dx + 1) := fun υ n' u1 u2 u3 => by
        rw [← e2] at u2 u3
        rw [show ex + dx + 1 = ex + (dx + 1) by omega]
        exact ih (dx + 1) (n + 1) n' υ _ (u1.D hd (fun b => by omega)) u2 hI2 u3 (by omega) (by omega) (by omega) (fun τ n2 h1 h2 h3 => hk τ n2 (u1.tr h1) h2 h3)
      have r1 := hR.1
      rw [r1]
      by_cases z : st.1 = 0
      · rw [if_pos z]
        exact ⟨by decide, fun _ => sM_better hR hI hm (by omega) (Or.inl z) go, fun k => absurd (by decide) k⟩
      · rw [if_neg z]
        have i1 := hI.1
        have p := hI.2.1 (by omega)
        have hN2 := hN.2 (by omega)
        have hN1 := hN.1
        refine ⟨by omega, fun k => by omega, fun _ => ⟨by omega, fun k => sM_better hR hI hm (by omega) (Or.inr (Or.inl k)) go, fun k => ⟨fun j => ⟨by omega, by omega, fun w => sM_worse hR hI hN hm ?_ go, fun w => sM_better hR hI hm (by omega) (Or.inr (Or.inr ⟨j, by omega⟩)) go⟩, fun j => sM_worse hR hI hN hm ?_ go⟩⟩⟩
        · rintro (y | y | ⟨y, y2⟩) <;> omega
        · rintro (y | y | ⟨y, y2⟩) <;> omega
    · have e2 : mst D a u v b ex ey dy dx st = st := by unfold mst; rw [if_neg g]
      rw [show ex + dx + 1 = ex + (dx + 1) by omega]
      refine ih (dx + 1) n nr σ st hd hR hI hN (by omega) (by omega) (by omega) (fun τ n' h1 h2 h3 => hk τ n' h1 ?_ ?_)
      · rw [lp_s, e2]; exact h2
      · rw [lp_s, e2]; exact h3
theorem sM_search_B74 {a u v b ex ey : Int} (hD : WF D) (a0 : 0 ≤ a) (a1 : a < D 2) (b0 : 0 ≤ b) (b1 : b < D 2) (h1 : ins D u v) (x0 : -100 ≤ ex ∧ ex ≤ 100) (y0 : -100 ≤ ey ∧ ey ≤ 100) : ∀ (m : Nat) (dy n nr : Int) (σ : zSt) (st : mS), σ 1 = D → RM σ st → mI D n st → nrM st nr → n + 9 * m ≤ 900 → dy + m = D 84 + 1 → -(D 84) ≤ dy → (∀ τ, frm pms σ τ → RM τ (lp (mrw D a u v b ex ey) m dy st) → 1 ≤ (lp (mrw D a u v b ex ey) m dy st).1 → K 1 τ) → (∀ τ, frm pms σ τ → RM τ (lp (mrw D a u v b ex ey) m dy st) → (lp (mrw D a u v b ex ey) m dy st).1 = 0 → K 0 τ) → fX12_search_B74 K (m + 1) σ a u v b ex ey (D 84) nr (ey + dy) := by
  have t := hD.2.1
  unfold WFs at t
  intro m
  induction m with
  | zero =>
    intro dy n nr σ st hd hR hI hN hn e e0 hk hk0
    rw [uX12_search_B74, hR.1]
    refine ⟨by omega, by omega, fun _ => ?_, fun h => (h (by omega)).elim⟩
    have i1 := hI.1
    by_cases z : st.1 = 0
    · rw [if_pos z]
      exact ⟨by decide, fun _ => hk0 σ frm.rf hR z, fun k => absurd (by decide) k⟩
    · rw [if_neg z]
      have p := hI.2.1 (by omega)
      exact ⟨by omega, fun k => by omega, fun _ => hk σ frm.rf hR (by rw [lp_0]; omega)⟩
  | succ m ih =>
    intro dy n nr σ st hd hR hI hN hn e e0 hk hk0
    rw [uX12_search_B74, show ex - D 84 = ex + -(D 84) by omega]
    refine ⟨by omega, by omega, fun h => by omega, fun h => ⟨(2 * D 84 + 1).toNat + 1, ?_⟩⟩
    refine sM_search_B91 hD a0 a1 b0 b1 h1 x0 y0 (by omega) _ _ n nr σ st hd hR hI hN (by omega) (by omega) (by omega) (fun υ n' u1 u2 u3 => ?_)
    rw [show ey + dy + 1 = ey + (dy + 1) by omega]
    exact ih (dy + 1) (n + 9) n' υ _ (u1.D hd (fun b => by omega)) u2 (mrw_I hD a0 a1 b0 b1 h1 (by omega) hI) u3 (by omega) (by omega) (by omega) (fun τ h1 h2 h3 => hk τ (u1.tr h1) h2 h3) (fun τ h1 h2 h3 => hk0 τ (u1.tr h1) h2 h3)
theorem sM_search {σ : zSt} {a u v b : Int} (hd : σ 1 = D) (hD : WF D) (hM : MO σ D) (za : (oriF D a).1 = 1) (zb : (oriF D b).1 = 1) (hu : -1000 ≤ u ∧ u ≤ 1000) (hv : -1000 ≤ v ∧ v ≤ 1000) (h1 : ∀ τ, frm pms σ τ → RM τ (mR D a u v b) → 1 ≤ (mR D a u v b).1 → K 1 τ) (h0 : ∀ τ, frm pms σ τ → RM τ (mR D a u v b) → (mR D a u v b).1 = 0 → K 0 τ) : fX12_search K σ a u v b := by
  have t := hD.2.1
  unfold WFs at t
  have q := hD.1
  unfold WFa at q
  intro σ1 e1 σ2 e2
  have hf : frm pms σ σ2 := by subst e1 e2; exact (frm.rf.z ⟨rfl, by decide, by decide⟩).z ⟨rfl, by decide, by decide⟩
  have hR0 : RM σ2 (0, 0, 0, 0, 0, 0) := by subst e1 e2; exact ⟨by simp [zu], by simp [zu], fun z => absurd z (by decide)⟩
  have hd2 := hf.D hd (fun b => by omega)
  have ia := oriF_in za
  have ib := oriF_in zb
  have sa := oriF_s hD a
  have sb := oriF_s hD b
  refine sM_isInside' hd2 hD hu hv (fun zi => zb1 ?_) (fun zi => zb0 ?_)
  · obtain ⟨ma, mb, mc, -⟩ := hM.2 a ia.1 ia.2
    obtain ⟨na, nb, nc, -⟩ := hM.2 b ib.1 ib.2
    rw [hf 6 a (by omega), hf 6 b (by omega), hf 7 a (by omega), hf 7 b (by omega), mb, mc, nb, nc]
    refine ⟨⟨ib.1, by omega⟩, ⟨ia.1, by omega⟩, sM_setting (by decide) (by decide) ⟨(2 * D 84 + 1).toNat + 1, ?_⟩⟩
    have e4 : σ2 1 (83 + 1) = D 84 := by rw [hd2]; rfl
    rw [e4, show v + (oriF D b).2.2.1 - (oriF D a).2.2.1 - D 84 = v + (oriF D b).2.2.1 - (oriF D a).2.2.1 + -(D 84) from Int.sub_eq_add_neg]
    have em : mR D a u v b = mSe D a u v b (u + (oriF D b).2.1 - (oriF D a).2.1) (v + (oriF D b).2.2.1 - (oriF D a).2.2.1) := by unfold mR; rw [if_pos ⟨za, zb, zi⟩]
    rw [em] at h1 h0
    exact sM_search_B74 hD ia.1 ia.2 ib.1 ib.2 zi (by omega) (by omega) _ _ 0 0 σ2 _ hd2 hR0 ⟨by decide, fun z => absurd z (by decide), fun z => absurd z (by decide)⟩ ⟨by decide, fun z => absurd z (by decide)⟩ (by omega) (by omega) (by omega) (fun τ g1 g2 g3 => h1 τ (hf.tr g1) g2 g3) (fun τ g1 g2 g3 => h0 τ (hf.tr g1) g2 g3)
  · have em : mR D a u v b = (0, 0, 0, 0, 0, 0) := by unfold mR; rw [if_neg (fun k => zi k.2.2)]
    exact h0 σ2 hf (by rw [em]; exact hR0) (by rw [em])
end SM
