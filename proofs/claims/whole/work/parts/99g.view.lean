/-! scenes emptied, settings forgotten, data copied; what is read becomes the scene -/
section RS
variable {σ τ : zSt} {T : Int}
theorem rsX (hT : T = 73 ∨ T = 104) : ∃ σ', (∀ K : zSt → Prop, K σ' → fX8_reset K σ T) ∧ frm (fun a b => (a = T ∧ 0 ≤ b ∧ b < 4) ∨ (a = T + 4 ∧ b = 3) ∨ (a = T + 7 ∧ b = 3) ∨ a = T + 1) σ σ' ∧ (σ' T 0 = 12 ∧ σ' T 1 = 8 ∧ σ' T 2 = 0 ∧ σ' T 3 = 0 ∧ σ' (T + 4) 3 = 0 ∧ σ' (T + 7) 3 = 0) ∧ ∀ i, 0 ≤ i → i < 8 → σ' (T + 1) i = cINIT i := by
  have kT : kX T = 8 := by rw [kX_8]; exact hT
  have w : ∃ s6, s6 = zu (zu (zu (zu (zu (zu σ T 0 12) T 1 8) T 2 0) T 3 0) (T + 4) 3 0) (T + 7) 3 0 := ⟨_, rfl⟩
  obtain ⟨s6, e6⟩ := w
  have f6 : frm (fun a b => (a = T ∧ 0 ≤ b ∧ b < 4) ∨ (a = T + 4 ∧ b = 3) ∨ (a = T + 7 ∧ b = 3) ∨ a = T + 1) σ s6 := by
    rw [e6]
    exact (((((frm.wr (P := fun a b => (a = T ∧ 0 ≤ b ∧ b < 4) ∨ (a = T + 4 ∧ b = 3) ∨ (a = T + 7 ∧ b = 3) ∨ a = T + 1) (by omega)).z (by omega)).z (by omega)).z (by omega)).z (by omega)).z (by omega)
  have v6 : s6 T 0 = 12 ∧ s6 T 1 = 8 ∧ s6 T 2 = 0 ∧ s6 T 3 = 0 ∧ s6 (T + 4) 3 = 0 ∧ s6 (T + 7) 3 = 0 := by
    rw [e6]
    refine ⟨?_, ?_, ?_, ?_, ?_, ?_⟩
    · rw [zu_ne (by omega), zu_ne (by omega), zu_ne (by omega), zu_ne (by omega), zu_ne (by omega), zu_eq]
    · rw [zu_ne (by omega), zu_ne (by omega), zu_ne (by omega), zu_ne (by omega), zu_eq]
    · rw [zu_ne (by omega), zu_ne (by omega), zu_ne (by omega), zu_eq]
    · rw [zu_ne (by omega), zu_ne (by omega), zu_eq]
    · rw [zu_ne (by omega), zu_eq]
    · rw [zu_eq]
  have L : ∀ (m : Nat) (i : Int) (υ : zSt), i + m = 8 → 0 ≤ i → frm (fun a _ => a = T + 1) s6 υ → (∀ j, 0 ≤ j → j < i → υ (T + 1) j = cINIT j) → ∃ σ', (∃ k, ∀ K : zSt → Prop, K σ' → fX8_reset_B40 K k υ T i) ∧ frm (fun a _ => a = T + 1) s6 σ' ∧ ∀ j, 0 ≤ j → j < 8 → σ' (T + 1) j = cINIT j := by
    intro m
    induction m with
    | zero =>
      intro i υ e i0 fr hv
      refine ⟨υ, ⟨0 + 1, fun K hK => ?_⟩, fr, fun j j0 j1 => hv j j0 (by omega)⟩
      rw [uX8_reset_B40]
      exact ⟨by omega, fun _ => hK, fun z => by omega⟩
    | succ m ih =>
      intro i υ e i0 fr hv
      obtain ⟨σ', ⟨k, g⟩, u, v⟩ := ih (i + 1) (zu υ (T + 1) i (cINIT i)) (by omega) (by omega) (fr.z rfl) (fun j j0 j1 => by
        by_cases z : j = i
        · rw [z, zu_eq]
        · rw [zu_ne (by omega)]; exact hv j j0 (by omega))
      refine ⟨σ', ⟨k + 1, fun K hK => ?_⟩, u, v⟩
      rw [uX8_reset_B40]
      exact ⟨by omega, fun z => by omega, fun _ => ⟨by omega, fun σ9 e9 => by rw [e9]; exact g K hK⟩⟩
  obtain ⟨σ', ⟨k, g⟩, u, v⟩ := L 8 0 s6 (by decide) (by decide) frm.rf (fun j a b => by omega)
  refine ⟨σ', fun K hK => ⟨kT, fun σ1 e1 σ2 e2 σ3 e3 σ4 e4 σ5 e5 σ7 e7 => ⟨k, ?_⟩⟩, f6.tr (u.mo (fun a b z => by omega)), ?_, v⟩
  · rw [e7, e5, e4, e3, e2, e1, ← e6]; exact g K hK
  · rw [u T 0 (by omega), u T 1 (by omega), u T 2 (by omega), u T 3 (by omega), u (T + 4) 3 (by omega), u (T + 7) 3 (by omega)]; exact v6
theorem givX {x : Int} : ∃ σ', (∀ K : Int → zSt → Prop, fX2_begin (fun σ4 => (∃ n, fX4_readText_B38 K n σ4 x 0)) σ' x → ∃ k, fX4_readText_B9 K k σ x 0) ∧ frm (fun a b => a = 4 ∧ 0 ≤ b ∧ b < 8) σ σ' ∧ ∀ i, 0 ≤ i → i < 8 → σ' 4 i = 0 := by
  have L : ∀ (m : Nat) (i : Int) (υ : zSt), i + m = 8 → 0 ≤ i → frm (fun a b => a = 4 ∧ 0 ≤ b ∧ b < 8) σ υ → (∀ j, 0 ≤ j → j < i → υ 4 j = 0) → ∃ σ', (∃ k, ∀ K : Int → zSt → Prop, fX2_begin (fun σ4 => (∃ n, fX4_readText_B38 K n σ4 x 0)) σ' x → fX4_readText_B9 K k υ x i) ∧ frm (fun a b => a = 4 ∧ 0 ≤ b ∧ b < 8) σ σ' ∧ ∀ i, 0 ≤ i → i < 8 → σ' 4 i = 0 := by
    intro m
    induction m with
    | zero =>
      intro i υ e i0 fr hv
      refine ⟨υ, ⟨0 + 1, fun K hK => ?_⟩, fr, fun j j0 j1 => hv j j0 (by omega)⟩
      rw [uX4_readText_B9]
      exact ⟨by omega, fun _ => hK, fun z => by omega⟩
    | succ m ih =>
      intro i υ e i0 fr hv
      obtain ⟨σ', ⟨k, g⟩, u, v⟩ := ih (i + 1) (zu υ 4 i 0) (by omega) (by omega) (fr.z (by omega)) (fun j j0 j1 => by
        by_cases z : j = i
        · rw [z, zu_eq]
        · rw [zu_ne (by omega)]; exact hv j j0 (by omega))
      refine ⟨σ', ⟨k + 1, fun K hK => ?_⟩, u, v⟩
      rw [uX4_readText_B9]
      exact ⟨by omega, fun z => by omega, fun _ => ⟨by omega, fun σ9 e9 => by rw [e9]; exact g K hK⟩⟩
  obtain ⟨σ', ⟨k, g⟩, u, v⟩ := L 8 0 σ (by decide) (by decide) frm.rf (fun j a b => by omega)
  exact ⟨σ', fun K hK => ⟨k, g K hK⟩, u, v⟩
theorem rsM : ∃ τ', (∀ K : zSt → Prop, K τ' → fX12_reset K τ 2) ∧ frm (fun a _ => a = 2) τ τ' ∧ (τ' 2 0 = 12 ∧ τ' 2 1 = 8) ∧ (∀ i, 0 ≤ i → i < 8 → τ' 2 (83 + i) = cINIT i) ∧ ∀ i, 2 ≤ i → i < 83 → τ' 2 i = 0 := by
  have L : ∀ (m : Nat) (i : Int) (υ : zSt), i + m = 811 → 0 ≤ i → frm (fun a _ => a = 2) τ υ → (∀ j, 0 ≤ j → j < i → υ 2 j = 0) → ∃ τ', (∃ k, ∀ K : zSt → Prop, K τ' → fX12_reset_B2 K k υ 2 i) ∧ frm (fun a _ => a = 2) τ τ' ∧ (τ' 2 0 = 12 ∧ τ' 2 1 = 8) ∧ (∀ i, 0 ≤ i → i < 8 → τ' 2 (83 + i) = cINIT i) ∧ ∀ i, 2 ≤ i → i < 83 → τ' 2 i = 0 := by
    intro m
    induction m with
    | zero =>
      intro i υ e i0 fr hv
      refine ⟨zu (zu (zu (zu (zu (zu (zu (zu (zu (zu υ 2 0 12) 2 1 8) 2 83 1) 2 84 2) 2 85 1) 2 86 2) 2 87 2) 2 88 100) 2 89 10) 2 90 50, ⟨0 + 1, fun K hK => ?_⟩, ?_, ?_, fun j j0 j1 => ?_, fun j j0 j1 => ?_⟩
      · rw [uX12_reset_B2]
        refine ⟨by omega, fun _ σ2 e2 σ3 e3 σ4 e4 σ5 e5 σ6 e6 σ7 e7 σ8 e8 σ9 e9 σ10 e10 σ11 e11 => ?_, fun z => by omega⟩
        rw [e11, e10, e9, e8, e7, e6, e5, e4, e3, e2]; exact hK
      · exact ((((((((((fr.z rfl).z rfl).z rfl).z rfl).z rfl).z rfl).z rfl).z rfl).z rfl).z rfl)
      · constructor
        · repeat rw [zu_ne (by decide)]
          rw [zu_eq]
        · repeat rw [zu_ne (by decide)]
          rw [zu_eq]
      · rcases (show j = 0 ∨ j = 1 ∨ j = 2 ∨ j = 3 ∨ j = 4 ∨ j = 5 ∨ j = 6 ∨ j = 7 by omega) with z | z | z | z | z | z | z | z <;> subst z
        · repeat rw [zu_ne (by decide)]
          rw [show (83 : Int) + 0 = 83 by decide, zu_eq]; decide
        · repeat rw [zu_ne (by decide)]
          rw [show (83 : Int) + 1 = 84 by decide, zu_eq]; decide
        · repeat rw [zu_ne (by decide)]
          rw [show (83 : Int) + 2 = 85 by decide, zu_eq]; decide
        · repeat rw [zu_ne (by decide)]
          rw [show (83 : Int) + 3 = 86 by decide, zu_eq]; decide
        · repeat rw [zu_ne (by decide)]
          rw [show (83 : Int) + 4 = 87 by decide, zu_eq]; decide
        · repeat rw [zu_ne (by decide)]
          rw [show (83 : Int) + 5 = 88 by decide, zu_eq]; decide
        · repeat rw [zu_ne (by decide)]
          rw [show (83 : Int) + 6 = 89 by decide, zu_eq]; decide
        · rw [show (83 : Int) + 7 = 90 by decide, zu_eq]; decide
      · rw [zu_ne (by omega), zu_ne (by omega), zu_ne (by omega), zu_ne (by omega), zu_ne (by omega), zu_ne (by omega), zu_ne (by omega), zu_ne (by omega), zu_ne (by omega), zu_ne (by omega)]
        exact hv j (by omega) (by omega)
    | succ m ih =>
      intro i υ e i0 fr hv
      obtain ⟨τ', ⟨k, g⟩, u⟩ := ih (i + 1) (zu υ 2 i 0) (by omega) (by omega) (fr.z rfl) (fun j j0 j1 => by
        by_cases z : j = i
        · rw [z, zu_eq]
        · rw [zu_ne (by omega)]; exact hv j j0 (by omega))
      refine ⟨τ', ⟨k + 1, fun K hK => ?_⟩, u⟩
      rw [uX12_reset_B2]
      exact ⟨by omega, fun z => by omega, fun _ => ⟨by omega, fun σ13 e13 => by rw [e13]; exact g K hK⟩⟩
  obtain ⟨τ', ⟨k, g⟩, u⟩ := L 811 0 τ (by decide) (by decide) frm.rf (fun j a b => by omega)
  exact ⟨τ', fun K hK => ⟨by decide, k, g K hK⟩, u⟩
theorem cpM : ∃ τ', (∀ K : Int → zSt → Prop, K (τ' 0 16) τ' → ∃ k, fX12_load_B134 K k τ 0) ∧ frm (fun a b => a = 1 ∨ (a = 0 ∧ b = 3)) τ τ' ∧ τ' 0 3 = 0 ∧ (∀ i, 0 ≤ i → i < 811 → τ' 1 i = τ 2 i) := by
  have L : ∀ (m : Nat) (i : Int) (υ : zSt), i + m = 811 → 0 ≤ i → frm (fun a b => a = 1 ∨ (a = 0 ∧ b = 3)) τ υ → (∀ j, 0 ≤ j → j < i → υ 1 j = τ 2 j) → ∃ τ', (∃ k, ∀ K : Int → zSt → Prop, K (τ' 0 16) τ' → fX12_load_B134 K k υ i) ∧ frm (fun a b => a = 1 ∨ (a = 0 ∧ b = 3)) τ τ' ∧ τ' 0 3 = 0 ∧ (∀ i, 0 ≤ i → i < 811 → τ' 1 i = τ 2 i) := by
    intro m
    induction m with
    | zero =>
      intro i υ e i0 fr hv
      refine ⟨zu υ 0 3 0, ⟨0 + 1, fun K hK => ?_⟩, fr.z (by omega), zu_eq .., fun j j0 j1 => by rw [zu_ne (by omega)]; exact hv j j0 (by omega)⟩
      rw [uX12_load_B134]
      exact ⟨by omega, fun _ σ22 e22 => by rw [e22]; exact hK, fun z => by omega⟩
    | succ m ih =>
      intro i υ e i0 fr hv
      have k : υ 2 i = τ 2 i := fr 2 i (by omega)
      obtain ⟨τ', ⟨k', g⟩, u⟩ := ih (i + 1) (zu υ 1 i (τ 2 i)) (by omega) (by omega) (fr.z (by omega)) (fun j j0 j1 => by
        by_cases z : j = i
        · rw [z, zu_eq]
        · rw [zu_ne (by omega)]; exact hv j j0 (by omega))
      refine ⟨τ', ⟨k' + 1, fun K hK => ?_⟩, u⟩
      rw [uX12_load_B134, k]
      exact ⟨by omega, fun z => by omega, fun _ => ⟨by omega, fun σ24 e24 => by rw [e24]; exact g K hK⟩⟩
  obtain ⟨τ', ⟨k, g⟩, u⟩ := L 811 0 τ (by decide) (by decide) frm.rf (fun j a b => by omega)
  exact ⟨τ', fun K hK => ⟨k, g K hK⟩, u⟩
end RS
section QV
variable {σ : zSt} {T : Int} {E : zD}
theorem QA.cg {E' : zD} (h : QA σ T E) (e : ∀ i, 0 ≤ i → i < 811 → E' i = E i) : QA σ T E' := by
  obtain ⟨A0, A1, A2, A3, A4, A5⟩ := h
  have z0 := A0
  unfold Q0 at z0
  have a2r := A2.2.1
  have a3r := A3.2.2.1
  have a4r := A4.2.2.1
  have a5r := A5.1
  exact ⟨A0.mv rfl rfl (e _ (by decide) (by decide)) (e _ (by decide) (by decide)), A1.mv (fun b => rfl) (fun i _ _ => e _ (by omega) (by omega)), A2.mv z0.1.2.2 z0.2.2.2 (fun b => rfl) (fun f b f0 f1 => ⟨rfl, rfl⟩) (fun i hi => e _ (by omega) (by omega)), A3.mv rfl rfl (fun k k0 k1 => ⟨rfl, rfl⟩) (e _ (by omega) (by omega)) (e _ (by omega) (by omega)) (e _ (by omega) (by omega)) (fun i i0 i1 => e _ (by omega) (by omega)), A4.mv rfl rfl (fun k k0 k1 => ⟨rfl, rfl⟩) (e _ (by omega) (by omega)) (e _ (by omega) (by omega)) (e _ (by omega) (by omega)) (fun i i0 i1 => e _ (by omega) (by omega)), A5.mv (fun t a b t0 t1 z => rfl) (e _ (by omega) (by omega)) (fun t i t0 t1 z => e _ (by omega) (by omega))⟩
theorem QA.wf (h : QA σ T E) : WF E := by
  obtain ⟨⟨A0, A0'⟩, A1, A2, A3, A4, A5⟩ := h
  have a2r := A2.2.1
  have a3r := A3.2.2.1
  have a4r := A4.2.2.1
  have a5r := A5.1
  refine ⟨?_, A1.2, A2.2.2.2.1, A2.2.2.2.2.2, ⟨fun k k0 k1 => ?_, fun k k0 k1 => ?_⟩, fun t t0 t1 => ?_⟩
  · unfold WFa; omega
  · have q := A3.2.2.2 k k0 k1
    exact ⟨q.2.1, q.2.2⟩
  · have q := A4.2.2.2 k k0 k1
    exact ⟨q.2.1, q.2.2⟩
  · obtain ⟨x, y, z⟩ := A5.2 t t0 t1
    exact ⟨⟨x.2.1, x.2.2⟩, fun r r0 r1 => (y r r0 r1).2, z⟩
/-- the scene's view: its frames as the store has them, readings behind the last as 0 -/
def vw (σ : zSt) (T : Int) (D : zD) : zD := fun i => if 6 ≤ i ∧ i < 12 then σ (σ (T + 2) (i - 6)) 0 else if 91 ≤ i ∧ i < 811 then σ (σ (T + 2) ((i - 91) / 120) + 6) ((i - 91) % 120) else if 35 ≤ i ∧ i < 59 then (if (i - 35) % 8 < D (32 + (i - 35) / 8) then D i else 0) else if 59 ≤ i ∧ i < 83 then (if (i - 59) % 8 < D (32 + (i - 59) / 8) then D i else 0) else D i
theorem vw_o {D : zD} {i : Int} (h : ¬ (6 ≤ i ∧ i < 12) ∧ ¬ (91 ≤ i ∧ i < 811) ∧ ¬ (35 ≤ i ∧ i < 83)) : vw σ T D i = D i := by
  unfold vw
  rw [if_neg h.1, if_neg h.2.1, if_neg (by omega), if_neg (by omega)]
theorem vw_d {D : zD} {t r : Int} (ht : 0 ≤ t ∧ t < 3) (hr : 0 ≤ r ∧ r < 8) : dS (vw σ T D) t r = (if r < nS D t then dS D t r else 0) ∧ lS (vw σ T D) t r = (if r < nS D t then lS D t r else 0) := by
  refine ⟨?_, ?_⟩
  · show vw σ T D (35 + (8 * t) + r) = _
    unfold vw
    rw [if_neg (by omega), if_neg (by omega), if_pos (by omega), show (35 + 8 * t + r - 35) % 8 = r by omega, show (35 + 8 * t + r - 35) / 8 = t by omega]
  · show vw σ T D (59 + (8 * t) + r) = _
    unfold vw
    rw [if_neg (by omega), if_neg (by omega), if_neg (by omega), if_pos (by omega), show (59 + 8 * t + r - 59) % 8 = r by omega, show (59 + 8 * t + r - 59) / 8 = t by omega]
theorem QA.view {D : zD} (hT : T = 73 ∨ T = 104) (h : QA σ T D) (c2 : σ T 2 = D 2) (c3 : σ T 3 = D 5) : Rp σ T (vw σ T D) ∧ Vis (vw σ T D) D ∧ NV (vw σ T D) := by
  obtain ⟨⟨A0, A0'⟩, A1, A2, A3, A4, A5⟩ := h
  obtain ⟨s, a2r, dd, -, pp, -⟩ := A2
  have a3r := A3.2.2.1
  have a4r := A4.2.2.1
  have a5r := A5.1
  have o : ∀ i, ¬ (6 ≤ i ∧ i < 12) ∧ ¬ (91 ≤ i ∧ i < 811) ∧ ¬ (35 ≤ i ∧ i < 83) → vw σ T D i = D i := fun i hi => vw_o hi
  have en : ∀ t, 0 ≤ t → t < 3 → nS (vw σ T D) t = nS D t := fun t t0 t1 => o _ (by omega)
  have pxv : ∀ f q, 0 ≤ f → f < 6 → 0 ≤ q → q < 120 → vw σ T D (91 + 120 * f + q) = σ (σ (T + 2) f + 6) q := fun f q f0 f1 q0 q1 => by
    unfold vw
    rw [if_neg (by omega), if_pos (by omega), show (91 + 120 * f + q - 91) / 120 = f by omega, show (91 + 120 * f + q - 91) % 120 = q by omega]
  have dv : ∀ f, 0 ≤ f → f < 6 → vw σ T D (6 + f) = σ (σ (T + 2) f) 0 := fun f f0 f1 => by
    unfold vw
    rw [if_pos (by omega), show 6 + f - 6 = f by omega]
  refine ⟨⟨⟨hT, ?_, ?_, ?_, ?_, ?_, ?_, fun i i0 i1 => ?_⟩, ⟨s.1, s.2, fun f f0 f1 => (dv f f0 f1).symm, fun f q f0 f1 q0 q1 => (pxv f q f0 f1 q0 q1).symm⟩, ⟨fun k k0 k1 => ?_, fun k k0 k1 => ?_⟩, fun t t0 t1 => ?_⟩, ⟨⟨o 0 (by decide), o 1 (by decide), o 2 (by decide), o 3 (by decide), o 4 (by decide), o 5 (by decide)⟩, fun i i0 i1 => o _ (by omega), fun f f0 f1 => ?_, fun f x y f0 f1 x0 x1 y0 y1 => ?_, fun k k0 k1 => ⟨o _ (by omega), o _ (by omega)⟩, fun k k0 k1 => ⟨o _ (by omega), o _ (by omega)⟩, fun t t0 t1 => ?_⟩, fun t t0 t1 r r0 r1 => ?_⟩
  · rw [o 0 (by decide)]; exact A0.1
  · rw [o 1 (by decide)]; exact A0'.1
  · rw [o 2 (by decide)]; exact c2
  · rw [o 5 (by decide)]; exact c3
  · rw [o 3 (by decide)]; exact A3.2.1
  · rw [o 4 (by decide)]; exact A4.2.1
  · rw [o _ (by omega)]; exact A1.1 i i0 i1
  · rw [o 3 (by decide)] at k1
    have q := (A3.2.2.2 k k0 k1).1
    rw [o _ (by omega), o _ (by omega), ← q.1, ← q.2, show T + 4 + 1 = T + 5 by omega, show T + 4 + 2 = T + 6 by omega]
    exact ⟨rfl, rfl⟩
  · rw [o 4 (by decide)] at k1
    have q := (A4.2.2.2 k k0 k1).1
    rw [o _ (by omega), o _ (by omega), ← q.1, ← q.2, show T + 7 + 1 = T + 8 by omega, show T + 7 + 2 = T + 9 by omega]
    exact ⟨rfl, rfl⟩
  · rw [o 5 (by decide)] at t1
    obtain ⟨x, y, z⟩ := A5.2 t t0 t1
    rw [en t t0 (by omega)]
    refine ⟨x.1, fun r r0 r1 => ?_⟩
    have q := vw_d (σ := σ) (T := T) (D := D) (t := t) (r := r) (by omega) (by omega)
    rw [q.1, q.2, if_pos r1, if_pos r1]
    exact (y r r0 r1).1
  · rw [dv f f0 (by omega)]; exact dd f f0 f1
  · have k := pxv f (12 * y + x) f0 (by omega) (by omega) (by omega)
    unfold px
    rw [show 91 + 120 * f + 12 * y + x = 91 + 120 * f + (12 * y + x) by omega, k, pp f x y f0 f1 x0 x1 y0 y1]
    unfold px
    rw [show 91 + 120 * f + (12 * y + x) = 91 + 120 * f + 12 * y + x by omega]
  · rw [en t t0 (by omega)]
    obtain ⟨x, y, z⟩ := A5.2 t t0 t1
    refine ⟨rfl, fun r r0 r1 => ?_⟩
    have q := vw_d (σ := σ) (T := T) (D := D) (t := t) (r := r) (by omega) (by omega)
    rw [q.1, q.2, if_pos r1, if_pos r1]
    exact ⟨rfl, rfl⟩
  · rw [o 5 (by decide)] at t1
    rw [en t t0 (by omega)] at r0
    obtain ⟨x, y, z⟩ := A5.2 t t0 t1
    have q := vw_d (σ := σ) (T := T) (D := D) (t := t) (r := r) (by omega) (by omega)
    rw [q.1, q.2, if_neg (by omega), if_neg (by omega)]
    exact ⟨rfl, rfl⟩
end QV
