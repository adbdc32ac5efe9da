/-! contrast, usable frames, the reference frame: one value for both sides -/
theorem Sc.px {σ : zSt} {S : Int} {D : zD} (h : Sc σ S D) {f x y : Int} (h0 : 0 ≤ f) (h1 : f < D 2) (x0 : 0 ≤ x) (x1 : x < D 0) (y0 : 0 ≤ y) (y1 : y < D 1) : σ (σ (S + 2) f + 6) (12 * y + x) = px D f x y := h.2.2.1.2.2 f x y h0 h1 x0 x1 y0 y1
def cst (D : zD) (f y x : Int) (p : Int × Int) : Int × Int := (min p.1 (px D f x y), max p.2 (px D f x y))
def crow (D : zD) (f y : Int) (p : Int × Int) : Int × Int := lp (cst D f y) (D 0).toNat 0 p
def ctr (D : zD) (f : Int) : Int := (lp (crow D f) (D 1).toNat 0 (9, 0)).2 - (lp (crow D f) (D 1).toNat 0 (9, 0)).1
def cB (p : Int × Int) : Prop := (0 ≤ p.1 ∧ p.1 ≤ 9) ∧ (0 ≤ p.2 ∧ p.2 ≤ 9)
theorem crow_b {D : zD} (hD : WF D) {f y : Int} (f0 : 0 ≤ f) (f1 : f < D 2) (y0 : 0 ≤ y) (y1 : y < D 1) {p : Int × Int} (h : cB p) : cB (crow D f y p) := by
  have a := hD.1
  unfold WFa at a
  refine lp_inv cB (lo := 0) (hi := D 0) (fun x q h0 h1 hq => ?_) _ _ _ (by omega) (by omega) h
  have := hD.2.2.2.1 f x y f0 f1 h0 h1 y0 y1
  unfold cB at hq ⊢
  unfold cst
  show (0 ≤ min q.1 _ ∧ min q.1 _ ≤ 9) ∧ (0 ≤ max q.2 _ ∧ max q.2 _ ≤ 9)
  omega
theorem ctr_b {D : zD} (hD : WF D) {f : Int} (f0 : 0 ≤ f) (f1 : f < D 2) : -9 ≤ ctr D f ∧ ctr D f ≤ 9 := by
  have a := hD.1
  unfold WFa at a
  have h : cB (lp (crow D f) (D 1).toNat 0 (9, 0)) := lp_inv cB (lo := 0) (hi := D 1) (fun y q h0 h1 hq => crow_b hD f0 f1 h0 h1 hq) _ _ _ (by omega) (by omega) (by unfold cB; simp)
  unfold cB at h
  unfold ctr
  omega
section CX
variable {K : Int → zSt → Prop} {σ : zSt} {S : Int} {D : zD} {f : Int}
theorem sX8_contrastOf_B48 {k29 : zSt → Int → Int → Int → Int → Int → Prop} {y : Int} (hS : Sc σ S D) (f0 : 0 ≤ f) (f1 : f < D 2) (y0 : 0 ≤ y) (y1 : y < D 1) : ∀ (m : Nat) (x lo hi : Int), x + m = D 0 → 0 ≤ x → cB (lo, hi) → k29 σ S (σ (S + 2) f + 6) (lp (cst D f y) m x (lo, hi)).1 (lp (cst D f y) m x (lo, hi)).2 (y + 1) → fX8_contrastOf_B48 K k29 (m + 1) σ S (σ (S + 2) f + 6) lo hi y x := by
  have a := hS.1.1
  unfold WFa at a
  have b := hS.2.1.2.1
  intro m
  induction m with
  | zero =>
    intro x lo hi e x0 hb hk
    rw [uX8_contrastOf_B48, b]
    exact ⟨by omega, by omega, fun _ => hk, fun h => (h (by omega)).elim⟩
  | succ m ih =>
    intro x lo hi e x0 hb hk
    have hp := hS.1.2.2.2.1 f x y f0 f1 x0 (by omega) y0 y1
    have hb2 : (0 ≤ lo ∧ lo ≤ 9) ∧ (0 ≤ hi ∧ hi ≤ 9) := hb
    rw [uX8_contrastOf_B48, b, hS.px f0 f1 x0 (by omega) y0 y1]
    rw [lp_s] at hk
    refine ⟨by omega, by omega, fun h => (by omega), fun h => ⟨fun h => (by omega), fun h => ⟨⟨by omega, by omega⟩, by omega, by omega, by omega, ?_⟩⟩⟩
    exact ih (x + 1) _ _ (by omega) (by omega) (by show (_ ∧ _) ∧ (_ ∧ _); simp only []; omega) hk
theorem sX8_contrastOf_B29 (hS : Sc σ S D) (f0 : 0 ≤ f) (f1 : f < D 2) : ∀ (m : Nat) (y lo hi : Int), y + m = D 1 → 0 ≤ y → cB (lo, hi) → K ((lp (crow D f) m y (lo, hi)).2 - (lp (crow D f) m y (lo, hi)).1) σ → fX8_contrastOf_B29 K (m + 1) σ S (σ (S + 2) f + 6) lo hi y := by
  have a := hS.1.1
  unfold WFa at a
  have b := hS.2.1.2.2.1
  intro m
  induction m with
  | zero =>
    intro y lo hi e y0 hb hk
    rw [uX8_contrastOf_B29, b]
    exact ⟨by omega, by omega, fun _ => hk, fun h => (h (by omega)).elim⟩
  | succ m ih =>
    intro y lo hi e y0 hb hk
    rw [uX8_contrastOf_B29, b]
    rw [lp_s] at hk
    refine ⟨by omega, by omega, fun h => (by omega), fun h => ⟨fun h => (by omega), fun h => ⟨(D 0).toNat + 1, ?_⟩⟩⟩
    exact sX8_contrastOf_B48 hS f0 f1 y0 (by omega) _ _ _ _ (by omega) (by omega) hb (ih (y + 1) _ _ (by omega) (by omega) (crow_b hS.1 f0 f1 y0 (by omega) hb) hk)
theorem sX8_contrastOf (hS : Sc σ S D) (f0 : 0 ≤ f) (f1 : f < D 2) (hK : K (ctr D f) σ) : fX8_contrastOf K σ S f := by
  have a := hS.1.1
  unfold WFa at a
  exact ⟨hS.k, sX8_hasFrame hS (by omega) (fun _ _ => zb1 ⟨by omega, hS.fr f0 (by omega), (D 1).toNat + 1, sX8_contrastOf_B29 hS f0 f1 _ _ _ _ (by omega) (by omega) (by unfold cB; simp) hK⟩) (fun h => (h ⟨f0, f1⟩).elim)⟩
theorem sX8_usable (hS : Sc σ S D) (f0 : 0 ≤ f) (f1 : f < D 2) (h1 : D 86 ≤ ctr D f → K 1 σ) (h0 : ¬ D 86 ≤ ctr D f → K 0 σ) : fX8_usable K σ S f := by
  have a := hS.1.1
  unfold WFa at a
  have c := ctr_b hS.1 f0 f1
  have s := hS.1.2.1
  unfold WFs at s
  have e : σ (S + 1) 3 = D 86 := hS.2.1.2.2.2.2.2.2.2 3 (by decide) (by decide)
  refine ⟨hS.k, sX8_hasFrame hS (by omega) (fun _ _ => zb1 (sX8_contrastOf hS f0 f1 ?_)) (fun h => (h ⟨f0, f1⟩).elim)⟩
  rw [e]
  exact ⟨by omega, by omega, fun h => h0 (by omega), fun h => h1 (by omega)⟩
/-- the first usable frame among the next m from i on -/
def uf (D : zD) : Nat → Int → Int
  | 0, _ => -1
  | m + 1, i => if D 86 ≤ ctr D i then i else uf D m (i + 1)
def refer (D : zD) : Int := uf D (D 2).toNat 0
theorem uf_b {D : zD} : ∀ (m : Nat) (i : Int), uf D m i = -1 ∨ (i ≤ uf D m i ∧ uf D m i < i + m ∧ D 86 ≤ ctr D (uf D m i)) := by
  intro m
  induction m with
  | zero => intro i; exact Or.inl rfl
  | succ m ih =>
    intro i
    unfold uf
    by_cases h : D 86 ≤ ctr D i
    · rw [if_pos h]; exact Or.inr ⟨by omega, by omega, h⟩
    · rw [if_neg h]
      rcases ih (i + 1) with q | ⟨q1, q2, q3⟩
      · exact Or.inl q
      · exact Or.inr ⟨by omega, by omega, q3⟩
theorem sX8_usableFrom_B6 (hS : Sc σ S D) : ∀ (m : Nat) (i : Int), (D 2 ≤ i ∧ m = 0 ∨ i + m = D 2) → 0 ≤ i → i < 2147483648 → K (uf D m i) σ → fX8_usableFrom_B6 K (m + 1) σ S i := by
  have a := hS.1.1
  unfold WFa at a
  have b := hS.2.1.2.2.2.1
  intro m
  induction m with
  | zero =>
    intro i e i0 i1 hk
    rw [uX8_usableFrom_B6, b]
    exact ⟨by omega, by omega, fun _ => hk, fun h => (h (by omega)).elim⟩
  | succ m ih =>
    intro i e i0 i1 hk
    rw [uX8_usableFrom_B6, b]
    unfold uf at hk
    refine ⟨by omega, by omega, fun h => (by omega), fun h => sX8_usable hS i0 (by omega) (fun q => zb1 ?_) (fun q => zb0 ?_)⟩
    · rwa [if_pos q] at hk
    · rw [if_neg q] at hk
      exact ih (i + 1) (by omega) (by omega) (by omega) hk
theorem sX8_usableFrom {i : Int} (hS : Sc σ S D) (i0 : 0 ≤ i) (i1 : i < 100) (hK : K (uf D (D 2 - i).toNat i) σ) : fX8_usableFrom K σ S i := by
  refine ⟨hS.k, by omega, (D 2 - i).toNat + 1, ?_⟩
  rw [Int.max_eq_left i0]
  exact sX8_usableFrom_B6 hS _ _ (by omega) i0 (by omega) hK
end CX
section CM
variable {K : Int → zSt → Prop} {σ : zSt} {f : Int}
theorem sM_brightness {x y : Int} (f0 : 0 ≤ f) (f1 : f < 6) (x0 : 0 ≤ x) (x1 : x < 12) (y0 : 0 ≤ y) (y1 : y < 10) (hK : K (px (σ 1) f x y) σ) : fX12_brightness K σ f x y := ⟨⟨by omega, by omega⟩, hK⟩
theorem sM_contrastOf_B22 {k8 : zSt → Int → Int → Int → Int → Prop} {y : Int} (hD : WF (σ 1)) (f0 : 0 ≤ f) (f1 : f < σ 1 2) (y0 : 0 ≤ y) (y1 : y < σ 1 1) : ∀ (m : Nat) (x lo hi : Int), x + m = σ 1 0 → 0 ≤ x → cB (lo, hi) → k8 σ f (lp (cst (σ 1) f y) m x (lo, hi)).1 (lp (cst (σ 1) f y) m x (lo, hi)).2 (y + 1) → fX12_contrastOf_B22 K k8 (m + 1) σ f lo hi y x := by
  have a := hD.1
  unfold WFa at a
  intro m
  induction m with
  | zero =>
    intro x lo hi e x0 hb hk
    rw [uX12_contrastOf_B22]
    exact ⟨by omega, by omega, fun _ => hk, fun h => (h (by omega)).elim⟩
  | succ m ih =>
    intro x lo hi e x0 hb hk
    have hp := hD.2.2.2.1 f x y f0 f1 x0 (by omega) y0 y1
    have hb2 : (0 ≤ lo ∧ lo ≤ 9) ∧ (0 ≤ hi ∧ hi ≤ 9) := hb
    rw [uX12_contrastOf_B22]
    rw [lp_s] at hk
    have ih2 := ih (x + 1) (min lo (px (σ 1) f x y)) (max hi (px (σ 1) f x y)) (by omega) (by omega) (by show (_ ∧ _) ∧ (_ ∧ _); simp only []; omega) hk
    refine ⟨by omega, by omega, fun h => (by omega), fun h => sM_brightness f0 (by omega) x0 (by omega) y0 (by omega) ⟨by omega, by omega, fun q => ⟨by omega, by omega, fun r => ?_, fun r => ?_⟩, fun q => ⟨by omega, by omega, fun r => ?_, fun r => ?_⟩⟩⟩
    · rwa [Int.min_eq_left q, Int.max_eq_left r] at ih2
    · rwa [Int.min_eq_left q, Int.max_eq_right (by omega)] at ih2
    · rwa [Int.min_eq_right (by omega), Int.max_eq_left r] at ih2
    · rwa [Int.min_eq_right (by omega), Int.max_eq_right (by omega)] at ih2
theorem sM_contrastOf_B8 (hD : WF (σ 1)) (f0 : 0 ≤ f) (f1 : f < σ 1 2) : ∀ (m : Nat) (y lo hi : Int), y + m = σ 1 1 → 0 ≤ y → cB (lo, hi) → K ((lp (crow (σ 1) f) m y (lo, hi)).2 - (lp (crow (σ 1) f) m y (lo, hi)).1) σ → fX12_contrastOf_B8 K (m + 1) σ f lo hi y := by
  have a := hD.1
  unfold WFa at a
  intro m
  induction m with
  | zero =>
    intro y lo hi e y0 hb hk
    rw [uX12_contrastOf_B8]
    exact ⟨by omega, by omega, fun _ => hk, fun h => (h (by omega)).elim⟩
  | succ m ih =>
    intro y lo hi e y0 hb hk
    rw [uX12_contrastOf_B8]
    rw [lp_s] at hk
    refine ⟨by omega, by omega, fun h => (by omega), fun h => ⟨(σ 1 0).toNat + 1, ?_⟩⟩
    exact sM_contrastOf_B22 hD f0 f1 y0 (by omega) _ _ _ _ (by omega) (by omega) hb (ih (y + 1) _ _ (by omega) (by omega) (crow_b hD f0 f1 y0 (by omega) hb) hk)
theorem sM_contrastOf (hD : WF (σ 1)) (f0 : 0 ≤ f) (f1 : f < σ 1 2) (hK : K (ctr (σ 1) f) σ) : fX12_contrastOf K σ f := by
  have a := hD.1
  unfold WFa at a
  exact ⟨(σ 1 1).toNat + 1, sM_contrastOf_B8 hD f0 f1 _ _ _ _ (by omega) (by omega) (by unfold cB; simp) hK⟩
theorem sM_usable (hD : WF (σ 1)) (f0 : 0 ≤ f) (f1 : f < σ 1 2) (h1 : σ 1 86 ≤ ctr (σ 1) f → K 1 σ) (h0 : ¬ σ 1 86 ≤ ctr (σ 1) f → K 0 σ) : fX12_usable K σ f := by
  have c := ctr_b hD f0 f1
  have s := hD.2.1
  unfold WFs at s
  exact sM_contrastOf hD f0 f1 ⟨by omega, by omega, by show zrg (σ 1 86); omega, fun h => h0 (by have h : ctr (σ 1) f < σ 1 86 := h; omega), fun h => h1 (by have h : ¬ ctr (σ 1) f < σ 1 86 := h; omega)⟩
theorem sM_reference_B2 (hD : WF (σ 1)) : ∀ (m : Nat) (i : Int), i + m = σ 1 2 → 0 ≤ i → K (uf (σ 1) m i) σ → fX12_reference_B2 K (m + 1) σ i := by
  have a := hD.1
  unfold WFa at a
  intro m
  induction m with
  | zero =>
    intro i e i0 hk
    rw [uX12_reference_B2]
    exact ⟨by omega, by omega, fun _ => hk, fun h => (h (by omega)).elim⟩
  | succ m ih =>
    intro i e i0 hk
    rw [uX12_reference_B2]
    unfold uf at hk
    refine ⟨by omega, by omega, fun h => (by omega), fun h => sM_usable hD i0 (by omega) (fun q => zb1 ?_) (fun q => zb0 ?_)⟩
    · rwa [if_pos q] at hk
    · rw [if_neg q] at hk
      exact ih (i + 1) (by omega) (by omega) hk
theorem sM_reference (hD : WF (σ 1)) (hK : K (refer (σ 1)) σ) : fX12_reference K σ := by
  have a := hD.1
  unfold WFa at a
  exact ⟨(σ 1 2).toNat + 1, sM_reference_B2 hD _ _ (by omega) (by omega) hK⟩
end CM
