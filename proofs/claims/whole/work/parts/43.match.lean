/-! windows, mismatches, errors of shifts -/
abbrev ins (D : zD) (x y : Int) : Prop := D 83 ≤ x ∧ x < D 0 - D 83 ∧ D 83 ≤ y ∧ y < D 1 - D 83
def mcell (D : zD) (a u v b w z dy dx s : Int) : Int := s + ((px D a (u + dx) (v + dy) - px D b (w + dx) (z + dy)).natAbs : Int)
def mrow (D : zD) (a u v b w z dy s : Int) : Int := lp (mcell D a u v b w z dy) (2 * D 83 + 1).toNat (-(D 83)) s
def mm (D : zD) (a u v b w z : Int) : Int := lp (mrow D a u v b w z) (2 * D 83 + 1).toNat (-(D 83)) 0
theorem lp_bd {g : Int → Int → Int} {c lo hi : Int} (h : ∀ x a, lo ≤ x → x < hi → a ≤ g x a ∧ g x a ≤ a + c) : ∀ (m : Nat) (x a : Int), lo ≤ x → x + m ≤ hi → a ≤ lp g m x a ∧ lp g m x a ≤ a + m * c := by
  intro m
  induction m with
  | zero => intro x a _ _; rw [lp_0]; simp
  | succ m ih =>
    intro x a h1 h2
    rw [lp_s]
    have p := h x a h1 (by omega)
    have q := ih (x + 1) (g x a) (by omega) (by omega)
    have e : ((m + 1 : Nat) : Int) * c = (m : Int) * c + c := by
      rw [Int.natCast_add, Int.add_mul]; simp
    omega
theorem mrow_b {D : zD} (hD : WF D) {a u v b w z dy s : Int} (a0 : 0 ≤ a) (a1 : a < D 2) (b0 : 0 ≤ b) (b1 : b < D 2) (h1 : ins D u v) (h2 : ins D w z) (d0 : -(D 83) ≤ dy) (d1 : dy ≤ D 83) : s ≤ mrow D a u v b w z dy s ∧ mrow D a u v b w z dy s ≤ s + 45 := by
  have t := hD.2.1
  unfold WFs at t
  have q := lp_bd (g := mcell D a u v b w z dy) (c := 9) (lo := -(D 83)) (hi := D 83 + 1) (fun x s0 x0 x1 => by
    have p1 := hD.2.2.2.1 a (u + x) (v + dy) a0 a1 (by omega) (by omega) (by omega) (by omega)
    have p2 := hD.2.2.2.1 b (w + x) (z + dy) b0 b1 (by omega) (by omega) (by omega) (by omega)
    unfold mcell
    omega) (2 * D 83 + 1).toNat (-(D 83)) s (by omega) (by omega)
  unfold mrow
  omega
theorem mm_b {D : zD} (hD : WF D) {a u v b w z : Int} (a0 : 0 ≤ a) (a1 : a < D 2) (b0 : 0 ≤ b) (b1 : b < D 2) (h1 : ins D u v) (h2 : ins D w z) : 0 ≤ mm D a u v b w z ∧ mm D a u v b w z ≤ 225 := by
  have t := hD.2.1
  unfold WFs at t
  have q := lp_bd (g := mrow D a u v b w z) (c := 45) (lo := -(D 83)) (hi := D 83 + 1) (fun x s0 x0 x1 => mrow_b hD a0 a1 b0 b1 h1 h2 (by omega) (by omega)) (2 * D 83 + 1).toNat (-(D 83)) 0 (by omega) (by omega)
  unfold mm
  omega
/-- the error of a shift: the controls from i on, m of them -/
def es (D : zD) (r f sx sy : Int) : Nat → Int → Int → Int
  | 0, _, acc => acc
  | m + 1, i, acc => if ins D (D (12 + (2 * i))) (D (12 + (2 * i) + 1)) ∧ ins D (D (12 + (2 * i)) + sx) (D (12 + (2 * i) + 1) + sy) then es D r f sx sy m (i + 1) (acc + mm D r (D (12 + (2 * i))) (D (12 + (2 * i) + 1)) f (D (12 + (2 * i)) + sx) (D (12 + (2 * i) + 1) + sy)) else -1
def errS (D : zD) (r f sx sy : Int) : Int := es D r f sx sy (D 3).toNat 0 0
theorem es_b {D : zD} (hD : WF D) {r f sx sy : Int} (a0 : 0 ≤ r) (a1 : r < D 2) (b0 : 0 ≤ f) (b1 : f < D 2) : ∀ (m : Nat) (i acc : Int), 0 ≤ acc → es D r f sx sy m i acc = -1 ∨ (acc ≤ es D r f sx sy m i acc ∧ es D r f sx sy m i acc ≤ acc + m * 225) := by
  intro m
  induction m with
  | zero => intro i acc _; exact Or.inr ⟨by simp [es], by simp [es]⟩
  | succ m ih =>
    intro i acc h
    unfold es
    split
    · rename_i q
      have p := mm_b hD a0 a1 b0 b1 q.1 q.2
      rcases ih (i + 1) _ (show 0 ≤ acc + mm D r (D (12 + (2 * i))) (D (12 + (2 * i) + 1)) f (D (12 + (2 * i)) + sx) (D (12 + (2 * i) + 1) + sy) by omega) with q1 | q1
      · exact Or.inl q1
      · exact Or.inr ⟨by omega, by omega⟩
    · exact Or.inl rfl
theorem errS_b {D : zD} (hD : WF D) {r f sx sy : Int} (a0 : 0 ≤ r) (a1 : r < D 2) (b0 : 0 ≤ f) (b1 : f < D 2) : -1 ≤ errS D r f sx sy ∧ errS D r f sx sy ≤ 900 := by
  have a := hD.1
  unfold WFa at a
  have h := es_b hD a0 a1 b0 b1 (sx := sx) (sy := sy) (D 3).toNat 0 0 (by omega)
  unfold errS
  omega
section MX
variable {K : Int → zSt → Prop} {σ : zSt} {S : Int} {D : zD} {a u v b w z : Int}
theorem Sc.s0 (hS : Sc σ S D) : σ (S + 1) 0 = D 83 := hS.2.1.2.2.2.2.2.2.2 0 (by decide) (by decide)
theorem sX8_isWindowInside {x y : Int} (hS : Sc σ S D) (hx : zrg x) (hy : zrg y) (h1 : ins D x y → K 1 σ) (h0 : ¬ ins D x y → K 0 σ) : fX8_isWindowInside K σ S x y := by
  have t := hS.1.2.1
  unfold WFs at t
  have a := hS.1.1
  unfold WFa at a
  unfold fX8_isWindowInside
  rw [hS.s0, hS.2.1.2.1, hS.2.1.2.2.1]
  exact ⟨hS.k, hx, by omega, fun h => h0 (by omega), fun h => ⟨by omega, fun h => h0 (by omega), fun h => ⟨hy, fun h => h0 (by omega), fun h => ⟨by omega, fun h => h0 (by omega), fun h => h1 (by omega)⟩⟩⟩⟩
theorem sX8_mismatch_B114 {k78 : zSt → Int → Int → Int → Int → Int → Int → Int → Int → Int → Prop} {dy : Int} (hS : Sc σ S D) (a0 : 0 ≤ a) (a1 : a < D 2) (b0 : 0 ≤ b) (b1 : b < D 2) (h1 : ins D u v) (h2 : ins D w z) (d0 : -(D 83) ≤ dy) (d1 : dy ≤ D 83) : ∀ (m : Nat) (dx s : Int), dx + m = D 83 + 1 → -(D 83) ≤ dx → k78 σ u v w z (σ (S + 2) a + 6) (σ (S + 2) b + 6) (D 83) (lp (mcell D a u v b w z dy) m dx s) (dy + 1) → fX8_mismatch_B114 K k78 (m + 1) σ u v w z (σ (S + 2) a + 6) (σ (S + 2) b + 6) (D 83) s dy ((12 * (v + dy)) + u) ((12 * (z + dy)) + w) dx := by
  have t := hS.1.2.1
  unfold WFs at t
  have q := hS.1.1
  unfold WFa at q
  intro m
  induction m with
  | zero =>
    intro dx s e e0 hk
    rw [uX8_mismatch_B114]
    exact ⟨by omega, by omega, fun _ => hk, fun h => (h (by omega)).elim⟩
  | succ m ih =>
    intro dx s e e0 hk
    have p1 := hS.1.2.2.2.1 a (u + dx) (v + dy) a0 a1 (by omega) (by omega) (by omega) (by omega)
    have p2 := hS.1.2.2.2.1 b (w + dx) (z + dy) b0 b1 (by omega) (by omega) (by omega) (by omega)
    rw [uX8_mismatch_B114, Int.add_assoc, Int.add_assoc, hS.px a0 a1 (by omega) (by omega) (by omega) (by omega), hS.px b0 b1 (by omega) (by omega) (by omega) (by omega)]
    rw [lp_s] at hk
    exact ⟨by omega, by omega, fun h => (by omega), fun h => ⟨by omega, by omega, by omega, fun y20 e20 => by subst e20; exact ih (dx + 1) _ (by omega) (by omega) hk⟩⟩
theorem sX8_mismatch_B78 (hS : Sc σ S D) (a0 : 0 ≤ a) (a1 : a < D 2) (b0 : 0 ≤ b) (b1 : b < D 2) (h1 : ins D u v) (h2 : ins D w z) : ∀ (m : Nat) (dy s : Int), dy + m = D 83 + 1 → -(D 83) ≤ dy → K (lp (mrow D a u v b w z) m dy s) σ → fX8_mismatch_B78 K (m + 1) σ u v w z (σ (S + 2) a + 6) (σ (S + 2) b + 6) (D 83) s dy := by
  have t := hS.1.2.1
  unfold WFs at t
  intro m
  induction m with
  | zero =>
    intro dy s e e0 hk
    rw [uX8_mismatch_B78]
    exact ⟨by omega, by omega, fun _ => hk, fun h => (h (by omega)).elim⟩
  | succ m ih =>
    intro dy s e e0 hk
    rw [uX8_mismatch_B78]
    rw [lp_s] at hk
    exact ⟨by omega, by omega, fun h => (by omega), fun h => ⟨(2 * D 83 + 1).toNat + 1, sX8_mismatch_B114 hS a0 a1 b0 b1 h1 h2 e0 (by omega) _ _ _ (by omega) (by omega) (ih (dy + 1) _ (by omega) (by omega) hk)⟩⟩
theorem sX8_mismatch (hS : Sc σ S D) (a0 : 0 ≤ a) (a1 : a < D 2) (b0 : 0 ≤ b) (b1 : b < D 2) (h1 : ins D u v) (h2 : ins D w z) (hK : K (mm D a u v b w z) σ) : fX8_mismatch K σ S a u v b w z := by
  have t := hS.1.2.1
  unfold WFs at t
  have q := hS.1.1
  unfold WFa at q
  refine ⟨hS.k, sX8_hasFrame hS (by omega) (fun _ _ => zb1 ?_) (fun h => (h ⟨a0, a1⟩).elim)⟩
  refine sX8_hasFrame hS (by omega) (fun _ _ => zb1 ?_) (fun h => (h ⟨b0, b1⟩).elim)
  refine sX8_isWindowInside hS (by omega) (by omega) (fun _ => zb1 ?_) (fun h => (h h1).elim)
  refine sX8_isWindowInside hS (by omega) (by omega) (fun _ => zb1 ?_) (fun h => (h h2).elim)
  rw [hS.s0]
  exact ⟨⟨a0, by omega⟩, hS.fr a0 (by omega), ⟨b0, by omega⟩, hS.fr b0 (by omega), (2 * D 83 + 1).toNat + 1, sX8_mismatch_B78 hS a0 a1 b0 b1 h1 h2 _ _ _ (by omega) (by omega) hK⟩
theorem sX8_errorOfShift_B6 {r f sx sy : Int} (hS : Sc σ S D) (a0 : 0 ≤ r) (a1 : r < D 2) (b0 : 0 ≤ f) (b1 : f < D 2) (x0 : -3 ≤ sx ∧ sx ≤ 3) (y0 : -3 ≤ sy ∧ sy ≤ 3) : ∀ (m : Nat) (i acc : Int), i + m = D 3 → 0 ≤ i → 0 ≤ acc → K (es D r f sx sy m i acc) σ → fX8_errorOfShift_B6 K (m + 1) σ S r f sx sy acc i := by
  have q := hS.1.1
  unfold WFa at q
  intro m
  induction m with
  | zero =>
    intro i acc e e0 c0 hk
    rw [uX8_errorOfShift_B6, hS.2.1.2.2.2.2.2.1]
    exact ⟨by omega, by omega, fun _ => hk, fun h => (h (by omega)).elim⟩
  | succ m ih =>
    intro i acc e e0 c0 hk
    have c := hS.1.2.2.2.2.1.1 i e0 (by omega)
    have cx : σ (S + 4 + 1) i = D (12 + (2 * i)) := by rw [Int.add_assoc]; exact (hS.2.2.2.1.1 i e0 (by omega)).1
    have cy : σ (S + 4 + 2) i = D (12 + (2 * i) + 1) := by rw [Int.add_assoc]; exact (hS.2.2.2.1.1 i e0 (by omega)).2
    rw [uX8_errorOfShift_B6, hS.2.1.2.2.2.2.2.1, cx, cy]
    unfold es at hk
    refine ⟨by omega, by omega, fun h => (by omega), fun h => ⟨by omega, sX8_isWindowInside hS (by omega) (by omega) (fun g1 => zb1 (sX8_isWindowInside hS (by omega) (by omega) (fun g2 => zb1 ?_) (fun g2 => zb0 ?_))) (fun g1 => zb0 ?_)⟩⟩
    · rw [if_pos ⟨g1, g2⟩] at hk
      have p := mm_b hS.1 a0 a1 b0 b1 g1 g2
      exact sX8_mismatch hS a0 a1 b0 b1 g1 g2 (ih (i + 1) _ (by omega) (by omega) (by omega) hk)
    · rwa [if_neg (fun g => g2 g.2)] at hk
    · rwa [if_neg (fun g => g1 g.1)] at hk
theorem sX8_errorOfShift {r f sx sy : Int} (hS : Sc σ S D) (a0 : 0 ≤ r) (a1 : r < D 2) (b0 : 0 ≤ f) (b1 : f < D 2) (x0 : -3 ≤ sx ∧ sx ≤ 3) (y0 : -3 ≤ sy ∧ sy ≤ 3) (hK : K (errS D r f sx sy) σ) : fX8_errorOfShift K σ S r f sx sy := by
  have q := hS.1.1
  unfold WFa at q
  exact ⟨hS.k, (D 3).toNat + 1, sX8_errorOfShift_B6 hS a0 a1 b0 b1 x0 y0 _ _ _ (by omega) (by omega) (by omega) hK⟩
end MX
section MM
variable {K : Int → zSt → Prop} {σ : zSt} {a u v b w z : Int}
theorem sM_setting {i : Int} (i0 : 0 ≤ i) (i1 : i < 8) (hK : K (σ 1 (83 + i)) σ) : fX12_setting K σ i := ⟨⟨by omega, by omega⟩, hK⟩
theorem sM_absolute {x : Int} (hx : zrg x) (hK : K (x.natAbs : Int) σ) : fX12_absolute K σ x := by
  refine ⟨hx, fun h => ?_, fun h => ?_⟩
  · rwa [show ((x.natAbs : Nat) : Int) = x by omega] at hK
  · rwa [show ((x.natAbs : Nat) : Int) = -x by omega] at hK
theorem sM_isInside {x y : Int} (hD : WF (σ 1)) (hx : -1000 ≤ x ∧ x ≤ 1000 ∨ zrg x ∧ zrg y ∧ zrg (x + 2) ∧ zrg (y + 2)) (hy : -1000 ≤ y ∧ y ≤ 1000 ∨ zrg x ∧ zrg y ∧ zrg (x + 2) ∧ zrg (y + 2)) (h1 : ins (σ 1) x y → K 1 σ) (h0 : ¬ ins (σ 1) x y → K 0 σ) : fX12_isInside K σ x y := by
  have t := hD.2.1
  unfold WFs at t
  have q := hD.1
  unfold WFa at q
  refine sM_setting (by omega) (by omega) ?_
  show zrg x ∧ zrg (σ 1 83) ∧ _
  exact ⟨by omega, by omega, fun h => h0 (by have h : x < σ 1 83 := h; omega), fun h => ⟨by omega, fun g => h0 (by have g : y < σ 1 83 := g; omega), fun g => ⟨by show zrg (x + σ 1 83); omega, by omega, fun k => h0 (by have k : σ 1 0 ≤ x + σ 1 83 := k; omega), fun k => ⟨by show zrg (y + σ 1 83); omega, by omega, fun j => h0 (by have j : σ 1 1 ≤ y + σ 1 83 := j; omega), fun j => h1 (by have h : ¬ x < σ 1 83 := h; have g : ¬ y < σ 1 83 := g; have k : ¬ σ 1 0 ≤ x + σ 1 83 := k; have j : ¬ σ 1 1 ≤ y + σ 1 83 := j; omega)⟩⟩⟩⟩
theorem sM_mismatch_B27 {k15 : zSt → Int → Int → Int → Int → Int → Int → Int → Int → Int → Prop} {dy : Int} (hD : WF (σ 1)) (a0 : 0 ≤ a) (a1 : a < σ 1 2) (b0 : 0 ≤ b) (b1 : b < σ 1 2) (h1 : ins (σ 1) u v) (h2 : ins (σ 1) w z) (d0 : -(σ 1 83) ≤ dy) (d1 : dy ≤ σ 1 83) : ∀ (m : Nat) (dx s : Int), dx + m = σ 1 83 + 1 → -(σ 1 83) ≤ dx → k15 σ a u v b w z (σ 1 83) (lp (mcell (σ 1) a u v b w z dy) m dx s) (dy + 1) → fX12_mismatch_B27 K k15 (m + 1) σ a u v b w z (σ 1 83) s dy dx := by
  have t := hD.2.1
  unfold WFs at t
  have q := hD.1
  unfold WFa at q
  intro m
  induction m with
  | zero =>
    intro dx s e e0 hk
    rw [uX12_mismatch_B27]
    exact ⟨by omega, by omega, fun _ => hk, fun h => (h (by omega)).elim⟩
  | succ m ih =>
    intro dx s e e0 hk
    have p1 := hD.2.2.2.1 a (u + dx) (v + dy) a0 a1 (by omega) (by omega) (by omega) (by omega)
    have p2 := hD.2.2.2.1 b (w + dx) (z + dy) b0 b1 (by omega) (by omega) (by omega) (by omega)
    rw [uX12_mismatch_B27]
    rw [lp_s] at hk
    exact ⟨by omega, by omega, fun h => (by omega), fun h => sM_brightness a0 (by omega) (by omega) (by omega) (by omega) (by omega) (sM_brightness b0 (by omega) (by omega) (by omega) (by omega) (by omega) (sM_absolute (by omega) (ih (dx + 1) _ (by omega) (by omega) hk)))⟩
theorem sM_mismatch_B15 (hD : WF (σ 1)) (a0 : 0 ≤ a) (a1 : a < σ 1 2) (b0 : 0 ≤ b) (b1 : b < σ 1 2) (h1 : ins (σ 1) u v) (h2 : ins (σ 1) w z) : ∀ (m : Nat) (dy s : Int), dy + m = σ 1 83 + 1 → -(σ 1 83) ≤ dy → K (lp (mrow (σ 1) a u v b w z) m dy s) σ → fX12_mismatch_B15 K (m + 1) σ a u v b w z (σ 1 83) s dy := by
  have t := hD.2.1
  unfold WFs at t
  intro m
  induction m with
  | zero =>
    intro dy s e e0 hk
    rw [uX12_mismatch_B15]
    exact ⟨by omega, by omega, fun _ => hk, fun h => (h (by omega)).elim⟩
  | succ m ih =>
    intro dy s e e0 hk
    rw [uX12_mismatch_B15]
    rw [lp_s] at hk
    exact ⟨by omega, by omega, fun h => (by omega), fun h => ⟨(2 * σ 1 83 + 1).toNat + 1, sM_mismatch_B27 hD a0 a1 b0 b1 h1 h2 e0 (by omega) _ _ _ (by omega) (by omega) (ih (dy + 1) _ (by omega) (by omega) hk)⟩⟩
theorem sM_mismatch (hD : WF (σ 1)) (a0 : 0 ≤ a) (a1 : a < σ 1 2) (b0 : 0 ≤ b) (b1 : b < σ 1 2) (h1 : ins (σ 1) u v) (h2 : ins (σ 1) w z) (hK : K (mm (σ 1) a u v b w z) σ) : fX12_mismatch K σ a u v b w z := by
  have t := hD.2.1
  unfold WFs at t
  refine sM_setting (by omega) (by omega) ?_
  show ∃ n, fX12_mismatch_B15 K n σ a u v b w z (σ 1 83) 0 (-(σ 1 83))
  exact ⟨(2 * σ 1 83 + 1).toNat + 1, sM_mismatch_B15 hD a0 a1 b0 b1 h1 h2 _ _ _ (by omega) (by omega) hK⟩
theorem sM_errorOf_B6 {f sx sy : Int} (hD : WF (σ 1)) (a0 : 0 ≤ σ 0 17) (a1 : σ 0 17 < σ 1 2) (b0 : 0 ≤ f) (b1 : f < σ 1 2) (x0 : -3 ≤ sx ∧ sx ≤ 3) (y0 : -3 ≤ sy ∧ sy ≤ 3) : ∀ (m : Nat) (i acc : Int), i + m = σ 1 3 → 0 ≤ i → 0 ≤ acc → K (es (σ 1) (σ 0 17) f sx sy m i acc) σ → fX12_errorOf_B6 K (m + 1) σ f sx sy acc i := by
  have q := hD.1
  unfold WFa at q
  intro m
  induction m with
  | zero =>
    intro i acc e e0 c0 hk
    rw [uX12_errorOf_B6]
    exact ⟨by omega, by omega, fun _ => hk, fun h => (h (by omega)).elim⟩
  | succ m ih =>
    intro i acc e e0 c0 hk
    have c := hD.2.2.2.2.1.1 i e0 (by omega)
    rw [uX12_errorOf_B6]
    unfold es at hk
    refine ⟨by omega, by omega, fun h => (by omega), fun h => ⟨by omega, by omega, sM_isInside hD (Or.inl (by omega)) (Or.inl (by omega)) (fun g1 => zb1 (sM_isInside hD (Or.inl (by omega)) (Or.inl (by omega)) (fun g2 => zb1 ?_) (fun g2 => zb0 ?_))) (fun g1 => zb0 ?_)⟩⟩
    · rw [if_pos ⟨g1, g2⟩] at hk
      have p := mm_b hD a0 a1 b0 b1 g1 g2
      exact sM_mismatch hD a0 a1 b0 b1 g1 g2 (ih (i + 1) _ (by omega) (by omega) (by omega) hk)
    · rwa [if_neg (fun g => g2 g.2)] at hk
    · rwa [if_neg (fun g => g1 g.1)] at hk
theorem sM_errorOf {f sx sy : Int} (hD : WF (σ 1)) (a0 : 0 ≤ σ 0 17) (a1 : σ 0 17 < σ 1 2) (b0 : 0 ≤ f) (b1 : f < σ 1 2) (x0 : -3 ≤ sx ∧ sx ≤ 3) (y0 : -3 ≤ sy ∧ sy ≤ 3) (hK : K (errS (σ 1) (σ 0 17) f sx sy) σ) : fX12_errorOf K σ f sx sy := by
  have q := hD.1
  unfold WFa at q
  exact ⟨(σ 1 3).toNat + 1, sM_errorOf_B6 hD a0 a1 b0 b1 x0 y0 _ _ _ (by omega) (by omega) (by omega) hK⟩
end MM
