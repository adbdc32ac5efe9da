/-! gaps: both sides -/
abbrev us (D : zD) (f : Int) : Prop := D 86 ≤ ctr D f
def nx (D : zD) (f : Int) : Int := uf D (D 2 - (f + 1)).toNat (f + 1)
def gapv (D : zD) (f : Int) : Int := if us D f ∧ nx D f ≠ -1 ∧ D 89 < D (6 + nx D f) - D (6 + f) then D (6 + nx D f) - D (6 + f) else 0
def gcnt (D : zD) (f a : Int) : Int := if 0 < gapv D f then a + 1 else a
def gA (D : zD) (x : Int) : Int := lp (gcnt D) x.toNat 0 0
def gL (D : zD) (x : Int) : Int := lp (fun f a => max a (gapv D f)) x.toNat 0 0
def gfind (D : zD) (s : Int) : Nat → Int → Int → Int
  | 0, _, _ => -1
  | m + 1, k, a => if 0 < gapv D k then (if a = s then k else gfind D s m (k + 1) (a + 1)) else gfind D s m (k + 1) a
def gbgn (D : zD) (s : Int) : Int := gfind D s (D 2).toNat 0 0
theorem uf_sp {D : zD} : ∀ (m : Nat) (i : Int), 0 ≤ i → (uf D m i = -1 ∧ ∀ g, i ≤ g → g < i + m → ¬ us D g) ∨ ((i ≤ uf D m i ∧ uf D m i < i + m) ∧ us D (uf D m i) ∧ ∀ g, i ≤ g → g < uf D m i → ¬ us D g) := by
  intro m
  induction m with
  | zero => intro i i0; exact Or.inl ⟨rfl, fun g g0 g1 => by omega⟩
  | succ m ih =>
    intro i i0
    unfold uf
    by_cases z : D 86 ≤ ctr D i
    · rw [if_pos z]
      exact Or.inr ⟨by omega, z, fun g g0 g1 => by omega⟩
    · rw [if_neg z]
      rcases ih (i + 1) (by omega) with ⟨h1, h2⟩ | ⟨h1, h2, h3⟩
      · refine Or.inl ⟨h1, fun g g0 g1 => ?_⟩
        by_cases w : g = i
        · rw [w]; exact z
        · exact h2 g (by omega) (by omega)
      · refine Or.inr ⟨by omega, h2, fun g g0 g1 => ?_⟩
        by_cases w : g = i
        · rw [w]; exact z
        · exact h3 g (by omega) (by omega)
theorem nx_sp {D : zD} {f : Int} (f0 : 0 ≤ f) (f1 : f < D 2) : (nx D f = -1 ∧ ∀ g, f < g → g < D 2 → ¬ us D g) ∨ ((f < nx D f ∧ nx D f < D 2) ∧ us D (nx D f) ∧ ∀ g, f < g → g < nx D f → ¬ us D g) := by
  have h := uf_sp (D := D) (D 2 - (f + 1)).toNat (f + 1) (by omega)
  unfold nx
  rcases h with ⟨h1, h2⟩ | ⟨h1, h2, h3⟩
  · exact Or.inl ⟨h1, fun g g0 g1 => h2 g (by omega) (by omega)⟩
  · exact Or.inr ⟨by omega, h2, fun g g0 g1 => h3 g (by omega) g1⟩
theorem gapv_b {D : zD} (hD : WF D) {f : Int} (f0 : 0 ≤ f) (f1 : f < D 2) : 0 ≤ gapv D f ∧ gapv D f ≤ 9999 := by
  have t := hD.2.1
  unfold WFs at t
  have d := hD.2.2.1.1
  unfold gapv
  by_cases z : us D f ∧ nx D f ≠ -1 ∧ D 89 < D (6 + nx D f) - D (6 + f)
  · rw [if_pos z]
    have a := d f f0 f1
    rcases nx_sp f0 f1 with ⟨h, -⟩ | ⟨h, -⟩
    · exact absurd h z.2.1
    · have b := d _ (by omega) h.2; omega
  · rw [if_neg z]; decide
theorem lp_add {α : Type} {g : Int → α → α} : ∀ (m r : Nat) (x : Int) (a : α), lp g (m + r) x a = lp g r (x + m) (lp g m x a) := by
  intro m
  induction m with
  | zero => intro r x a; rw [lp_0, Nat.zero_add]; simp
  | succ m ih =>
    intro r x a
    rw [show m + 1 + r = (m + r) + 1 by omega, lp_s, lp_s, ih]
    rw [show x + 1 + (m : Int) = x + ((m + 1 : Nat) : Int) by omega]
theorem gA_s {D : zD} {x : Int} (x0 : 0 ≤ x) : gA D (x + 1) = gcnt D x (gA D x) := by
  unfold gA
  rw [show (x + 1).toNat = x.toNat + 1 by omega, lp_last, show (0 : Int) + (x.toNat : Int) = x by omega]
theorem gL_s {D : zD} {x : Int} (x0 : 0 ≤ x) : gL D (x + 1) = max (gL D x) (gapv D x) := by
  unfold gL
  rw [show (x + 1).toNat = x.toNat + 1 by omega, lp_last, show (0 : Int) + (x.toNat : Int) = x by omega]
theorem gA_mono {D : zD} : ∀ (m : Nat) (x : Int), 0 ≤ x → gA D x ≤ gA D (x + m) ∧ gA D (x + m) ≤ gA D x + m := by
  intro m
  induction m with
  | zero => intro x x0; simp
  | succ m ih =>
    intro x x0
    have := ih x x0
    rw [show x + ((m + 1 : Nat) : Int) = x + m + 1 by omega, gA_s (by omega)]
    unfold gcnt
    split <;> omega
theorem gA_le {D : zD} {x y : Int} (x0 : 0 ≤ x) (h : x ≤ y) : gA D x ≤ gA D y := by
  have := (gA_mono (D := D) (y - x).toNat x x0).1
  rw [show x + ((y - x).toNat : Int) = y by omega] at this
  exact this
theorem gA_b {D : zD} {x : Int} (x0 : 0 ≤ x) : 0 ≤ gA D x ∧ gA D x ≤ x := by
  have := gA_mono (D := D) x.toNat 0 (by decide)
  have e : gA D 0 = 0 := rfl
  rw [e, show (0 : Int) + (x.toNat : Int) = x by omega] at this
  omega
theorem gA_flat {D : zD} : ∀ (m : Nat) (x : Int), 0 ≤ x → (∀ g, x ≤ g → g < x + m → ¬ 0 < gapv D g) → gA D (x + m) = gA D x := by
  intro m
  induction m with
  | zero => intro x x0 _; simp
  | succ m ih =>
    intro x x0 h
    have := ih x x0 (fun g g0 g1 => h g g0 (by omega))
    rw [show x + ((m + 1 : Nat) : Int) = x + m + 1 by omega, gA_s (by omega)]
    unfold gcnt
    rw [if_neg (h (x + m) (by omega) (by omega)), this]
theorem gA_eq {D : zD} {x y : Int} (x0 : 0 ≤ x) (h : x ≤ y) (hz : ∀ g, x ≤ g → g < y → ¬ 0 < gapv D g) : gA D y = gA D x := by
  have := gA_flat (D := D) (y - x).toNat x x0 (fun g g0 g1 => hz g g0 (by omega))
  rw [show x + ((y - x).toNat : Int) = y by omega] at this
  exact this
theorem gA_lt {D : zD} {g y : Int} (g0 : 0 ≤ g) (h : g < y) (p : 0 < gapv D g) : gA D g < gA D y := by
  have a := gA_s (D := D) g0
  unfold gcnt at a
  rw [if_pos p] at a
  have b := gA_le (D := D) (x := g + 1) (y := y) (by omega) (by omega)
  omega
theorem gL_flat {D : zD} (hD : WF D) : ∀ (m : Nat) (x : Int), 0 ≤ x → x + m ≤ D 2 → gA D (x + m) = gA D x → 0 ≤ gL D x → gL D (x + m) = gL D x := by
  intro m
  induction m with
  | zero => intro x x0 _ _ _; simp
  | succ m ih =>
    intro x x0 hx h hl
    have e : x + ((m + 1 : Nat) : Int) = x + m + 1 := by omega
    rw [e] at h ⊢
    have a := gA_le (D := D) (x := x) (y := x + m) x0 (by omega)
    have b := gA_le (D := D) (x := x + m) (y := x + m + 1) (by omega) (by omega)
    have c := ih x x0 (by omega) (by omega) hl
    have np : ¬ 0 < gapv D (x + m) := fun p => by have := gA_lt (D := D) (g := x + m) (y := x + m + 1) (by omega) (by omega) p; omega
    have gb := gapv_b hD (f := x + m) (by omega) (by omega)
    rw [gL_s (by omega), c]
    omega
theorem gL_eq {D : zD} (hD : WF D) {x y : Int} (x0 : 0 ≤ x) (h : x ≤ y) (y1 : y ≤ D 2) (e : gA D y = gA D x) (hl : 0 ≤ gL D x) : gL D y = gL D x := by
  have := gL_flat hD (y - x).toNat x x0 (by omega) (by rw [show x + ((y - x).toNat : Int) = y by omega]; exact e) hl
  rw [show x + ((y - x).toNat : Int) = y by omega] at this
  exact this
theorem gL_n {D : zD} (hD : WF D) : ∀ (m : Nat), (m : Int) ≤ D 2 → 0 ≤ gL D m ∧ gL D m ≤ 9999 := by
  intro m
  induction m with
  | zero => intro _; have e : gL D ((0 : Nat) : Int) = 0 := rfl; rw [e]; decide
  | succ m ih =>
    intro h
    have a := ih (by omega)
    have gb := gapv_b hD (f := m) (by omega) (by omega)
    have e : ((m + 1 : Nat) : Int) = (m : Int) + 1 := by omega
    rw [e, gL_s (by omega)]
    omega
theorem gL_b {D : zD} (hD : WF D) {x : Int} (x0 : 0 ≤ x) (x1 : x ≤ D 2) : 0 ≤ gL D x ∧ gL D x ≤ 9999 := by
  have := gL_n hD x.toNat (by omega)
  rw [show ((x.toNat : Nat) : Int) = x by omega] at this
  exact this
theorem gf_pre {D : zD} {s : Int} {r : Nat} : ∀ (m : Nat) (x a : Int), lp (gcnt D) m x a ≤ s → (∀ y b, b ≤ gcnt D y b) → gfind D s (m + r) x a = gfind D s r (x + m) (lp (gcnt D) m x a) := by
  intro m
  induction m with
  | zero => intro x a _ _; rw [lp_0, Nat.zero_add]; simp
  | succ m ih =>
    intro x a h hm
    rw [lp_s] at h ⊢
    have ge : ∀ (m : Nat) (x a : Int), a ≤ lp (gcnt D) m x a := by
      intro m
      induction m with
      | zero => intro x a; rw [lp_0]; omega
      | succ m ih => intro x a; rw [lp_s]; have := ih (x + 1) (gcnt D x a); have := hm x a; omega
    have g1 := ge m (x + 1) (gcnt D x a)
    rw [show m + 1 + r = (m + r) + 1 by omega]
    have e : x + ((m + 1 : Nat) : Int) = x + 1 + m := by omega
    rw [e]
    have := ih (x + 1) (gcnt D x a) h hm
    rw [← this]
    show (if 0 < gapv D x then (if a = s then x else gfind D s (m + r) (x + 1) (a + 1)) else gfind D s (m + r) (x + 1) a) = _
    by_cases z : 0 < gapv D x
    · have eg : gcnt D x a = a + 1 := by unfold gcnt; rw [if_pos z]
      rw [eg] at g1 ⊢
      rw [if_pos z, if_neg (by rw [eg] at h; omega)]
    · have eg : gcnt D x a = a := by unfold gcnt; rw [if_neg z]
      rw [eg, if_neg z]
theorem gcnt_ge {D : zD} (y b : Int) : b ≤ gcnt D y b := by unfold gcnt; split <;> omega
theorem gbgn_at {D : zD} {g : Int} (g0 : 0 ≤ g) (g1 : g < D 2) (p : 0 < gapv D g) : gbgn D (gA D g) = g := by
  unfold gbgn
  rw [show (D 2).toNat = g.toNat + ((D 2 - g - 1).toNat + 1) by omega]
  rw [gf_pre (D := D) (s := gA D g) g.toNat 0 0 (by unfold gA; omega) gcnt_ge]
  rw [show (0 : Int) + (g.toNat : Int) = g by omega]
  show (if 0 < gapv D g then (if lp (gcnt D) g.toNat 0 0 = gA D g then g else _) else _) = g
  rw [if_pos p, if_pos (show lp (gcnt D) g.toNat 0 0 = gA D g from rfl)]
theorem gfind_hi {D : zD} {s : Int} : ∀ (m : Nat) (k a : Int), lp (gcnt D) m k a ≤ s ∨ s < a → gfind D s m k a = -1 := by
  intro m
  induction m with
  | zero => intro k a _; rfl
  | succ m ih =>
    intro k a h
    rw [lp_s] at h
    have ge : ∀ (m : Nat) (x a : Int), a ≤ lp (gcnt D) m x a := by
      intro m
      induction m with
      | zero => intro x a; rw [lp_0]; omega
      | succ m ih => intro x a; rw [lp_s]; have := ih (x + 1) (gcnt D x a); have := gcnt_ge (D := D) x a; omega
    have g1 := ge m (k + 1) (gcnt D k a)
    unfold gfind
    by_cases z : 0 < gapv D k
    · have eg : gcnt D k a = a + 1 := by unfold gcnt; rw [if_pos z]
      rw [eg] at h g1
      rw [if_pos z, if_neg (by omega)]
      exact ih (k + 1) (a + 1) (by omega)
    · have eg : gcnt D k a = a := by unfold gcnt; rw [if_neg z]
      rw [eg] at h
      rw [if_neg z]
      exact ih (k + 1) a h
theorem gbgn_no {D : zD} {s : Int} (h : ¬ (0 ≤ s ∧ s < gA D (D 2))) : gbgn D s = -1 := by
  unfold gbgn
  unfold gA at h
  exact gfind_hi _ _ _ (by omega)
theorem gbgn_ex {D : zD} {s : Int} : ∀ (m : Nat), 0 ≤ s → s < gA D m → ∃ g, 0 ≤ g ∧ g < (m : Int) ∧ 0 < gapv D g ∧ gA D g = s := by
  intro m
  induction m with
  | zero => intro s0 s1; have e : gA D ((0 : Nat) : Int) = 0 := rfl; omega
  | succ m ih =>
    intro s0 s1
    have e : ((m + 1 : Nat) : Int) = (m : Int) + 1 := by omega
    rw [e, gA_s (by omega)] at s1
    by_cases w : s < gA D m
    · obtain ⟨g, a, b, c⟩ := ih s0 w
      exact ⟨g, a, by omega, c⟩
    · unfold gcnt at s1
      by_cases z : 0 < gapv D m
      · rw [if_pos z] at s1
        exact ⟨m, by omega, by omega, z, by omega⟩
      · rw [if_neg z] at s1
        exact absurd s1 w
theorem gbgn_ex2 {D : zD} {s : Int} (d0 : 0 ≤ D 2) (s0 : 0 ≤ s) (s1 : s < gA D (D 2)) : ∃ g, 0 ≤ g ∧ g < D 2 ∧ 0 < gapv D g ∧ gA D g = s := by
  have e : ((D 2).toNat : Int) = D 2 := by omega
  obtain ⟨g, a, b, c⟩ := gbgn_ex (D := D) (s := s) (D 2).toNat s0 (by rw [e]; exact s1)
  exact ⟨g, a, by omega, c⟩
section GX
variable {K : Int → zSt → Prop} {D : zD} {σ : zSt}
theorem sX8_gapAfter {S f : Int} (hS : Sc σ S D) (f0 : 0 ≤ f) (f1 : f < D 2) (hK : K (gapv D f) σ) : fX8_gapAfter K σ S f := by
  have hD := hS.1
  have q := hD.1
  unfold WFa at q
  have t := hD.2.1
  unfold WFs at t
  have e6 : σ (S + 1) 6 = D 89 := hS.2.1.2.2.2.2.2.2.2 6 (by decide) (by decide)
  have none : gapv D f = 0 → fX8_gapAfter_B19 K σ S f (-1) := fun e => by
    refine ⟨by decide, fun _ => ?_, fun w => absurd rfl w⟩
    unfold fX8_gapAfter_B40
    rw [e6]
    rw [e] at hK
    exact ⟨by decide, by omega, fun _ => hK, fun w => by omega⟩
  refine ⟨hS.k, sX8_usable hS f0 f1 (fun z => zb1 (sX8_usableFrom hS (by omega) (by omega) ?_)) (fun z => zb0 (none ?_))⟩
  · show fX8_gapAfter_B19 K σ S f (nx D f)
    have sp := nx_sp f0 f1
    by_cases w : nx D f = -1
    · rw [w]
      exact none (by unfold gapv; rw [if_neg (fun y => y.2.1 w)])
    · have nb : f < nx D f ∧ nx D f < D 2 := by
        rcases sp with ⟨h, -⟩ | ⟨h, -⟩
        · exact absurd h w
        · exact h
      have d1 := hD.2.2.1.1 f f0 f1
      have d2 := hD.2.2.1.1 (nx D f) (by omega) nb.2
      refine ⟨by omega, fun y => absurd y w, fun _ => sX8_dayOf hS (by omega) (sX8_dayOf hS (by omega) ?_)⟩
      rw [if_pos ⟨by omega, nb.2⟩, if_pos ⟨f0, f1⟩]
      unfold fX8_gapAfter_B40
      rw [e6]
      refine ⟨by omega, by omega, fun y => ?_, fun y => ?_⟩
      · rw [show gapv D f = 0 by unfold gapv; rw [if_neg (fun v => by omega)]] at hK; exact hK
      · rw [show gapv D f = D (6 + nx D f) - D (6 + f) by unfold gapv; rw [if_pos ⟨z, w, by omega⟩]] at hK; exact hK
  · unfold gapv; rw [if_neg (fun y => z y.1)]
theorem rX_gapCount (h : XA σ D) (hK : K (gA D (D 2)) σ) : fX11_gapCount K σ := by
  have q := h.1.1.1.1
  unfold WFa at q
  have e2 : σ (σ 0 0) 2 = D 2 := h.1.1.2.1.2.2.2.1
  have L : ∀ (m : Nat) (f a : Int), f + m = D 2 → 0 ≤ f → lp (gcnt D) m f a = gA D (D 2) → fX11_gapCount_B4 K (m + 1) σ a f := by
    intro m
    induction m with
    | zero =>
      intro f a e f0 hs
      rw [lp_0] at hs
      rw [uX11_gapCount_B4, e2]
      exact ⟨h.1.1.k, by omega, by omega, fun _ => by rw [hs]; exact hK, fun w => (w (by omega)).elim⟩
    | succ m ih =>
      intro f a e f0 hs
      rw [lp_s] at hs
      have gb := gapv_b h.1.1.1 f0 (show f < D 2 by omega)
      rw [uX11_gapCount_B4, e2]
      refine ⟨h.1.1.k, by omega, by omega, fun w => by omega, fun _ => sX8_gapAfter h.1.1 f0 (by omega) ⟨by omega, fun z => ih (f + 1) a (by omega) (by omega) ?_, fun z => ih (f + 1) (a + 1) (by omega) (by omega) ?_⟩⟩
      · rw [show gcnt D f a = a by unfold gcnt; rw [if_neg (by omega)]] at hs; exact hs
      · rw [show gcnt D f a = a + 1 by unfold gcnt; rw [if_pos (by omega)]] at hs; exact hs
  exact ⟨_, L (D 2).toNat 0 0 (by omega) (by decide) rfl⟩
theorem sX11_frameOfGap {s : Int} (h : XA σ D) (hs : zrg s) (hK : K (gbgn D s) σ) : fX11_frameOfGap K σ s := by
  have q := h.1.1.1.1
  unfold WFa at q
  have e2 : σ (σ 0 0) 2 = D 2 := h.1.1.2.1.2.2.2.1
  have L : ∀ (m : Nat) (f a : Int), f + m = D 2 → 0 ≤ f → (0 ≤ a ∧ a ≤ f) → gfind D s m f a = gbgn D s → fX11_frameOfGap_B4 K (m + 1) σ s a f := by
    intro m
    induction m with
    | zero =>
      intro f a e f0 ha hq
      unfold gfind at hq
      rw [uX11_frameOfGap_B4, e2]
      exact ⟨h.1.1.k, by omega, by omega, fun _ => by rw [hq]; exact hK, fun w => (w (by omega)).elim⟩
    | succ m ih =>
      intro f a e f0 ha hq
      unfold gfind at hq
      have gb := gapv_b h.1.1.1 f0 (show f < D 2 by omega)
      rw [uX11_frameOfGap_B4, e2]
      refine ⟨h.1.1.k, by omega, by omega, fun w => by omega, fun _ => sX8_gapAfter h.1.1 f0 (by omega) ⟨by omega, fun z => ih (f + 1) a (by omega) (by omega) (by omega) ?_, fun z => ⟨by omega, hs, fun w => ?_, fun w => ih (f + 1) (a + 1) (by omega) (by omega) (by omega) ?_⟩⟩⟩
      · rw [if_neg (by omega)] at hq; exact hq
      · rw [if_pos (by omega), if_pos w] at hq; rw [hq]; exact hK
      · rw [if_pos (by omega), if_neg w] at hq; exact hq
  exact ⟨_, L (D 2).toNat 0 0 (by omega) (by decide) (by decide) rfl⟩
theorem gbgn_c {s : Int} (d0 : 0 ≤ D 2) : gbgn D s = -1 ∨ (0 ≤ gbgn D s ∧ gbgn D s < D 2) := by
  rcases Classical.em (0 ≤ s ∧ s < gA D (D 2)) with w | w
  · obtain ⟨g, a, b, c, d⟩ := gbgn_ex2 d0 w.1 w.2
    rw [← d, gbgn_at a b c]
    exact Or.inr ⟨a, b⟩
  · exact Or.inl (gbgn_no w)
def A_gapStart (D : zD) (s : Int) : Int := if gbgn D s = -1 then -1 else D (6 + gbgn D s)
def A_gapDays (D : zD) (s : Int) : Int := if gbgn D s = -1 then -1 else gapv D (gbgn D s)
theorem rX_gapStart {s : Int} (h : XA σ D) (hs : zrg s) (hK : K (A_gapStart D s) σ) : fX11_gapStart K σ s := by
  have q := h.1.1.1.1
  unfold WFa at q
  have c := gbgn_c (D := D) (s := s) (by omega)
  unfold A_gapStart at hK
  refine sX11_frameOfGap h hs ⟨by omega, fun z => ?_, fun z => ⟨h.1.1.k, sX8_dayOf h.1.1 (by omega) ?_⟩⟩
  · rw [if_pos z] at hK; exact hK
  · rw [if_neg z] at hK; rw [if_pos (by omega)]; exact hK
theorem rX_gapDays {s : Int} (h : XA σ D) (hs : zrg s) (hK : K (A_gapDays D s) σ) : fX11_gapDays K σ s := by
  have q := h.1.1.1.1
  unfold WFa at q
  have c := gbgn_c (D := D) (s := s) (by omega)
  unfold A_gapDays at hK
  refine sX11_frameOfGap h hs ⟨by omega, fun z => ?_, fun z => ⟨h.1.1.k, sX8_gapAfter h.1.1 (by omega) (by omega) ?_⟩⟩
  · rw [if_pos z] at hK; exact hK
  · rw [if_neg z] at hK; exact hK
theorem rX_longestGap (h : XA σ D) (hK : K (gL D (D 2)) σ) : fX11_longestGap K σ := by
  have q := h.1.1.1.1
  unfold WFa at q
  have e2 : σ (σ 0 0) 2 = D 2 := h.1.1.2.1.2.2.2.1
  have L : ∀ (m : Nat) (f : Int), f + m = D 2 → 0 ≤ f → fX11_longestGap_B4 K (m + 1) σ (gL D f) f := by
    intro m
    induction m with
    | zero =>
      intro f e f0
      rw [uX11_longestGap_B4, e2]
      exact ⟨h.1.1.k, by omega, by omega, fun _ => by rw [show f = D 2 by omega]; exact hK, fun w => (w (by omega)).elim⟩
    | succ m ih =>
      intro f e f0
      have gb := gapv_b h.1.1.1 f0 (show f < D 2 by omega)
      have lb := gL_b h.1.1.1 f0 (show f ≤ D 2 by omega)
      have := ih (f + 1) (by omega) (by omega)
      rw [gL_s f0] at this
      rw [uX11_longestGap_B4, e2]
      exact ⟨h.1.1.k, by omega, by omega, fun w => by omega, fun _ => sX8_gapAfter h.1.1 f0 (by omega) ⟨by omega, by omega, this⟩⟩
  exact ⟨_, L (D 2).toNat 0 (by omega) (by decide)⟩
abbrev pMG : Int → Int → Prop := fun a b => a = 17 ∨ a = 18 ∨ (a = 0 ∧ b = 36)
def GS (σ : zSt) (D : zD) (x : Int) : Prop := ∀ g, 0 ≤ g → g < x → 0 < gapv D g → σ 17 (gA D g) = D (6 + g) ∧ σ 18 (gA D g) = gapv D g
def GI (σ : zSt) (D : zD) (p f : Int) : Prop := (p = -1 ∧ (∀ g, 0 ≤ g → g < f → ¬ us D g) ∧ σ 0 36 = 0) ∨ ((0 ≤ p ∧ p < f) ∧ us D p ∧ (∀ g, p < g → g < f → ¬ us D g) ∧ σ 0 36 = gA D p ∧ GS σ D p)
theorem gapv_no {g : Int} (h : ¬ us D g) : ¬ 0 < gapv D g := by unfold gapv; rw [if_neg (fun y => h y.1)]; decide
theorem sM_findGaps_B14 {K : zSt → Prop} (hD : WF D) : ∀ (m : Nat) (f p : Int) (σ : zSt), f + m = D 2 → 0 ≤ f → σ 1 = D → GI σ D p f → (∀ τ, frm pMG σ τ → τ 0 36 = gA D (D 2) → GS τ D (D 2) → K τ) → fX12_findGaps_B14 K (m + 1) σ p f := by
  have q := hD.1
  unfold WFa at q
  have t := hD.2.1
  unfold WFs at t
  intro m
  induction m with
  | zero =>
    intro f p σ e f0 hd hI hk
    have e2 : σ 1 2 = D 2 := by rw [hd]
    have ef : f = D 2 := by omega
    rw [uX12_findGaps_B14, e2]
    refine ⟨by omega, by omega, fun _ => ?_, fun h => (h (by omega)).elim⟩
    rcases hI with ⟨h1, h2, h3⟩ | ⟨h1, h2, h3, h4, h5⟩
    · have z : ∀ g, 0 ≤ g → g < D 2 → ¬ 0 < gapv D g := fun g g0 g1 => gapv_no (h2 g g0 (by omega))
      refine hk σ frm.rf ?_ (fun g g0 g1 y => absurd y (z g g0 g1))
      rw [gA_eq (D := D) (x := 0) (y := D 2) (by decide) (by omega) z, h3]; rfl
    · have z : ∀ g, p ≤ g → g < D 2 → ¬ 0 < gapv D g := fun g g0 g1 => by
        by_cases w : g = p
        · rcases nx_sp (D := D) (f := p) h1.1 (by omega) with ⟨y, -⟩ | ⟨y1, y2, -⟩
          · rw [w]; unfold gapv; rw [if_neg (fun v => v.2.1 y)]; decide
          · exact absurd y2 (h3 _ y1.1 (by omega))
        · exact gapv_no (h3 g (by omega) (by omega))
      refine hk σ frm.rf ?_ (fun g g0 g1 y => ?_)
      · rw [gA_eq (D := D) (x := p) (y := D 2) h1.1 (by omega) z]; exact h4
      · by_cases w : g < p
        · exact h5 g g0 w y
        · exact absurd y (z g (by omega) g1)
  | succ m ih =>
    intro f p σ e f0 hd hI hk
    have e2 : σ 1 2 = D 2 := by rw [hd]
    have f1 : f < D 2 := by omega
    rw [uX12_findGaps_B14, e2]
    refine ⟨by omega, by omega, fun h => by omega, fun _ => sM_usable' hd hD f0 f1 (fun u => zb1 ?_) (fun u => zb0 ?_)⟩
    · rcases hI with ⟨h1, h2, h3⟩ | ⟨h1, h2, h3, h4, h5⟩
      · refine ⟨by omega, fun _ => ih (f + 1) f σ (by omega) (by omega) hd (Or.inr ⟨by omega, u, fun g g0 g1 => by omega, ?_, fun g g0 g1 y => absurd y (gapv_no (h2 g g0 g1))⟩) hk, fun w => by omega⟩
        rw [gA_eq (D := D) (x := 0) (y := f) (by decide) f0 (fun g g0 g1 => gapv_no (h2 g g0 g1)), h3]; rfl
      · have en : nx D p = f := by
          rcases nx_sp (D := D) (f := p) h1.1 (by omega) with ⟨y1, y2⟩ | ⟨y1, y2, y3⟩
          · exact absurd u (y2 f h1.2 f1)
          · rcases Classical.em (nx D p < f) with v | v
            · exact absurd y2 (h3 _ y1.1 v)
            · rcases Classical.em (f < nx D p) with v2 | v2
              · exact absurd u (y3 f h1.2 v2)
              · omega
        have d1 := hD.2.2.1.1 f f0 f1
        have d2 := hD.2.2.1.1 p h1.1 (by omega)
        have pb := gA_b (D := D) h1.1
        have zz : ∀ g, p + 1 ≤ g → g < f → ¬ 0 < gapv D g := fun g g0 g1 => gapv_no (h3 g (by omega) g1)
        have eA : gA D f = gA D (p + 1) := gA_eq (by omega) (by omega) zz
        rw [gA_s h1.1] at eA
        have vf : ∀ (υ : zSt), υ 1 = D → υ 1 (6 + f) = D (6 + f) := fun υ w => by rw [w]
        have vp : ∀ (υ : zSt), υ 1 = D → υ 1 (6 + p) = D (6 + p) := fun υ w => by rw [w]
        have e89 : σ 1 (83 + 6) = D 89 := by rw [hd]; rfl
        refine ⟨by omega, fun w => by omega, fun _ => ⟨by omega, ⟨by omega, sM_setting (by decide) (by decide) ?_⟩⟩⟩
        rw [vf σ hd, vp σ hd, e89]
        refine ⟨by omega, by omega, fun z => ih (f + 1) f σ (by omega) (by omega) hd (Or.inr ⟨by omega, u, fun g g0 g1 => by omega, ?_, fun g g0 g1 y => ?_⟩) hk, fun z => ⟨by omega, ⟨by rw [h4]; omega, fun σ15 e15 => ⟨by omega, ⟨by omega, ?_⟩⟩⟩⟩⟩
        · have g0 : ¬ 0 < gapv D p := by unfold gapv; rw [en, if_neg (fun v => by omega)]; decide
          unfold gcnt at eA
          rw [if_neg g0] at eA
          rw [eA]; exact h4
        · by_cases w : g < p
          · exact h5 g g0 w y
          · by_cases v : g = p
            · rw [v] at y; unfold gapv at y; rw [en, if_neg (fun v => by omega)] at y; exact absurd y (by decide)
            · exact absurd y (zz g (by omega) g1)
        · have c15 : σ15 0 36 = gA D p := by rw [e15, zu_ne (by omega)]; exact h4
          have d15 : σ15 1 = D := by rw [e15]; exact (frm.wr (P := pMG) (by omega)).D hd (fun b => by omega)
          rw [c15, vf σ15 d15, vp σ15 d15]
          refine ⟨by omega, fun σ19 e19 σ20 e20 => ?_⟩
          rw [h4] at e15
          have c19 : σ19 0 36 = gA D p := by rw [e19, zu_ne (by omega)]; exact c15
          rw [c19] at e20
          have vg : gapv D p = D (6 + f) - D (6 + p) := by unfold gapv; rw [en, if_pos ⟨h2, by omega, by omega⟩]
          have gp : 0 < gapv D p := by rw [vg]; omega
          unfold gcnt at eA
          rw [if_pos gp] at eA
          have fr : frm pMG σ σ20 := by rw [e20, e19, e15]; exact ((frm.rf.z (by omega)).z (by omega)).z (by omega)
          refine ih (f + 1) f σ20 (by omega) (by omega) (fr.D hd (fun b => by omega)) (Or.inr ⟨by omega, u, fun g g0 g1 => by omega, by rw [e20, zu_eq, eA], fun g g0 g1 y => ?_⟩) (fun τ w1 w2 w3 => hk τ (fr.tr w1) w2 w3)
          by_cases v : g = p
          · rw [v]
            exact ⟨by rw [e20, zu_ne (by omega), e19, zu_ne (by omega), e15, zu_eq, vp σ hd], by rw [e20, zu_ne (by omega), e19, zu_eq, vg]⟩
          · by_cases w : g < p
            · have lt := gA_lt (D := D) g0 w y
              have := h5 g g0 w y
              exact ⟨by rw [e20, zu_ne (by omega), e19, zu_ne (by omega), e15, zu_ne (by omega)]; exact this.1, by rw [e20, zu_ne (by omega), e19, zu_ne (by omega), e15, zu_ne (by omega)]; exact this.2⟩
            · exact absurd y (zz g (by omega) g1)
    · refine ih (f + 1) p σ (by omega) (by omega) hd ?_ hk
      rcases hI with ⟨h1, h2, h3⟩ | ⟨h1, h2, h3, h4, h5⟩
      · refine Or.inl ⟨h1, fun g g0 g1 => ?_, h3⟩
        by_cases w : g = f
        · rw [w]; exact u
        · exact h2 g g0 (by omega)
      · refine Or.inr ⟨by omega, h2, fun g g0 g1 => ?_, h4, h5⟩
        by_cases w : g = f
        · rw [w]; exact u
        · exact h3 g g0 (by omega)
theorem sM_findGaps {K : zSt → Prop} (hd : σ 1 = D) (hD : WF D) (hK : ∀ τ, frm pMq σ τ → τ 0 36 = gA D (D 2) → GS τ D (D 2) → K τ) : fX12_findGaps K σ := fun σ1 e1 σ2 e2 => by
  have q := hD.1
  unfold WFa at q
  have fr : frm pMq σ σ2 := by rw [e2, e1]; exact (frm.rf.z (by omega)).z (by omega)
  have hh := sM_findGaps_B14 hD (D 2).toNat 0 (-1) σ2 (by omega) (by decide) (fr.D hd (fun b => by omega)) (Or.inl ⟨rfl, fun g g0 g1 => by omega, by rw [e2, zu_eq]⟩) (fun τ w1 w2 w3 => hK τ (fr.q w1 (fun a b z => by omega)) w2 w3)
  exact ⟨_, hh⟩
theorem rM_gapCount (hd : σ 1 = D) (hD : WF D) (hK : ∀ τ, frm pMq σ τ → K (gA D (D 2)) τ) : fX12_gapCount K σ := by
  refine sM_findGaps hd hD (fun τ u1 u2 u3 => ?_)
  rw [u2]; exact hK τ u1
theorem rM_gapStart {s : Int} (hd : σ 1 = D) (hD : WF D) (hs : zrg s) (hK : ∀ τ, frm pMq σ τ → K (A_gapStart D s) τ) : fX12_gapStart K σ s := by
  have q := hD.1
  unfold WFa at q
  have ab := gA_b (D := D) (x := D 2) (by omega)
  refine sM_findGaps hd hD (fun τ u1 u2 u3 => ?_)
  have hk := hK τ u1
  unfold A_gapStart at hk
  rw [u2]
  refine sM_inRange hs (by decide) (by omega) (fun a b => zb1 ⟨by omega, ?_⟩) (fun z => zb0 ?_)
  · obtain ⟨g, g0, g1, g2, g3⟩ := gbgn_ex2 (D := D) (s := s) (by omega) a (by omega)
    have e := gbgn_at (D := D) g0 g1 g2
    rw [g3] at e
    rw [e, if_neg (by omega)] at hk
    have := (u3 g g0 g1 g2).1
    rw [g3] at this
    rw [this]; exact hk
  · rw [if_pos (gbgn_no (fun w => z (by omega)))] at hk; exact hk
theorem rM_gapDays {s : Int} (hd : σ 1 = D) (hD : WF D) (hs : zrg s) (hK : ∀ τ, frm pMq σ τ → K (A_gapDays D s) τ) : fX12_gapDays K σ s := by
  have q := hD.1
  unfold WFa at q
  have ab := gA_b (D := D) (x := D 2) (by omega)
  refine sM_findGaps hd hD (fun τ u1 u2 u3 => ?_)
  have hk := hK τ u1
  unfold A_gapDays at hk
  rw [u2]
  refine sM_inRange hs (by decide) (by omega) (fun a b => zb1 ⟨by omega, ?_⟩) (fun z => zb0 ?_)
  · obtain ⟨g, g0, g1, g2, g3⟩ := gbgn_ex2 (D := D) (s := s) (by omega) a (by omega)
    have e := gbgn_at (D := D) g0 g1 g2
    rw [g3] at e
    rw [e, if_neg (by omega)] at hk
    have := (u3 g g0 g1 g2).2
    rw [g3] at this
    rw [this]; exact hk
  · rw [if_pos (gbgn_no (fun w => z (by omega)))] at hk; exact hk
theorem rM_longestGap (hd : σ 1 = D) (hD : WF D) (hK : ∀ τ, frm pMq σ τ → K (gL D (D 2)) τ) : fX12_longestGap K σ := by
  have q := hD.1
  unfold WFa at q
  have ab := gA_b (D := D) (x := D 2) (by omega)
  refine sM_findGaps hd hD (fun τ u1 u2 u3 => ?_)
  have L : ∀ (m : Nat) (s g : Int), s + m = gA D (D 2) → (0 ≤ g ∧ g ≤ D 2) → gA D g = s → fX12_longestGap_B8 K (m + 1) τ (gL D g) s := by
    intro m
    induction m with
    | zero =>
      intro s g e hg es
      rw [uX12_longestGap_B8, u2]
      have lb := gL_b hD hg.1 hg.2
      have := gL_eq hD hg.1 hg.2 (by omega) (by omega) lb.1
      have sb := gA_b (D := D) hg.1
      exact ⟨by omega, by omega, fun _ => by rw [← this]; exact hK τ u1, fun w => (w (by omega)).elim⟩
    | succ m ih =>
      intro s g e hg es
      have sb := gA_b (D := D) hg.1
      have lb := gL_b hD hg.1 hg.2
      obtain ⟨x, x0, x1, x2, x3⟩ := gbgn_ex2 (D := D) (s := s) (by omega) (by omega) (by omega)
      have xb := gapv_b hD x0 x1
      have ge : g ≤ x := by
        rcases Classical.em (g ≤ x) with w | w
        · exact w
        · have := gA_lt (D := D) (y := g) x0 (by omega) x2; omega
      have el := gL_eq hD hg.1 ge (by omega) (by omega) lb.1
      have eA := gA_s (D := D) x0
      unfold gcnt at eA
      rw [if_pos x2] at eA
      have nxt := ih (s + 1) (x + 1) (by omega) (by omega) (by omega)
      rw [gL_s x0, el] at nxt
      have v := (u3 x x0 x1 x2).2
      rw [x3] at v
      rw [uX12_longestGap_B8, u2, v]
      refine ⟨by omega, by omega, fun w => by omega, fun _ => ⟨by omega, by omega, by omega, fun w => ?_, fun w => ?_⟩⟩
      · rw [show max (gL D g) (gapv D x) = gL D g by omega] at nxt; exact nxt
      · rw [show max (gL D g) (gapv D x) = gapv D x by omega] at nxt; exact nxt
  have hh := L (gA D (D 2)).toNat 0 0 (by omega) (by omega) rfl
  exact ⟨_, hh⟩
end GX
