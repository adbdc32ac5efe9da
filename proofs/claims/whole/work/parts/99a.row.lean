/-! the statement that gives a frame: a row painted -/
section PF
variable {σ τ : zSt} {T : Int}
theorem sX8_paintR {K : zSt → Prop} {n x y v w hh s : Int} (hT : T = 73 ∨ T = 104) (cw : σ T 0 = w) (chh : σ T 1 = hh) (cn : σ T 2 = n + 1) (n0 : 0 ≤ n ∧ n < 6) (cs : σ (T + 2) n = s) (hs : T + 10 ≤ s ∧ s < T + 16) (hw : 4 ≤ w ∧ w ≤ 12) (hh2 : 4 ≤ hh ∧ hh ≤ 10) (hx : 0 ≤ x ∧ x < w) (hy : 0 ≤ y ∧ y < hh) (hK : K (zu σ (s + 6) (12 * y + x) v)) : fX8_paint K σ T n x y v := by
  have kT : kX T = 8 := by rw [kX_8]; exact hT
  refine ⟨kT, kT, by omega, fun z => by omega, fun _ => ⟨by omega, fun z => by omega, fun _ => ⟨by decide, fun z => absurd z (by decide), fun _ => ⟨kT, by omega, fun z => by omega, fun _ => ⟨by omega, fun z => by omega, fun _ => ⟨by omega, fun z => by omega, fun _ => ⟨by omega, fun z => by omega, fun _ => ⟨by decide, fun z => absurd z (by decide), fun _ => ⟨n0, by rw [cs, kX_1]; omega, by omega, fun σ8 e8 => ?_⟩⟩⟩⟩⟩⟩⟩⟩⟩
  rw [cs] at e8
  rw [e8]; exact hK
theorem paintRow {n y w hh s : Int} (hT : T = 73 ∨ T = 104) (h11 : σ 1 1 = T) (cw : σ T 0 = w) (chh : σ T 1 = hh) (cn : σ T 2 = n + 1) (n0 : 0 ≤ n ∧ n < 6) (cs : σ (T + 2) n = s) (hs : T + 10 ≤ s ∧ s < T + 16) (hw : 4 ≤ w ∧ w ≤ 12) (hh2 : 4 ≤ hh ∧ hh ≤ 10) (hy : 0 ≤ y ∧ y < hh) (h2 : 0 ≤ σ 2 2 ∧ σ 2 2 + w ≤ σ 2 5 ∧ σ 2 5 ≤ 1400) : ∃ σ', (∀ K : zSt → Prop, K σ' → fX4_paintRow K σ n y) ∧ frm (fun a b => a = s + 6 ∧ 12 * y ≤ b ∧ b < 12 * y + w) σ σ' ∧ ∀ x, 0 ≤ x → x < w → σ' (s + 6) (12 * y + x) = σ 3 (σ 2 2 + x) % 256 - 48 := by
  have kT : kX T = 8 := by rw [kX_8]; exact hT
  have L : ∀ (m : Nat) (x : Int) (υ : zSt), x + m = w → 0 ≤ x → frm (fun a b => a = s + 6 ∧ 12 * y ≤ b ∧ b < 12 * y + w) σ υ → (∀ x', 0 ≤ x' → x' < x → υ (s + 6) (12 * y + x') = σ 3 (σ 2 2 + x') % 256 - 48) → ∃ σ', (∃ k, ∀ K : zSt → Prop, K σ' → fX4_paintRow_B2 K k υ n y x) ∧ frm (fun a b => a = s + 6 ∧ 12 * y ≤ b ∧ b < 12 * y + w) σ σ' ∧ ∀ x, 0 ≤ x → x < w → σ' (s + 6) (12 * y + x) = σ 3 (σ 2 2 + x) % 256 - 48 := by
    intro m
    induction m with
    | zero =>
      intro x υ e x0 fr hv
      refine ⟨υ, ⟨0 + 1, fun K hK => ?_⟩, fr, fun x' a b => hv x' a (by omega)⟩
      rw [uX4_paintRow_B2, fr 1 1 (by omega), h11, fr T 0 (by omega), cw]
      exact ⟨kT, by omega, by omega, fun _ => hK, fun z => by omega⟩
    | succ m ih =>
      intro x υ e x0 fr hv
      have e2 : υ 2 2 = σ 2 2 := fr 2 2 (by omega)
      have e5 : υ 2 5 = σ 2 5 := fr 2 5 (by omega)
      have e3 : υ 3 = σ 3 := by funext j; exact fr 3 j (by omega)
      obtain ⟨σ', ⟨k, g⟩, u, v⟩ := ih (x + 1) (zu υ (s + 6) (12 * y + x) (σ 3 (σ 2 2 + x) % 256 - 48)) (by omega) (by omega) (fr.z (by omega)) (fun x' a b => by
        by_cases z : x' = x
        · rw [z, zu_eq]
        · rw [zu_ne (by omega)]; exact hv x' a (by omega))
      refine ⟨σ', ⟨k + 1, fun K hK => ?_⟩, u, v⟩
      rw [uX4_paintRow_B2, fr 1 1 (by omega), h11, fr T 0 (by omega), cw]
      refine ⟨kT, by omega, by omega, fun z => by omega, fun _ => sX2_signAt (by omega) (by omega) (by omega) ?_⟩
      rw [e2, e3, e5, ch_1 (by omega)]
      exact sX8_paintR hT ((fr T 0 (by omega)).trans cw) ((fr T 1 (by omega)).trans chh) ((fr T 2 (by omega)).trans cn) n0 ((fr _ _ (by omega)).trans cs) hs hw hh2 (by omega) hy (g K hK)
  obtain ⟨σ', ⟨k, g⟩, u, v⟩ := L w.toNat 0 σ (by omega) (by decide) frm.rf (fun x' a b => by omega)
  exact ⟨σ', fun K hK => ⟨k, g K hK⟩, u, v⟩
theorem rowM {n y w : Int} (cw : τ 2 0 = w) (n0 : 0 ≤ n ∧ n < 6) (hw : 4 ≤ w ∧ w ≤ 12) (hy : 0 ≤ y ∧ y < 10) (h2 : 0 ≤ τ 0 9 ∧ τ 0 9 + w ≤ 1400) : ∃ τ', (∀ K : zSt → Prop, fX12_advance K τ' → ∃ k, fX12_parseRow_B79 K k τ n y 0) ∧ frm (fun a b => a = 2 ∧ 91 + 120 * n + 12 * y ≤ b ∧ b < 91 + 120 * n + 12 * y + w) τ τ' ∧ ∀ x, 0 ≤ x → x < w → τ' 2 (91 + 120 * n + 12 * y + x) = τ 4 (τ 0 9 + x) - 48 := by
  have L : ∀ (m : Nat) (x : Int) (υ : zSt), x + m = w → 0 ≤ x → frm (fun a b => a = 2 ∧ 91 + 120 * n + 12 * y ≤ b ∧ b < 91 + 120 * n + 12 * y + w) τ υ → (∀ x', 0 ≤ x' → x' < x → υ 2 (91 + 120 * n + 12 * y + x') = τ 4 (τ 0 9 + x') - 48) → ∃ τ', (∃ k, ∀ K : zSt → Prop, fX12_advance K τ' → fX12_parseRow_B79 K k υ n y x) ∧ frm (fun a b => a = 2 ∧ 91 + 120 * n + 12 * y ≤ b ∧ b < 91 + 120 * n + 12 * y + w) τ τ' ∧ ∀ x, 0 ≤ x → x < w → τ' 2 (91 + 120 * n + 12 * y + x) = τ 4 (τ 0 9 + x) - 48 := by
    intro m
    induction m with
    | zero =>
      intro x υ e x0 fr hv
      refine ⟨υ, ⟨0 + 1, fun K hK => ?_⟩, fr, fun x' a b => hv x' a (by omega)⟩
      rw [uX12_parseRow_B79, fr 2 0 (by omega), cw]
      exact ⟨by omega, by omega, fun _ => hK, fun z => by omega⟩
    | succ m ih =>
      intro x υ e x0 fr hv
      obtain ⟨τ', ⟨k, g⟩, u, v⟩ := ih (x + 1) (zu υ 2 (91 + 120 * n + 12 * y + x) (τ 4 (τ 0 9 + x) - 48)) (by omega) (by omega) (fr.z (by omega)) (fun x' a b => by
        by_cases z : x' = x
        · rw [z, zu_eq]
        · rw [zu_ne (by omega)]; exact hv x' a (by omega))
      refine ⟨τ', ⟨k + 1, fun K hK => ?_⟩, u, v⟩
      rw [uX12_parseRow_B79, fr 2 0 (by omega), cw, fr 0 9 (by omega), fr 4 _ (by omega)]
      exact ⟨by omega, by omega, fun z => by omega, fun _ => ⟨by omega, by omega, fun σ17 e17 => by rw [e17]; exact g K hK⟩⟩
  obtain ⟨τ', ⟨k, g⟩, u, v⟩ := L w.toNat 0 τ (by omega) (by decide) frm.rf (fun x' a b => by omega)
  exact ⟨τ', fun K hK => ⟨k, g K hK⟩, u, v⟩
/-- a frame half read: its day, its first y rows -/
def FR (σ τ : zSt) (T n y : Int) : Prop := ((T = 73 ∨ T = 104) ∧ σ 1 1 = T) ∧ QA σ T (τ 2) ∧ (σ T 2 = n + 1 ∧ τ 2 2 = n ∧ σ T 3 = τ 2 5) ∧ MK σ τ ∧ TL σ τ ∧ τ 0 13 = 0 ∧ (0 ≤ n ∧ n < 6) ∧ (σ (σ (T + 2) n) 0 = τ 2 (6 + n) ∧ (0 ≤ τ 2 (6 + n) ∧ τ 2 (6 + n) ≤ 9999) ∧ (0 < n → τ 2 (6 + (n - 1)) < τ 2 (6 + n))) ∧ (∀ x v, 0 ≤ x → x < τ 2 0 → 0 ≤ v → v < y → σ (σ (T + 2) n + 6) (12 * v + x) = px (τ 2) n x v ∧ 0 ≤ px (τ 2) n x v ∧ px (τ 2) n x v ≤ 9)
theorem Qf.push {E E' : zD} {n : Int} (h : Qf σ T E) (en : E 2 = n) (n6 : n < 6) (hd : σ (σ (T + 2) n) 0 = E (6 + n)) (hr : 0 ≤ E (6 + n) ∧ E (6 + n) ≤ 9999) (hl : 0 < n → E (6 + (n - 1)) < E (6 + n)) (hp : ∀ x v, 0 ≤ x → x < E 0 → 0 ≤ v → v < E 1 → σ (σ (T + 2) n + 6) (12 * v + x) = px E n x v ∧ 0 ≤ px E n x v ∧ px E n x v ≤ 9) (e2 : E' 2 = n + 1) (e : ∀ i, i ≠ 2 → E' i = E i) (h0 : 0 ≤ n) : Qf σ T E' := by
  obtain ⟨a, b, c, ⟨d1, d2⟩, f_, k⟩ := h
  have ep : ∀ f x y, 0 ≤ f → 0 ≤ x → 0 ≤ y → px E' f x y = px E f x y := fun f x y f0 x0 y0 => by
    unfold px
    exact e _ (by omega)
  refine ⟨a, by omega, fun f f0 f1 => ?_, ⟨fun f f0 f1 => ?_, fun f f0 f1 => ?_⟩, fun f x y f0 f1 x0 x1 y0 y1 => ?_, fun f x y f0 f1 x0 x1 y0 y1 => ?_⟩
  · rw [e _ (by omega)]
    by_cases z : f = n
    · rw [z]; exact hd
    · exact c f f0 (by omega)
  · rw [e _ (by omega)]
    by_cases z : f = n
    · rw [z]; exact hr
    · exact d1 f f0 (by omega)
  · rw [e _ (by omega), e _ (by omega)]
    by_cases z : f + 1 = n
    · have := hl (by omega)
      rw [z, show f = n - 1 by omega]; exact this
    · exact d2 f f0 (by omega)
  · rw [e 0 (by decide)] at x1
    rw [e 1 (by decide)] at y1
    rw [ep f x y f0 x0 y0]
    by_cases z : f = n
    · rw [z]; exact (hp x y x0 x1 y0 y1).1
    · exact f_ f x y f0 (by omega) x0 x1 y0 y1
  · rw [e 0 (by decide)] at x1
    rw [e 1 (by decide)] at y1
    rw [ep f x y f0 x0 y0]
    by_cases z : f = n
    · rw [z]; exact (hp x y x0 x1 y0 y1).2
    · exact k f x y f0 (by omega) x0 x1 y0 y1
/-- the reference after a fault -/
theorem pf159 {K : zSt → Prop} {y : Int} (h : τ 0 13 ≠ 0) (hz : zrg (τ 0 13)) (z10 : zrg (τ 0 10)) (hy : zrg y) (z1 : zrg (τ 2 1)) (hK : K τ) : fX12_parseFrame_B159 K τ y := by
  have B : ∀ s0, zrg s0 → fX12_parseFrame_B194 K τ s0 := fun s0 hs => sM_checkN hs h hz ⟨hz, fun z => (h z).elim, fun _ => hK⟩
  have C : ∀ s0, zrg s0 → fX12_parseFrame_B173 K τ y s0 := fun s0 hs => sM_checkN hs h hz ⟨hy, z1, fun _ => B 1 (by decide), fun _ => B 0 (by decide)⟩
  exact ⟨z10, fun _ => C 1 (by decide), fun _ => C 0 (by decide)⟩
theorem pf128 {K : zSt → Prop} {k : Nat} {n y : Int} (h : τ 0 13 ≠ 0) (hz : zrg (τ 0 13)) (z10 : zrg (τ 0 10)) (hy : zrg y) (z1 : zrg (τ 2 1)) (hK : K τ) : fX12_parseFrame_B128 K (k + 1) τ n y := by
  rw [uX12_parseFrame_B128]
  exact ⟨hz, fun z => (h z).elim, fun _ => pf159 h hz z10 hy z1 hK⟩
theorem pf96 {K : zSt → Prop} {n s0 : Int} (h : τ 0 13 ≠ 0) (hz : zrg (τ 0 13)) (hs : zrg s0) (hK : K τ) : fX12_parseFrame_B96 K τ n s0 := sM_checkN hs h hz ⟨hz, fun z => (h z).elim, fun _ => hK⟩
theorem pf63 {K : zSt → Prop} {n : Int} (h : τ 0 13 ≠ 0) (hz : zrg (τ 0 13)) (hn : 0 ≤ n ∧ n ≤ 6) (z12 : zrg (τ 0 12)) (zd : 0 < n → zrg (τ 2 (6 + n - 1))) (hK : K τ) : (zrg n ∧ ((n = 0 → fX12_parseFrame_B91 K τ n) ∧ (¬ n = 0 → (0 ≤ (6 + n) - 1 ∧ (6 + n) - 1 < 811) ∧ zrg (τ 0 12) ∧ zrg (τ 2 ((6 + n) - 1)) ∧ ((τ 0 12 ≤ τ 2 ((6 + n) - 1) → fX12_parseFrame_B96 K τ n 0) ∧ (¬ τ 0 12 ≤ τ 2 ((6 + n) - 1) → fX12_parseFrame_B91 K τ n))))) := by
  have B := fun s0 hs => pf96 (K := K) (n := n) (s0 := s0) h hz hs hK
  exact ⟨by omega, fun _ => B 1 (by decide), fun _ => ⟨by omega, z12, zd (by omega), fun _ => B 0 (by decide), fun _ => B 1 (by decide)⟩⟩
theorem pf42 {K : zSt → Prop} {n : Int} (h : τ 0 13 ≠ 0) (hz : zrg (τ 0 13)) (hn : 0 ≤ n ∧ n ≤ 6) (z12 : zrg (τ 0 12)) (zd : 0 < n → zrg (τ 2 (6 + n - 1))) (hK : K τ) : (zrg (τ 0 12) ∧ ((9999 < τ 0 12 → fX12_parseFrame_B63 K τ n 0) ∧ (¬ 9999 < τ 0 12 → fX12_parseFrame_B63 K τ n 1))) :=
  ⟨z12, fun _ => sM_checkN (by decide) h hz (pf63 h hz hn z12 zd hK), fun _ => sM_checkN (by decide) h hz (pf63 h hz hn z12 zd hK)⟩
end PF
