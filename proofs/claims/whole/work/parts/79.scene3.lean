/-! the class's readings put in and taken out -/
abbrev pK (c : Int) : Int → Int → Prop := fun a b => (a = c ∧ b = 0) ∨ a = c + 3 ∨ a = c + 6
abbrev stO (t i : Int) : Prop := i ≠ 32 + t ∧ ¬ (35 + 8 * t ≤ i ∧ i < 43 + 8 * t) ∧ ¬ (59 + 8 * t ≤ i ∧ i < 67 + 8 * t)
section SE
variable {K : zSt → Prop} {σ : zSt} {S : Int} {V W D : zD} {t c : Int}
theorem Rp.stk {τ : zSt} (h : Rp σ S V) (hb : VB V) (ht : isSk V t) (hc : c = S + 22 + t) (hW : ∀ i, stO t i → W i = V i) (fr : frm (pK c) σ τ) (h0 : τ c 0 = nS W t) (hr : ∀ r, 0 ≤ r → r < nS W t → τ (c + 3) r = dS W t r ∧ τ (c + 6) r = lS W t r) : Rp τ S W := by
  obtain ⟨⟨s0, s1, s2, s3, s4, s5, s6, s7⟩, ⟨f1, f2, f3, f4⟩, ⟨c1, c2⟩, r⟩ := h
  obtain ⟨b0, b1, b2, b3, b4, b5, b6⟩ := hb
  have t0 := ht.1
  have t1 := ht.2
  have g : ∀ a b, a < S + 22 ∨ S + 31 ≤ a → τ a b = σ a b := fun a b h => fr a b (by omega)
  refine ⟨⟨s0, by rw [hW 0 (by omega), g _ _ (by omega)]; exact s1, by rw [hW 1 (by omega), g _ _ (by omega)]; exact s2, by rw [hW 2 (by omega), g _ _ (by omega)]; exact s3, by rw [hW 5 (by omega), g _ _ (by omega)]; exact s4, by rw [hW 3 (by omega), g _ _ (by omega)]; exact s5, by rw [hW 4 (by omega), g _ _ (by omega)]; exact s6, fun j j0 j1 => by rw [hW _ (by omega), g _ _ (by omega)]; exact s7 j j0 j1⟩, ⟨fun f a b => by rw [g _ _ (by omega)]; exact f1 f a b, fun f k a b c d z => f2 f k a b c d (by rw [g _ _ (by omega), g _ _ (by omega)] at z; exact z), fun k a b => ?_, fun k q a b c d => ?_⟩, ⟨fun k a b => ?_, fun k a b => ?_⟩, fun u a b => ?_⟩
  · have w := f1 k a b
    rw [g (S + 2) _ (by omega), g _ _ (by omega), hW _ (by omega)]; exact f3 k a b
  · have w := f1 k a b
    rw [g (S + 2) _ (by omega), g _ _ (by omega), hW _ (by omega)]; exact f4 k q a b c d
  · rw [hW 3 (by omega)] at b
    rw [g _ _ (by omega), g _ _ (by omega), hW _ (by omega), hW _ (by omega)]; exact c1 k a b
  · rw [hW 4 (by omega)] at b
    rw [g _ _ (by omega), g _ _ (by omega), hW _ (by omega), hW _ (by omega)]; exact c2 k a b
  · rw [hW 5 (by omega)] at b
    by_cases z : u = t
    · rw [z, ← hc, show S + 25 + t = c + 3 by omega, show S + 28 + t = c + 6 by omega]
      exact ⟨h0, hr⟩
    · have nb := b6 u a b
      obtain ⟨x, y⟩ := r u a b
      have en : nS W u = nS V u := hW (32 + u) (by omega)
      refine ⟨by rw [fr _ _ (by omega), en]; exact x, fun q q0 q1 => ?_⟩
      rw [en] at q1
      have e1 : dS W u q = dS V u q := hW (35 + (8 * u) + q) (by omega)
      have e2 : lS W u q = lS V u q := hW (59 + (8 * u) + q) (by omega)
      rw [e1, e2, fr _ _ (by omega), fr _ _ (by omega)]
      exact y q q0 q1
theorem sX9_insert_B15 {σ0 : zSt} {p day len : Int} (hp : 0 ≤ p) (hn : nS V t < 8) (ht3 : 0 ≤ t ∧ t < 3) (hd : zrg day) (hz : ∀ r, 0 ≤ r → r < nS V t → zrg (dS V t r)) (hlt : ∀ r, 0 ≤ r → r < p → dS V t r < day) (hgt : ∀ r, p ≤ r → r < nS V t → day < dS V t r) : ∀ (m : Nat) (j : Int) (σ : zSt), j = p + m → j ≤ nS V t → frm (pK c) σ0 σ → σ c 0 = nS V t → (∀ r, 0 ≤ r → r ≤ nS V t → r ≠ j → σ (c + 3) r = (if r < j then dS V t r else dS V t (r - 1)) ∧ σ (c + 6) r = (if r < j then lS V t r else lS V t (r - 1))) → (∀ τ, frm (pK c) σ0 τ → τ c 0 = nS V t + 1 → (∀ r, 0 ≤ r → r ≤ nS V t → τ (c + 3) r = dS (rput V t p day len) t r ∧ τ (c + 6) r = lS (rput V t p day len) t r) → K τ) → fX9_insert_B15 K (m + 1) σ c day len j := by
  have B : ∀ (σ : zSt), p ≤ nS V t → frm (pK c) σ0 σ → σ c 0 = nS V t → (∀ r, 0 ≤ r → r ≤ nS V t → r ≠ p → σ (c + 3) r = (if r < p then dS V t r else dS V t (r - 1)) ∧ σ (c + 6) r = (if r < p then lS V t r else lS V t (r - 1))) → (∀ τ, frm (pK c) σ0 τ → τ c 0 = nS V t + 1 → (∀ r, 0 ≤ r → r ≤ nS V t → τ (c + 3) r = dS (rput V t p day len) t r ∧ τ (c + 6) r = lS (rput V t p day len) t r) → K τ) → fX9_insert_B65 K σ c day len p := fun σ pn fr hc0 hs hk => by
    refine ⟨by omega, fun σ10 e10 σ11 e11 σ12 e12 => ?_⟩
    have c11 : σ11 c 0 = nS V t := by rw [e11, zu_ne (by omega), e10, zu_ne (by omega)]; exact hc0
    rw [c11] at e12
    refine hk σ12 (by rw [e12, e11, e10]; exact ((fr.z (by omega)).z (by omega)).z (by omega)) (by rw [e12, zu_eq]) (fun r r0 r1 => ?_)
    rw [rput_d ht3 r0 (by omega), rput_l ht3 r0 (by omega)]
    by_cases z : r = p
    · rw [if_neg (by omega), if_pos z, if_neg (by omega), if_pos z, z]
      exact ⟨by rw [e12, zu_ne (by omega), e11, zu_ne (by omega), e10, zu_eq], by rw [e12, zu_ne (by omega), e11, zu_eq]⟩
    · have y := hs r r0 r1 z
      have k3 : σ12 (c + 3) r = σ (c + 3) r := by rw [e12, zu_ne (by omega), e11, zu_ne (by omega), e10, zu_ne (by omega)]
      have k6 : σ12 (c + 6) r = σ (c + 6) r := by rw [e12, zu_ne (by omega), e11, zu_ne (by omega), e10, zu_ne (by omega)]
      rw [k3, k6, y.1, y.2]
      by_cases w : r < p
      · rw [if_pos w, if_pos w, if_pos w, if_pos w]; exact ⟨rfl, rfl⟩
      · rw [if_neg w, if_neg w, if_neg w, if_neg w, if_neg z, if_neg z]; exact ⟨rfl, rfl⟩
  intro m
  induction m with
  | zero =>
    intro j σ e jn fr hc0 hs hk
    have ej : j = p := by omega
    rw [ej] at hs jn ⊢
    rw [uX9_insert_B15]
    refine ⟨by omega, fun _ => B σ jn fr hc0 hs hk, fun z => ?_⟩
    have y := (hs (p - 1) (by omega) (by omega) (by omega)).1
    rw [if_pos (by omega)] at y
    have lt := hlt (p - 1) (by omega) (by omega)
    have zr := hz (p - 1) (by omega) (by omega)
    rw [y]
    exact ⟨by omega, zr, hd, fun _ => B σ jn fr hc0 hs hk, fun w => (w (Int.le_of_lt lt)).elim⟩
  | succ m ih =>
    intro j σ e jn fr hc0 hs hk
    have y := hs (j - 1) (by omega) (by omega) (by omega)
    rw [if_pos (by omega), if_pos (by omega)] at y
    have gt := hgt (j - 1) (by omega) (by omega)
    have zr := hz (j - 1) (by omega) (by omega)
    rw [uX9_insert_B15, y.1]
    refine ⟨by omega, fun z => by omega, fun _ => ⟨by omega, zr, hd, fun w => (Int.not_le.mpr gt w).elim, fun _ => ⟨by omega, fun σ7 e7 σ8 e8 => ?_⟩⟩⟩
    have k6 : σ7 (c + 6) (j - 1) = lS V t (j - 1) := by rw [e7, zu_ne (by omega)]; exact y.2
    rw [k6] at e8
    refine ih (j + -1) σ8 (by omega) (by omega) (by rw [e8, e7]; exact (fr.z (by omega)).z (by omega)) (by rw [e8, zu_ne (by omega), e7, zu_ne (by omega)]; exact hc0) (fun r r0 r1 rj => ?_) hk
    by_cases z : r = j
    · rw [z, if_neg (by omega), if_neg (by omega)]
      exact ⟨by rw [e8, zu_ne (by omega), e7, zu_eq], by rw [e8, zu_eq]⟩
    · have x := hs r r0 r1 z
      rw [e8, zu_ne (by omega), e7, zu_ne (by omega), zu_ne (by omega), zu_ne (by omega), x.1, x.2]
      by_cases w : r < j
      · rw [if_pos w, if_pos w, if_pos (by omega), if_pos (by omega)]; exact ⟨rfl, rfl⟩
      · rw [if_neg w, if_neg w, if_neg (by omega), if_neg (by omega)]; exact ⟨rfl, rfl⟩
theorem sX9_insert {p day len : Int} (h : Rp σ S V) (hb : VB V) (ht : isSk V t) (hc : c = S + 22 + t) (hn : nS V t < 8) (hd : zrg day) (hz : ∀ r, 0 ≤ r → r < nS V t → zrg (dS V t r)) (hp : 0 ≤ p ∧ p ≤ nS V t) (hlt : ∀ r, 0 ≤ r → r < p → dS V t r < day) (hgt : ∀ r, p ≤ r → r < nS V t → day < dS V t r) (hK : ∀ τ, frm (pK c) σ τ → Rp τ S (rput V t p day len) → K τ) : fX9_insert K σ c day len := by
  have w := h.1.1
  have b5 := hb.2.2.2.2.2.1
  have t0 := ht.1
  have t1 := ht.2
  have t3 : 0 ≤ t ∧ t < 3 := ⟨t0, by omega⟩
  obtain ⟨x, y⟩ := h.2.2.2 t t0 t1
  rw [← hc] at x
  unfold fX9_insert
  rw [x]
  have en : nS (rput V t p day len) t = nS V t + 1 := rput_n
  refine ⟨by rw [kX_9]; omega, by omega, fun _ => ⟨(nS V t - p).toNat + 1, sX9_insert_B15 (σ0 := σ) (p := p) hp.1 hn t3 hd hz hlt hgt _ (nS V t) σ (by omega) (by omega) frm.rf x (fun r r0 r1 rj => ?_) (fun τ u1 u2 u3 => hK τ u1 (h.stk hb ht hc (fun i hi => rput_o hi) u1 (by rw [en]; exact u2) (fun r r0 r1 => u3 r r0 (by omega))))⟩, fun z => (z hn).elim⟩
  have q := y r r0 (by omega)
  rw [show S + 25 + t = c + 3 by omega, show S + 28 + t = c + 6 by omega] at q
  rw [if_pos (by omega), if_pos (by omega)]
  exact q
theorem sX9_readingOn {Kb : Int → zSt → Prop} {day : Int} (h : Rp σ S V) (hb : VB V) (ht : isSk V t) (hc : c = S + 22 + t) (hd : zrg day) (hz : ∀ r, 0 ≤ r → r < nS V t → zrg (dS V t r)) (h1 : ∀ r, 0 ≤ r → r < nS V t → dS V t r = day → (∀ q, 0 ≤ q → q < r → dS V t q ≠ day) → Kb r σ) (h0 : (∀ r, 0 ≤ r → r < nS V t → dS V t r ≠ day) → Kb (-1) σ) : fX9_readingOn Kb σ c day := by
  have w := h.1.1
  have b5 := hb.2.2.2.2.2.1
  have t0 := ht.1
  have t1 := ht.2
  have nb := hb.2.2.2.2.2.2 t t0 t1
  obtain ⟨x, y⟩ := h.2.2.2 t t0 t1
  rw [← hc] at x
  have L : ∀ (m : Nat) (r : Int), r + m = nS V t → 0 ≤ r → (∀ q, 0 ≤ q → q < r → dS V t q ≠ day) → fX9_readingOn_B2 Kb (m + 1) σ c day r := by
    intro m
    induction m with
    | zero =>
      intro r e r0 hq
      rw [uX9_readingOn_B2, x]
      exact ⟨by omega, by omega, fun _ => h0 (fun q q0 q1 => hq q q0 (by omega)), fun z => (z (by omega)).elim⟩
    | succ m ih =>
      intro r e r0 hq
      have q := (y r r0 (by omega)).1
      rw [show S + 25 + t = c + 3 by omega] at q
      have zr := hz r r0 (by omega)
      rw [uX9_readingOn_B2, x, q]
      refine ⟨by omega, by omega, fun z => by omega, fun _ => ⟨by omega, zr, hd, fun z => h1 r r0 (by omega) z hq, fun z => ih (r + 1) (by omega) (by omega) (fun u u0 u1 => ?_)⟩⟩
      by_cases v : u = r
      · rw [v]; exact z
      · exact hq u u0 (by omega)
  exact ⟨by rw [kX_9]; omega, _, L (nS V t).toNat 0 (by omega) (by decide) (fun q a b => by omega)⟩
theorem sX9_delete_B14 {σ0 : zSt} {p : Int} (hp : 0 ≤ p) (hn : nS V t ≤ 8) (ht3 : 0 ≤ t ∧ t < 3) (pn : p < nS V t) : ∀ (m : Nat) (j : Int) (σ : zSt), j + m = nS V t - 1 → p ≤ j → frm (pK c) σ0 σ → σ c 0 = nS V t → (∀ r, 0 ≤ r → r < nS V t → σ (c + 3) r = (if p ≤ r ∧ r < j then dS V t (r + 1) else dS V t r) ∧ σ (c + 6) r = (if p ≤ r ∧ r < j then lS V t (r + 1) else lS V t r)) → (∀ τ, frm (pK c) σ0 τ → τ c 0 = nS V t - 1 → (∀ r, 0 ≤ r → r < nS V t - 1 → τ (c + 3) r = dS (rcut V t p) t r ∧ τ (c + 6) r = lS (rcut V t p) t r) → K τ) → fX9_delete_B14 K (m + 1) σ c j := by
  intro m
  induction m with
  | zero =>
    intro j σ e jn fr hc0 hs hk
    rw [uX9_delete_B14, hc0]
    refine ⟨by omega, by omega, fun _ σ5 e5 => ?_, fun z => (z (by omega)).elim⟩
    refine hk σ5 (by rw [e5]; exact fr.z (by omega)) (by rw [e5, zu_eq]) (fun r r0 r1 => ?_)
    have y := hs r r0 (by omega)
    rw [rcut_d ht3 r0 (by omega), rcut_l ht3 r0 (by omega), e5, zu_ne (by omega), zu_ne (by omega), y.1, y.2]
    by_cases w : r < p
    · rw [if_pos w, if_pos w, if_neg (by omega), if_neg (by omega)]; exact ⟨rfl, rfl⟩
    · rw [if_neg w, if_neg w, if_pos (show p ≤ r ∧ r < j by omega), if_pos (show p ≤ r ∧ r < j by omega), if_neg (show ¬ r = 7 by omega), if_neg (show ¬ r = 7 by omega)]; exact ⟨rfl, rfl⟩
  | succ m ih =>
    intro j σ e jn fr hc0 hs hk
    have y := hs (j + 1) (by omega) (by omega)
    rw [if_neg (by omega), if_neg (by omega)] at y
    rw [uX9_delete_B14, hc0]
    refine ⟨by omega, by omega, fun z => by omega, fun _ => ⟨by omega, by omega, fun σ8 e8 σ9 e9 => ?_⟩⟩
    rw [y.1] at e8
    have k6 : σ8 (c + 6) (j + 1) = lS V t (j + 1) := by rw [e8, zu_ne (by omega)]; exact y.2
    rw [k6] at e9
    refine ih (j + 1) σ9 (by omega) (by omega) (by rw [e9, e8]; exact (fr.z (by omega)).z (by omega)) (by rw [e9, zu_ne (by omega), e8, zu_ne (by omega)]; exact hc0) (fun r r0 r1 => ?_) hk
    by_cases z : r = j
    · rw [z, if_pos ⟨jn, by omega⟩, if_pos ⟨jn, by omega⟩]
      exact ⟨by rw [e9, zu_ne (by omega), e8, zu_eq], by rw [e9, zu_eq]⟩
    · have x := hs r r0 r1
      rw [e9, zu_ne (by omega), e8, zu_ne (by omega), zu_ne (by omega), zu_ne (by omega), x.1, x.2]
      by_cases w : p ≤ r ∧ r < j
      · rw [if_pos w, if_pos w, if_pos ⟨w.1, by omega⟩, if_pos ⟨w.1, by omega⟩]; exact ⟨rfl, rfl⟩
      · rw [if_neg w, if_neg w, if_neg (by omega), if_neg (by omega)]; exact ⟨rfl, rfl⟩
theorem sX9_delete {day : Int} (h : Rp σ S V) (hb : VB V) (ht : isSk V t) (hc : c = S + 22 + t) (hd : zrg day) (hz : ∀ r, 0 ≤ r → r < nS V t → zrg (dS V t r)) (h1 : ∀ p, 0 ≤ p → p < nS V t → dS V t p = day → (∀ q, 0 ≤ q → q < p → dS V t q ≠ day) → ∀ τ, frm (pK c) σ τ → Rp τ S (rcut V t p) → K τ) (h0 : (∀ r, 0 ≤ r → r < nS V t → dS V t r ≠ day) → K σ) : fX9_delete K σ c day := by
  have w := h.1.1
  have b5 := hb.2.2.2.2.2.1
  have t0 := ht.1
  have t1 := ht.2
  have nb := hb.2.2.2.2.2.2 t t0 t1
  have t3 : 0 ≤ t ∧ t < 3 := ⟨t0, by omega⟩
  obtain ⟨x, y⟩ := h.2.2.2 t t0 t1
  rw [← hc] at x
  refine ⟨by rw [kX_9]; omega, sX9_readingOn h hb ht hc hd hz (fun p p0 p1 e hq => ⟨by omega, fun z => by omega, fun _ => ⟨(nS V t - 1 - p).toNat + 1, sX9_delete_B14 (σ0 := σ) (p := p) p0 nb.2 t3 p1 _ p σ (by omega) (by omega) frm.rf x (fun r r0 r1 => ?_) (fun τ u1 u2 u3 => ?_)⟩⟩) (fun hn => ⟨by decide, fun _ => h0 hn, fun z => absurd rfl z⟩)⟩
  · have q := y r r0 r1
    rw [show S + 25 + t = c + 3 by omega, show S + 28 + t = c + 6 by omega] at q
    rw [if_neg (by omega), if_neg (by omega)]
    exact q
  · have en : nS (rcut V t p) t = nS V t - 1 := rcut_n
    exact h1 p p0 p1 e hq τ u1 (h.stk hb ht hc (fun i hi => rcut_o hi) u1 (by rw [en]; exact u2) (fun r r0 r1 => u3 r r0 (by omega)))
end SE
