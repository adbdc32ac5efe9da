/-! the class's scene changed: setting, pixel, feature, frames taken out and put back -/
abbrev pS2 (S : Int) : Int → Int → Prop := fun a b => a = S + 2 ∨ (a = S ∧ b = 2)
abbrev pSc (S : Int) : Int → Int → Prop := fun a b => (S ≤ a ∧ a < S + 31) ∧ ¬ (b = 0 ∧ (a = S + 4 ∨ a = S + 7))
def VB (V : zD) : Prop := (4 ≤ V 0 ∧ V 0 ≤ 12) ∧ (4 ≤ V 1 ∧ V 1 ≤ 10) ∧ (0 ≤ V 2 ∧ V 2 ≤ 6) ∧ (0 ≤ V 3 ∧ V 3 ≤ 4) ∧ (0 ≤ V 4 ∧ V 4 ≤ 6) ∧ (0 ≤ V 5 ∧ V 5 ≤ 3) ∧ (∀ t, 0 ≤ t → t < V 5 → 0 ≤ nS V t ∧ nS V t ≤ 8)
theorem Vis.vb {V D : zD} (hv : Vis V D) (hD : WF D) : VB V := by
  have q := hD.1
  unfold WFa at q
  obtain ⟨⟨v0, v1, v2, v3, v4, v5⟩, -, -, -, -, -, vr⟩ := hv
  rw [VB, v0, v1, v2, v3, v4, v5]
  refine ⟨by omega, by omega, by omega, by omega, by omega, by omega, fun t t0 t1 => ?_⟩
  rw [(vr t t0 t1).1]
  exact nS_b hD ⟨t0, t1⟩
section SC
variable {K : zSt → Prop} {σ : zSt} {S : Int} {V D : zD}
theorem Rp.mv {τ : zSt} (h : Rp σ S V) (hb : VB V) (g : ∀ a b, S ≤ a → a < S + 31 → τ a b = σ a b) : Rp τ S V := by
  obtain ⟨⟨s0, s1, s2, s3, s4, s5, s6, s7⟩, ⟨f1, f2, f3, f4⟩, ⟨c1, c2⟩, r⟩ := h
  obtain ⟨b0, b1, b2, b3, b4, b5, b6⟩ := hb
  have e2 : ∀ f, τ (S + 2) f = σ (S + 2) f := fun f => g _ f (by omega) (by omega)
  refine ⟨⟨s0, (g _ _ (by omega) (by omega)).trans s1, (g _ _ (by omega) (by omega)).trans s2, (g _ _ (by omega) (by omega)).trans s3, (g _ _ (by omega) (by omega)).trans s4, (g _ _ (by omega) (by omega)).trans s5, (g _ _ (by omega) (by omega)).trans s6, fun i i0 i1 => (g _ _ (by omega) (by omega)).trans (s7 i i0 i1)⟩, ⟨fun f a b => by rw [e2]; exact f1 f a b, fun f k a b c d e => f2 f k a b c d (by rw [e2, e2] at e; exact e), fun f a b => ?_, fun f o a b c d => ?_⟩, ⟨fun k a b => ?_, fun k a b => ?_⟩, fun t a b => ?_⟩
  · have := f1 f a b
    rw [e2, g _ _ (by omega) (by omega)]; exact f3 f a b
  · have := f1 f a b
    rw [e2, g _ _ (by omega) (by omega)]; exact f4 f o a b c d
  · rw [g _ _ (by omega) (by omega), g _ _ (by omega) (by omega)]; exact c1 k a b
  · rw [g _ _ (by omega) (by omega), g _ _ (by omega) (by omega)]; exact c2 k a b
  · obtain ⟨x, y⟩ := r t a b
    exact ⟨(g _ _ (by omega) (by omega)).trans x, fun q q0 q1 => ⟨(g _ _ (by omega) (by omega)).trans (y q q0 q1).1, (g _ _ (by omega) (by omega)).trans (y q q0 q1).2⟩⟩
theorem Rp.perm {τ : zSt} {g : Int → Int} {n : Int} (h : Rp σ S V) (hb : VB V) (hg : ∀ f, 0 ≤ f → f < 6 → 0 ≤ g f ∧ g f < 6) (gi : ∀ e f, 0 ≤ e → e < 6 → 0 ≤ f → f < 6 → g e = g f → e = f) (fr : frm (pS2 S) σ τ) (hs : ∀ f, 0 ≤ f → f < 6 → τ (S + 2) f = σ (S + 2) (g f)) (hn : τ S 2 = n) : Rp τ S (prm V g n) := by
  obtain ⟨⟨s0, s1, s2, s3, s4, s5, s6, s7⟩, ⟨f1, f2, f3, f4⟩, ⟨c1, c2⟩, r⟩ := h
  obtain ⟨b0, b1, b2, b3, b4, b5, b6⟩ := hb
  have e : ∀ i, i ≠ 2 ∧ ¬ (6 ≤ i ∧ i < 12) ∧ ¬ (91 ≤ i ∧ i < 811) → prm V g n i = V i := fun i h => prm_ot h
  refine ⟨⟨s0, ?_, ?_, ?_, ?_, ?_, ?_, fun i i0 i1 => ?_⟩, ⟨fun f a b => ?_, fun f k a b c d z => ?_, fun f a b => ?_, fun f o a b c d => ?_⟩, ⟨fun k a b => ?_, fun k a b => ?_⟩, fun t a b => ?_⟩
  · rw [e 0 (by decide), fr _ _ (by omega)]; exact s1
  · rw [e 1 (by decide), fr _ _ (by omega)]; exact s2
  · rw [prm_2]; exact hn
  · rw [e 5 (by decide), fr _ _ (by omega)]; exact s4
  · rw [e 3 (by decide), fr _ _ (by omega)]; exact s5
  · rw [e 4 (by decide), fr _ _ (by omega)]; exact s6
  · rw [e (83 + i) (by omega), fr _ _ (by omega)]; exact s7 i i0 i1
  · rw [hs f a b]; exact f1 _ (hg f a b).1 (hg f a b).2
  · rw [hs f a b, hs k c d] at z
    exact gi f k a b c d (f2 _ _ (hg f a b).1 (hg f a b).2 (hg k c d).1 (hg k c d).2 z)
  · have w := f1 _ (hg f a b).1 (hg f a b).2
    rw [hs f a b, prm_day a b, fr _ _ (by omega)]; exact f3 _ (hg f a b).1 (hg f a b).2
  · have w := f1 _ (hg f a b).1 (hg f a b).2
    rw [hs f a b, prm_px a b c d, fr _ _ (by omega)]; exact f4 _ o (hg f a b).1 (hg f a b).2 c d
  · rw [e 3 (by decide)] at b
    rw [fr _ _ (by omega), fr _ _ (by omega), e _ (by omega), e _ (by omega)]
    exact c1 k a b
  · rw [e 4 (by decide)] at b
    rw [fr _ _ (by omega), fr _ _ (by omega), e _ (by omega), e _ (by omega)]
    exact c2 k a b
  · rw [e 5 (by decide)] at b
    obtain ⟨x, y⟩ := r t a b
    have nb := b6 t a b
    have en : nS (prm V g n) t = nS V t := e (32 + t) (by omega)
    refine ⟨by rw [fr _ _ (by omega), en]; exact x, fun q q0 q1 => ?_⟩
    rw [en] at q1
    have e1 : dS (prm V g n) t q = dS V t q := e (35 + (8 * t) + q) (by omega)
    have e2 : lS (prm V g n) t q = lS V t q := e (59 + (8 * t) + q) (by omega)
    rw [e1, e2, fr _ _ (by omega), fr _ _ (by omega)]
    exact y q q0 q1
theorem gTk_in {n a : Int} (a0 : 0 ≤ a) (a1 : a < n) (n6 : n ≤ 6) : (∀ f, 0 ≤ f → f < 6 → 0 ≤ gTk n a f ∧ gTk n a f < 6) ∧ (∀ e f, 0 ≤ e → e < 6 → 0 ≤ f → f < 6 → gTk n a e = gTk n a f → e = f) := by
  refine ⟨fun f f0 f1 => ?_, fun e f e0 e1 f0 f1 h => ?_⟩
  · unfold gTk; split <;> (try split) <;> (try split) <;> omega
  · unfold gTk at h
    by_cases c1 : e < a <;> by_cases c2 : f < a <;> by_cases c3 : e < n - 1 <;> by_cases c4 : f < n - 1 <;> by_cases c5 : e = n - 1 <;> by_cases c6 : f = n - 1 <;> simp only [c1, c2, c3, c4, c5, c6, if_true, if_false] at h <;> omega
theorem gPb_in {n a : Int} (a0 : 0 ≤ a) (a1 : a ≤ n) (n6 : n < 6) : (∀ f, 0 ≤ f → f < 6 → 0 ≤ gPb n a f ∧ gPb n a f < 6) ∧ (∀ e f, 0 ≤ e → e < 6 → 0 ≤ f → f < 6 → gPb n a e = gPb n a f → e = f) := by
  refine ⟨fun f f0 f1 => ?_, fun e f e0 e1 f0 f1 h => ?_⟩
  · unfold gPb; split <;> (try split) <;> (try split) <;> omega
  · unfold gPb at h
    by_cases c1 : e < a <;> by_cases c2 : f < a <;> by_cases c3 : e = a <;> by_cases c4 : f = a <;> by_cases c5 : e ≤ n <;> by_cases c6 : f ≤ n <;> simp only [c1, c2, c3, c4, c5, c6, if_true, if_false] at h <;> omega
theorem sX8_takeOut_B18 {σ0 : zSt} {n a : Int} (h : Rp σ0 S V) (a0 : 0 ≤ a) (a1 : a < n) (n6 : n ≤ 6) : ∀ (m : Nat) (j : Int) (σ : zSt), j + m = n - 1 → a ≤ j → frm (pS2 S) σ0 σ → σ S 2 = n → (∀ f, 0 ≤ f → f < 6 → σ (S + 2) f = if a ≤ f ∧ f < j then σ0 (S + 2) (f + 1) else σ0 (S + 2) f) → (∀ τ, frm (pS2 S) σ0 τ → (∀ f, 0 ≤ f → f < 6 → τ (S + 2) f = σ0 (S + 2) (gTk n a f)) → τ S 2 = n - 1 → K τ) → fX8_takeOut_B18 K (m + 1) σ S (σ0 (S + 2) a) j := by
  have w := h.1.1
  intro m
  induction m with
  | zero =>
    intro j σ e aj fr hn hs hk
    rw [uX8_takeOut_B18, hn]
    refine ⟨by omega, by omega, fun _ σ7 e7 => ?_, fun z => (z (by omega)).elim⟩
    have c7 : σ7 S 2 = n - 1 := by rw [e7, zu_eq]
    rw [c7]
    refine ⟨by omega, fun σ9 e9 => hk σ9 (by rw [e9, e7]; exact (fr.z (Or.inr ⟨rfl, rfl⟩)).z (Or.inl rfl)) (fun f f0 f1 => ?_) (by rw [e9, zu_ne (by omega)]; exact c7)⟩
    by_cases z : f = n - 1
    · rw [e9, z, zu_eq]
      unfold gTk
      rw [if_neg (by omega), if_neg (by omega), if_pos rfl]
    · rw [e9, zu_ne (Or.inr z), e7, zu_ne (by omega), hs f f0 f1]
      unfold gTk
      by_cases y : f < a
      · rw [if_neg (by omega), if_pos y]
      · by_cases x : f < n - 1
        · rw [if_pos ⟨by omega, by omega⟩, if_neg y, if_pos x]
        · rw [if_neg (by omega), if_neg y, if_neg x, if_neg z]
  | succ m ih =>
    intro j σ e aj fr hn hs hk
    have sl := hs (j + 1) (by omega) (by omega)
    rw [if_neg (by omega)] at sl
    have rg := h.2.1.1 (j + 1) (by omega) (by omega)
    rw [uX8_takeOut_B18, hn]
    refine ⟨by omega, by omega, fun z => by omega, fun _ => ⟨by omega, by rw [sl, kX_1]; omega, by omega, fun σ13 e13 => ?_⟩⟩
    refine ih (j + 1) σ13 (by omega) (by omega) (by rw [e13]; exact fr.z (Or.inl rfl)) (by rw [e13, zu_ne (by omega)]; exact hn) (fun f f0 f1 => ?_) hk
    by_cases z : f = j
    · rw [e13, z, zu_eq, sl, if_pos ⟨aj, by omega⟩]
    · rw [e13, zu_ne (Or.inr z), hs f f0 f1]
      by_cases y : a ≤ f ∧ f < j
      · rw [if_pos y, if_pos ⟨y.1, by omega⟩]
      · rw [if_neg y, if_neg (by omega)]
theorem sX8_takeOut {a : Int} (h : Rp σ S V) (hb : VB V) (hS : Sc σ S D) (e2 : V 2 = D 2) (ha : isFr D a) (hK : ∀ τ, frm (pS2 S) σ τ → Rp τ S (tko V a) → K τ) : fX8_takeOut K σ S a := by
  have w := h.1.1
  have b2 := hb.2.2.1
  have rg := h.2.1.1 a ha.1 (by have := ha.2; omega)
  have g := gTk_in (n := V 2) ha.1 (by have := ha.2; omega) b2.2
  have a2 := ha.2
  refine ⟨hS.k, sX8_hasFrame hS (by have := ha.1; omega) (fun _ _ => zb1 ⟨by omega, by rw [kX_1]; omega, ?_⟩) (fun z => (z ha).elim)⟩
  exact ⟨(V 2 - 1 - a).toNat + 1, sX8_takeOut_B18 (V := V) (n := V 2) h ha.1 (by omega) b2.2 _ a σ (by omega) (by omega) frm.rf h.1.2.2.2.1 (fun f _ _ => by rw [if_neg (by omega)]) (fun τ u1 u2 u3 => hK τ u1 (h.perm hb g.1 g.2 u1 u2 u3))⟩
theorem sX8_putBack_B37 {σ0 : zSt} {n a : Int} (h : Rp σ0 S V) (a0 : 0 ≤ a) (a1 : a ≤ n) (n6 : n < 6) : ∀ (m : Nat) (j : Int) (σ : zSt), j = a + m → j ≤ n → frm (pS2 S) σ0 σ → σ S 2 = n → (∀ f, 0 ≤ f → f < 6 → σ (S + 2) f = if j < f ∧ f ≤ n then σ0 (S + 2) (f - 1) else σ0 (S + 2) f) → (∀ τ, frm (pS2 S) σ0 τ → (∀ f, 0 ≤ f → f < 6 → τ (S + 2) f = σ0 (S + 2) (gPb n a f)) → τ S 2 = n + 1 → K τ) → fX8_putBack_B37 K (m + 1) σ S a (σ0 (S + 2) n) j := by
  have w := h.1.1
  intro m
  induction m with
  | zero =>
    intro j σ e aj fr hn hs hk
    rw [uX8_putBack_B37]
    refine ⟨by omega, by omega, fun _ => ⟨by omega, fun σ8 e8 σ9 e9 => ?_⟩, fun z => (z (by omega)).elim⟩
    have c8 : σ8 S 2 = n := by rw [e8, zu_ne (by omega)]; exact hn
    refine hk σ9 (by rw [e9, e8]; exact (fr.z (Or.inl rfl)).z (Or.inr ⟨rfl, rfl⟩)) (fun f f0 f1 => ?_) (by rw [e9, zu_eq, c8])
    rw [e9, zu_ne (by omega), e8]
    unfold gPb
    by_cases z : f = a
    · rw [z, zu_eq, if_neg (by omega), if_pos rfl]
    · rw [zu_ne (Or.inr z), hs f f0 f1]
      by_cases y : f < a
      · rw [if_neg (by omega), if_pos y]
      · by_cases x : f ≤ n
        · rw [if_pos ⟨by omega, x⟩, if_neg y, if_neg z, if_pos x]
        · rw [if_neg (by omega), if_neg y, if_neg z, if_neg x]
  | succ m ih =>
    intro j σ e aj fr hn hs hk
    have sl := hs (j - 1) (by omega) (by omega)
    rw [if_neg (by omega)] at sl
    have rg := h.2.1.1 (j - 1) (by omega) (by omega)
    rw [uX8_putBack_B37]
    refine ⟨by omega, by omega, fun z => by omega, fun _ => ⟨by omega, by rw [sl, kX_1]; omega, by omega, fun σ13 e13 => ?_⟩⟩
    refine ih (j + -1) σ13 (by omega) (by omega) (by rw [e13]; exact fr.z (Or.inl rfl)) (by rw [e13, zu_ne (by omega)]; exact hn) (fun f f0 f1 => ?_) hk
    by_cases z : f = j
    · rw [e13, z, zu_eq, sl, if_pos ⟨by omega, aj⟩]
    · rw [e13, zu_ne (Or.inr z), hs f f0 f1]
      by_cases y : j < f ∧ f ≤ n
      · rw [if_pos y, if_pos ⟨by omega, y.2⟩]
      · rw [if_neg y, if_neg (by omega)]
theorem sX8_putBack {a : Int} (h : Rp σ S V) (hb : VB V) (ha : zrg a) (h1 : (0 ≤ a ∧ a ≤ V 2 ∧ V 2 < 6) → ∀ τ, frm (pS2 S) σ τ → Rp τ S (pbk V a) → K τ) (h0 : ¬ (0 ≤ a ∧ a ≤ V 2 ∧ V 2 < 6) → K σ) : fX8_putBack K σ S a := by
  have w := h.1.1
  have b2 := hb.2.2.1
  have en : σ S 2 = V 2 := h.1.2.2.2.1
  unfold fX8_putBack
  rw [en]
  refine ⟨kX_73 w, ha, fun z => h0 (by omega), fun z => ⟨by omega, fun y => h0 (by omega), fun y => ⟨fun x => ?_, fun x => h0 (by omega)⟩⟩⟩
  have rg := h.2.1.1 (V 2) (by omega) (by omega)
  have g := gPb_in (n := V 2) (a := a) (by omega) (by omega) x
  refine ⟨by omega, by rw [kX_1]; omega, ⟨(V 2 - a).toNat + 1, sX8_putBack_B37 (V := V) (n := V 2) h (by omega) (by omega) x _ (V 2) σ (by omega) (by omega) frm.rf en (fun f _ _ => by rw [if_neg (by omega)]) (fun τ u1 u2 u3 => h1 ⟨by omega, by omega, x⟩ τ u1 (h.perm hb g.1 g.2 u1 u2 u3))⟩⟩
end SC
