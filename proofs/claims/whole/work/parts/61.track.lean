/-! tracks: entries (frame, column, row), how many frames lost, the worst mismatch -/
abbrev tE : Type := Int → Int × Int × Int
abbrev tS : Type := Int × tE × Int × Int
def tadd (E : tE) (n : Int) (e : Int × Int × Int) : tE := fun k => if k = n then e else E k
theorem tadd_eq (E : tE) (n : Int) (e : Int × Int × Int) : tadd E n e n = e := by unfold tadd; rw [if_pos rfl]
theorem tadd_ne {E : tE} {n k : Int} {e : Int × Int × Int} (h : k ≠ n) : tadd E n e k = E k := by unfold tadd; rw [if_neg h]
def m1 (D : zD) (e : Int × Int × Int) (f : Int) : mS := mR D e.1 e.2.1 e.2.2 f
def m2 (D : zD) (e : Int × Int × Int) (f : Int) : mS := mR D f (m1 D e f).2.1 (m1 D e f).2.2.1 e.1
abbrev tok (D : zD) (lim f : Int) (e : Int × Int × Int) : Prop := 1 ≤ (m1 D e f).1 ∧ (m1 D e f).2.2.2.1 ≤ lim ∧ 1 ≤ (m2 D e f).1 ∧ (((m2 D e f).2.1 - e.2.1).natAbs : Int) ≤ 1 ∧ (((m2 D e f).2.2.1 - e.2.2).natAbs : Int) ≤ 1
def tyes (D : zD) (f : Int) (st : tS) : tS := (st.1 + 1, tadd st.2.1 st.1 (f, (m1 D (st.2.1 (st.1 - 1)) f).2.1, (m1 D (st.2.1 (st.1 - 1)) f).2.2.1), st.2.2.1, max st.2.2.2 (m1 D (st.2.1 (st.1 - 1)) f).2.2.2.1)
def tno (st : tS) : tS := (st.1, st.2.1, st.2.2.1 + 1, st.2.2.2)
def tstep (D : zD) (lim f : Int) (st : tS) : tS := if (oriF D f).1 = 1 then (if tok D lim f (st.2.1 (st.1 - 1)) then tyes D f st else tno st) else st
def win (D : zD) : Int := (2 * D 83 + 1) * (2 * D 83 + 1)
def tini (D : zD) (i : Int) : tS := (1, fun _ => (refer D, D (20 + (2 * i)), D (20 + (2 * i) + 1)), 0, 0)
def trk (D : zD) (i tol : Int) : tS := if refer D = -1 then (0, fun _ => (0, 0, 0), 0, 0) else lp (tstep D (tol * win D)) (D 2 - (refer D + 1)).toNat (refer D + 1) (tini D i)
theorem win_b {D : zD} (hD : WF D) : 1 ≤ win D ∧ win D ≤ 25 := by
  have t := hD.2.1
  unfold WFs at t
  unfold win
  rcases (show D 83 = 0 ∨ D 83 = 1 ∨ D 83 = 2 by omega) with h | h | h <;> rw [h] <;> decide
theorem lim_b {D : zD} (hD : WF D) {tol : Int} (h : 0 ≤ tol ∧ tol ≤ 9) : 0 ≤ tol * win D ∧ tol * win D ≤ 225 := by
  have t := hD.2.1
  unfold WFs at t
  unfold win
  rcases (show D 83 = 0 ∨ D 83 = 1 ∨ D 83 = 2 by omega) with h | h | h <;> rw [h] <;> simp <;> omega
def tB (D : zD) (f : Int) (st : tS) : Prop := (1 ≤ st.1 ∧ st.1 ≤ f - refer D) ∧ (∀ k, 0 ≤ k → k < st.1 → (refer D ≤ (st.2.1 k).1 ∧ (st.2.1 k).1 < f) ∧ (oriF D (st.2.1 k).1).1 = 1 ∧ (0 ≤ (st.2.1 k).2.1 ∧ (st.2.1 k).2.1 < D 0) ∧ (0 ≤ (st.2.1 k).2.2 ∧ (st.2.1 k).2.2 < D 1)) ∧ (∀ j k, 0 ≤ j → j < k → k < st.1 → (st.2.1 j).1 < (st.2.1 k).1) ∧ (st.2.1 0).1 = refer D ∧ (0 ≤ st.2.2.1 ∧ st.2.2.1 ≤ f - refer D) ∧ (0 ≤ st.2.2.2 ∧ st.2.2.2 ≤ 225)
theorem tB_up {D : zD} {f : Int} {st : tS} (h : tB D f st) : tB D (f + 1) st := by
  obtain ⟨h1, h2, h3, h4, h5, h6⟩ := h
  exact ⟨by omega, fun k k0 k1 => by have := h2 k k0 k1; exact ⟨by omega, this.2⟩, h3, h4, by omega, h6⟩
theorem tyes_B {D : zD} (hD : WF D) {lim f : Int} {st : tS} (h : tB D f st) (ho : (oriF D f).1 = 1) (ht : tok D lim f (st.2.1 (st.1 - 1))) : tB D (f + 1) (tyes D f st) := by
  obtain ⟨h1, h2, h3, h4, h5, h6⟩ := h
  have hI := mR_I hD (st.2.1 (st.1 - 1)).1 (st.2.1 (st.1 - 1)).2.1 (st.2.1 (st.1 - 1)).2.2 f
  have t := hD.2.1
  unfold WFs at t
  obtain ⟨i1, i2, i3⟩ := hI
  have p := i2 ht.1
  refine ⟨by show 1 ≤ st.1 + 1 ∧ st.1 + 1 ≤ f + 1 - refer D; omega, fun k k0 k1 => ?_, fun j k j0 jk k1 => ?_, ?_, by show 0 ≤ st.2.2.1 ∧ st.2.2.1 ≤ f + 1 - refer D; omega, ?_⟩
  · have k1 : k < st.1 + 1 := k1
    show (refer D ≤ (tadd st.2.1 st.1 _ k).1 ∧ (tadd st.2.1 st.1 _ k).1 < f + 1) ∧ (oriF D (tadd st.2.1 st.1 _ k).1).1 = 1 ∧ (0 ≤ (tadd st.2.1 st.1 _ k).2.1 ∧ (tadd st.2.1 st.1 _ k).2.1 < D 0) ∧ (0 ≤ (tadd st.2.1 st.1 _ k).2.2 ∧ (tadd st.2.1 st.1 _ k).2.2 < D 1)
    by_cases z : k = st.1
    · rw [z, tadd_eq]
      have q1 := p.1
      refine ⟨by show refer D ≤ f ∧ f < f + 1; omega, ho, ?_, ?_⟩
      · show 0 ≤ (m1 D (st.2.1 (st.1 - 1)) f).2.1 ∧ (m1 D (st.2.1 (st.1 - 1)) f).2.1 < D 0
        unfold m1; omega
      · show 0 ≤ (m1 D (st.2.1 (st.1 - 1)) f).2.2.1 ∧ (m1 D (st.2.1 (st.1 - 1)) f).2.2.1 < D 1
        unfold m1; omega
    · rw [tadd_ne z]
      have := h2 k k0 (by omega)
      exact ⟨by omega, this.2⟩
  · have k1 : k < st.1 + 1 := k1
    show (tadd st.2.1 st.1 _ j).1 < (tadd st.2.1 st.1 _ k).1
    rw [tadd_ne (by omega)]
    by_cases z : k = st.1
    · rw [z, tadd_eq]
      have := h2 j j0 (by omega)
      show (st.2.1 j).1 < f
      omega
    · rw [tadd_ne z]; exact h3 j k j0 jk (by omega)
  · show (tadd st.2.1 st.1 _ 0).1 = refer D
    rw [tadd_ne (by omega)]; exact h4
  · show 0 ≤ max st.2.2.2 _ ∧ max st.2.2.2 _ ≤ 225
    unfold m1
    omega
theorem tno_B {D : zD} {f : Int} {st : tS} (h : tB D f st) : tB D (f + 1) (tno st) := by
  obtain ⟨h1, h2, h3, h4, h5, h6⟩ := h
  exact ⟨by show 1 ≤ st.1 ∧ st.1 ≤ f + 1 - refer D; omega, fun k k0 k1 => by have := h2 k k0 k1; exact ⟨by show refer D ≤ (st.2.1 k).1 ∧ (st.2.1 k).1 < f + 1; omega, this.2⟩, h3, h4, by show 0 ≤ st.2.2.1 + 1 ∧ st.2.2.1 + 1 ≤ f + 1 - refer D; omega, h6⟩
theorem tstep_B {D : zD} (hD : WF D) {lim f : Int} {st : tS} (h : tB D f st) : tB D (f + 1) (tstep D lim f st) := by
  unfold tstep
  split
  · rename_i ho
    split
    · rename_i ht
      exact tyes_B hD h ho ht
    · exact tno_B h
  · exact tB_up h
theorem tini_B {D : zD} (hD : WF D) {i : Int} (i0 : 0 ≤ i) (i1 : i < D 4) (hr : refer D ≠ -1) : tB D (refer D + 1) (tini D i) := by
  have c := hD.2.2.2.2.1.2 i i0 i1
  have rb := refer_b hD
  have ro : (oriF D (refer D)).1 = 1 := by unfold oriF; rw [if_pos (by omega), if_pos rfl]
  refine ⟨by show (1 : Int) ≤ 1 ∧ (1 : Int) ≤ refer D + 1 - refer D; omega, fun k _ _ => ⟨by show refer D ≤ refer D ∧ refer D < refer D + 1; omega, ro, c.1, c.2⟩, fun j k j0 jk k1 => ?_, rfl, by show (0 : Int) ≤ 0 ∧ (0 : Int) ≤ refer D + 1 - refer D; omega, by show (0 : Int) ≤ 0 ∧ (0 : Int) ≤ 225; decide⟩
  have k1 : k < 1 := k1
  omega
theorem lp_inv2 {α : Type} {g : Int → α → α} (P : Int → α → Prop) (h : ∀ x a, P x a → P (x + 1) (g x a)) : ∀ (m : Nat) (x : Int) (a : α), P x a → P (x + m) (lp g m x a) := by
  intro m
  induction m with
  | zero => intro x a p; rw [lp_0]; simpa using p
  | succ m ih =>
    intro x a p
    rw [lp_s]
    have := ih (x + 1) _ (h x a p)
    rw [show x + ((m + 1 : Nat) : Int) = x + 1 + m by omega]
    exact this
theorem trk_B {D : zD} (hD : WF D) {i tol : Int} (i0 : 0 ≤ i) (i1 : i < D 4) (hr : refer D ≠ -1) : tB D (D 2) (trk D i tol) := by
  have rb := refer_b hD
  have := lp_inv2 (tB D) (g := tstep D (tol * win D)) (fun x a h => tstep_B hD h) (D 2 - (refer D + 1)).toNat (refer D + 1) _ (tini_B hD i0 i1 hr)
  unfold trk
  rw [if_neg hr]
  rw [show refer D + 1 + ((D 2 - (refer D + 1)).toNat : Int) = D 2 by omega] at this
  exact this
/-- the class's track in cell T -/
def TI (σ : zSt) (T : Int) (D : zD) (st : tS) : Prop := σ T 1 = st.1 ∧ σ T 2 = st.2.2.1 ∧ σ T 3 = st.2.2.2 ∧ ∀ k, 0 ≤ k → k < st.1 → σ (31 + 6 * (T - 24) + 2) k = (st.2.1 k).1 ∧ σ (31 + 6 * (T - 24) + 3) k = D (6 + (st.2.1 k).1) ∧ σ (31 + 6 * (T - 24) + 4) k = (st.2.1 k).2.1 ∧ σ (31 + 6 * (T - 24) + 5) k = (st.2.1 k).2.2 ∧ σ (31 + 6 * (T - 24) + 0) k = (st.2.1 k).2.1 - (oriF D (st.2.1 k).1).2.1 ∧ σ (31 + 6 * (T - 24) + 1) k = (st.2.1 k).2.2 - (oriF D (st.2.1 k).1).2.2.1
abbrev pT (T : Int) : Int → Int → Prop := fun a b => a = 22 ∨ (a = T ∧ b ≠ 0) ∨ (31 + 6 * (T - 24) ≤ a ∧ a ≤ 31 + 6 * (T - 24) + 5)
theorem TI.mv {σ τ : zSt} {T : Int} {D : zD} {st : tS} (h : TI σ T D st) (g : ∀ a b, (a = T ∧ b ≠ 0) ∨ (31 + 6 * (T - 24) ≤ a ∧ a ≤ 31 + 6 * (T - 24) + 5) → τ a b = σ a b) : TI τ T D st := by
  obtain ⟨h1, h2, h3, h4⟩ := h
  refine ⟨(g _ _ (by omega)).trans h1, (g _ _ (by omega)).trans h2, (g _ _ (by omega)).trans h3, fun k k0 k1 => ?_⟩
  obtain ⟨a, b, c, d, e, f⟩ := h4 k k0 k1
  exact ⟨(g _ _ (by omega)).trans a, (g _ _ (by omega)).trans b, (g _ _ (by omega)).trans c, (g _ _ (by omega)).trans d, (g _ _ (by omega)).trans e, (g _ _ (by omega)).trans f⟩
section TX
variable {K : zSt → Prop} {S T : Int} {D : zD}
theorem kX_T (hT : 24 ≤ T ∧ T ≤ 30) : kX T = 10 := by rw [kX_10]; omega
theorem sX10_hasEntry {Kb : Int → zSt → Prop} {σ : zSt} {k n : Int} (hT : 24 ≤ T ∧ T ≤ 30) (hn : σ T 1 = n) (hnr : 0 ≤ n ∧ n ≤ 6) (hk : zrg k) (h1 : 0 ≤ k → k < n → Kb 1 σ) (h0 : ¬ (0 ≤ k ∧ k < n) → Kb 0 σ) : fX10_hasEntry Kb σ T k := by
  unfold fX10_hasEntry
  rw [hn]
  exact ⟨kX_T hT, hk, fun h => h0 (by omega), fun h => ⟨by omega, fun g => h0 (by omega), fun g => h1 (by omega) (by omega)⟩⟩
theorem sX10_add {σ : zSt} {f x y : Int} {st : tS} (hS : Sc σ S D) (hO : OI σ D) (hT : 24 ≤ T ∧ T ≤ 30) (hI : TI σ T D st) (hn : 0 ≤ st.1 ∧ st.1 < 6) (f0 : 0 ≤ f) (f1 : f < D 2) (hK : ∀ τ, frm (pT T) σ τ → TI τ T D (st.1 + 1, tadd st.2.1 st.1 (f, x, y), st.2.2) → K τ) : fX10_add K σ T S f x y := by
  have q := hS.1.1
  unfold WFa at q
  obtain ⟨i1, i2, i3, i4⟩ := hI
  refine ⟨kX_T hT, hS.k, by omega, fun _ => ⟨by omega, fun σ3 e3 => ?_⟩, fun h => (h (by omega)).elim⟩
  rw [i1] at e3
  have c3 : σ3 T 1 = st.1 := by rw [e3, zu_ne (Or.inl (by omega)), i1]
  have hf3 : frm (pT T) σ σ3 := by rw [e3]; exact frm.wr (by omega)
  refine sX8_dayOf (hS.mono (fun a b p => hf3 a b (by omega))) (by omega) ?_
  rw [if_pos ⟨f0, f1⟩, c3]
  refine ⟨hn, fun σ6 e6 => ?_⟩
  have c6 : σ6 T 1 = st.1 := by rw [e6, zu_ne (Or.inl (by omega)), c3]
  have hf6 : frm (pT T) σ σ6 := by rw [e6]; exact hf3.z (by omega)
  rw [c6]
  refine ⟨hn, fun σ8 e8 => ?_⟩
  have c8 : σ8 T 1 = st.1 := by rw [e8, zu_ne (Or.inl (by omega)), c6]
  have hf8 : frm (pT T) σ σ8 := by rw [e8]; exact hf6.z (by omega)
  rw [c8]
  refine ⟨hn, fun σ10 e10 => ?_⟩
  have c10 : σ10 T 1 = st.1 := by rw [e10, zu_ne (Or.inl (by omega)), c8]
  have hf10 : frm (pT T) σ σ10 := by rw [e10]; exact hf8.z (by omega)
  have hO10 : OI σ10 D := hO.fr (fun a b _ _ _ => hf10 a b (by omega))
  refine sX6_xShiftOf hO10 hS.1 (by omega) ?_
  rw [c10]
  refine ⟨hn, fun σ13 e13 => ?_⟩
  have c13 : σ13 T 1 = st.1 := by rw [e13, zu_ne (Or.inl (by omega)), c10]
  have hf13 : frm (pT T) σ σ13 := by rw [e13]; exact hf10.z (by omega)
  have hO13 : OI σ13 D := hO.fr (fun a b _ _ _ => hf13 a b (by omega))
  refine sX6_yShiftOf hO13 hS.1 (by omega) ?_
  rw [c13]
  refine ⟨hn, fun σ16 e16 σ17 e17 => ?_⟩
  have c16 : σ16 T 1 = st.1 := by rw [e16, zu_ne (Or.inl (by omega)), c13]
  have hf16 : frm (pT T) σ σ16 := by rw [e16]; exact hf13.z (by omega)
  rw [c16] at e17
  have hf17 : frm (pT T) σ σ17 := by rw [e17]; exact hf16.z (by omega)
  refine hK _ hf17 ⟨by rw [e17]; exact zu_eq .., ?_, ?_, fun k k0 k1 => ?_⟩
  · rw [e17, zu_ne (Or.inr (by decide)), e16, zu_ne (Or.inl (by omega)), e13, zu_ne (Or.inl (by omega)), e10, zu_ne (Or.inl (by omega)), e8, zu_ne (Or.inl (by omega)), e6, zu_ne (Or.inl (by omega)), e3, zu_ne (Or.inl (by omega))]
    exact i2
  · rw [e17, zu_ne (Or.inr (by decide)), e16, zu_ne (Or.inl (by omega)), e13, zu_ne (Or.inl (by omega)), e10, zu_ne (Or.inl (by omega)), e8, zu_ne (Or.inl (by omega)), e6, zu_ne (Or.inl (by omega)), e3, zu_ne (Or.inl (by omega))]
    exact i3
  · have k1 : k < st.1 + 1 := k1
    by_cases z : k = st.1
    · rw [z]
      show σ17 _ st.1 = (tadd st.2.1 st.1 (f, x, y) st.1).1 ∧ σ17 _ st.1 = D (6 + (tadd st.2.1 st.1 (f, x, y) st.1).1) ∧ σ17 _ st.1 = (tadd st.2.1 st.1 (f, x, y) st.1).2.1 ∧ σ17 _ st.1 = (tadd st.2.1 st.1 (f, x, y) st.1).2.2 ∧ σ17 _ st.1 = (tadd st.2.1 st.1 (f, x, y) st.1).2.1 - (oriF D (tadd st.2.1 st.1 (f, x, y) st.1).1).2.1 ∧ σ17 _ st.1 = (tadd st.2.1 st.1 (f, x, y) st.1).2.2 - (oriF D (tadd st.2.1 st.1 (f, x, y) st.1).1).2.2.1
      rw [tadd_eq]
      refine ⟨?_, ?_, ?_, ?_, ?_, ?_⟩
      · rw [e17, zu_ne (Or.inl (by omega)), e16, zu_ne (Or.inl (by omega)), e13, zu_ne (Or.inl (by omega)), e10, zu_ne (Or.inl (by omega)), e8, zu_ne (Or.inl (by omega)), e6, zu_ne (Or.inl (by omega)), e3, zu_eq]
      · rw [e17, zu_ne (Or.inl (by omega)), e16, zu_ne (Or.inl (by omega)), e13, zu_ne (Or.inl (by omega)), e10, zu_ne (Or.inl (by omega)), e8, zu_ne (Or.inl (by omega)), e6, zu_eq]
      · rw [e17, zu_ne (Or.inl (by omega)), e16, zu_ne (Or.inl (by omega)), e13, zu_ne (Or.inl (by omega)), e10, zu_ne (Or.inl (by omega)), e8, zu_eq]
      · rw [e17, zu_ne (Or.inl (by omega)), e16, zu_ne (Or.inl (by omega)), e13, zu_ne (Or.inl (by omega)), e10, zu_eq]
      · rw [e17, zu_ne (Or.inl (by omega)), e16, zu_ne (Or.inl (by omega)), e13, zu_eq]
      · rw [e17, zu_ne (Or.inl (by omega)), e16, zu_eq]
    · show σ17 _ k = (tadd st.2.1 st.1 (f, x, y) k).1 ∧ σ17 _ k = D (6 + (tadd st.2.1 st.1 (f, x, y) k).1) ∧ σ17 _ k = (tadd st.2.1 st.1 (f, x, y) k).2.1 ∧ σ17 _ k = (tadd st.2.1 st.1 (f, x, y) k).2.2 ∧ σ17 _ k = (tadd st.2.1 st.1 (f, x, y) k).2.1 - (oriF D (tadd st.2.1 st.1 (f, x, y) k).1).2.1 ∧ σ17 _ k = (tadd st.2.1 st.1 (f, x, y) k).2.2 - (oriF D (tadd st.2.1 st.1 (f, x, y) k).1).2.2.1
      rw [tadd_ne z]
      have old : ∀ a, 31 + 6 * (T - 24) ≤ a → a ≤ 31 + 6 * (T - 24) + 5 → σ17 a k = σ a k := fun a a0 a1 => by
        rw [e17, zu_ne (Or.inl (by omega)), e16, zu_ne (Or.inr z), e13, zu_ne (Or.inr z), e10, zu_ne (Or.inr z), e8, zu_ne (Or.inr z), e6, zu_ne (Or.inr z), e3, zu_ne (Or.inr z)]
      obtain ⟨a, b, c, d, e, g⟩ := i4 k k0 (by omega)
      exact ⟨(old _ (by omega) (by omega)).trans a, (old _ (by omega) (by omega)).trans b, (old _ (by omega) (by omega)).trans c, (old _ (by omega) (by omega)).trans d, (old _ (by omega) (by omega)).trans e, (old _ (by omega) (by omega)).trans g⟩
theorem sX5_exists {Kb : Int → zSt → Prop} {σ : zSt} {st : mS} (hR : RX σ st) (hI : mI D 100 st) (h1 : 1 ≤ st.1 → Kb 1 σ) (h0 : st.1 = 0 → Kb 0 σ) : fX5_exists Kb σ := by
  have i1 := hI.1
  have r1 := hR.1
  exact ⟨by omega, fun h => h0 (by omega), fun h => h1 (by omega)⟩
theorem sX10_findIn {Kb : Int → zSt → Prop} {σ : zSt} {f lim : Int} {st : tS} (hS : Sc σ S D) (hO : OI σ D) (hT : 24 ≤ T ∧ T ≤ 30) (hI : TI σ T D st) (hB : tB D f st) (hr : 0 ≤ refer D) (f1 : f < D 2) (hl : 0 ≤ lim ∧ lim ≤ 225) (h1 : tok D lim f (st.2.1 (st.1 - 1)) → ∀ τ, frm (pT T) σ τ → TI τ T D (tyes D f st) → Kb 1 τ) (h0 : ¬ tok D lim f (st.2.1 (st.1 - 1)) → ∀ τ, frm (pT T) σ τ → TI τ T D st → Kb 0 τ) : fX10_findIn Kb σ T f S lim := by
  have hD := hS.1
  have q := hD.1
  unfold WFa at q
  have t := hD.2.1
  unfold WFs at t
  have b1 := hB.1
  have b2 := hB.2.1 (st.1 - 1) (by omega) (by omega)
  have b6 := hB.2.2.2.2.2
  obtain ⟨i1, i2, i3, i4⟩ := hI
  obtain ⟨g1, g2, g3, g4, g5, g6⟩ := i4 (st.1 - 1) (by omega) (by omega)
  have hI0 : TI σ T D st := ⟨i1, i2, i3, i4⟩
  unfold fX10_findIn
  rw [i1]
  refine ⟨kX_T hT, hS.k, sX10_hasEntry hT i1 (by omega) (by omega) (fun _ _ => zb1 ⟨by omega, ?_⟩) (fun z => (z (by omega)).elim)⟩
  rw [g1, g3, g4]
  have mi : mI D 100 (m1 D (st.2.1 (st.1 - 1)) f) := mR_I hD (st.2.1 (st.1 - 1)).1 (st.2.1 (st.1 - 1)).2.1 (st.2.1 (st.1 - 1)).2.2 f
  refine sX5_search hS hO (by omega) (by omega) (by omega) (by omega) (fun σ4 u1 u2 => sX5_exists (show RX σ4 (m1 D (st.2.1 (st.1 - 1)) f) from u2) mi (fun z1 => zb1 ?_) (fun z1 => zb0 ?_))
  · have u2 : RX σ4 (m1 D (st.2.1 (st.1 - 1)) f) := u2
    obtain ⟨v1, v2, v3, v4⟩ := u2.2.1 z1
    have p := mi.2.1 z1
    have a1 : σ4 (31 + 6 * (T - 24) + 2) (st.1 - 1) = (st.2.1 (st.1 - 1)).1 := (u1 _ _ (by omega)).trans g1
    have hS4 := p22_sc u1 hS
    have hO4 : OI σ4 D := hO.fr (fun a b _ _ _ => u1 a b (by omega))
    have hI4 : TI σ4 T D st := hI0.mv (fun a b z => u1 a b (by omega))
    have mi2 : mI D 100 (m2 D (st.2.1 (st.1 - 1)) f) := mR_I hD f (m1 D (st.2.1 (st.1 - 1)) f).2.1 (m1 D (st.2.1 (st.1 - 1)) f).2.2.1 (st.2.1 (st.1 - 1)).1
    rw [v1, v2, v3, a1]
    refine ⟨by omega, by omega, fun z2 => ?_, fun z2 => h0 (fun k => z2 k.2.1) σ4 (u1.mo (fun a b z => Or.inl z)) hI4⟩
    refine sX5_search hS4 hO4 (by omega) (by omega) (by omega) (by omega) (fun σ9 w1 w2 => sX5_exists (show RX σ9 (m2 D (st.2.1 (st.1 - 1)) f) from w2) mi2 (fun z3 => zb1 ?_) (fun z3 => zb0 ?_))
    · have w2 : RX σ9 (m2 D (st.2.1 (st.1 - 1)) f) := w2
      obtain ⟨x1, x2, x3, x4⟩ := w2.2.1 z3
      have p2 := mi2.2.1 z3
      have hI9 : TI σ9 T D st := hI4.mv (fun a b z => w1 a b (by omega))
      have hS9 := p22_sc w1 hS4
      have hO9 : OI σ9 D := hO4.fr (fun a b _ _ _ => w1 a b (by omega))
      obtain ⟨j1, j2, j3, j4⟩ := hI9
      obtain ⟨-, -, k3, k4, -, -⟩ := j4 (st.1 - 1) (by omega) (by omega)
      have u9 : frm (pT T) σ σ9 := (u1.tr w1).mo (fun a b z => Or.inl z)
      have no : ¬ tok D lim f (st.2.1 (st.1 - 1)) → Kb 0 σ9 := fun z => h0 z σ9 u9 ⟨j1, j2, j3, j4⟩
      rw [x1, x2, k3, k4, j3]
      refine ⟨by omega, by omega, fun y1 => no (fun k => ?_), fun y1 => ⟨by omega, by omega, fun y2 => ⟨by omega, fun σ17 e17 => ?_⟩, fun y2 => no (fun k => y2 k.2.2.2.2)⟩⟩
      · have := k.2.2.2.1
        omega
      · have hf17 : frm (pT T) σ9 σ17 := by rw [e17]; exact frm.wr (by omega)
        have hI17 : TI σ17 T D (st.1, st.2.1, st.2.2.1, max st.2.2.2 (m1 D (st.2.1 (st.1 - 1)) f).2.2.2.1) := by
          rw [e17]
          refine ⟨(zu_ne (Or.inr (by decide))).trans j1, (zu_ne (Or.inr (by decide))).trans j2, zu_eq .., fun k k0 k1 => ?_⟩
          obtain ⟨a, b, c, d, e, g⟩ := j4 k k0 k1
          exact ⟨(zu_ne (Or.inl (by omega))).trans a, (zu_ne (Or.inl (by omega))).trans b, (zu_ne (Or.inl (by omega))).trans c, (zu_ne (Or.inl (by omega))).trans d, (zu_ne (Or.inl (by omega))).trans e, (zu_ne (Or.inl (by omega))).trans g⟩
        refine sX10_add (hS9.mono (fun a b z => hf17 a b (by omega))) (hO9.fr (fun a b _ _ _ => hf17 a b (by omega))) hT hI17 (by show 0 ≤ st.1 ∧ st.1 < 6; omega) (by omega) f1 (fun τ r1 r2 => ?_)
        exact h1 ⟨z1, z2, z3, by omega, y2⟩ τ (u9.tr (hf17.tr r1)) r2
    · refine h0 (fun k => ?_) σ9 ((u1.tr w1).mo (fun a b z => Or.inl z)) (hI4.mv (fun a b z => w1 a b (by omega)))
      have := k.2.2.1
      omega
  · refine h0 (fun k => ?_) σ4 (u1.mo (fun a b z => Or.inl z)) (hI0.mv (fun a b z => u1 a b (by omega)))
    have := k.1
    omega
theorem sX10_trace_B83 {lim : Int} (hT : 24 ≤ T ∧ T ≤ 30) (hr : 0 ≤ refer D) (hl : 0 ≤ lim ∧ lim ≤ 225) : ∀ (m : Nat) (f : Int) (σ : zSt) (st : tS), Sc σ S D → OI σ D → TI σ T D st → tB D f st → f + m = D 2 → (∀ τ, frm (pT T) σ τ → TI τ T D (lp (tstep D lim) m f st) → K τ) → fX10_trace_B83 K (m + 1) σ T S lim f := by
  intro m
  induction m with
  | zero =>
    intro f σ st hS hO hI hB e hk
    have q := hS.1.1
    unfold WFa at q
    rw [uX10_trace_B83, hS.2.1.2.2.2.1]
    exact ⟨by omega, by omega, fun _ => hk σ frm.rf hI, fun h => (h (by omega)).elim⟩
  | succ m ih =>
    intro f σ st hS hO hI hB e hk
    have q := hS.1.1
    unfold WFa at q
    have b1 := hB.1
    have b5 := hB.2.2.2.2.1
    have step : ∀ τ, frm (pT T) σ τ → TI τ T D (tstep D lim f st) → fX10_trace_B83 K (m + 1) τ T S lim (f + 1) := fun τ h1 h2 =>
      ih (f + 1) τ _ (hS.mono (fun a b p => h1 a b (by omega))) (hO.fr (fun a b _ _ _ => h1 a b (by omega))) h2 (tstep_B hS.1 hB) (by omega) (fun υ u1 u2 => hk υ (h1.tr u1) u2)
    rw [uX10_trace_B83, hS.2.1.2.2.2.1]
    refine ⟨by omega, by omega, fun h => by omega, fun h => sX6_covers (by omega) (hO.c hS.1) (fun _ _ z => zb1 ?_) (fun z => zb0 (step σ frm.rf ?_))⟩
    · refine sX10_findIn hS hO hT hI hB hr (by omega) hl (fun k τ h1 h2 => zb1 (step τ h1 ?_)) (fun k τ h1 h2 => zb0 (fun σ16 e16 => ?_))
      · unfold tstep; rw [if_pos z, if_pos k]; exact h2
      · have hf : frm (pT T) σ σ16 := by rw [e16]; exact h1.z (by omega)
        refine step σ16 hf ?_
        unfold tstep
        rw [if_pos z, if_neg k, e16]
        obtain ⟨j1, j2, j3, j4⟩ := h2
        refine ⟨(zu_ne (Or.inr (by decide))).trans j1, (zu_eq ..).trans (by rw [j2]; rfl), (zu_ne (Or.inr (by decide))).trans j3, fun k k0 k1 => ?_⟩
        obtain ⟨a, b, c, d, e, g⟩ := j4 k k0 k1
        exact ⟨(zu_ne (Or.inl (by omega))).trans a, (zu_ne (Or.inl (by omega))).trans b, (zu_ne (Or.inl (by omega))).trans c, (zu_ne (Or.inl (by omega))).trans d, (zu_ne (Or.inl (by omega))).trans e, (zu_ne (Or.inl (by omega))).trans g⟩
    · unfold tstep; rw [if_neg (oriF_no6 hS.1 z)]; exact hI
theorem kX_S7 {S : Int} (h : S = 73 ∨ S = 104) : kX (S + 7) = 7 := by rcases h with rfl | rfl <;> rfl
theorem sX7_has7 {Kb : Int → zSt → Prop} {σ : zSt} {i : Int} (hS : Sc σ S D) (hi : zrg i) (h1 : 0 ≤ i → i < D 4 → Kb 1 σ) (h0 : ¬ (0 ≤ i ∧ i < D 4) → Kb 0 σ) : fX7_has Kb σ (S + 7) i := by
  have q := hS.1.1
  unfold WFa at q
  unfold fX7_has
  rw [hS.2.1.2.2.2.2.2.2.1]
  exact ⟨kX_S7 hS.2.1.1, hi, fun h => h0 (by omega), fun h => ⟨by omega, fun g => h0 (by omega), fun g => h1 (by omega) (by omega)⟩⟩
theorem sX8_windowPixels {Kb : Int → zSt → Prop} {σ : zSt} (hS : Sc σ S D) (hK : Kb (win D) σ) : fX8_windowPixels Kb σ S := by
  unfold fX8_windowPixels
  rw [hS.s0]
  first | exact ⟨hS.k, hK⟩ | exact ⟨hS.k, fun y e => by subst e; exact hK⟩
theorem sX10_trace {σ : zSt} {i tol : Int} (hS : Sc σ S D) (hO : OI σ D) (hT : 24 ≤ T ∧ T ≤ 30) (i0 : 0 ≤ i) (i1 : i < D 4) (ht : 0 ≤ tol ∧ tol ≤ 9) (hK : ∀ τ, frm (pT T) σ τ → TI τ T D (trk D i tol) → K τ) : fX10_trace K σ T S i tol := by
  have hD := hS.1
  have q := hD.1
  unfold WFa at q
  have rb := refer_b hD
  refine ⟨kX_T hT, hS.k, fun σ1 e1 σ2 e2 σ3 e3 => ?_⟩
  have hf : frm (pT T) σ σ3 := by subst e1 e2 e3; exact ((frm.rf.z (by omega)).z (by omega)).z (by omega)
  have n1 : σ3 T 1 = 0 := by subst e1 e2 e3; rw [zu_ne (Or.inr (by decide)), zu_ne (Or.inr (by decide)), zu_eq]
  have n2 : σ3 T 2 = 0 := by subst e1 e2 e3; rw [zu_ne (Or.inr (by decide)), zu_eq]
  have n3 : σ3 T 3 = 0 := by subst e1 e2 e3; rw [zu_eq]
  have hS3 : Sc σ3 S D := hS.mono (fun a b p => hf a b (by omega))
  have hO3 : OI σ3 D := hO.fr (fun a b _ _ _ => hf a b (by omega))
  have hI0 : TI σ3 T D (0, fun _ => (0, 0, 0), 0, 0) := ⟨n1, n2, n3, fun k k0 k1 => by have k1 : k < 0 := k1; omega⟩
  rw [hO3.1]
  refine ⟨by omega, fun z => hK σ3 hf (by unfold trk; rw [if_pos z]; exact hI0), fun z => sX7_has7 hS3 (by omega) (fun _ _ => zb1 ⟨by omega, ?_⟩) (fun k => (k ⟨i0, i1⟩).elim)⟩
  have c := hS3.2.2.2.1.2 i i0 i1
  rw [show S + 7 + 1 = S + 8 by omega, show S + 7 + 2 = S + 9 by omega, c.1, c.2]
  refine sX10_add hS3 hO3 hT hI0 (by decide) (by omega) (by omega) (fun τ h1 h2 => ?_)
  have hS4 : Sc τ S D := hS3.mono (fun a b p => h1 a b (by omega))
  have hO4 : OI τ D := hO3.fr (fun a b _ _ _ => h1 a b (by omega))
  refine sX8_windowPixels hS4 ⟨(D 2 - (refer D + 1)).toNat + 1, ?_⟩
  have hI4 : TI τ T D (tini D i) := by
    obtain ⟨j1, j2, j3, j4⟩ := h2
    refine ⟨j1, j2, j3, fun k k0 k1 => ?_⟩
    have k1 : k < 1 := k1
    have := j4 k k0 (by show k < 0 + 1; omega)
    have e : (tadd (fun _ => ((0 : Int), (0 : Int), (0 : Int))) 0 (refer D, D (20 + 2 * i), D (20 + 2 * i + 1))) k = (refer D, D (20 + 2 * i), D (20 + 2 * i + 1)) := by rw [show k = 0 by omega, tadd_eq]
    simp only [e] at this
    exact this
  refine sX10_trace_B83 hT (by omega) (lim_b hD ht) _ _ τ _ hS4 hO4 hI4 (tini_B hD i0 i1 z) (by omega) (fun υ u1 u2 => hK υ (hf.tr (h1.tr u1)) ?_)
  unfold trk
  rw [if_neg z]
  exact u2
end TX
