/-! the reference puts a reading in -/
def RA (D D' : zD) (t p day len : Int) : Prop := (∀ i, stO t i → D' i = D i) ∧ nS D' t = nS D t + 1 ∧ ∀ r, 0 ≤ r → r ≤ nS D t → dS D' t r = dS (rput D t p day len) t r ∧ lS D' t r = lS (rput D t p day len) t r
section RD
variable {D : zD} {σ0 : zSt} {t : Int}
theorem sM_addReading_B73 {K : Int → zSt → Prop} {p day len : Int} (hp : 0 ≤ p) (hn : nS D t < 8) (ht3 : 0 ≤ t ∧ t < 3) (hd : zrg day) (hz : ∀ r, 0 ≤ r → r < nS D t → zrg (dS D t r)) (hlt : ∀ r, 0 ≤ r → r < p → dS D t r < day) (hgt : ∀ r, p ≤ r → r < nS D t → day < dS D t r) (hK : ∀ τ, frm (fun a _ => a = 1) σ0 τ → RA D (τ 1) t p day len → K (nS D t + 1) τ) : ∀ (m : Nat) (j : Int) (σ : zSt), j = p + m → j ≤ nS D t → frm (fun a _ => a = 1) σ0 σ → (∀ i, stO t i ∨ i = 32 + t → σ 1 i = D i) → (∀ r, 0 ≤ r → r ≤ nS D t → r ≠ j → dS (σ 1) t r = (if r < j then dS D t r else dS D t (r - 1)) ∧ lS (σ 1) t r = (if r < j then lS D t r else lS D t (r - 1))) → fX12_addReading_B73 K (m + 1) σ t day len j := by
  have B : ∀ (σ : zSt), p ≤ nS D t → frm (fun a _ => a = 1) σ0 σ → (∀ i, stO t i ∨ i = 32 + t → σ 1 i = D i) → (∀ r, 0 ≤ r → r ≤ nS D t → r ≠ p → dS (σ 1) t r = (if r < p then dS D t r else dS D t (r - 1)) ∧ lS (σ 1) t r = (if r < p then lS D t r else lS D t (r - 1))) → fX12_addReading_B145 K σ t day len p := fun σ pn fr ho hs => by
    refine ⟨by omega, fun σ25 e25 => ⟨by omega, fun σ27 e27 => ⟨by omega, fun σ29 e29 => ?_⟩⟩⟩
    have c27 : σ27 1 (32 + t) = nS D t := by rw [e27, zu_ne (by omega), e25, zu_ne (by omega)]; exact ho _ (Or.inr rfl)
    rw [c27] at e29
    have k : ∀ i, i ≠ 32 + t → i ≠ 35 + 8 * t + p → i ≠ 59 + 8 * t + p → σ29 1 i = σ 1 i := fun i a b c => by rw [e29, zu_ne (by omega), e27, zu_ne (by omega), e25, zu_ne (by omega)]
    have cn : σ29 1 (32 + t) = nS D t + 1 := by rw [e29, zu_eq]
    refine ⟨⟨by omega, by omega⟩, ?_⟩
    rw [cn]
    refine hK σ29 (by rw [e29, e27, e25]; exact ((fr.z rfl).z rfl).z rfl) ⟨fun i hi => ?_, cn, fun r r0 r1 => ?_⟩
    · rw [k i (by omega) (by omega) (by omega)]; exact ho i (Or.inl hi)
    · rw [rput_d ht3 r0 (by omega), rput_l ht3 r0 (by omega)]
      by_cases z : r = p
      · rw [if_neg (by omega), if_pos z, if_neg (by omega), if_pos z, z]
        refine ⟨?_, ?_⟩
        · show σ29 1 (35 + (8 * t) + p) = day
          rw [e29, zu_ne (by omega), e27, zu_ne (by omega), e25, zu_eq]
        · show σ29 1 (59 + (8 * t) + p) = len
          rw [e29, zu_ne (by omega), e27, zu_eq]
      · have y := hs r r0 r1 z
        rw [show dS (σ29 1) t r = dS (σ 1) t r from k _ (by omega) (by omega) (by omega), show lS (σ29 1) t r = lS (σ 1) t r from k _ (by omega) (by omega) (by omega), y.1, y.2]
        by_cases w : r < p
        · rw [if_pos w, if_pos w, if_pos w, if_pos w]; exact ⟨rfl, rfl⟩
        · rw [if_neg w, if_neg w, if_neg w, if_neg w, if_neg z, if_neg z]; exact ⟨rfl, rfl⟩
  intro m
  induction m with
  | zero =>
    intro j σ e jn fr ho hs
    have ej : j = p := by omega
    rw [ej] at hs jn ⊢
    rw [uX12_addReading_B73]
    refine ⟨by omega, fun _ => B σ jn fr ho hs, fun z => ⟨by omega, ?_⟩⟩
    have y := (hs (p - 1) (by omega) (by omega) (by omega)).1
    rw [if_pos (by omega)] at y
    have lt := hlt (p - 1) (by omega) (by omega)
    have zr := hz (p - 1) (by omega) (by omega)
    show zrg (dS (σ 1) t (p - 1)) ∧ _
    rw [y]
    refine ⟨zr, hd, fun _ => B σ jn fr ho hs, fun w => ?_⟩
    exact absurd (Int.le_of_lt lt) (by rw [← y]; exact w)
  | succ m ih =>
    intro j σ e jn fr ho hs
    have y := hs (j - 1) (by omega) (by omega) (by omega)
    rw [if_pos (by omega), if_pos (by omega)] at y
    have gt := hgt (j - 1) (by omega) (by omega)
    have zr := hz (j - 1) (by omega) (by omega)
    have y1 : σ 1 (35 + 8 * t + (j - 1)) = dS D t (j - 1) := y.1
    have y2 : σ 1 (59 + 8 * t + (j - 1)) = lS D t (j - 1) := y.2
    rw [uX12_addReading_B73]
    refine ⟨by omega, fun z => by omega, fun _ => ⟨by omega, ?_⟩⟩
    rw [y1]
    refine ⟨zr, hd, fun w => (Int.not_le.mpr gt w).elim, fun _ => ⟨by omega, ?_⟩⟩
    rw [y1]
    refine ⟨by omega, fun σ20 e20 => ⟨by omega, ?_⟩⟩
    have y3 : σ20 1 (59 + 8 * t + (j - 1)) = lS D t (j - 1) := by rw [e20, zu_ne (by omega)]; exact y2
    rw [y3]
    refine ⟨by omega, fun σ23 e23 => ih (j + -1) σ23 (by omega) (by omega) (by rw [e23, e20]; exact (fr.z rfl).z rfl) (fun i hi => ?_) (fun r r0 r1 rj => ?_)⟩
    · rw [e23, zu_ne (by omega), e20, zu_ne (by omega)]; exact ho i hi
    · by_cases z : r = j
      · rw [z, if_neg (by omega), if_neg (by omega)]
        refine ⟨?_, ?_⟩
        · show σ23 1 (35 + (8 * t) + j) = _
          rw [e23, zu_ne (by omega), e20, zu_eq]
        · show σ23 1 (59 + (8 * t) + j) = _
          rw [e23, zu_eq]
      · have x := hs r r0 r1 z
        have k1 : dS (σ23 1) t r = dS (σ 1) t r := by show σ23 1 (35 + (8 * t) + r) = σ 1 (35 + (8 * t) + r); rw [e23, zu_ne (by omega), e20, zu_ne (by omega)]
        have k2 : lS (σ23 1) t r = lS (σ 1) t r := by show σ23 1 (59 + (8 * t) + r) = σ 1 (59 + (8 * t) + r); rw [e23, zu_ne (by omega), e20, zu_ne (by omega)]
        rw [k1, k2, x.1, x.2]
        by_cases w : r < j
        · rw [if_pos w, if_pos w, if_pos (by omega), if_pos (by omega)]; exact ⟨rfl, rfl⟩
        · rw [if_neg w, if_neg w, if_neg (by omega), if_neg (by omega)]; exact ⟨rfl, rfl⟩
end RD
