/-! floors, positions, distances: the class -/
theorem ediv_u {a b c : Int} (hb : 0 < b) (h1 : c * b ≤ a) (h2 : a < (c + 1) * b) : a / b = c := by
  have p := (Int.le_ediv_iff_mul_le hb).mpr h1
  have q := (Int.ediv_lt_iff_lt_mul hb).mpr h2
  omega
theorem tdiv_fl {a b : Int} (hb : 0 < b) : (0 ≤ a → a.tdiv b = a / b) ∧ (a < 0 → a.tdiv b * b = a → a.tdiv b = a / b) ∧ (a < 0 → ¬ a.tdiv b * b = a → a.tdiv b - 1 = a / b) ∧ (a < 0 → a ≤ a.tdiv b * b ∧ a.tdiv b * b ≤ 0) ∧ (0 ≤ a → 0 ≤ a.tdiv b * b ∧ a.tdiv b * b ≤ a) := by
  have e := Int.mul_tdiv_add_tmod a b
  have e2 : b * a.tdiv b = a.tdiv b * b := Int.mul_comm _ _
  have ng : a < 0 → -b < a.tmod b ∧ a.tmod b ≤ 0 := fun h => by
    have h1 : a.tmod b = -((-a).tmod b) := by rw [Int.neg_tmod]; omega
    have h2 := Int.tmod_nonneg (a := -a) b (by omega)
    have h3 := Int.tmod_lt_of_pos (-a) hb
    omega
  have ps : 0 ≤ a → 0 ≤ a.tmod b ∧ a.tmod b < b := fun h => ⟨Int.tmod_nonneg b h, Int.tmod_lt_of_pos a hb⟩
  refine ⟨fun h => Int.tdiv_eq_ediv_of_nonneg h, fun h k => ?_, fun h k => ?_, fun h => ?_, fun h => ?_⟩
  · exact (ediv_u hb (by omega) (by rw [Int.add_mul]; omega)).symm
  · have := ng h
    exact (ediv_u hb (by rw [Int.sub_mul]; omega) (by rw [Int.sub_add_cancel]; omega)).symm
  · have := ng h
    refine ⟨by omega, ?_⟩
    have : a.tdiv b ≤ 0 := by
      have h1 : a.tdiv b = -((-a).tdiv b) := by rw [Int.neg_tdiv]; omega
      have h2 := Int.tdiv_nonneg (a := -a) (b := b) (by omega) (by omega)
      omega
    exact Int.mul_nonpos_of_nonpos_of_nonneg this (by omega)
  · have := ps h
    refine ⟨Int.mul_nonneg (Int.tdiv_nonneg h (by omega)) (by omega), by omega⟩
theorem zxor_sg {a b : Int} (ha : zrg a) (hb : zrg b) : (zxor a b < 0) ↔ ¬ ((a < 0) ↔ (b < 0)) := by
  have e : zxor a b = ((Int32.ofInt a).toBitVec ^^^ (Int32.ofInt b).toBitVec).toInt := by
    unfold zxor
    rw [← Int32.toBitVec_xor, Int32.toInt_toBitVec]
  have m1 : (Int32.ofInt a).toBitVec.msb = decide (a < 0) := by rw [BitVec.msb_eq_toInt, Int32.toInt_toBitVec, zi_t ha]
  have m2 : (Int32.ofInt b).toBitVec.msb = decide (b < 0) := by rw [BitVec.msb_eq_toInt, Int32.toInt_toBitVec, zi_t hb]
  have m3 : ((Int32.ofInt a).toBitVec ^^^ (Int32.ofInt b).toBitVec).msb = decide (zxor a b < 0) := by rw [BitVec.msb_eq_toInt, e]
  rw [BitVec.msb_xor, m1, m2] at m3
  by_cases p : a < 0 <;> by_cases q : b < 0 <;> by_cases r : zxor a b < 0 <;> simp [p, q, r] at m3 ⊢
section FX
variable {K : Int → zSt → Prop} {D : zD} {T : Int} {σ : zSt}
theorem sJ9_floorDiv {a b : Int} (ha : zrg a) (hb : zrg b) (b0 : 0 < b) (hK : K (a / b) σ) : fJ9_floorDiv_7cf53 K σ a b := by
  obtain ⟨t1, t2, t3, t4, t5⟩ := tdiv_fl (a := a) b0
  have sg := zxor_sg ha hb
  refine ⟨ha, hb, by omega, fun h => ?_, fun h => ?_⟩
  · rw [t1 (by omega)]; exact hK
  · have an : a < 0 := by omega
    have := t4 an
    refine ⟨by omega, fun k => ?_, fun k => ?_⟩
    · rw [t2 an k]; exact hK
    · rw [t3 an k]; exact hK
theorem sJ9_floorMod {a b : Int} (ha : zrg a) (hb : zrg b) (b0 : 0 < b) (hK : K (a % b) σ) : fJ9_floorMod_7cf53 K σ a b := by
  have sg := zxor_sg ha hb
  have e := Int.mul_tdiv_add_tmod a b
  have e2 := Int.mul_ediv_add_emod a b
  have p0 := Int.emod_nonneg a (show b ≠ 0 by omega)
  have p1 := Int.emod_lt_of_pos a b0
  refine ⟨ha, hb, by omega, fun h => ?_, fun h => ?_⟩
  · rw [Int.tmod_eq_emod_of_nonneg (by omega)]; exact hK
  · have an : a < 0 := by omega
    have h1 : a.tmod b = -((-a).tmod b) := by rw [Int.neg_tmod]; omega
    have h2 := Int.tmod_nonneg (a := -a) b (by omega)
    have h3 := Int.tmod_lt_of_pos (-a) b0
    have key : ∀ x : Int, a.tdiv b = x → a / b = x ∨ a / b = x - 1 := fun x hx => by
      obtain ⟨t1, t2, t3, t4, t5⟩ := tdiv_fl (a := a) b0
      by_cases k : a.tdiv b * b = a
      · exact Or.inl ((t2 an k).symm.trans hx)
      · have := t3 an k; exact Or.inr (by omega)
    refine ⟨by omega, fun k => ?_, fun k => ?_⟩
    · have : a % b = a.tmod b := by
        rcases key _ rfl with z | z
        · rw [z] at e2; omega
        · rw [z, Int.mul_sub] at e2; omega
      rw [← this]; exact hK
    · have : a % b = a.tmod b + b := by
        rcases key _ rfl with z | z
        · rw [z] at e2; omega
        · rw [z, Int.mul_sub] at e2; omega
      rw [← this]; exact hK
theorem sM_floorOf {a b : Int} (ha : zrg a) (hb : zrg b) (b0 : 0 < b) (hK : K (a / b) σ) : fX12_floorOf K σ a b := by
  obtain ⟨t1, t2, t3, t4, t5⟩ := tdiv_fl (a := a) b0
  by_cases an : a < 0
  · have := t4 an
    refine ⟨ha, hb, by omega, by omega, fun k => ?_, fun k => ?_⟩
    · rw [t2 an (by omega)]; exact hK
    · rw [t3 an (by omega)]; exact hK
  · have := t5 (by omega)
    refine ⟨ha, hb, by omega, by omega, fun k => ?_, fun k => by omega⟩
    rw [t1 (by omega)]; exact hK
/-- the last entry not behind a day -/
def tpe (D : zD) (st : tS) (day : Int) : Int := lp (fun k a => if tday D st k ≤ day then k else a) (st.1 - 1).toNat 1 0
abbrev tpP (D : zD) (st : tS) (day e : Int) : Prop := (0 ≤ e ∧ e < st.1) ∧ tday D st e ≤ day ∧ (e + 1 < st.1 → day < tday D st (e + 1))
theorem tpe_u {st : tS} (hD : WF D) (hG : TG D st) {day e : Int} (h : tpP D st day e) : tpe D st day = e := by
  have step : ∀ (m : Nat) (k a : Int), 1 ≤ k → k + m = st.1 → (k ≤ e ∨ a = e) → lp (fun k a => if tday D st k ≤ day then k else a) m k a = e := by
    intro m
    induction m with
    | zero => intro k a k0 hk ha; rw [lp_0]; omega
    | succ m ih =>
      intro k a k0 hk ha
      rw [lp_s]
      by_cases w : k ≤ e
      · have hd : tday D st k ≤ day := by
          by_cases y : k = e
          · rw [y]; exact h.2.1
          · have := tday_lt hD hG (j := k) (k := e) (by omega) (by omega) h.1.2
            have := h.2.1
            omega
        show lp _ m (k + 1) (if tday D st k ≤ day then k else a) = e
        rw [if_pos hd]
        exact ih (k + 1) k (by omega) (by omega) (by omega)
      · have hd : ¬ tday D st k ≤ day := by
          have h2 := h.2.2 (by omega)
          by_cases y : k = e + 1
          · rw [y]; omega
          · have := tday_lt hD hG (j := e + 1) (k := k) (by omega) (by omega) (by omega)
            omega
        show lp _ m (k + 1) (if tday D st k ≤ day then k else a) = e
        rw [if_neg hd]
        exact ih (k + 1) a (by omega) (by omega) (by omega)
  unfold tpe
  exact step _ 1 0 (by decide) (by have := h.1; omega) (by have := h.1; omega)
def tpv (D : zD) (st : tS) (C : Int → Int) (day e : Int) : Int := if e + 1 < st.1 then 100 * C e + 100 * (C (e + 1) - C e) * (day - tday D st e) / (tday D st (e + 1) - tday D st e) else 100 * C e
abbrev tpo (D : zD) (st : tS) (day : Int) : Prop := st.1 = 0 ∨ day < tday D st 0 ∨ tday D st (st.1 - 1) < day
def tpos (D : zD) (st : tS) (C : Int → Int) (day : Int) : Int := if tpo D st day then -2147483648 else tpv D st C day (tpe D st day)
theorem mul_b {a b c d : Int} (h1 : -c ≤ a ∧ a ≤ c) (h2 : 0 ≤ b ∧ b ≤ d) : -(c * d) ≤ a * b ∧ a * b ≤ c * d := by
  have p := Int.mul_le_mul h1.2 h2.2 h2.1 (show 0 ≤ c by omega)
  have q := Int.mul_le_mul (show -a ≤ c by omega) h2.2 h2.1 (show 0 ≤ c by omega)
  rw [Int.neg_mul] at q
  omega
theorem tpn {st : tS} (hD : WF D) (hG : TG D st) {C : Int → Int} (hC : ∀ k, 0 ≤ k → k < st.1 → -3 ≤ C k ∧ C k ≤ 14) {day e : Int} (h : tpP D st day e) (h1 : e + 1 < st.1) : zrg (100 * (C (e + 1) - C e) * (day - tday D st e)) := by
  have a := hC e h.1.1 h.1.2
  have b := hC (e + 1) (by omega) h1
  have c := tday_b hD hG e
  have d := tday_b hD hG (e + 1)
  have f := h.2.2 h1
  have g := h.2.1
  have := mul_b (a := 100 * (C (e + 1) - C e)) (b := day - tday D st e) (c := 1700) (d := 10001) (by omega) (by omega)
  omega
theorem sX10_interpolate {st : tS} {A day : Int} {C : Int → Int} (hD : WF D) (hT : 24 ≤ T ∧ T ≤ 30) (hI : TI σ T D st) (hG : TG D st) (hA : kX A = 14) (hAC : ∀ k, 0 ≤ k → k < st.1 → σ A k = C k) (hC : ∀ k, 0 ≤ k → k < st.1 → -3 ≤ C k ∧ C k ≤ 14) (hd : zrg day) (hK : K (tpos D st C day) σ) : fX10_interpolate K σ T A day := by
  have g1 := hG.1
  obtain ⟨i1, i2, i3, i4⟩ := hI
  have hI : TI σ T D st := ⟨i1, i2, i3, i4⟩
  have dd : ∀ k, 0 ≤ k → k < st.1 → σ (31 + 6 * (T - 24) + 3) k = tday D st k := fun k k0 k1 => by
    unfold tday; rw [if_pos ⟨k0, k1⟩]; exact (i4 k k0 k1).2.1
  have out : tpo D st day → K (-2147483648) σ := fun z => by unfold tpos at hK; rwa [if_pos z] at hK
  have at' : ∀ e, ¬ tpo D st day → tpP D st day e → K (tpv D st C day e) σ := fun e z h => by
    unfold tpos at hK
    rw [if_neg z, tpe_u hD hG h] at hK
    exact hK
  have fin : ∀ e, ¬ tpo D st day → tpP D st day e → fX10_interpolate_B62 K σ T A day e := fun e z h => by
    have k := at' e z h
    have b := tday_b hD hG e
    have c := tday_b hD hG (e + 1)
    have rc := hC e h.1.1 h.1.2
    unfold fX10_interpolate_B62
    rw [hAC e h.1.1 h.1.2]
    refine ⟨by omega, sX10_hasSegment hT hI hG (by omega) (fun _ e1 => zb1 ⟨by omega, ?_⟩) (fun w => zb0 ?_)⟩
    · have lt := tday_lt hD hG h.1.1 (show e < e + 1 by omega) e1
      have nn := tpn hD hG hC h e1
      unfold tpv at k
      rw [if_pos e1] at k
      unfold fX10_interpolate_B97
      rw [dd e h.1.1 h.1.2, dd (e + 1) (by omega) e1, hAC (e + 1) (by omega) e1, hAC e h.1.1 h.1.2]
      exact ⟨by omega, fun _ => ⟨by omega, by omega, sJ9_floorDiv nn (by omega) (by omega) k⟩, fun q => by omega⟩
    · have e1 : ¬ e + 1 < st.1 := fun q => w ⟨h.1.1, q⟩
      unfold tpv at k
      rw [if_neg e1] at k
      exact ⟨by decide, fun q => absurd q (by decide), fun _ => k⟩
  have loop : ∀ (m : Nat) (e : Int), e = m → e < st.1 → ¬ tpo D st day → (e + 1 < st.1 → day < tday D st (e + 1)) → fX10_interpolate_B42 K (m + 1) σ T A day e := by
    intro m
    induction m with
    | zero =>
      intro e he e1 z h
      rw [uX10_interpolate_B42]
      refine ⟨by omega, fun _ => fin e z ⟨by omega, ?_, h⟩, fun q => by omega⟩
      rw [show e = 0 by omega]
      have : ¬ day < tday D st 0 := fun q => z (Or.inr (Or.inl q))
      omega
    | succ m ih =>
      intro e he e1 z h
      have b := tday_b hD hG e
      rw [uX10_interpolate_B42, dd e (by omega) e1]
      refine ⟨by omega, fun q => by omega, fun q => ⟨by omega, by omega, hd, fun w => fin e z ⟨by omega, w, h⟩, fun w => ?_⟩⟩
      rw [show e + -1 = e - 1 by omega]
      exact ih (e - 1) (by omega) (by omega) z (fun _ => by rw [show e - 1 + 1 = e by omega]; omega)
  have b0 := tday_b hD hG 0
  have b1 := tday_b hD hG (st.1 - 1)
  unfold fX10_interpolate
  rw [i1]
  refine ⟨kX_T hT, hA, by omega, fun z => out (Or.inl z), fun z => ?_⟩
  rw [dd 0 (by decide) (by omega), dd (st.1 - 1) (by omega) (by omega)]
  refine ⟨hd, by omega, fun w => out (Or.inr (Or.inl w)), fun w => ⟨by omega, by omega, fun y => ⟨(st.1 - 1).toNat + 1, loop _ _ (by omega) (by omega) ?_ (fun q => by omega)⟩, fun y => out (Or.inr (Or.inr (by omega)))⟩⟩
  rintro (q | q | q) <;> omega
theorem sX10_travelled {st : tS} {A : Int} {C : Int → Int} (hT : 24 ≤ T ∧ T ≤ 30) (hI : TI σ T D st) (hG : TG D st) (hA : kX A = 14) (hAC : ∀ k, 0 ≤ k → k < st.1 → σ A k = C k) (hK : K (if st.1 = 0 then 0 else C (st.1 - 1) - C 0) σ) : fX10_travelled K σ T A := by
  have g1 := hG.1
  unfold fX10_travelled
  rw [hI.1]
  refine ⟨kX_T hT, hA, by omega, fun z => ?_, fun z => ⟨by omega, ?_⟩⟩
  · rwa [if_pos z] at hK
  · rw [if_neg z] at hK
    rw [hAC _ (by omega) (by omega), hAC 0 (by decide) (by omega)]
    exact hK
/-- the distance of two entries, in hundredths -/
def tdis (D : zD) (st st2 : tS) (k j : Int) : Int := sq (10000 * ((tX D st k - tX D st2 j) * (tX D st k - tX D st2 j) + (tY D st k - tY D st2 j) * (tY D st k - tY D st2 j)))
theorem tdis_n {st st2 : tS} (hD : WF D) (hG : TG D st) (hG2 : TG D st2) {k j : Int} (k0 : 0 ≤ k) (k1 : k < st.1) (j0 : 0 ≤ j) (j1 : j < st2.1) : 0 ≤ 10000 * ((tX D st k - tX D st2 j) * (tX D st k - tX D st2 j) + (tY D st k - tY D st2 j) * (tY D st k - tY D st2 j)) ∧ 10000 * ((tX D st k - tX D st2 j) * (tX D st k - tX D st2 j) + (tY D st k - tY D st2 j) * (tY D st k - tY D st2 j)) ≤ 5780000 := by
  have a := tX_b hD hG k0 k1
  have b := tX_b hD hG2 j0 j1
  have c := sqr_b (a := tX D st k - tX D st2 j) (c := 17) (by omega)
  have d := sqr_b (a := tY D st k - tY D st2 j) (c := 17) (by omega)
  omega
theorem tdis_b {st st2 : tS} (hD : WF D) (hG : TG D st) (hG2 : TG D st2) {k j : Int} (k0 : 0 ≤ k) (k1 : k < st.1) (j0 : 0 ≤ j) (j1 : j < st2.1) : 0 ≤ tdis D st st2 k j ∧ tdis D st st2 k j ≤ 3000 := sq_b (by decide) (by have := tdis_n hD hG hG2 k0 k1 j0 j1; omega)
theorem sX10_distanceTo {T2 f : Int} {st st2 : tS} (hD : WF D) (hT : 24 ≤ T ∧ T ≤ 30) (hT2 : 24 ≤ T2 ∧ T2 ≤ 30) (hI : TI σ T D st) (hI2 : TI σ T2 D st2) (hG : TG D st) (hG2 : TG D st2) (hf : zrg f) (hD2 : D 2 ≤ 6) (y1 : tin st f) (y2 : tin st2 f) (hK : ∀ k j, 0 ≤ k → k < st.1 → (st.2.1 k).1 = f → 0 ≤ j → j < st2.1 → (st2.2.1 j).1 = f → K (tdis D st st2 k j) σ) : fX10_distanceTo K σ T T2 f := by
  have g1 := hG.1
  have g2 := hG2.1
  refine ⟨kX_T hT, kX_T hT2, sX10_entryOf hT hI hG hf hD2 (fun k k0 k1 ke => sX10_entryOf hT2 hI2 hG2 hf hD2 (fun j j0 j1 je => ⟨by omega, fun z => by omega, fun _ => ⟨by omega, fun z => by omega, fun _ => ?_⟩⟩) (fun z => absurd y2 z)) (fun z => absurd y1 z)⟩
  have n := tdis_n hD hG hG2 k0 k1 j0 j1
  have a := tX_b hD hG k0 k1
  have b := tX_b hD hG2 j0 j1
  have p5 : σ (31 + 6 * (T - 24) + 0) k = tX D st k := (hI.2.2.2 k k0 k1).2.2.2.2.1
  have p6 : σ (31 + 6 * (T - 24) + 1) k = tY D st k := (hI.2.2.2 k k0 k1).2.2.2.2.2
  have q5 : σ (31 + 6 * (T2 - 24) + 0) j = tX D st2 j := (hI2.2.2.2 j j0 j1).2.2.2.2.1
  have q6 : σ (31 + 6 * (T2 - 24) + 1) j = tY D st2 j := (hI2.2.2.2 j j0 j1).2.2.2.2.2
  rw [p5, p6, q5, q6]
  exact ⟨by omega, by omega, by omega, by omega, sX11_squareRoot n.1 (by omega) (hK k j k0 k1 ke j0 j1 je)⟩
end FX
