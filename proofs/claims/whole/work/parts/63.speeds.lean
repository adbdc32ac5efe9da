/-! the class's tracks read: entries, lengths, speeds -/
def TG (D : zD) (st : tS) : Prop := (0 ≤ st.1 ∧ st.1 ≤ 6) ∧ (∀ k, 0 ≤ k → k < st.1 → (0 ≤ (st.2.1 k).1 ∧ (st.2.1 k).1 < D 2) ∧ (0 ≤ (st.2.1 k).2.1 ∧ (st.2.1 k).2.1 < D 0) ∧ (0 ≤ (st.2.1 k).2.2 ∧ (st.2.1 k).2.2 < D 1)) ∧ (∀ j k, 0 ≤ j → j < k → k < st.1 → (st.2.1 j).1 < (st.2.1 k).1) ∧ (0 ≤ st.2.2.1 ∧ st.2.2.1 ≤ 6) ∧ (0 ≤ st.2.2.2 ∧ st.2.2.2 ≤ 225)
theorem trk_G {D : zD} (hD : WF D) {i tol : Int} (i0 : 0 ≤ i) (i1 : i < D 4) : TG D (trk D i tol) := by
  have q := hD.1
  unfold WFa at q
  have rb := refer_b hD
  by_cases hr : refer D = -1
  · have e : trk D i tol = (0, fun _ => (0, 0, 0), 0, 0) := by unfold trk; rw [if_pos hr]
    rw [e]
    exact ⟨by show (0 : Int) ≤ 0 ∧ (0 : Int) ≤ 6; decide, fun k k0 k1 => by have k1 : k < 0 := k1; omega, fun j k j0 jk k1 => by have k1 : k < 0 := k1; omega, by show (0 : Int) ≤ 0 ∧ (0 : Int) ≤ 6; decide, by show (0 : Int) ≤ 0 ∧ (0 : Int) ≤ 225; decide⟩
  · obtain ⟨h1, h2, h3, h4, h5, h6⟩ := trk_B (tol := tol) hD i0 i1 hr
    exact ⟨by omega, fun k k0 k1 => by have := h2 k k0 k1; exact ⟨by omega, this.2.2⟩, h3, by omega, h6⟩
theorem day_lt {D : zD} (hD : WF D) : ∀ (m : Nat) (f : Int), 0 ≤ f → f + 1 + m < D 2 → D (6 + f) < D (6 + (f + 1 + m)) := by
  intro m
  induction m with
  | zero => intro f f0 f1; have := hD.2.2.1.2 f f0 (by omega); simpa using this
  | succ m ih =>
    intro f f0 f1
    have a := ih f f0 (by omega)
    have b := hD.2.2.1.2 (f + 1 + m) (by omega) (by omega)
    rw [show f + 1 + ((m + 1 : Nat) : Int) = f + 1 + m + 1 by omega]
    omega
theorem day_lt2 {D : zD} (hD : WF D) {f g : Int} (f0 : 0 ≤ f) (h : f < g) (g1 : g < D 2) : D (6 + f) < D (6 + g) := by
  have := day_lt hD (g - f - 1).toNat f f0 (by omega)
  rw [show f + 1 + ((g - f - 1).toNat : Int) = g by omega] at this
  exact this
/-- square roots -/
def sqN : Nat → Nat
  | 0 => 0
  | n + 1 => if (sqN n + 1) * (sqN n + 1) ≤ n + 1 then sqN n + 1 else sqN n
theorem sqN_ok : ∀ n : Nat, sqN n * sqN n ≤ n ∧ n < (sqN n + 1) * (sqN n + 1) := by
  intro n
  induction n with
  | zero => exact ⟨by decide, by decide⟩
  | succ n ih =>
    unfold sqN
    split
    · rename_i h
      refine ⟨h, ?_⟩
      have : (sqN n + 1 + 1) * (sqN n + 1 + 1) = (sqN n + 1) * (sqN n + 1) + 2 * (sqN n + 1) + 1 := by
        rw [Nat.add_mul (sqN n + 1) 1, Nat.mul_add]; omega
      omega
    · rename_i h
      exact ⟨by omega, by omega⟩
def sq (n : Int) : Int := (sqN n.toNat : Int)
theorem sq_u {n r : Int} (r0 : 0 ≤ r) (h1 : r * r ≤ n) (h2 : n < (r + 1) * (r + 1)) : r = sq n := by
  have n0 : 0 ≤ n := Int.le_trans (Int.mul_nonneg r0 r0) h1
  obtain ⟨a, rfl⟩ : ∃ a : Nat, n = a := ⟨n.toNat, by omega⟩
  obtain ⟨b, rfl⟩ : ∃ b : Nat, r = b := ⟨r.toNat, by omega⟩
  obtain ⟨k1, k2⟩ := sqN_ok a
  have h1 : b * b ≤ a := by exact_mod_cast h1
  have h2 : a < (b + 1) * (b + 1) := by exact_mod_cast h2
  unfold sq
  have e : ((a : Int)).toNat = a := by omega
  rw [e]
  have l1 : b < sqN a + 1 := by
    rcases Nat.lt_or_ge b (sqN a + 1) with q | q
    · exact q
    · have := Nat.mul_le_mul q q; omega
  have l2 : sqN a < b + 1 := by
    rcases Nat.lt_or_ge (sqN a) (b + 1) with q | q
    · exact q
    · have := Nat.mul_le_mul q q; omega
  omega
theorem sq_b {n c : Int} (c0 : 0 ≤ c) (h : n < (c + 1) * (c + 1)) : 0 ≤ sq n ∧ sq n ≤ c := by
  unfold sq
  refine ⟨by omega, ?_⟩
  obtain ⟨b, rfl⟩ : ∃ b : Nat, c = b := ⟨c.toNat, by omega⟩
  obtain ⟨k1, k2⟩ := sqN_ok n.toNat
  have h2 : n.toNat < (b + 1) * (b + 1) := by
    have e : ((b : Int) + 1) * (b + 1) = (((b + 1) * (b + 1) : Nat) : Int) := by simp
    rw [e] at h
    have p : 0 < (b + 1) * (b + 1) := Nat.mul_pos (Nat.succ_pos b) (Nat.succ_pos b)
    generalize (b + 1) * (b + 1) = m at h p ⊢
    omega
  rcases Nat.lt_or_ge (sqN n.toNat) (b + 1) with q | q
  · omega
  · have := Nat.mul_le_mul q q; omega
theorem sqr_b {a c : Int} (h : -c ≤ a ∧ a ≤ c) : 0 ≤ a * a ∧ a * a ≤ c * c := by
  have e : a * a = ((a.natAbs * a.natAbs : Nat) : Int) := by rw [Int.natCast_mul]; exact (Int.natAbs_mul_self' a).symm
  have e2 : c * c = ((c.natAbs * c.natAbs : Nat) : Int) := by rw [Int.natCast_mul]; exact (Int.natAbs_mul_self' c).symm
  have := Nat.mul_le_mul (show a.natAbs ≤ c.natAbs by omega) (show a.natAbs ≤ c.natAbs by omega)
  rw [e, e2]
  exact ⟨by omega, by exact_mod_cast this⟩
section QX
variable {K : Int → zSt → Prop} {D : zD} {T : Int} {σ : zSt}
theorem sX11_squareRoot_B7 {n : Int} (hn : n < 4611686018427387904) : ∀ (j : Nat) (r : Int), 0 ≤ r → r + 2 * 2 ^ j ≤ 2147483648 → r * r ≤ n → n < (r + 2 * 2 ^ j) * (r + 2 * 2 ^ j) → K (sq n) σ → fX11_squareRoot_B7 K (j + 2) σ n r (2 ^ j) := by
  have z1 : (1 : Int).toNat = 1 := rfl
  have c0 : zcmp 0 0 = 0 := rfl
  have fin : ∀ r : Int, 0 ≤ r → r * r ≤ n → n < (r + 1) * (r + 1) → K (sq n) σ → fX11_squareRoot_B7 K 1 σ n r 0 := fun r r0 h1 h2 hk => by
    rw [uX11_squareRoot_B7]
    refine ⟨by omega, fun _ => ?_, fun h => (h (by rw [c0]; decide)).elim⟩
    rw [sq_u r0 h1 h2]; exact hk
  intro j
  induction j with
  | zero =>
    intro r r0 hr h1 h2 hk
    have n0 : 0 ≤ n := Int.le_trans (Int.mul_nonneg r0 r0) h1
    rw [uX11_squareRoot_B7, z1]
    have e0 : (2 : Int) ^ 0 = 1 := rfl
    rw [e0] at hr h2 ⊢
    have e1 : (1 : Int) / 2 ^ 1 = 0 := by decide
    have ec : zcmp 1 0 = 1 := rfl
    rw [e1, ec]
    have b := Int.mul_le_mul (show r + 1 ≤ 2147483648 by omega) (show r + 1 ≤ 2147483648 by omega) (by omega) (by omega)
    have b0 := Int.mul_nonneg (show 0 ≤ r + 1 by omega) (show 0 ≤ r + 1 by omega)
    refine ⟨by omega, fun h => absurd h (by decide), fun _ => ⟨by omega, by omega, fun h => ?_, fun h => ?_⟩⟩
    · refine fin r r0 h1 ?_ hk
      unfold zcmp at h
      split at h
      · omega
      · split at h <;> omega
    · refine fin (r + 1) (by omega) ?_ (by rw [show r + 1 + 1 = r + 2 * 1 by omega]; exact h2) hk
      unfold zcmp at h
      split at h
      · omega
      · split at h <;> omega
  | succ j ih =>
    intro r r0 hr h1 h2 hk
    have n0 : 0 ≤ n := Int.le_trans (Int.mul_nonneg r0 r0) h1
    have p : (2 : Int) ^ (j + 1) = 2 * 2 ^ j := by rw [Int.pow_succ]; omega
    have pp : (0 : Int) < 2 ^ j := Int.pow_pos (by decide)
    rw [uX11_squareRoot_B7, z1]
    have ed : (2 : Int) ^ (j + 1) / 2 ^ 1 = 2 ^ j := by
      rw [Int.pow_succ, show (2 : Int) ^ 1 = 2 from rfl]
      exact Int.mul_ediv_cancel _ (by decide)
    rw [ed]
    rw [p] at hr h2 ⊢
    have b := Int.mul_le_mul (show r + 2 * 2 ^ j ≤ 2147483648 by omega) (show r + 2 * 2 ^ j ≤ 2147483648 by omega) (by omega) (by omega)
    have b0 := Int.mul_nonneg (show 0 ≤ r + 2 * 2 ^ j by omega) (show 0 ≤ r + 2 * 2 ^ j by omega)
    have ec : zcmp (2 * 2 ^ j) 0 = 1 := by unfold zcmp; rw [if_pos (by omega)]
    rw [ec]
    refine ⟨by omega, fun h => absurd h (by decide), fun _ => ⟨by omega, by omega, fun h => ?_, fun h => ?_⟩⟩
    · refine ih r r0 (by omega) h1 ?_ hk
      unfold zcmp at h
      split at h
      · omega
      · split at h <;> omega
    · refine ih (r + 2 * 2 ^ j) (by omega) (by omega) ?_ (by rw [show r + 2 * 2 ^ j + 2 * 2 ^ j = r + 2 * (2 * 2 ^ j) by omega]; exact h2) hk
      unfold zcmp at h
      split at h
      · omega
      · split at h <;> omega
theorem sX11_squareRoot {n : Int} (n0 : 0 ≤ n) (hn : n < 4611686018427387904) (hK : K (sq n) σ) : fX11_squareRoot K σ n := by
  have e : (2 : Int) ^ 30 = 1073741824 := by decide
  have := sX11_squareRoot_B7 (K := K) (σ := σ) hn 30 0 (by decide) (by decide) (by omega) (by rw [e]; omega) hK
  rw [e] at this
  exact ⟨_, this⟩
theorem sX11_quotient {a b : Int} (ha : zrg a) (hb : zrg b) (hK : K (if b ≤ 0 then 0 else a.tdiv b) σ) : fX11_quotient K σ a b := by
  refine ⟨hb, fun h => ?_, fun h => ⟨ha, by omega, ?_⟩⟩
  · rwa [if_pos h] at hK
  · rwa [if_neg h] at hK
theorem sX10_entryOf_B2 {f : Int} {st : tS} (hT : 24 ≤ T ∧ T ≤ 30) (hI : TI σ T D st) (hG : TG D st) (hf : zrg f) (hD2 : D 2 ≤ 6) (h1 : ∀ k, 0 ≤ k → k < st.1 → (st.2.1 k).1 = f → K k σ) (h0 : ¬ tin st f → K (-1) σ) : ∀ (m : Nat) (k : Int), k + m = st.1 → 0 ≤ k → (∀ j, 0 ≤ j → j < k → (st.2.1 j).1 ≠ f) → fX10_entryOf_B2 K (m + 1) σ T f k := by
  obtain ⟨i1, i2, i3, i4⟩ := hI
  have g1 := hG.1
  intro m
  induction m with
  | zero =>
    intro k e k0 hj
    rw [uX10_entryOf_B2, i1]
    exact ⟨by omega, by omega, fun _ => h0 (fun ⟨j, j0, j1, z⟩ => hj j j0 (by omega) z), fun h => (h (by omega)).elim⟩
  | succ m ih =>
    intro k e k0 hj
    have g2 := (hG.2.1 k k0 (by omega)).1
    rw [uX10_entryOf_B2, i1, (i4 k k0 (by omega)).1]
    refine ⟨by omega, by omega, fun h => by omega, fun h => ⟨by omega, by omega, hf, fun z => h1 k k0 (by omega) z, fun z => ih (k + 1) (by omega) (by omega) (fun j j0 j1 => ?_)⟩⟩
    by_cases w : j = k
    · rw [w]; exact z
    · exact hj j j0 (by omega)
theorem sX10_entryOf {f : Int} {st : tS} (hT : 24 ≤ T ∧ T ≤ 30) (hI : TI σ T D st) (hG : TG D st) (hf : zrg f) (hD2 : D 2 ≤ 6) (h1 : ∀ k, 0 ≤ k → k < st.1 → (st.2.1 k).1 = f → K k σ) (h0 : ¬ tin st f → K (-1) σ) : fX10_entryOf K σ T f :=
  ⟨kX_T hT, st.1.toNat + 1, sX10_entryOf_B2 hT hI hG hf hD2 h1 h0 _ _ (by have := hG.1; omega) (by decide) (fun j j0 j1 => by omega)⟩
theorem sX10_isTrackedIn {f : Int} {st : tS} (hT : 24 ≤ T ∧ T ≤ 30) (hI : TI σ T D st) (hG : TG D st) (hf : zrg f) (hD2 : D 2 ≤ 6) (h1 : tin st f → K 1 σ) (h0 : ¬ tin st f → K 0 σ) : fX10_isTrackedIn K σ T f := by
  have g1 := hG.1
  exact ⟨kX_T hT, sX10_entryOf hT hI hG hf hD2 (fun k k0 k1 e => ⟨by omega, fun z => by omega, fun _ => h1 ⟨k, k0, k1, e⟩⟩) (fun z => ⟨by decide, fun _ => h0 z, fun w => absurd rfl w⟩)⟩
theorem sX10_columnIn {f : Int} {st : tS} (hT : 24 ≤ T ∧ T ≤ 30) (hI : TI σ T D st) (hG : TG D st) (hf : zrg f) (hD2 : D 2 ≤ 6) (h1 : ∀ k, 0 ≤ k → k < st.1 → (st.2.1 k).1 = f → K (st.2.1 k).2.1 σ) (h0 : ¬ tin st f → K (-1) σ) : fX10_columnIn K σ T f := by
  have g1 := hG.1
  refine ⟨kX_T hT, sX10_entryOf hT hI hG hf hD2 (fun k k0 k1 e => ⟨by omega, fun z => by omega, fun _ => ⟨by omega, ?_⟩⟩) (fun z => ⟨by decide, fun _ => h0 z, fun w => absurd rfl w⟩)⟩
  rw [(hI.2.2.2 k k0 k1).2.2.1]
  exact h1 k k0 k1 e
theorem sX10_rowIn {f : Int} {st : tS} (hT : 24 ≤ T ∧ T ≤ 30) (hI : TI σ T D st) (hG : TG D st) (hf : zrg f) (hD2 : D 2 ≤ 6) (h1 : ∀ k, 0 ≤ k → k < st.1 → (st.2.1 k).1 = f → K (st.2.1 k).2.2 σ) (h0 : ¬ tin st f → K (-1) σ) : fX10_rowIn K σ T f := by
  have g1 := hG.1
  refine ⟨kX_T hT, sX10_entryOf hT hI hG hf hD2 (fun k k0 k1 e => ⟨by omega, fun z => by omega, fun _ => ⟨by omega, ?_⟩⟩) (fun z => ⟨by decide, fun _ => h0 z, fun w => absurd rfl w⟩)⟩
  rw [(hI.2.2.2 k k0 k1).2.2.2.1]
  exact h1 k k0 k1 e
def tday (D : zD) (st : tS) (k : Int) : Int := if 0 ≤ k ∧ k < st.1 then D (6 + (st.2.1 k).1) else -1
theorem tday_b {st : tS} (hD : WF D) (hG : TG D st) (k : Int) : -1 ≤ tday D st k ∧ tday D st k ≤ 9999 := by
  unfold tday
  split
  · rename_i h
    have g := (hG.2.1 k h.1 h.2).1
    have := hD.2.2.1.1 _ g.1 g.2
    omega
  · omega
theorem tday_lt {st : tS} (hD : WF D) (hG : TG D st) {j k : Int} (j0 : 0 ≤ j) (jk : j < k) (k1 : k < st.1) : tday D st j < tday D st k := by
  unfold tday
  rw [if_pos ⟨j0, by omega⟩, if_pos ⟨by omega, k1⟩]
  have a := hG.2.2.1 j k j0 jk k1
  have b := (hG.2.1 j j0 (by omega)).1
  have c := (hG.2.1 k (by omega) k1).1
  exact day_lt2 hD b.1 a c.2
theorem sX10_dayOf {k : Int} {st : tS} (hT : 24 ≤ T ∧ T ≤ 30) (hI : TI σ T D st) (hG : TG D st) (hk : zrg k) (hK : K (tday D st k) σ) : fX10_dayOf K σ T k := by
  have g1 := hG.1
  refine ⟨kX_T hT, sX10_hasEntry hT hI.1 g1 hk (fun k0 k1 => zb1 ⟨by omega, ?_⟩) (fun z => zb0 ?_)⟩
  · unfold tday at hK
    rw [if_pos ⟨k0, k1⟩] at hK
    rw [(hI.2.2.2 k k0 k1).2.1]; exact hK
  · unfold tday at hK
    rw [if_neg z] at hK
    exact hK
def tseg (st : tS) : Int := max (st.1 - 1) 0
theorem sX10_segments {st : tS} (hT : 24 ≤ T ∧ T ≤ 30) (hI : TI σ T D st) (hG : TG D st) (hK : K (tseg st) σ) : fX10_segments K σ T := by
  have g1 := hG.1
  unfold fX10_segments
  rw [hI.1]
  exact ⟨kX_T hT, by omega, hK⟩
theorem sX10_hasSegment {k : Int} {st : tS} (hT : 24 ≤ T ∧ T ≤ 30) (hI : TI σ T D st) (hG : TG D st) (hk : zrg k) (h1 : 0 ≤ k → k + 1 < st.1 → K 1 σ) (h0 : ¬ (0 ≤ k ∧ k + 1 < st.1) → K 0 σ) : fX10_hasSegment K σ T k := by
  have g1 := hG.1
  unfold fX10_hasSegment
  rw [hI.1]
  exact ⟨kX_T hT, hk, fun h => h0 (by omega), fun h => ⟨by omega, fun g => h0 (by omega), fun g => h1 (by omega) (by omega)⟩⟩
def tX (D : zD) (st : tS) (k : Int) : Int := (st.2.1 k).2.1 - (oriF D (st.2.1 k).1).2.1
def tY (D : zD) (st : tS) (k : Int) : Int := (st.2.1 k).2.2 - (oriF D (st.2.1 k).1).2.2.1
theorem tX_b {st : tS} (hD : WF D) (hG : TG D st) {k : Int} (k0 : 0 ≤ k) (k1 : k < st.1) : (-3 ≤ tX D st k ∧ tX D st k ≤ 14) ∧ (-3 ≤ tY D st k ∧ tY D st k ≤ 12) := by
  have q := hD.1
  unfold WFa at q
  have g := hG.2.1 k k0 k1
  have o := oriF_s hD (st.2.1 k).1
  unfold tX tY
  omega
def dsq (a b : Int) : Int := a * a + b * b
def slen (D : zD) (st : tS) (sc k : Int) : Int := sq (((tX D st (k + 1) - tX D st k) * (tX D st (k + 1) - tX D st k) + (tY D st (k + 1) - tY D st k) * (tY D st (k + 1) - tY D st k)) * sc * sc)
theorem slen_n {st : tS} (hD : WF D) (hG : TG D st) {k sc : Int} (k0 : 0 ≤ k) (k1 : k + 1 < st.1) (s0 : 0 ≤ sc ∧ sc ≤ 1000) : 0 ≤ ((tX D st (k + 1) - tX D st k) * (tX D st (k + 1) - tX D st k) + (tY D st (k + 1) - tY D st k) * (tY D st (k + 1) - tY D st k)) * sc * sc ∧ ((tX D st (k + 1) - tX D st k) * (tX D st (k + 1) - tX D st k) + (tY D st (k + 1) - tY D st k) * (tY D st (k + 1) - tY D st k)) * sc * sc ≤ 578000000 := by
  have a := tX_b hD hG k0 (by omega)
  have b := tX_b hD hG (k := k + 1) (by omega) k1
  have c := sqr_b (a := tX D st (k + 1) - tX D st k) (c := 17) (by omega)
  have d := sqr_b (a := tY D st (k + 1) - tY D st k) (c := 17) (by omega)
  have e := Int.mul_nonneg (show 0 ≤ (tX D st (k + 1) - tX D st k) * (tX D st (k + 1) - tX D st k) + (tY D st (k + 1) - tY D st k) * (tY D st (k + 1) - tY D st k) by omega) s0.1
  have f := Int.mul_le_mul (show (tX D st (k + 1) - tX D st k) * (tX D st (k + 1) - tX D st k) + (tY D st (k + 1) - tY D st k) * (tY D st (k + 1) - tY D st k) ≤ 578 by omega) s0.2 s0.1 (by decide)
  have g := Int.mul_nonneg e s0.1
  have h := Int.mul_le_mul (show ((tX D st (k + 1) - tX D st k) * (tX D st (k + 1) - tX D st k) + (tY D st (k + 1) - tY D st k) * (tY D st (k + 1) - tY D st k)) * sc ≤ 578000 by omega) s0.2 s0.1 (by decide)
  exact ⟨g, by omega⟩
theorem slen_b {st : tS} (hD : WF D) (hG : TG D st) {k sc : Int} (k0 : 0 ≤ k) (k1 : k + 1 < st.1) (s0 : 0 ≤ sc ∧ sc ≤ 1000) : 0 ≤ slen D st sc k ∧ slen D st sc k ≤ 30000 := sq_b (by decide) (by have := slen_n hD hG k0 k1 s0; omega)
theorem sX10_lengthOf {k sc : Int} {st : tS} (hD : WF D) (hT : 24 ≤ T ∧ T ≤ 30) (hI : TI σ T D st) (hG : TG D st) (k0 : 0 ≤ k) (k1 : k + 1 < st.1) (s0 : 0 ≤ sc ∧ sc ≤ 1000) (hK : K (slen D st sc k) σ) : fX10_lengthOf K σ T k sc := by
  have g1 := hG.1
  have n := slen_n hD hG k0 k1 s0
  have a := tX_b hD hG k0 (by omega)
  have b := tX_b hD hG (k := k + 1) (by omega) k1
  obtain ⟨-, -, -, -, p5, p6⟩ := hI.2.2.2 k k0 (by omega)
  obtain ⟨-, -, -, -, q5, q6⟩ := hI.2.2.2 (k + 1) (by omega) k1
  have p5 : σ (31 + 6 * (T - 24) + 0) k = tX D st k := p5
  have p6 : σ (31 + 6 * (T - 24) + 1) k = tY D st k := p6
  have q5 : σ (31 + 6 * (T - 24) + 0) (k + 1) = tX D st (k + 1) := q5
  have q6 : σ (31 + 6 * (T - 24) + 1) (k + 1) = tY D st (k + 1) := q6
  refine ⟨kX_T hT, sX10_hasSegment hT hI hG (by omega) (fun _ _ => zb1 ?_) (fun z => (z ⟨k0, k1⟩).elim)⟩
  rw [p5, p6, q5, q6]
  exact ⟨by omega, by omega, by omega, by omega, by omega, sX11_squareRoot n.1 (by omega) hK⟩
def spd (D : zD) (st : tS) (sc k : Int) : Int := (slen D st sc k).tdiv (tday D st (k + 1) - tday D st k)
theorem spd_b {st : tS} (hD : WF D) (hG : TG D st) {k sc : Int} (k0 : 0 ≤ k) (k1 : k + 1 < st.1) (s0 : 0 ≤ sc ∧ sc ≤ 1000) : 0 ≤ spd D st sc k ∧ spd D st sc k ≤ 30000 := by
  have a := slen_b hD hG k0 k1 s0
  have b := tday_lt hD hG k0 (show k < k + 1 by omega) k1
  unfold spd
  rw [Int.tdiv_eq_ediv_of_nonneg a.1]
  refine ⟨Int.ediv_nonneg a.1 (by omega), Int.le_trans (Int.ediv_le_self _ a.1) a.2⟩
theorem sX10_speedOf {k sc : Int} {st : tS} (hD : WF D) (hT : 24 ≤ T ∧ T ≤ 30) (hI : TI σ T D st) (hG : TG D st) (k0 : 0 ≤ k) (k1 : k + 1 < st.1) (s0 : 0 ≤ sc ∧ sc ≤ 1000) (hK : K (spd D st sc k) σ) : fX10_speedOf K σ T k sc := by
  have g1 := hG.1
  have a := slen_b hD hG k0 k1 s0
  have b := tday_lt hD hG k0 (show k < k + 1 by omega) k1
  have c := tday_b hD hG k
  have d := tday_b hD hG (k + 1)
  refine ⟨kX_T hT, sX10_lengthOf hD hT hI hG k0 k1 s0 (sX10_dayOf hT hI hG (by omega) (sX10_dayOf hT hI hG (by omega) (sX11_quotient (by omega) (by omega) ?_)))⟩
  rw [if_neg (by omega)]
  exact hK
def ssum (D : zD) (st : tS) (sc : Int) : Int := lp (fun k a => a + slen D st sc k) (tseg st).toNat 0 0
def avg (D : zD) (st : tS) (sc : Int) : Int := if st.1 ≤ 1 then 0 else (ssum D st sc).tdiv (tday D st (st.1 - 1) - tday D st 0)
theorem ssum_b {st : tS} (hD : WF D) (hG : TG D st) {sc : Int} (s0 : 0 ≤ sc ∧ sc ≤ 1000) : 0 ≤ ssum D st sc ∧ ssum D st sc ≤ 150000 := by
  have g1 := hG.1
  have := lp_bd (g := fun k a => a + slen D st sc k) (c := 30000) (lo := 0) (hi := tseg st) (fun x a x0 x1 => by
    have := slen_b hD hG x0 (by unfold tseg at x1; omega) s0
    show a ≤ a + slen D st sc x ∧ a + slen D st sc x ≤ a + 30000
    omega) (tseg st).toNat 0 0 (by decide) (by unfold tseg; omega)
  unfold ssum
  unfold tseg at this ⊢
  omega
theorem sX10_averageSpeed_B4 {sc : Int} {st : tS} (hD : WF D) (hT : 24 ≤ T ∧ T ≤ 30) (hI : TI σ T D st) (hG : TG D st) (s0 : 0 ≤ sc ∧ sc ≤ 1000) (hK : K (avg D st sc) σ) : ∀ (m : Nat) (k a : Int), k + m = tseg st → 0 ≤ k → lp (fun k a => a + slen D st sc k) m k a = ssum D st sc → fX10_averageSpeed_B4 K (m + 1) σ T sc a k := by
  have g1 := hG.1
  have sb := ssum_b hD hG s0
  have tsb : 0 ≤ tseg st ∧ tseg st ≤ 5 := by unfold tseg; omega
  intro m
  induction m with
  | zero =>
    intro k a e k0 hs
    rw [lp_0] at hs
    rw [uX10_averageSpeed_B4]
    refine sX10_segments hT hI hG ⟨by omega, by omega, fun _ => ?_, fun h => (h (by omega)).elim⟩
    rw [hI.1]
    refine sX10_dayOf hT hI hG (by omega) (sX10_dayOf hT hI hG (by omega) ?_)
    have c := tday_b hD hG 0
    have d := tday_b hD hG (st.1 - 1)
    refine sX11_quotient (by omega) (by omega) ?_
    unfold avg at hK
    by_cases z : st.1 ≤ 1
    · rw [if_pos z] at hK
      rw [if_pos]
      · exact hK
      · by_cases w : st.1 = 1
        · rw [w]; simp
        · unfold tday; rw [if_neg (by omega), if_neg (by omega)]; decide
    · rw [if_neg z] at hK
      have := tday_lt hD hG (j := 0) (k := st.1 - 1) (by decide) (by omega) (by omega)
      rw [if_neg (by omega), hs]
      exact hK
  | succ m ih =>
    intro k a e k0 hs
    rw [lp_s] at hs
    rw [uX10_averageSpeed_B4]
    exact sX10_segments hT hI hG ⟨by omega, by omega, fun h => by omega, fun h => sX10_lengthOf hD hT hI hG k0 (by unfold tseg at e; omega) s0 (ih (k + 1) _ (by omega) (by omega) hs)⟩
theorem sX10_averageSpeed {sc : Int} {st : tS} (hD : WF D) (hT : 24 ≤ T ∧ T ≤ 30) (hI : TI σ T D st) (hG : TG D st) (s0 : 0 ≤ sc ∧ sc ≤ 1000) (hK : K (avg D st sc) σ) : fX10_averageSpeed K σ T sc :=
  ⟨kX_T hT, (tseg st).toNat + 1, sX10_averageSpeed_B4 hD hT hI hG s0 hK _ _ _ (by have := hG.1; unfold tseg; omega) (by decide) rfl⟩
abbrev sfast (D : zD) (st : tS) (sc th k : Int) : Prop := 0 ≤ k ∧ k + 1 < st.1 ∧ th ≤ spd D st sc k
abbrev sbeg (D : zD) (st : tS) (sc th k : Int) : Prop := sfast D st sc th k ∧ ¬ sfast D st sc th (k - 1)
theorem sX10_isFast {k sc th : Int} {st : tS} (hD : WF D) (hT : 24 ≤ T ∧ T ≤ 30) (hI : TI σ T D st) (hG : TG D st) (hk : zrg k) (s0 : 0 ≤ sc ∧ sc ≤ 1000) (ht : zrg th) (h1 : sfast D st sc th k → K 1 σ) (h0 : ¬ sfast D st sc th k → K 0 σ) : fX10_isFast K σ T k sc th := by
  refine ⟨kX_T hT, sX10_hasSegment hT hI hG hk (fun k0 k1 => zb1 (sX10_speedOf hD hT hI hG k0 k1 s0 ?_)) (fun z => zb0 (h0 (fun w => z ⟨w.1, w.2.1⟩)))⟩
  have b := spd_b hD hG k0 k1 s0
  exact ⟨by omega, ht, fun h => h0 (fun w => by omega), fun h => h1 ⟨k0, k1, by omega⟩⟩
theorem sX10_beginsSurge {k sc th : Int} {st : tS} (hD : WF D) (hT : 24 ≤ T ∧ T ≤ 30) (hI : TI σ T D st) (hG : TG D st) (hk : -1000 ≤ k ∧ k ≤ 1000) (s0 : 0 ≤ sc ∧ sc ≤ 1000) (ht : zrg th) (h1 : sbeg D st sc th k → K 1 σ) (h0 : ¬ sbeg D st sc th k → K 0 σ) : fX10_beginsSurge K σ T k sc th := by
  exact ⟨kX_T hT, sX10_isFast hD hT hI hG (by omega) s0 ht (fun z => zb1 (sX10_isFast hD hT hI hG (by omega) s0 ht (fun w => zb1 (h0 (fun y => y.2 w))) (fun w => zb0 (h1 ⟨z, w⟩)))) (fun z => zb0 (h0 (fun y => z y.1)))⟩
/-- how many surges begin -/
def scnt (D : zD) (st : tS) (sc th : Int) (k a : Int) : Int := if sbeg D st sc th k then a + 1 else a
def snum (D : zD) (st : tS) (sc th : Int) : Int := lp (scnt D st sc th) (tseg st).toNat 0 0
theorem sX10_surges_B5 {sc th : Int} {st : tS} (hD : WF D) (hT : 24 ≤ T ∧ T ≤ 30) (hI : TI σ T D st) (hG : TG D st) (s0 : 0 ≤ sc ∧ sc ≤ 1000) (ht : zrg th) (hK : K (snum D st sc th) σ) : ∀ (m : Nat) (k a : Int), k + m = tseg st → 0 ≤ k → lp (scnt D st sc th) m k a = snum D st sc th → fX10_surges_B5 K (m + 1) σ T sc th a k := by
  have g1 := hG.1
  have tsb : 0 ≤ tseg st ∧ tseg st ≤ 5 := by unfold tseg; omega
  intro m
  induction m with
  | zero =>
    intro k a e k0 hs
    rw [lp_0] at hs
    rw [uX10_surges_B5]
    exact sX10_segments hT hI hG ⟨by omega, by omega, fun _ => by rw [hs]; exact hK, fun h => (h (by omega)).elim⟩
  | succ m ih =>
    intro k a e k0 hs
    rw [lp_s] at hs
    rw [uX10_surges_B5]
    refine sX10_segments hT hI hG ⟨by omega, by omega, fun h => by omega, fun h => sX10_beginsSurge hD hT hI hG (by omega) s0 ht (fun z => zb1 (ih (k + 1) _ (by omega) (by omega) ?_)) (fun z => zb0 (ih (k + 1) _ (by omega) (by omega) ?_))⟩
    · rw [show scnt D st sc th k a = a + 1 by unfold scnt; rw [if_pos z]] at hs; exact hs
    · rw [show scnt D st sc th k a = a by unfold scnt; rw [if_neg z]] at hs; exact hs
theorem sX10_surges {sc th : Int} {st : tS} (hD : WF D) (hT : 24 ≤ T ∧ T ≤ 30) (hI : TI σ T D st) (hG : TG D st) (s0 : 0 ≤ sc ∧ sc ≤ 1000) (ht : zrg th) (hK : K (snum D st sc th) σ) : fX10_surges K σ T sc th :=
  ⟨kX_T hT, (tseg st).toNat + 1, sX10_surges_B5 hD hT hI hG s0 ht hK _ _ _ (by have := hG.1; unfold tseg; omega) (by decide) rfl⟩
/-- where surge s begins, looked for among m segments from k on, a surges having begun before -/
def sfind (D : zD) (st : tS) (sc th s : Int) : Nat → Int → Int → Int
  | 0, _, _ => -1
  | m + 1, k, a => if sbeg D st sc th k then (if a = s then k else sfind D st sc th s m (k + 1) (a + 1)) else sfind D st sc th s m (k + 1) a
def sbgn (D : zD) (st : tS) (sc th s : Int) : Int := sfind D st sc th s (tseg st).toNat 0 0
theorem sX10_surgeBegin_B6 {sc th s : Int} {st : tS} (hD : WF D) (hT : 24 ≤ T ∧ T ≤ 30) (hI : TI σ T D st) (hG : TG D st) (s0 : 0 ≤ sc ∧ sc ≤ 1000) (ht : zrg th) (hs : zrg s) (hK : K (sbgn D st sc th s) σ) : ∀ (m : Nat) (k a : Int), k + m = tseg st → 0 ≤ k → (0 ≤ a ∧ a ≤ k) → sfind D st sc th s m k a = sbgn D st sc th s → fX10_surgeBegin_B6 K (m + 1) σ T s sc th a k := by
  have g1 := hG.1
  have tsb : 0 ≤ tseg st ∧ tseg st ≤ 5 := by unfold tseg; omega
  intro m
  induction m with
  | zero =>
    intro k a e k0 a0 hq
    unfold sfind at hq
    rw [uX10_surgeBegin_B6]
    exact sX10_segments hT hI hG ⟨by omega, by omega, fun _ => by rw [hq]; exact hK, fun h => (h (by omega)).elim⟩
  | succ m ih =>
    intro k a e k0 a0 hq
    unfold sfind at hq
    rw [uX10_surgeBegin_B6]
    refine sX10_segments hT hI hG ⟨by omega, by omega, fun h => by omega, fun h => sX10_beginsSurge hD hT hI hG (by omega) s0 ht (fun z => zb1 ⟨by omega, hs, fun w => ?_, fun w => ih (k + 1) _ (by omega) (by omega) (by omega) ?_⟩) (fun z => zb0 (ih (k + 1) _ (by omega) (by omega) (by omega) ?_))⟩
    · rw [if_pos z, if_pos w] at hq; rw [hq]; exact hK
    · rw [if_pos z, if_neg w] at hq; exact hq
    · rw [if_neg z] at hq; exact hq
theorem sX10_surgeBegin {sc th s : Int} {st : tS} (hD : WF D) (hT : 24 ≤ T ∧ T ≤ 30) (hI : TI σ T D st) (hG : TG D st) (s0 : 0 ≤ sc ∧ sc ≤ 1000) (ht : zrg th) (hs : zrg s) (hK : K (sbgn D st sc th s) σ) : fX10_surgeBegin K σ T s sc th :=
  ⟨kX_T hT, (tseg st).toNat + 1, sX10_surgeBegin_B6 hD hT hI hG s0 ht hs hK _ _ _ (by have := hG.1; unfold tseg; omega) (by decide) (by decide) rfl⟩
def srun (D : zD) (st : tS) (sc th : Int) : Nat → Int → Int
  | 0, k => k
  | m + 1, k => if sfast D st sc th k then srun D st sc th m (k + 1) else k
def send (D : zD) (st : tS) (sc th b : Int) : Int := srun D st sc th (tseg st - b).toNat b
theorem sX10_surgeEnd_B3 {sc th b : Int} {st : tS} (hD : WF D) (hT : 24 ≤ T ∧ T ≤ 30) (hI : TI σ T D st) (hG : TG D st) (s0 : 0 ≤ sc ∧ sc ≤ 1000) (ht : zrg th) (hK : K (send D st sc th b) σ) : ∀ (m : Nat) (k : Int), k + m = tseg st → 0 ≤ k → srun D st sc th m k = send D st sc th b → fX10_surgeEnd_B3 K (m + 1) σ T sc th k := by
  have g1 := hG.1
  have tsb : 0 ≤ tseg st ∧ tseg st ≤ 5 := by unfold tseg; omega
  intro m
  induction m with
  | zero =>
    intro k e k0 hq
    unfold srun at hq
    rw [uX10_surgeEnd_B3]
    exact sX10_segments hT hI hG ⟨by omega, by omega, fun _ => by rw [hq]; exact hK, fun h => (h (by omega)).elim⟩
  | succ m ih =>
    intro k e k0 hq
    unfold srun at hq
    rw [uX10_surgeEnd_B3]
    refine sX10_segments hT hI hG ⟨by omega, by omega, fun h => by omega, fun h => sX10_isFast hD hT hI hG (by omega) s0 ht (fun z => zb1 (ih (k + 1) (by omega) (by omega) ?_)) (fun z => zb0 ?_)⟩
    · rw [if_pos z] at hq; exact hq
    · rw [if_neg z] at hq; rw [hq]; exact hK
theorem sX10_surgeEnd {sc th b : Int} {st : tS} (hD : WF D) (hT : 24 ≤ T ∧ T ≤ 30) (hI : TI σ T D st) (hG : TG D st) (s0 : 0 ≤ sc ∧ sc ≤ 1000) (ht : zrg th) (b0 : 0 ≤ b) (b1 : b ≤ tseg st) (hK : K (send D st sc th b) σ) : fX10_surgeEnd K σ T b sc th :=
  ⟨kX_T hT, (tseg st - b).toNat + 1, sX10_surgeEnd_B3 hD hT hI hG s0 ht hK _ _ (by omega) b0 rfl⟩
end QX
