/-! stakes: both sides -/
abbrev nS (D : zD) (t : Int) : Int := D (32 + t)
abbrev dS (D : zD) (t r : Int) : Int := D (35 + (8 * t) + r)
abbrev lS (D : zD) (t r : Int) : Int := D (59 + (8 * t) + r)
def dri (D : zD) (t r : Int) : Prop := lS D t (r + 1) < lS D t r
def mel (D : zD) (t r : Int) : Int := if lS D t r ≤ lS D t (r + 1) then lS D t (r + 1) - lS D t r else lS D t (r + 1)
def dys (D : zD) (t r : Int) : Int := dS D t (r + 1) - dS D t r
def drc (D : zD) (t r a : Int) : Int := if lS D t r ≤ lS D t (r + 1) then a else a + 1
def drn (D : zD) (t : Int) : Int := lp (drc D t) (nS D t - 1).toNat 0 0
def tts (D : zD) (t day r a : Int) : Int := if day ≤ dS D t r then a else a + (100 * mel D t r * min (day - dS D t r) (dys D t r)).tdiv (dys D t r)
def tot (D : zD) (t day : Int) : Int := if nS D t = 0 ∨ day < dS D t 0 ∨ dS D t (nS D t - 1) < day then -1 else lp (tts D t day) (nS D t - 1).toNat 0 0
def mbt (D : zD) (t a b : Int) : Int := if tot D t a = -1 ∨ tot D t b = -1 then -1 else tot D t b - tot D t a
def mms (D : zD) (a b t : Int) (p : Int × Int) : Int × Int := if mbt D t a b < 0 then p else (p.1 + mbt D t a b, p.2 + 1)
def mmp (D : zD) (a b : Int) : Int × Int := lp (mms D a b) (D 5).toNat 0 (0, 0)
def mml (D : zD) (a b : Int) : Int := if a ≤ b then (if (mmp D a b).2 = 0 then -1 else (mmp D a b).1.tdiv (mmp D a b).2) else -2
def wrs (D : zD) (t r b : Int) : Int := if b = -1 then r else if mel D t r * dys D t b ≤ mel D t b * dys D t r then b else r
def wrm (D : zD) (t : Int) : Int := lp (wrs D t) (nS D t - 1).toNat 0 (-1)
theorem zcmp_il {x y : Int} : zcmp x y ≤ 0 ↔ x ≤ y := by
  unfold zcmp
  split
  · omega
  · split <;> omega
section SK
variable {D : zD} {t : Int}
theorem nS_b (hD : WF D) (ht : isSk D t) : 0 ≤ nS D t ∧ nS D t ≤ 8 := (hD.2.2.2.2.2 t ht.1 ht.2).1
theorem rS_b (hD : WF D) (ht : isSk D t) {r : Int} (r0 : 0 ≤ r) (r1 : r < nS D t) : (0 ≤ dS D t r ∧ dS D t r ≤ 9999) ∧ (0 ≤ lS D t r ∧ lS D t r ≤ 9999) := (hD.2.2.2.2.2 t ht.1 ht.2).2.1 r r0 r1
theorem dys_b (hD : WF D) (ht : isSk D t) {r : Int} (r0 : 0 ≤ r) (r1 : r + 1 < nS D t) : 1 ≤ dys D t r ∧ dys D t r ≤ 9999 := by
  have a := (hD.2.2.2.2.2 t ht.1 ht.2).2.2 r r0 r1
  have b := rS_b hD ht (r := r) r0 (by omega)
  have c := rS_b hD ht (r := r + 1) (by omega) r1
  unfold dys
  show 1 ≤ D (35 + (8 * t) + (r + 1)) - D (35 + (8 * t) + r) ∧ D (35 + (8 * t) + (r + 1)) - D (35 + (8 * t) + r) ≤ 9999
  have b1 : 0 ≤ D (35 + (8 * t) + r) := b.1.1
  have c1 : D (35 + (8 * t) + (r + 1)) ≤ 9999 := c.1.2
  omega
theorem mel_b (hD : WF D) (ht : isSk D t) {r : Int} (r0 : 0 ≤ r) (r1 : r + 1 < nS D t) : 0 ≤ mel D t r ∧ mel D t r ≤ 9999 := by
  have b := (rS_b hD ht (r := r) r0 (by omega)).2
  have c := (rS_b hD ht (r := r + 1) (by omega) r1).2
  unfold mel
  split <;> omega
theorem dS_lt (hD : WF D) (ht : isSk D t) : ∀ (m : Nat) (r : Int), 0 ≤ r → r + 1 + m < nS D t → dS D t r < dS D t (r + 1 + m) := by
  intro m
  induction m with
  | zero => intro r r0 r1; have := (hD.2.2.2.2.2 t ht.1 ht.2).2.2 r r0 (show r + 1 < nS D t by omega); simpa using this
  | succ m ih =>
    intro r r0 r1
    have a := ih r r0 (by omega)
    have b := (hD.2.2.2.2.2 t ht.1 ht.2).2.2 (r + 1 + m) (by omega) (show r + 1 + m + 1 < nS D t by omega)
    rw [show r + 1 + ((m + 1 : Nat) : Int) = r + 1 + m + 1 by omega]
    exact Int.lt_trans a b
theorem dS_lt2 (hD : WF D) (ht : isSk D t) {j k : Int} (j0 : 0 ≤ j) (h : j < k) (k1 : k < nS D t) : dS D t j < dS D t k := by
  have := dS_lt hD ht (k - j - 1).toNat j j0 (by omega)
  rw [show j + 1 + ((k - j - 1).toNat : Int) = k by omega] at this
  exact this
theorem tts_b (hD : WF D) (ht : isSk D t) {day r a : Int} (r0 : 0 ≤ r) (r1 : r + 1 < nS D t) : a ≤ tts D t day r a ∧ tts D t day r a ≤ a + 999900 := by
  have d := dys_b hD ht r0 r1
  have m := mel_b hD ht r0 r1
  unfold tts
  split
  · omega
  · rename_i w
    have n0 : 0 ≤ 100 * mel D t r * min (day - dS D t r) (dys D t r) := Int.mul_nonneg (by omega) (by omega)
    have n1 : 100 * mel D t r * min (day - dS D t r) (dys D t r) ≤ 999900 * dys D t r := Int.mul_le_mul (by omega) (by omega) (by omega) (by omega)
    rw [Int.tdiv_eq_ediv_of_nonneg n0]
    have e0 := Int.ediv_nonneg n0 (show 0 ≤ dys D t r by omega)
    have e1 := Int.ediv_le_of_le_mul (show 0 < dys D t r by omega) n1
    omega
theorem tot_b (hD : WF D) (ht : isSk D t) (day : Int) : -1 ≤ tot D t day ∧ tot D t day ≤ 7000000 := by
  have n := nS_b hD ht
  unfold tot
  split
  · omega
  · have := lp_bd (g := tts D t day) (c := 999900) (lo := 0) (hi := nS D t - 1) (fun x a x0 x1 => tts_b hD ht x0 (by omega)) (nS D t - 1).toNat 0 0 (by decide) (by omega)
    omega
theorem mbt_b (hD : WF D) (ht : isSk D t) (a b : Int) : -7000001 ≤ mbt D t a b ∧ mbt D t a b ≤ 7000001 := by
  have := tot_b hD ht a
  have := tot_b hD ht b
  unfold mbt
  split <;> omega
variable {K : Int → zSt → Prop} {KX : String → zSt → Prop} {Kv : zSt → Prop} {σ : zSt}
theorem sX8_hasStake {S x : Int} (hS : Sc σ S D) (hx : zrg x) (h1 : 0 ≤ x → x < D 5 → K 1 σ) (h0 : ¬ isSk D x → K 0 σ) : fX8_hasStake K σ S x := by
  have a := hS.1.1
  obtain ⟨b0, b1, b2, b3, b4, b5, b6, b7⟩ := hS.2.1
  unfold WFa at a
  unfold fX8_hasStake
  rw [b4]
  exact ⟨hS.k, hx, fun h => h0 (fun w => by omega), fun h => ⟨by omega, fun h => h0 (fun w => by omega), fun h => h1 (by omega) (by omega)⟩⟩
theorem sX11_requireStake {x : Int} (h : XQ σ D) (hx : zrg x) (h1 : 0 ≤ x → x < D 5 → Kv σ) (h0 : ¬ isSk D x → KX eIO σ) : fX11_requireStake Kv KX σ x :=
  ⟨h.1.k, sX8_hasStake h.1 hx (fun a b => zb1 (h1 a b)) (fun z => zb0 (h0 z))⟩
/-- the class's stake t in cell c -/
def SI (σ : zSt) (c : Int) (D : zD) (t : Int) : Prop := kX c = 9 ∧ σ c 0 = nS D t ∧ ∀ r, 0 ≤ r → r < nS D t → σ (c + 3) r = dS D t r ∧ σ (c + 6) r = lS D t r
theorem Sc.sk {S : Int} (hS : Sc σ S D) (ht : isSk D t) : SI σ (S + 3 + 19 + t) D t := by
  have q := hS.1.1
  unfold WFa at q
  have w := hS.2.1.1
  obtain ⟨a, b⟩ := hS.2.2.2.2 t ht.1 ht.2
  rw [show S + 3 + 19 + t = S + 22 + t by omega]
  refine ⟨by rw [kX_9]; omega, a, fun r r0 r1 => ?_⟩
  rw [show S + 22 + t + 3 = S + 25 + t by omega, show S + 22 + t + 6 = S + 28 + t by omega]
  exact b r r0 r1
theorem sX9_hasInterval {c r : Int} (hD : WF D) (ht : isSk D t) (hI : SI σ c D t) (hr : zrg r) (h1 : 0 ≤ r → r + 1 < nS D t → K 1 σ) (h0 : ¬ (0 ≤ r ∧ r + 1 < nS D t) → K 0 σ) : fX9_hasInterval K σ c r := by
  have n := nS_b hD ht
  unfold fX9_hasInterval
  rw [hI.2.1]
  exact ⟨hI.1, hr, fun h => h0 (by omega), fun h => ⟨by omega, fun g => h0 (by omega), fun g => h1 (by omega) (by omega)⟩⟩
theorem sX9_drilledIn {c r : Int} (hD : WF D) (ht : isSk D t) (hI : SI σ c D t) (r0 : 0 ≤ r) (r1 : r + 1 < nS D t) (h0 : lS D t r ≤ lS D t (r + 1) → K 0 σ) (h1 : ¬ lS D t r ≤ lS D t (r + 1) → K 1 σ) : fX9_drilledIn K σ c r := by
  have n := nS_b hD ht
  have b := (rS_b hD ht (r := r) r0 (by omega)).2
  have e := (rS_b hD ht (r := r + 1) (by omega) r1).2
  refine ⟨hI.1, sX9_hasInterval hD ht hI (by omega) (fun _ _ => zb1 ⟨by omega, by omega, ?_⟩) (fun z => (z ⟨r0, r1⟩).elim)⟩
  rw [(hI.2.2 r r0 (by omega)).2, (hI.2.2 (r + 1) (by omega) r1).2]
  exact ⟨by omega, by omega, h0, h1⟩
theorem sX9_meltIn {c r : Int} (hD : WF D) (ht : isSk D t) (hI : SI σ c D t) (r0 : 0 ≤ r) (r1 : r + 1 < nS D t) (hK : K (mel D t r) σ) : fX9_meltIn K σ c r := by
  have n := nS_b hD ht
  have b := (rS_b hD ht (r := r) r0 (by omega)).2
  have e := (rS_b hD ht (r := r + 1) (by omega) r1).2
  unfold mel at hK
  refine ⟨hI.1, sX9_hasInterval hD ht hI (by omega) (fun _ _ => zb1 ⟨by omega, by omega, ?_⟩) (fun z => (z ⟨r0, r1⟩).elim)⟩
  rw [(hI.2.2 r r0 (by omega)).2, (hI.2.2 (r + 1) (by omega) r1).2]
  refine ⟨by omega, by omega, fun z => ?_, fun z => ?_⟩
  · rw [if_pos z] at hK; exact hK
  · rw [if_neg z] at hK; exact hK
theorem sX9_daysOf {c r : Int} (hD : WF D) (ht : isSk D t) (hI : SI σ c D t) (r0 : 0 ≤ r) (r1 : r + 1 < nS D t) (hK : K (dys D t r) σ) : fX9_daysOf K σ c r := by
  have n := nS_b hD ht
  refine ⟨hI.1, sX9_hasInterval hD ht hI (by omega) (fun _ _ => zb1 ⟨by omega, by omega, ?_⟩) (fun z => (z ⟨r0, r1⟩).elim)⟩
  rw [(hI.2.2 r r0 (by omega)).1, (hI.2.2 (r + 1) (by omega) r1).1]
  exact hK
theorem mul_zrl {a b : Int} (ha : 0 ≤ a ∧ a ≤ 2000000) (hb : 0 ≤ b ∧ b ≤ 10000) : zrl (a * b) := by
  have p := Int.mul_le_mul ha.2 hb.2 hb.1 (show (0 : Int) ≤ 2000000 by decide)
  have q := Int.mul_nonneg ha.1 hb.1
  omega
theorem sX9_meltsFaster {c r b : Int} (hD : WF D) (ht : isSk D t) (hI : SI σ c D t) (r0 : 0 ≤ r) (r1 : r + 1 < nS D t) (b0 : 0 ≤ b) (b1 : b + 1 < nS D t) (h0 : mel D t r * dys D t b ≤ mel D t b * dys D t r → K 0 σ) (h1 : ¬ mel D t r * dys D t b ≤ mel D t b * dys D t r → K 1 σ) : fX9_meltsFaster K σ c r b := by
  have m1 := mel_b hD ht r0 r1
  have m2 := mel_b hD ht b0 b1
  have d1 := dys_b hD ht r0 r1
  have d2 := dys_b hD ht b0 b1
  exact ⟨hI.1, sX9_meltIn hD ht hI r0 r1 ⟨by omega, sX9_daysOf hD ht hI b0 b1 ⟨by omega, sX9_meltIn hD ht hI b0 b1 ⟨by omega, sX9_daysOf hD ht hI r0 r1 ⟨by omega, mul_zrl (by omega) (by omega), mul_zrl (by omega) (by omega), fun z => h0 (zcmp_il.mp z), fun z => h1 (fun w => z (zcmp_il.mpr w))⟩⟩⟩⟩⟩
theorem tts_end (hD : WF D) (ht : isSk D t) {day : Int} {m : Nat} {r a : Int} (r0 : 0 ≤ r) (e : r + m = nS D t - 1) (h : day ≤ dS D t r) : lp (tts D t day) m r a = a := by
  refine lp_const m r a (fun y b y0 y1 => ?_)
  unfold tts
  rw [if_pos]
  by_cases w : y = r
  · rw [w]; exact h
  · have := dS_lt2 hD ht (j := r) (k := y) r0 (by omega) (by omega)
    exact Int.le_trans h (Int.le_of_lt this)
theorem sX9_totalTo {c day : Int} (hD : WF D) (ht : isSk D t) (hI : SI σ c D t) (hd : zrg day) (hK : K (tot D t day) σ) : fX9_totalTo K σ c day := by
  have n := nS_b hD ht
  have out : (nS D t = 0 ∨ day < dS D t 0 ∨ dS D t (nS D t - 1) < day) → K (-1) σ := fun z => by unfold tot at hK; rwa [if_pos z] at hK
  unfold fX9_totalTo
  rw [hI.2.1]
  refine ⟨hI.1, by omega, fun z => out (Or.inl z), fun z => ?_⟩
  have b0 := rS_b hD ht (r := 0) (by decide) (by omega)
  have bl := rS_b hD ht (r := nS D t - 1) (by omega) (by omega)
  rw [(hI.2.2 0 (by decide) (by omega)).1, (hI.2.2 (nS D t - 1) (by omega) (by omega)).1]
  refine ⟨hd, by omega, fun w => out (Or.inr (Or.inl w)), fun w => ⟨by omega, by omega, fun y => ?_, fun y => out (Or.inr (Or.inr (by omega)))⟩⟩
  have L : ∀ (m : Nat) (r a : Int), r + m = nS D t - 1 → 0 ≤ r → lp (tts D t day) m r a = tot D t day → fX9_totalTo_B38 K (m + 1) σ c day a r := by
    intro m
    induction m with
    | zero =>
      intro r a e r0 hs
      rw [lp_0] at hs
      rw [uX9_totalTo_B38, hI.2.1]
      exact ⟨by omega, by omega, fun _ => by rw [hs]; exact hK, fun w => (w (by omega)).elim⟩
    | succ m ih =>
      intro r a e r0 hs
      have dr := rS_b hD ht (r := r) r0 (by omega)
      have db := dys_b hD ht (r := r) r0 (by omega)
      have mb := mel_b hD ht (r := r) r0 (by omega)
      have er := (hI.2.2 r r0 (by omega)).1
      rw [uX9_totalTo_B38, hI.2.1, er]
      refine ⟨by omega, by omega, fun w => by omega, fun _ => ⟨by omega, by omega, hd, fun v => ?_, fun v => sX9_daysOf hD ht hI r0 (by omega) ?_⟩⟩
      · rw [tts_end hD ht r0 e v] at hs
        rw [hs]; exact hK
      · rw [er]
        refine ⟨by omega, by omega, fun u => by omega, fun u => sX9_meltIn hD ht hI r0 (by omega) ⟨by omega, ?_, ?_, ?_, by omega, fun y20 e20 => ih (r + 1) y20 (by omega) (by omega) ?_⟩⟩
        · omega
        · exact mul_zrl (by omega) (by omega)
        · omega
        · rw [← hs, lp_s, e20]; unfold tts; rw [if_neg v]
  have hh := L (nS D t - 1).toNat 0 0 (by omega) (by decide) (by unfold tot; rw [if_neg]; omega)
  exact ⟨_, hh⟩
theorem sX9_meltBetween {c a b : Int} (hD : WF D) (ht : isSk D t) (hI : SI σ c D t) (ha : zrg a) (hb : zrg b) (hK : K (if a ≤ b then mbt D t a b else -2) σ) : fX9_meltBetween K σ c a b := by
  have ta := tot_b hD ht a
  have tb := tot_b hD ht b
  refine ⟨hI.1, ha, hb, fun z => sX9_totalTo hD ht hI ha (sX9_totalTo hD ht hI hb ?_), fun z => ?_⟩
  · rw [if_pos z] at hK
    unfold mbt at hK
    refine ⟨by omega, fun w => ?_, fun w => ⟨by omega, fun y => ?_, fun y => ?_⟩⟩
    · rw [if_pos (Or.inl w)] at hK; exact hK
    · rw [if_pos (Or.inr y)] at hK; exact hK
    · rw [if_neg (fun v => by omega)] at hK; exact hK
  · rw [if_neg z] at hK; exact hK
theorem sM_readings (hd : σ 1 = D) (ht : 0 ≤ t ∧ t < 3) (hK : K (nS D t) σ) : fX12_readings K σ t := ⟨⟨by omega, by omega⟩, by rw [hd]; exact hK⟩
theorem sM_readDay {r : Int} (hd : σ 1 = D) (ht : 0 ≤ t ∧ t < 3) (hr : 0 ≤ r ∧ r < 8) (hK : K (dS D t r) σ) : fX12_readDay K σ t r := ⟨⟨by omega, by omega⟩, by rw [hd]; exact hK⟩
theorem sM_readLength {r : Int} (hd : σ 1 = D) (ht : 0 ≤ t ∧ t < 3) (hr : 0 ≤ r ∧ r < 8) (hK : K (lS D t r) σ) : fX12_readLength K σ t r := ⟨⟨by omega, by omega⟩, by rw [hd]; exact hK⟩
theorem isSk3 (hD : WF D) (ht : isSk D t) : 0 ≤ t ∧ t < 3 := by
  have q := hD.1
  unfold WFa at q
  exact ⟨ht.1, by have := ht.2; omega⟩
theorem sM_isDrilled {r : Int} (hd : σ 1 = D) (hD : WF D) (ht : isSk D t) (r0 : 0 ≤ r) (r1 : r + 1 < nS D t) (h0 : lS D t r ≤ lS D t (r + 1) → K 0 σ) (h1 : ¬ lS D t r ≤ lS D t (r + 1) → K 1 σ) : fX12_isDrilled K σ t r := by
  have n := nS_b hD ht
  have t3 := isSk3 hD ht
  have b := (rS_b hD ht (r := r) r0 (by omega)).2
  have e := (rS_b hD ht (r := r + 1) (by omega) r1).2
  exact sM_readLength hd t3 (by omega) (sM_readLength hd t3 (by omega) ⟨by omega, by omega, h0, h1⟩)
theorem sM_meltOf {r : Int} (hd : σ 1 = D) (hD : WF D) (ht : isSk D t) (r0 : 0 ≤ r) (r1 : r + 1 < nS D t) (hK : K (mel D t r) σ) : fX12_meltOf K σ t r := by
  have n := nS_b hD ht
  have t3 := isSk3 hD ht
  unfold mel at hK
  refine sM_readLength hd t3 (by omega) (sM_isDrilled hd hD ht r0 r1 (fun z => zb0 (sM_readLength hd t3 (by omega) ?_)) (fun z => zb1 ?_))
  · rw [if_pos z] at hK; exact hK
  · rw [if_neg z] at hK; exact hK
theorem sM_daysOf {r : Int} (hd : σ 1 = D) (hD : WF D) (ht : isSk D t) (r0 : 0 ≤ r) (r1 : r + 1 < nS D t) (hK : K (dys D t r) σ) : fX12_daysOf K σ t r := by
  have n := nS_b hD ht
  have t3 := isSk3 hD ht
  exact sM_readDay hd t3 (by omega) (sM_readDay hd t3 (by omega) hK)
theorem sM_totalTo {day : Int} (hd : σ 1 = D) (hD : WF D) (ht : isSk D t) (hdy : zrg day) (hK : K (tot D t day) σ) : fX12_totalTo K σ t day := by
  have n := nS_b hD ht
  have t3 := isSk3 hD ht
  have out : (nS D t = 0 ∨ day < dS D t 0 ∨ dS D t (nS D t - 1) < day) → K (-1) σ := fun z => by unfold tot at hK; rwa [if_pos z] at hK
  refine sM_readings hd t3 ⟨by omega, fun z => out (Or.inl z), fun z => sM_readDay hd t3 (by decide) ?_⟩
  have b0 := rS_b hD ht (r := 0) (by decide) (by omega)
  have bl := rS_b hD ht (r := nS D t - 1) (by omega) (by omega)
  refine ⟨hdy, by omega, fun w => ?_, fun w => out (Or.inr (Or.inl (by omega)))⟩
  have L : ∀ (m : Nat) (r a : Int), r + m = nS D t - 1 → 0 ≤ r → dS D t r ≤ day → (¬ dS D t (nS D t - 1) < day → lp (tts D t day) m r a = tot D t day) → fX12_totalTo_B25 K (m + 1) σ t day a r := by
    intro m
    induction m with
    | zero =>
      intro r a e r0 hr hs
      rw [lp_0] at hs
      rw [uX12_totalTo_B25]
      have er : r = nS D t - 1 := by omega
      refine sM_readings hd t3 ⟨by omega, by omega, fun _ => sM_readings hd t3 (sM_readDay hd t3 (by omega) ⟨hdy, by omega, fun y => ?_, fun y => out (Or.inr (Or.inr ?_))⟩), fun w => (w (by omega)).elim⟩
      · rw [hs (by omega)]; exact hK
      · rw [er] at hr; omega
    | succ m ih =>
      intro r a e r0 hr hs
      have dr := rS_b hD ht (r := r) r0 (by omega)
      have dr1 := rS_b hD ht (r := r + 1) (by omega) (by omega)
      have db := dys_b hD ht (r := r) r0 (by omega)
      have mb := mel_b hD ht (r := r) r0 (by omega)
      have eD : dys D t r = dS D t (r + 1) - dS D t r := rfl
      rw [uX12_totalTo_B25]
      refine sM_readings hd t3 ⟨by omega, by omega, fun w => by omega, fun _ => sM_readDay hd t3 (by omega) (sM_readDay hd t3 (by omega) ⟨hdy, by omega, fun y => sM_meltOf hd hD ht r0 (by omega) ?_, fun y => sM_meltOf hd hD ht r0 (by omega) ?_⟩)⟩
      · refine ih (r + 1) _ (by omega) (by omega) y (fun v => ?_)
        rw [← hs v, lp_s]
        congr 1
        unfold tts
        rw [if_neg (by omega), show min (day - dS D t r) (dys D t r) = dys D t r by omega, Int.mul_tdiv_cancel _ (by omega)]
      · rw [← eD]
        refine ⟨by omega, by omega, by omega, mul_zrl (by omega) (by omega), by omega, by omega, ?_⟩
        have nl : ¬ dS D t (nS D t - 1) < day := by
          by_cases x : r + 1 = nS D t - 1
          · rw [← x]; omega
          · have := dS_lt2 hD ht (j := r + 1) (k := nS D t - 1) (by omega) (by omega) (by omega); omega
        have v := hs nl
        rw [lp_s, tts_end hD ht (by omega) (by omega) (by omega)] at v
        have v2 : tts D t day r a = a + (100 * mel D t r * (day - dS D t r)).tdiv (dys D t r) := by
          unfold tts
          by_cases x : day ≤ dS D t r
          · rw [if_pos x, show day - dS D t r = 0 by omega, Int.mul_zero, Int.zero_tdiv]; omega
          · rw [if_neg x, show min (day - dS D t r) (dys D t r) = day - dS D t r by omega]
        rw [← v2, v]; exact hK
  have hh := L (nS D t - 1).toNat 0 0 (by omega) (by decide) w (fun v => by unfold tot; rw [if_neg (fun y => by omega)])
  exact ⟨_, hh⟩
theorem sM_meltBetween {a b : Int} (hd : σ 1 = D) (hD : WF D) (ht : isSk D t) (ha : zrg a) (hb : zrg b) (hK : K (mbt D t a b) σ) : fX12_meltBetween K σ t a b := by
  have ta := tot_b hD ht a
  have tb := tot_b hD ht b
  unfold mbt at hK
  refine sM_totalTo hd hD ht ha (sM_totalTo hd hD ht hb ⟨by omega, fun z => ?_, fun z => ⟨by omega, fun w => ?_, fun w => ?_⟩⟩)
  · rw [if_pos (Or.inl (by omega))] at hK; exact hK
  · rw [if_neg (fun v => by omega)] at hK; exact hK
  · rw [if_pos (Or.inr (by omega))] at hK; exact hK
/-- the reference: a stake required -/
theorem sM_sk {g : Int → zSt → Prop} {x : Int} {a : Int × Int} (hd : σ 1 = D) (hD : WF D) (hx : zrg x) (hK : rK K σ a) (ha : ¬ isSk D x → a.1 = 1) (h1 : isSk D x → ∀ τ, frm pMq σ τ → τ 0 4 = 0 → τ 1 = D → g 0 τ) (h2 : ∀ τ, K 0 τ → g 1 τ) : fX12_isStake (fun r1 σ1 => fX12_fails g σ1 r1) σ x :=
  sM_isStake hd hD hx (fun f0 f1 => sM_fails1 (fun τ u1 u2 => h1 ⟨f0, f1⟩ τ (p4_q u1) u2 (p4_D u1 hd))) (fun z => sM_fails0 (fun τ u1 u2 => h2 τ (hK 0 τ (p4_q u1) (by rw [ha z]; exact u2) (fun w => by rw [ha z] at w; exact absurd w (by decide)))))
def A_readingCount (D : zD) (t : Int) : Int × Int := if isSk D t then (0, nS D t) else (1, 0)
theorem rM_readingCount (hd : σ 1 = D) (hD : WF D) (ht : zrg t) (hK : rK K σ (A_readingCount D t)) : fX12_readingCount K σ t := by
  refine sM_sk hd hD ht hK (fun z => by unfold A_readingCount; rw [if_neg z]) (fun hs τ u1 u2 u3 => zb0 (sM_readings u3 (isSk3 hD hs) ?_)) (fun τ k => zb1 k)
  exact hK _ τ u1 (by unfold A_readingCount; rw [if_pos hs]; exact u2) (fun _ => by unfold A_readingCount; rw [if_pos hs])
theorem rX_readingCount (h : XA σ D) (ht : zrg t) (hK : xK K KX σ D (A_readingCount D t)) : fX11_readingCount K KX σ t := by
  refine sX11_requireStake h.1 ht (fun t0 t1 => ⟨h.1.1.k, isSk3 h.1.1.1 ⟨t0, t1⟩, ?_⟩) (fun z => hK.2.1 σ frm.rf h (by unfold A_readingCount; rw [if_neg z]))
  have := hK.1 σ frm.rf h (by unfold A_readingCount; rw [if_pos ⟨t0, t1⟩])
  unfold A_readingCount at this; rw [if_pos ⟨t0, t1⟩] at this
  rw [(h.1.1.sk ⟨t0, t1⟩).2.1]
  exact this
def A_readingDay (D : zD) (t r : Int) : Int × Int := if isSk D t ∧ 0 ≤ r ∧ r < nS D t then (0, dS D t r) else (1, 0)
def A_readingLength (D : zD) (t r : Int) : Int × Int := if isSk D t ∧ 0 ≤ r ∧ r < nS D t then (0, lS D t r) else (1, 0)
theorem sM_isReading {r : Int} (hd : σ 1 = D) (hD : WF D) (ht : zrg t) (hr : zrg r) (h1 : isSk D t → 0 ≤ r → r < nS D t → K 1 σ) (h0 : ¬ (isSk D t ∧ 0 ≤ r ∧ r < nS D t) → K 0 σ) : fX12_isReading K σ t r := by
  refine sM_isStake hd hD ht (fun t0 t1 => zb1 ?_) (fun z => zb0 (h0 (fun w => z w.1)))
  have n := nS_b hD ⟨t0, t1⟩
  exact sM_readings hd (isSk3 hD ⟨t0, t1⟩) (sM_inRange hr (by decide) (by omega) (fun a b => zb1 (h1 ⟨t0, t1⟩ a (by omega))) (fun z => zb0 (h0 (fun w => z (by omega)))))

theorem rM_readingDay {r : Int} (hd : σ 1 = D) (hD : WF D) (ht : zrg t) (hr : zrg r) (hK : rK K σ (A_readingDay D t r)) : fX12_readingDay K σ t r := by
  refine sM_isReading hd hD ht hr (fun hs r0 r1 => sM_fails1 (fun τ u1 u2 => zb0 ?_)) (fun z => sM_fails0 (fun τ u1 u2 => zb1 (hK _ τ (p4_q u1) (by unfold A_readingDay; rw [if_neg z]; exact u2) (fun w => by unfold A_readingDay at w; rw [if_neg z] at w; exact absurd w (by decide)))))
  have n := nS_b hD hs
  exact sM_readDay (p4_D u1 hd) (isSk3 hD hs) (by omega) (hK _ τ (p4_q u1) (by unfold A_readingDay; rw [if_pos ⟨hs, r0, r1⟩]; exact u2) (fun _ => by unfold A_readingDay; rw [if_pos ⟨hs, r0, r1⟩]))
theorem rX_readingDay {r : Int} (h : XA σ D) (ht : zrg t) (hr : zrg r) (hK : xK K KX σ D (A_readingDay D t r)) : fX11_readingDay K KX σ t r := by
  have no : ¬ (isSk D t ∧ 0 ≤ r ∧ r < nS D t) → KX eIO σ := fun z => hK.2.1 σ frm.rf h (by unfold A_readingDay; rw [if_neg z])
  refine sX11_requireStake h.1 ht (fun t0 t1 => ?_) (fun z => no (fun w => z w.1))
  have n := nS_b h.1.1.1 ⟨t0, t1⟩
  have sk := h.1.1.sk (t := t) ⟨t0, t1⟩
  rw [sk.2.1]
  refine ⟨hr, fun z => no (fun w => by omega), fun z => ⟨h.1.1.k, isSk3 h.1.1.1 ⟨t0, t1⟩, by omega, fun w => ⟨h.1.1.k, isSk3 h.1.1.1 ⟨t0, t1⟩, by omega, ?_⟩, fun w => no (fun y => w y.2.2)⟩⟩
  have c : isSk D t ∧ 0 ≤ r ∧ r < nS D t := ⟨⟨t0, t1⟩, by omega, w⟩
  have := hK.1 σ frm.rf h (by unfold A_readingDay; rw [if_pos c])
  unfold A_readingDay at this; rw [if_pos c] at this
  rw [(sk.2.2 r (by omega) w).1]
  exact this

theorem rM_readingLength {r : Int} (hd : σ 1 = D) (hD : WF D) (ht : zrg t) (hr : zrg r) (hK : rK K σ (A_readingLength D t r)) : fX12_readingLength K σ t r := by
  refine sM_isReading hd hD ht hr (fun hs r0 r1 => sM_fails1 (fun τ u1 u2 => zb0 ?_)) (fun z => sM_fails0 (fun τ u1 u2 => zb1 (hK _ τ (p4_q u1) (by unfold A_readingLength; rw [if_neg z]; exact u2) (fun w => by unfold A_readingLength at w; rw [if_neg z] at w; exact absurd w (by decide)))))
  have n := nS_b hD hs
  exact sM_readLength (p4_D u1 hd) (isSk3 hD hs) (by omega) (hK _ τ (p4_q u1) (by unfold A_readingLength; rw [if_pos ⟨hs, r0, r1⟩]; exact u2) (fun _ => by unfold A_readingLength; rw [if_pos ⟨hs, r0, r1⟩]))
theorem rX_readingLength {r : Int} (h : XA σ D) (ht : zrg t) (hr : zrg r) (hK : xK K KX σ D (A_readingLength D t r)) : fX11_readingLength K KX σ t r := by
  have no : ¬ (isSk D t ∧ 0 ≤ r ∧ r < nS D t) → KX eIO σ := fun z => hK.2.1 σ frm.rf h (by unfold A_readingLength; rw [if_neg z])
  refine sX11_requireStake h.1 ht (fun t0 t1 => ?_) (fun z => no (fun w => z w.1))
  have n := nS_b h.1.1.1 ⟨t0, t1⟩
  have sk := h.1.1.sk (t := t) ⟨t0, t1⟩
  rw [sk.2.1]
  refine ⟨hr, fun z => no (fun w => by omega), fun z => ⟨h.1.1.k, isSk3 h.1.1.1 ⟨t0, t1⟩, by omega, fun w => ⟨h.1.1.k, isSk3 h.1.1.1 ⟨t0, t1⟩, by omega, ?_⟩, fun w => no (fun y => w y.2.2)⟩⟩
  have c : isSk D t ∧ 0 ≤ r ∧ r < nS D t := ⟨⟨t0, t1⟩, by omega, w⟩
  have := hK.1 σ frm.rf h (by unfold A_readingLength; rw [if_pos c])
  unfold A_readingLength at this; rw [if_pos c] at this
  rw [(sk.2.2 r (by omega) w).2]
  exact this

def A_drillCount (D : zD) (t : Int) : Int × Int := if isSk D t then (0, drn D t) else (1, 0)
theorem rM_drillCount (hd : σ 1 = D) (hD : WF D) (ht : zrg t) (hK : rK K σ (A_drillCount D t)) : fX12_drillCount K σ t := by
  refine sM_sk hd hD ht hK (fun z => by unfold A_drillCount; rw [if_neg z]) (fun hs τ u1 u2 u3 => zb0 ?_) (fun τ k => zb1 k)
  have hk : K (drn D t) τ := hK _ τ u1 (by unfold A_drillCount; rw [if_pos hs]; exact u2) (fun _ => by unfold A_drillCount; rw [if_pos hs])
  have n := nS_b hD hs
  have t3 := isSk3 hD hs
  have L : ∀ (m : Nat) (r a : Int), (r + m = nS D t - 1 ∨ (nS D t = 0 ∧ m = 0 ∧ r = 0)) → 0 ≤ r → lp (drc D t) m r a = drn D t → fX12_drillCount_B18 K (m + 1) τ t a r := by
    intro m
    induction m with
    | zero =>
      intro r a e r0 hq
      rw [lp_0] at hq
      rw [uX12_drillCount_B18]
      exact sM_readings u3 t3 ⟨by omega, by omega, fun _ => by rw [hq]; exact hk, fun w => (w (by omega)).elim⟩
    | succ m ih =>
      intro r a e r0 hq
      rw [lp_s] at hq
      rw [uX12_drillCount_B18]
      refine sM_readings u3 t3 ⟨by omega, by omega, fun w => by omega, fun _ => sM_isDrilled u3 hD hs r0 (by omega) (fun z => zb0 (ih (r + 1) (a + 0) (by omega) (by omega) ?_)) (fun z => zb1 (ih (r + 1) (a + 1) (by omega) (by omega) ?_))⟩
      · rw [← hq]; unfold drc; rw [if_pos z, Int.add_zero]
      · rw [← hq]; unfold drc; rw [if_neg z]
  have hh := L (nS D t - 1).toNat 0 0 (by omega) (by decide) rfl
  exact ⟨_, hh⟩
theorem rX_drillCount (h : XA σ D) (ht : zrg t) (hK : xK K KX σ D (A_drillCount D t)) : fX11_drillCount K KX σ t := by
  refine sX11_requireStake h.1 ht (fun t0 t1 => ⟨h.1.1.k, isSk3 h.1.1.1 ⟨t0, t1⟩, ?_⟩) (fun z => hK.2.1 σ frm.rf h (by unfold A_drillCount; rw [if_neg z]))
  have hs : isSk D t := ⟨t0, t1⟩
  have hk : K (drn D t) σ := by
    have := hK.1 σ frm.rf h (by unfold A_drillCount; rw [if_pos hs])
    unfold A_drillCount at this; rw [if_pos hs] at this
    exact this
  have sk := h.1.1.sk hs
  have n := nS_b h.1.1.1 hs
  have L : ∀ (m : Nat) (r a : Int), (r + m = nS D t - 1 ∨ (nS D t = 0 ∧ m = 0 ∧ r = 0)) → 0 ≤ r → lp (drc D t) m r a = drn D t → fX11_drillCount_B20 K KX (m + 1) σ (σ 0 0 + 3 + 19 + t) a r := by
    intro m
    induction m with
    | zero =>
      intro r a e r0 hq
      rw [lp_0] at hq
      rw [uX11_drillCount_B20, sk.2.1]
      exact ⟨by omega, by omega, fun _ => by rw [hq]; exact hk, fun w => (w (by omega)).elim⟩
    | succ m ih =>
      intro r a e r0 hq
      rw [lp_s] at hq
      rw [uX11_drillCount_B20, sk.2.1]
      refine ⟨by omega, by omega, fun w => by omega, fun _ => sX9_drilledIn h.1.1.1 hs sk r0 (by omega) (fun z => zb0 (ih (r + 1) a (by omega) (by omega) ?_)) (fun z => zb1 (ih (r + 1) (a + 1) (by omega) (by omega) ?_))⟩
      · rw [← hq]; unfold drc; rw [if_pos z]
      · rw [← hq]; unfold drc; rw [if_neg z]
  have hh := L (nS D t - 1).toNat 0 0 (by omega) (by decide) rfl
  exact ⟨_, hh⟩
def A_meltTo (D : zD) (t day : Int) : Int × Int := if isSk D t then (0, tot D t day) else (1, 0)
theorem rM_meltTo {day : Int} (hd : σ 1 = D) (hD : WF D) (ht : zrg t) (hdy : zrg day) (hK : rK K σ (A_meltTo D t day)) : fX12_meltTo K σ t day := by
  refine sM_sk hd hD ht hK (fun z => by unfold A_meltTo; rw [if_neg z]) (fun hs τ u1 u2 u3 => zb0 (sM_totalTo u3 hD hs hdy ?_)) (fun τ k => zb1 k)
  exact hK _ τ u1 (by unfold A_meltTo; rw [if_pos hs]; exact u2) (fun _ => by unfold A_meltTo; rw [if_pos hs])
theorem rX_meltTo {day : Int} (h : XA σ D) (ht : zrg t) (hdy : zrg day) (hK : xK K KX σ D (A_meltTo D t day)) : fX11_meltTo K KX σ t day := by
  refine sX11_requireStake h.1 ht (fun t0 t1 => ⟨h.1.1.k, isSk3 h.1.1.1 ⟨t0, t1⟩, sX9_totalTo h.1.1.1 ⟨t0, t1⟩ (h.1.1.sk ⟨t0, t1⟩) hdy ?_⟩) (fun z => hK.2.1 σ frm.rf h (by unfold A_meltTo; rw [if_neg z]))
  have := hK.1 σ frm.rf h (by unfold A_meltTo; rw [if_pos ⟨t0, t1⟩])
  unfold A_meltTo at this; rw [if_pos ⟨t0, t1⟩] at this
  exact this
def A_melt (D : zD) (t a b : Int) : Int × Int := if isSk D t then (0, if a ≤ b then mbt D t a b else -2) else (1, 0)
theorem rM_melt {a b : Int} (hd : σ 1 = D) (hD : WF D) (ht : zrg t) (ha : zrg a) (hb : zrg b) (hK : rK K σ (A_melt D t a b)) : fX12_melt K σ t a b := by
  refine sM_sk hd hD ht hK (fun z => by unfold A_melt; rw [if_neg z]) (fun hs τ u1 u2 u3 => zb0 ?_) (fun τ k => zb1 k)
  have hk : ∀ r, r = (A_melt D t a b).2 → K r τ := fun r e => hK _ τ u1 (by unfold A_melt; rw [if_pos hs]; exact u2) (fun _ => e)
  refine ⟨ha, hb, fun z => sM_meltBetween u3 hD hs ha hb (hk _ ?_), fun z => hk _ ?_⟩
  · unfold A_melt; rw [if_pos hs, if_pos z]
  · unfold A_melt; rw [if_pos hs, if_neg z]
theorem rX_melt {a b : Int} (h : XA σ D) (ht : zrg t) (ha : zrg a) (hb : zrg b) (hK : xK K KX σ D (A_melt D t a b)) : fX11_melt K KX σ t a b := by
  refine sX11_requireStake h.1 ht (fun t0 t1 => ⟨h.1.1.k, isSk3 h.1.1.1 ⟨t0, t1⟩, sX9_meltBetween h.1.1.1 ⟨t0, t1⟩ (h.1.1.sk ⟨t0, t1⟩) ha hb ?_⟩) (fun z => hK.2.1 σ frm.rf h (by unfold A_melt; rw [if_neg z]))
  have := hK.1 σ frm.rf h (by unfold A_melt; rw [if_pos ⟨t0, t1⟩])
  unfold A_melt at this; rw [if_pos ⟨t0, t1⟩] at this
  exact this
def mI2 (t : Int) (p : Int × Int) : Prop := (0 ≤ p.1 ∧ p.1 ≤ 7000001 * t) ∧ (0 ≤ p.2 ∧ p.2 ≤ t)
theorem mms_I (hD : WF D) (ht : isSk D t) {a b : Int} {p : Int × Int} (h : mI2 t p) : mI2 (t + 1) (mms D a b t p) := by
  have mb := mbt_b hD ht a b
  obtain ⟨h1, h2⟩ := h
  unfold mms
  split
  · exact ⟨by omega, by omega⟩
  · exact ⟨by show 0 ≤ p.1 + mbt D t a b ∧ p.1 + mbt D t a b ≤ 7000001 * (t + 1); omega, by show 0 ≤ p.2 + 1 ∧ p.2 + 1 ≤ t + 1; omega⟩
theorem sM_meanMelt {a b : Int} (hd : σ 1 = D) (hD : WF D) (ha : zrg a) (hb : zrg b) (hK : ∀ τ, frm p4 σ τ → τ 0 4 = 0 → K (mml D a b) τ) : fX12_meanMelt K σ a b := fun σ1 e1 => by
  have q := hD.1
  unfold WFa at q
  have fr : frm p4 σ σ1 := by rw [e1]; exact frm.wr (by omega)
  have hk := hK σ1 fr (by rw [e1]; exact zu_eq ..)
  have d1 : σ1 1 = D := fr.D hd (fun b => by omega)
  have e5 : σ1 1 5 = D 5 := by rw [d1]
  unfold mml at hk
  refine ⟨ha, hb, fun z => ?_, fun z => by rw [if_neg z] at hk; exact hk⟩
  rw [if_pos z] at hk
  have L : ∀ (m : Nat) (t : Int) (p : Int × Int), t + m = D 5 → 0 ≤ t → mI2 t p → lp (mms D a b) m t p = mmp D a b → fX12_meanMelt_B21 K (m + 1) σ1 a b p.2 p.1 t := by
    intro m
    induction m with
    | zero =>
      intro t p e t0 hI hs
      rw [lp_0] at hs
      rw [uX12_meanMelt_B21, e5]
      rw [← hs] at hk
      have i1 := hI.1
      have i2 := hI.2
      refine ⟨by omega, by omega, fun _ => ⟨by omega, fun y => ?_, fun y => ⟨by omega, by omega, ?_⟩⟩, fun w => (w (by omega)).elim⟩
      · rw [if_pos y] at hk; exact hk
      · rw [if_neg y] at hk; exact hk
    | succ m ih =>
      intro t p e t0 hI hs
      rw [lp_s] at hs
      have hs2 : isSk D t := ⟨t0, by omega⟩
      have mb := mbt_b hD hs2 a b
      have nx := ih (t + 1) (mms D a b t p) (by omega) (by omega) (mms_I hD hs2 hI) hs
      rw [uX12_meanMelt_B21, e5]
      refine ⟨by omega, by omega, fun w => by omega, fun _ => sM_meltBetween d1 hD hs2 ha hb ⟨by omega, fun y => ?_, fun y => ?_⟩⟩
      · rw [show mms D a b t p = (p.1 + mbt D t a b, p.2 + 1) by unfold mms; rw [if_neg (by omega)]] at nx
        exact nx
      · rw [show mms D a b t p = p by unfold mms; rw [if_pos (by omega)]] at nx
        exact nx
  have hh := L (D 5).toNat 0 (0, 0) (by omega) (by decide) ⟨by decide, by decide⟩ rfl
  exact ⟨_, hh⟩
theorem sX11_averageMelt {a b : Int} (h : XQ σ D) (ha : zrg a) (hb : zrg b) (hK : K (mml D a b) σ) : fX11_averageMelt K σ a b := by
  have hD := h.1.1
  have q := hD.1
  unfold WFa at q
  have e5 : σ (σ 0 0) 3 = D 5 := h.1.2.1.2.2.2.2.1
  unfold mml at hK
  refine ⟨ha, hb, fun z => ?_, fun z => by rw [if_neg z] at hK; exact hK⟩
  rw [if_pos z] at hK
  have L : ∀ (m : Nat) (t : Int) (p : Int × Int), t + m = D 5 → 0 ≤ t → mI2 t p → lp (mms D a b) m t p = mmp D a b → fX11_averageMelt_B16 K (m + 1) σ a b p.1 p.2 t := by
    intro m
    induction m with
    | zero =>
      intro t p e t0 hI hs
      rw [lp_0] at hs
      rw [uX11_averageMelt_B16, e5]
      rw [← hs] at hK
      have i1 := hI.1
      have i2 := hI.2
      refine ⟨h.1.k, by omega, by omega, fun _ => ⟨by omega, fun y => ?_, fun y => sX11_quotient (by omega) (by omega) ?_⟩, fun w => (w (by omega)).elim⟩
      · rw [if_pos y] at hK; exact hK
      · rw [if_neg y] at hK; rw [if_neg (by omega)]; exact hK
    | succ m ih =>
      intro t p e t0 hI hs
      rw [lp_s] at hs
      have hs2 : isSk D t := ⟨t0, by omega⟩
      have mb := mbt_b hD hs2 a b
      have nx := ih (t + 1) (mms D a b t p) (by omega) (by omega) (mms_I hD hs2 hI) hs
      rw [uX11_averageMelt_B16, e5]
      refine ⟨h.1.k, by omega, by omega, fun w => by omega, fun _ => ⟨isSk3 hD hs2, sX9_meltBetween hD hs2 (h.1.sk hs2) ha hb ?_⟩⟩
      rw [if_pos z]
      refine ⟨by omega, fun y => ?_, fun y => ?_⟩
      · rw [show mms D a b t p = p by unfold mms; rw [if_pos y]] at nx
        exact nx
      · rw [show mms D a b t p = (p.1 + mbt D t a b, p.2 + 1) by unfold mms; rw [if_neg y]] at nx
        exact nx
  have hh := L (D 5).toNat 0 (0, 0) (by omega) (by decide) ⟨by decide, by decide⟩ rfl
  exact ⟨_, hh⟩
theorem rM_meanMelt {a b : Int} (hd : σ 1 = D) (hD : WF D) (ha : zrg a) (hb : zrg b) (hK : ∀ τ, frm pMq σ τ → K (mml D a b) τ) : fX12_meanMelt K σ a b := sM_meanMelt hd hD ha hb (fun τ u _ => hK τ (p4_q u))
theorem rX_meanMelt {a b : Int} (h : XA σ D) (ha : zrg a) (hb : zrg b) (hK : K (mml D a b) σ) : fX11_meanMelt K σ a b := sX11_averageMelt h.1 ha hb hK
def A_warmestInterval (D : zD) (t : Int) : Int × Int := if isSk D t then (0, wrm D t) else (1, 0)
theorem rM_warmestInterval (hd : σ 1 = D) (hD : WF D) (ht : zrg t) (hK : rK K σ (A_warmestInterval D t)) : fX12_warmestInterval K σ t := by
  refine sM_sk hd hD ht hK (fun z => by unfold A_warmestInterval; rw [if_neg z]) (fun hs τ u1 u2 u3 => zb0 ?_) (fun τ k => zb1 k)
  have hk : K (wrm D t) τ := hK _ τ u1 (by unfold A_warmestInterval; rw [if_pos hs]; exact u2) (fun _ => by unfold A_warmestInterval; rw [if_pos hs])
  have n := nS_b hD hs
  have t3 := isSk3 hD hs
  have L : ∀ (m : Nat) (r b : Int), (r + m = nS D t - 1 ∨ (nS D t = 0 ∧ m = 0 ∧ r = 0)) → 0 ≤ r → (-1 ≤ b ∧ b < r) → lp (wrs D t) m r b = wrm D t → fX12_warmestInterval_B18 K (m + 1) τ t b r := by
    intro m
    induction m with
    | zero =>
      intro r b e r0 hb hq
      rw [lp_0] at hq
      rw [uX12_warmestInterval_B18]
      exact sM_readings u3 t3 ⟨by omega, by omega, fun _ => by rw [hq]; exact hk, fun w => (w (by omega)).elim⟩
    | succ m ih =>
      intro r b e r0 hb hq
      rw [lp_s] at hq
      rw [uX12_warmestInterval_B18]
      refine sM_readings u3 t3 ⟨by omega, by omega, fun w => by omega, fun _ => ⟨by omega, fun z => ih (r + 1) r (by omega) (by omega) (by omega) ?_, fun z => ?_⟩⟩
      · rw [← hq]; unfold wrs; rw [if_pos (by omega)]
      · have m1 := mel_b hD hs r0 (show r + 1 < nS D t by omega)
        have m2 := mel_b hD hs (r := b) (by omega) (by omega)
        have d1 := dys_b hD hs r0 (show r + 1 < nS D t by omega)
        have d2 := dys_b hD hs (r := b) (by omega) (by omega)
        refine sM_meltOf u3 hD hs r0 (by omega) ⟨by omega, sM_daysOf u3 hD hs (by omega) (by omega) ⟨by omega, sM_meltOf u3 hD hs (by omega) (by omega) ⟨by omega, sM_daysOf u3 hD hs r0 (by omega) ⟨by omega, mul_zrl (by omega) (by omega), mul_zrl (by omega) (by omega), fun y => ih (r + 1) b (by omega) (by omega) (by omega) ?_, fun y => ih (r + 1) r (by omega) (by omega) (by omega) ?_⟩⟩⟩⟩
        · rw [← hq]; unfold wrs; rw [if_neg (by omega), if_pos (zcmp_il.mp y)]
        · rw [← hq]; unfold wrs; rw [if_neg (by omega), if_neg (fun w => y (zcmp_il.mpr w))]
  have hh := L (nS D t - 1).toNat 0 (-1) (by omega) (by decide) (by decide) rfl
  exact ⟨_, hh⟩
theorem rX_warmestInterval (h : XA σ D) (ht : zrg t) (hK : xK K KX σ D (A_warmestInterval D t)) : fX11_warmestInterval K KX σ t := by
  refine sX11_requireStake h.1 ht (fun t0 t1 => ⟨h.1.1.k, isSk3 h.1.1.1 ⟨t0, t1⟩, ?_⟩) (fun z => hK.2.1 σ frm.rf h (by unfold A_warmestInterval; rw [if_neg z]))
  have hs : isSk D t := ⟨t0, t1⟩
  have hk : K (wrm D t) σ := by
    have := hK.1 σ frm.rf h (by unfold A_warmestInterval; rw [if_pos hs])
    unfold A_warmestInterval at this; rw [if_pos hs] at this
    exact this
  have sk := h.1.1.sk hs
  have n := nS_b h.1.1.1 hs
  have L : ∀ (m : Nat) (r b : Int), (r + m = nS D t - 1 ∨ (nS D t = 0 ∧ m = 0 ∧ r = 0)) → 0 ≤ r → (-1 ≤ b ∧ b < r) → lp (wrs D t) m r b = wrm D t → fX11_warmestInterval_B20 K KX (m + 1) σ (σ 0 0 + 3 + 19 + t) b r := by
    intro m
    induction m with
    | zero =>
      intro r b e r0 hb hq
      rw [lp_0] at hq
      rw [uX11_warmestInterval_B20, sk.2.1]
      exact ⟨by omega, by omega, fun _ => by rw [hq]; exact hk, fun w => (w (by omega)).elim⟩
    | succ m ih =>
      intro r b e r0 hb hq
      rw [lp_s] at hq
      rw [uX11_warmestInterval_B20, sk.2.1]
      refine ⟨by omega, by omega, fun w => by omega, fun _ => ⟨by omega, fun z => ih (r + 1) r (by omega) (by omega) (by omega) ?_, fun z => sX9_meltsFaster h.1.1.1 hs sk r0 (by omega) (by omega) (by omega) (fun y => zb0 (ih (r + 1) b (by omega) (by omega) (by omega) ?_)) (fun y => zb1 (ih (r + 1) r (by omega) (by omega) (by omega) ?_))⟩⟩
      · rw [← hq]; unfold wrs; rw [if_pos z]
      · rw [← hq]; unfold wrs; rw [if_neg z, if_pos y]
      · rw [← hq]; unfold wrs; rw [if_neg z, if_neg y]
  have hh := L (nS D t - 1).toNat 0 (-1) (by omega) (by decide) (by decide) rfl
  exact ⟨_, hh⟩
def A_meltInSegment (D : zD) (i k : Int) : Int × Int := if isFt D i ∧ 0 ≤ k ∧ k + 1 < (tk D i).1 then (0, mml D (tday D (tk D i) k) (tday D (tk D i) (k + 1))) else (1, 0)
theorem rX_meltInSegment {i k : Int} (h : XA σ D) (hi : zrg i) (hk : zrg k) (hK : xK K KX σ D (A_meltInSegment D i k)) : fX11_meltInSegment K KX σ i k := by
  have q := h.1.1.1.1
  unfold WFa at q
  refine sX11_ft h hi (fun i0 i1 τ u1 u2 u3 => ⟨kX_T (by omega), ?_⟩) (fun z => hK.2.1 σ frm.rf h (by unfold A_meltInSegment; rw [if_neg (fun w => z w.1)]))
  have hG : TG D (tk D i) := trk_G h.1.1.1 i0 i1
  have g1 := hG.1
  have b0 := tday_b h.1.1.1 hG k
  have b1 := tday_b h.1.1.1 hG (k + 1)
  refine ⟨kX_T (by omega), sX10_hasSegment (by omega) u3 hG hk (fun k0 k1 => zb1 (sX10_dayOf (by omega) u3 hG (by omega) (sX10_dayOf (by omega) u3 hG (by omega) (sX11_averageMelt u2.1 (by omega) (by omega) ?_)))) (fun z => zb0 (hK.2.1 τ u1 u2 (by unfold A_meltInSegment; rw [if_neg (fun w => z w.2)])))⟩
  have := hK.1 τ u1 u2 (by unfold A_meltInSegment; rw [if_pos ⟨⟨i0, i1⟩, k0, k1⟩])
  unfold A_meltInSegment at this; rw [if_pos ⟨⟨i0, i1⟩, k0, k1⟩] at this
  exact this
theorem rM_meltInSegment {i k : Int} (hd : σ 1 = D) (hD : WF D) (hi : zrg i) (hk : zrg k) (hK : rK K σ (A_meltInSegment D i k)) : fX12_meltInSegment K σ i k := by
  have no : ¬ (isFt D i ∧ 0 ≤ k ∧ k + 1 < (tk D i).1) → ∀ r τ, frm pMq σ τ → τ 0 4 = 1 → K r τ := fun z r τ u1 u2 => by
    rw [show A_meltInSegment D i k = (1, 0) by unfold A_meltInSegment; rw [if_neg z]] at hK
    exact hK _ τ u1 u2 (fun w => absurd w (by decide))
  refine sM_noSegments hd hD hi (fun i0 i1 τ u1 u2 u3 u4 u5 => zb0 ?_) (fun z τ u1 u2 => zb1 (no (fun w => z w.1) _ _ u1 u2))
  have hG : TG D (tk D i) := trk_G hD i0 i1
  have g1 := hG.1
  rw [u5.1]
  refine sM_inRange hk (by decide) (by omega) (fun k0 k1 => sM_fails1 (fun υ v1 v2 => zb0 ⟨by omega, ?_⟩)) (fun z => sM_fails0 (fun υ v1 v2 => zb1 (no (fun w => z (by omega)) _ _ (u1.tr (p4_q v1)) v2)))
  have c : 0 ≤ k ∧ k + 1 < (tk D i).1 := by omega
  rw [show A_meltInSegment D i k = (0, _) by unfold A_meltInSegment; rw [if_pos ⟨⟨i0, i1⟩, c⟩]] at hK
  have m5 : MC υ D (tk D i) (D 88) := u5.fr (fun a b w => v1 a b (by omega))
  have d2 : υ 1 = D := p4_D v1 (u1.D hd (fun b => by omega))
  have b0 := tday_b hD hG k
  have b1 := tday_b hD hG (k + 1)
  obtain ⟨x, y, -⟩ := m5.2 k c.1 c.2
  rw [x]
  refine sM_dayOf d2 hD hG c.1 (by omega) ?_
  rw [y]
  refine sM_dayOf d2 hD hG (by omega) c.2 (sM_meanMelt d2 hD (by omega) (by omega) (fun φ w1 w2 => hK _ φ ((u1.tr (p4_q v1)).tr (p4_q w1)) w2 (fun _ => rfl)))
end SK
