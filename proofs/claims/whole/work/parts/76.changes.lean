/-! each change taken back gives what was; the class's journal -/
theorem vup_back (V : zD) (k v : Int) : vup (vup V k v) k (V k) = V := by
  funext i
  unfold vup
  by_cases h : i = k
  · rw [if_pos h, h]
  · rw [if_neg h, if_neg h]
theorem vup_back2 (V : zD) (k v w : Int) : vup (vup (vup (vup V k v) (k + 1) w) k (V k)) (k + 1) (V (k + 1)) = V := by
  funext i
  unfold vup
  by_cases h : i = k + 1
  · rw [if_pos h, h]
  · rw [if_neg h]
    by_cases g : i = k
    · rw [if_pos g, g]
    · rw [if_neg g, if_neg h, if_neg g]
theorem rv_0 {V : zD} {i v : Int} (i0 : 0 ≤ i) (i1 : i < 8) : rv (0, i, 0, 0, V (83 + i)) (vup V (83 + i) v) = V := by
  unfold rv
  dsimp only
  rw [if_pos rfl, if_pos ⟨i0, i1⟩]
  exact vup_back V _ v
theorem rv_1 {V : zD} {f x y v : Int} (hf : isFr V f) (hp : isPx V x y) : rv (1, f, x, y, V (91 + 120 * f + (12 * y + x))) (vup V (91 + 120 * f + (12 * y + x)) v) = V := by
  have e : ∀ i, i < 91 → vup V (91 + 120 * f + (12 * y + x)) v i = V i := fun i h => vup_ne (by have := hf.1; have := hp.1; have := hp.2.2.1; omega)
  unfold rv
  dsimp only
  rw [if_neg (by decide), if_pos rfl, if_pos]
  · exact vup_back V _ v
  · show (0 ≤ f ∧ f < vup V _ v 2) ∧ (0 ≤ x ∧ x < vup V _ v 0 ∧ 0 ≤ y ∧ y < vup V _ v 1)
    rw [e 2 (by decide), e 0 (by decide), e 1 (by decide)]
    exact ⟨hf, hp⟩
theorem rv_2 {V : zD} {a : Int} (hf : isFr V a) (h6 : V 2 ≤ 6) : rv (2, a, 0, 0, 0) (tko V a) = V := by
  have e2 : tko V a 2 = V 2 - 1 := prm_2
  have := hf.2
  unfold rv
  dsimp only
  rw [if_neg (by decide), if_neg (by decide), if_pos rfl, if_pos]
  · exact pbk_tko hf.1 hf.2 h6
  · show 0 ≤ a ∧ a ≤ tko V a 2 ∧ tko V a 2 < 6
    rw [e2]
    have := hf.1
    omega
theorem rv_3 {V : zD} {i x y : Int} (hi : isFt V i) : rv (3, i, V (20 + 2 * i), V (20 + 2 * i + 1), 0) (vup (vup V (20 + 2 * i) x) (20 + 2 * i + 1) y) = V := by
  unfold rv
  dsimp only
  rw [if_neg (by decide), if_neg (by decide), if_neg (by decide), if_pos rfl, if_pos]
  · exact vup_back2 V _ x y
  · show 0 ≤ i ∧ i < vup (vup V (20 + 2 * i) x) (20 + 2 * i + 1) y 4
    have := hi.1
    rw [vup_ne (by omega), vup_ne (by omega)]
    exact hi
theorem rput_n {V : zD} {t p day len : Int} : rput V t p day len (32 + t) = V (32 + t) + 1 := by unfold rput; rw [if_pos rfl]
theorem rput_d {V : zD} {t p day len r : Int} (ht : 0 ≤ t ∧ t < 3) (r0 : 0 ≤ r) (r1 : r < 8) : dS (rput V t p day len) t r = if r < p then dS V t r else if r = p then day else dS V t (r - 1) := by
  show rput V t p day len (35 + (8 * t) + r) = _
  unfold rput
  rw [if_neg (by omega), if_pos (by omega)]
  by_cases a : r < p
  · rw [if_pos (by omega), if_pos a]
  · rw [if_neg (by omega), if_neg a]
    by_cases b : r = p
    · rw [if_pos (by omega), if_pos b]
    · rw [if_neg (by omega), if_neg b]
      show V (35 + 8 * t + r - 1) = V (35 + (8 * t) + (r - 1))
      rw [show 35 + 8 * t + r - 1 = 35 + (8 * t) + (r - 1) by omega]
theorem rput_l {V : zD} {t p day len r : Int} (ht : 0 ≤ t ∧ t < 3) (r0 : 0 ≤ r) (r1 : r < 8) : lS (rput V t p day len) t r = if r < p then lS V t r else if r = p then len else lS V t (r - 1) := by
  show rput V t p day len (59 + (8 * t) + r) = _
  unfold rput
  rw [if_neg (by omega), if_neg (by omega), if_pos (by omega)]
  by_cases a : r < p
  · rw [if_pos (by omega), if_pos a]
  · rw [if_neg (by omega), if_neg a]
    by_cases b : r = p
    · rw [if_pos (by omega), if_pos b]
    · rw [if_neg (by omega), if_neg b]
      show V (59 + 8 * t + r - 1) = V (59 + (8 * t) + (r - 1))
      rw [show 59 + 8 * t + r - 1 = 59 + (8 * t) + (r - 1) by omega]
theorem rput_o {V : zD} {t p day len i : Int} (h : i ≠ 32 + t ∧ ¬ (35 + 8 * t ≤ i ∧ i < 43 + 8 * t) ∧ ¬ (59 + 8 * t ≤ i ∧ i < 67 + 8 * t)) : rput V t p day len i = V i := by
  unfold rput
  rw [if_neg h.1, if_neg h.2.1, if_neg h.2.2]
theorem rcut_n {V : zD} {t p : Int} : rcut V t p (32 + t) = V (32 + t) - 1 := by unfold rcut; rw [if_pos rfl]
theorem rcut_d {V : zD} {t p r : Int} (ht : 0 ≤ t ∧ t < 3) (r0 : 0 ≤ r) (r1 : r < 8) : dS (rcut V t p) t r = if r < p then dS V t r else if r = 7 then 0 else dS V t (r + 1) := by
  show rcut V t p (35 + (8 * t) + r) = _
  unfold rcut
  rw [if_neg (by omega), if_pos (by omega)]
  by_cases a : r < p
  · rw [if_pos (by omega), if_pos a]
  · rw [if_neg (by omega), if_neg a]
    by_cases b : r = 7
    · rw [if_pos (by omega), if_pos b]
    · rw [if_neg (by omega), if_neg b]
      show V (35 + 8 * t + r + 1) = V (35 + (8 * t) + (r + 1))
      rw [show 35 + 8 * t + r + 1 = 35 + (8 * t) + (r + 1) by omega]
theorem rcut_l {V : zD} {t p r : Int} (ht : 0 ≤ t ∧ t < 3) (r0 : 0 ≤ r) (r1 : r < 8) : lS (rcut V t p) t r = if r < p then lS V t r else if r = 7 then 0 else lS V t (r + 1) := by
  show rcut V t p (59 + (8 * t) + r) = _
  unfold rcut
  rw [if_neg (by omega), if_neg (by omega), if_pos (by omega)]
  by_cases a : r < p
  · rw [if_pos (by omega), if_pos a]
  · rw [if_neg (by omega), if_neg a]
    by_cases b : r = 7
    · rw [if_pos (by omega), if_pos b]
    · rw [if_neg (by omega), if_neg b]
      show V (59 + 8 * t + r + 1) = V (59 + (8 * t) + (r + 1))
      rw [show 59 + 8 * t + r + 1 = 59 + (8 * t) + (r + 1) by omega]
theorem rcut_o {V : zD} {t p i : Int} (h : i ≠ 32 + t ∧ ¬ (35 + 8 * t ≤ i ∧ i < 43 + 8 * t) ∧ ¬ (59 + 8 * t ≤ i ∧ i < 67 + 8 * t)) : rcut V t p i = V i := by
  unfold rcut
  rw [if_neg h.1, if_neg h.2.1, if_neg h.2.2]
theorem rv_4 {V : zD} {t day len : Int} (ht : isSk V t) (h3 : V 5 ≤ 3) (hn : 0 ≤ nS V t ∧ nS V t < 8) (hp : ixP V t day (ix V t day)) (hN : NV V) : rv (4, t, day, 0, 0) (rput V t (ix V t day) day len) = V := by
  have t3 : 0 ≤ t ∧ t < 3 := ⟨ht.1, by have := ht.2; omega⟩
  obtain ⟨h1, h2, h4⟩ := hp
  have z := hN t ht.1 ht.2 7 (by omega) (by decide)
  have z1 : V (42 + 8 * t) = 0 := by rw [show 42 + 8 * t = 35 + (8 * t) + 7 by omega]; exact z.1
  have z2 : V (66 + 8 * t) = 0 := by rw [show 66 + 8 * t = 59 + (8 * t) + 7 by omega]; exact z.2
  generalize hpp : ix V t day = p at h1 h2 h4
  have en : nS (rput V t p day len) t = nS V t + 1 := rput_n
  have ex : ix (rput V t p day len) t day = p := ix_u ⟨by omega, fun r r0 r1 => by rw [rput_d t3 r0 (by omega), if_pos r1]; exact h2 r r0 r1, fun r r0 r1 => by
    rw [rput_d t3 (by omega) (by omega), if_neg (by omega)]
    by_cases w : r = p
    · rw [if_pos w]; exact Int.le_refl _
    · rw [if_neg w]; exact h4 (r - 1) (by omega) (by omega)⟩
  unfold rv
  dsimp only
  rw [if_neg (by decide), if_neg (by decide), if_neg (by decide), if_neg (by decide), if_pos rfl]
  show rdel (rput V t p day len) t day = V
  unfold rdel
  rw [ex, if_pos]
  · exact rcut_rput t3 (by omega) z1 z2
  · refine ⟨?_, by rw [en]; omega, by rw [rput_d t3 (by omega) (by omega), if_neg (by omega), if_pos rfl]⟩
    show 0 ≤ t ∧ t < rput V t p day len 5
    rw [rput_o (by omega)]
    exact ht
theorem rv_5 {V : zD} {t day p len : Int} (ht : isSk V t) (h3 : V 5 ≤ 3) (hn : nS V t ≤ 8) (p0 : 0 ≤ p) (p1 : p < nS V t) (e1 : dS V t p = day) (e2 : lS V t p = len) (hs : ∀ j k, 0 ≤ j → j < k → k < nS V t → dS V t j < dS V t k) : rv (5, t, day, 0, len) (rcut V t p) = V := by
  have t3 : 0 ≤ t ∧ t < 3 := ⟨ht.1, by have := ht.2; omega⟩
  have en : nS (rcut V t p) t = nS V t - 1 := rcut_n
  have ex : ix (rcut V t p) t day = p := ix_u ⟨by rw [en]; omega, fun r r0 r1 => by rw [rcut_d t3 r0 (by omega), if_pos r1, ← e1]; exact hs r p r0 r1 p1, fun r r0 r1 => by
    rw [en] at r1
    rw [rcut_d t3 (by omega) (by omega), if_neg (by omega), if_neg (by omega), ← e1]
    exact Int.le_of_lt (hs p (r + 1) p0 (by omega) (by omega))⟩
  unfold rv
  dsimp only
  rw [if_neg (by decide), if_neg (by decide), if_neg (by decide), if_neg (by decide), if_neg (by decide)]
  show rins (rcut V t p) t day len = V
  unfold rins
  rw [ex, if_pos]
  · exact rput_rcut t3 (by omega) e1 e2
  · refine ⟨?_, by rw [en]; omega⟩
    show 0 ≤ t ∧ t < rcut V t p 5
    rw [rcut_o (by omega)]
    exact ht

/-! the journal's cells -/
def chO (σ : zSt) (k : Int) : chg := (σ k 0, σ k 1, σ k 2, σ k 3, σ k 4)
def JR (σ : zSt) (n : Nat) (C : Nat → chg) : Prop := σ 5 0 = (n : Int) ∧ n ≤ 10 ∧ (0 ≤ σ 5 1 ∧ σ 5 1 < 10) ∧ ∀ h : Nat, h < n → chO σ (7 + (σ 5 1 + (n : Int) - 1 - (h : Int)) % 10) = C h
def ccn (c : chg) (C : Nat → chg) : Nat → chg
  | 0 => c
  | k + 1 => C k
abbrev pJ : Int → Int → Prop := fun a b => a = 5 ∨ (7 ≤ a ∧ a < 17) ∨ (a = 0 ∧ b = 8)
section JX
variable {K : zSt → Prop} {σ : zSt}
theorem chO_fr {τ : zSt} {k : Int} (h : ∀ b, τ k b = σ k b) : chO τ k = chO σ k := by unfold chO; rw [h, h, h, h, h]
theorem sX3_latest {Kb : Int → zSt → Prop} (ha : 0 ≤ σ 5 1 ∧ σ 5 1 < 10) (hn : 0 ≤ σ 5 0 ∧ σ 5 0 ≤ 10) (hK : Kb (7 + (σ 5 1 + σ 5 0 - 1) % 10) σ) : fX3_latest Kb σ :=
  sJ9_floorMod (by omega) (by decide) (by decide) ⟨by omega, hK⟩
theorem sX3_add {n : Nat} {C : Nat → chg} {a b c d e : Int} (hJ : JR σ n C) (hK : ∀ τ, frm pJ σ τ → τ 0 8 = σ 0 8 → JR τ (min (n + 1) 10) (ccn (a, b, c, d, e) C) → K τ) : fX3_add K σ a b c d e := by
  obtain ⟨j1, j2, j3, j4⟩ := hJ
  have B : ∀ (σ1 : zSt) (m : Nat), frm pJ σ σ1 → (∀ k b, 7 ≤ k → σ1 k b = σ k b) → σ1 0 8 = σ 0 8 → σ1 5 0 = (m : Int) → m ≤ 10 → 1 ≤ m → (0 ≤ σ1 5 1 ∧ σ1 5 1 < 10) → m = min (n + 1) 10 → (∀ h : Nat, h + 1 < m → (σ1 5 1 + (m : Int) - 1 - ((h + 1 : Nat) : Int)) % 10 = (σ 5 1 + (n : Int) - 1 - (h : Int)) % 10 ∧ h < n) → fX3_add_B35 K σ1 a b c d e := fun σ1 m fr hk8 h8 e0 m10 m1 o em hh => by
    refine sX3_latest o (by omega) ⟨by rw [kX_0]; omega, fun σ7 e7 σ8 e8 σ9 e9 σ10 e10 σ11 e11 => ?_⟩
    rw [e0] at e7 e8 e9 e10 e11
    generalize hq : 7 + (σ1 5 1 + (m : Int) - 1) % 10 = q at e7 e8 e9 e10 e11
    have q1 : 7 ≤ q ∧ q < 17 := by omega
    have fr2 : frm (fun a _ => a = q) σ1 σ11 := by
      rw [e11, e10, e9, e8, e7]
      exact frm.z (frm.z (frm.z (frm.z (frm.wr (P := fun a _ => a = q) rfl) rfl) rfl) rfl) rfl
    have c51 : σ11 5 1 = σ1 5 1 := fr2 5 1 (by omega)
    refine hK σ11 (fr.tr (fr2.mo (fun a b z => by omega))) ((fr2 0 8 (by omega)).trans h8) ?_
    rw [← em]
    refine ⟨(fr2 5 0 (by omega)).trans e0, m10, by rw [c51]; exact o, fun h hm => ?_⟩
    rw [c51]
    cases h with
    | zero =>
      rw [show 7 + (σ1 5 1 + (m : Int) - 1 - ((0 : Nat) : Int)) % 10 = q by rw [← hq]; simp]
      show chO σ11 q = (a, b, c, d, e)
      unfold chO
      have v0 : σ11 q 0 = a := by rw [e11, zu_ne (Or.inr (by decide)), e10, zu_ne (Or.inr (by decide)), e9, zu_ne (Or.inr (by decide)), e8, zu_ne (Or.inr (by decide)), e7, zu_eq]
      have v1 : σ11 q 1 = b := by rw [e11, zu_ne (Or.inr (by decide)), e10, zu_ne (Or.inr (by decide)), e9, zu_ne (Or.inr (by decide)), e8, zu_eq]
      have v2 : σ11 q 2 = c := by rw [e11, zu_ne (Or.inr (by decide)), e10, zu_ne (Or.inr (by decide)), e9, zu_eq]
      have v3 : σ11 q 3 = d := by rw [e11, zu_ne (Or.inr (by decide)), e10, zu_eq]
      have v4 : σ11 q 4 = e := by rw [e11, zu_eq]
      rw [v0, v1, v2, v3, v4]
    | succ h =>
      obtain ⟨y1, y2⟩ := hh h hm
      have ne : 7 + (σ1 5 1 + (m : Int) - 1 - ((h + 1 : Nat) : Int)) % 10 ≠ q := by omega
      show chO σ11 _ = C h
      rw [chO_fr (σ := σ1) (fun b => fr2 _ b ne), y1, chO_fr (σ := σ) (fun b => hk8 _ b (by omega))]
      exact j4 h y2
  refine ⟨by omega, fun z => ⟨by omega, fun σ4 e4 => ?_⟩, fun z σ2 e2 => ?_⟩
  · have en : n = 10 := by omega
    rw [Int.tmod_eq_emod_of_nonneg (by omega)] at e4
    have c1 : σ4 5 1 = (σ 5 1 + 1) % 10 := by rw [e4, zu_eq]
    refine B σ4 10 (by rw [e4]; exact frm.wr (by omega)) (fun k b hk => by rw [e4, zu_ne (by omega)]) (by rw [e4, zu_ne (by omega)]) (by rw [e4, zu_ne (by omega)]; exact z) (by decide) (by decide) (by rw [c1]; omega) (by omega) (fun h hm => ?_)
    rw [c1]
    omega
  · have c1 : σ2 5 1 = σ 5 1 := by rw [e2, zu_ne (by omega)]
    refine B σ2 (n + 1) (by rw [e2]; exact frm.wr (by omega)) (fun k b hk => by rw [e2, zu_ne (by omega)]) (by rw [e2, zu_ne (by omega)]) (by rw [e2, zu_eq]; omega) (by omega) (by omega) (by rw [c1]; exact j3) (by omega) (fun h hm => ?_)
    rw [c1]
    omega
theorem sX11_record {n : Nat} {C : Nat → chg} {a b c d e : Int} (hJ : JR σ n C) (hK : ∀ τ, frm pJ σ τ → τ 0 8 = σ 0 8 + 1 → JR τ (min (n + 1) 10) (ccn (a, b, c, d, e) C) → K τ) : fX11_record K σ a b c d e := by
  refine sX3_add hJ (fun τ u1 u2 u3 σ2 e2 => ?_)
  refine hK σ2 (by rw [e2]; exact u1.z (by omega)) (by rw [e2, zu_eq, u2]) ?_
  have f : ∀ k b, 5 ≤ k → σ2 k b = τ k b := fun k b hk => by rw [e2, zu_ne (by omega)]
  obtain ⟨j1, j2, j3, j4⟩ := u3
  refine ⟨(f 5 0 (by decide)).trans j1, j2, by rw [f 5 1 (by decide)]; exact j3, fun h hm => ?_⟩
  rw [f 5 1 (by decide), chO_fr (σ := τ) (fun b => f _ b (by omega))]
  exact j4 h hm
theorem sX3_takeLatest {Kb : Int → zSt → Prop} {n : Nat} {C : Nat → chg} (hJ : JR σ (n + 1) C) (hK : ∀ q τ, kX q = 0 → frm (fun a b => a = 5 ∧ b = 0) σ τ → chO τ q = C 0 → JR τ n (fun k => C (k + 1)) → Kb q τ) : fX3_takeLatest Kb σ := by
  obtain ⟨j1, j2, j3, j4⟩ := hJ
  refine sX3_latest j3 (by omega) ?_
  have k0 : kX (7 + (σ 5 1 + σ 5 0 - 1) % 10) = 0 := by rw [kX_0]; omega
  refine ⟨k0, by omega, fun σ4 e4 => ?_⟩
  have fr : frm (fun a b => a = 5 ∧ b = 0) σ σ4 := by rw [e4]; exact frm.wr ⟨rfl, rfl⟩
  have c1 : σ4 5 1 = σ 5 1 := fr 5 1 (by omega)
  refine hK _ σ4 k0 fr ?_ ⟨by rw [e4, zu_eq]; omega, by omega, by rw [c1]; exact j3, fun h hm => ?_⟩
  · rw [chO_fr (σ := σ) (fun b => fr _ b (by omega)), ← j4 0 (by omega)]
    rw [j1]; simp
  · rw [c1, chO_fr (σ := σ) (fun b => fr _ b (by omega))]
    show _ = C (h + 1)
    rw [← j4 (h + 1) (by omega)]
    rw [show (σ 5 1 + (n : Int) - 1 - (h : Int)) = (σ 5 1 + ((n + 1 : Nat) : Int) - 1 - ((h + 1 : Nat) : Int)) by omega]
end JX
