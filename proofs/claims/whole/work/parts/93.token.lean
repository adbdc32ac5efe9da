/-! the tokens of a text: both sides step by step -/
def ch (B : zD) (L p : Int) : Int := if p < L then B p % 256 else -1
def kd (c : Int) : Int := if 97 ≤ c ∧ c ≤ 122 then 1 else if 48 ≤ c ∧ c ≤ 57 then 2 else if c = -1 then 0 else if c = 59 then 3 else 4
theorem ch_r {B : zD} {L p : Int} : -1 ≤ ch B L p ∧ ch B L p < 256 := by unfold ch; split <;> omega
theorem ch_in {B : zD} {L p : Int} (h : ch B L p ≠ -1) : p < L := by
  unfold ch at h
  by_cases z : p < L
  · exact z
  · rw [if_neg z] at h; exact (h rfl).elim
theorem ch_0 {B : zD} {L p : Int} (h : L ≤ p) : ch B L p = -1 := by unfold ch; rw [if_neg (by omega)]
theorem ch_1 {B : zD} {L p : Int} (h : p < L) : ch B L p = B p % 256 := by unfold ch; rw [if_pos h]
theorem ch_1n {B : zD} {L p : Int} (h : p < L) : ch B L p ≠ -1 := by rw [ch_1 h]; omega
theorem ch_cg {B C : zD} {L p : Int} (h : ∀ j, 0 ≤ j → j < L → B j = C j) (p0 : 0 ≤ p) : ch B L p = ch C L p := by
  unfold ch
  by_cases z : p < L
  · rw [if_pos z, if_pos z, h p p0 z]
  · rw [if_neg z, if_neg z]
/-- letters folded -/
def wf (t : Int → Int) (n : Nat) : Int := Nat.rec (motive := fun _ => Int) 0 (fun k a => a * 32 + (t (k : Int) - 96)) n
theorem wf_s (t : Int → Int) (n : Nat) : wf t (n + 1) = wf t n * 32 + (t (n : Int) - 96) := rfl
theorem wf_b {t : Int → Int} : ∀ n : Nat, (∀ k : Nat, k < n → 97 ≤ t (k : Int) ∧ t (k : Int) ≤ 122) → 0 ≤ wf t n ∧ wf t n < 32 ^ n := by
  intro n
  induction n with
  | zero => intro _; exact ⟨Int.le_refl 0, (by decide : (0 : Int) < 1)⟩
  | succ n ih =>
    intro h
    have a := ih (fun k hk => h k (by omega))
    have b := h n (by omega)
    rw [wf_s, Int.pow_succ]
    omega
theorem wf_inj {t u : Int → Int} : ∀ n k : Nat, (∀ j : Nat, j < n → 97 ≤ t (j : Int) ∧ t (j : Int) ≤ 122) → (∀ j : Nat, j < k → 97 ≤ u (j : Int) ∧ u (j : Int) ≤ 122) → wf t n = wf u k → n = k ∧ ∀ j : Nat, j < n → t (j : Int) = u (j : Int) := by
  intro n
  induction n with
  | zero =>
    intro k ht hu e
    cases k with
    | zero => exact ⟨rfl, fun j hj => absurd hj (Nat.not_lt_zero j)⟩
    | succ k =>
      have a := (wf_b (t := u) k (fun j hj => hu j (by omega))).1
      have b := hu k (by omega)
      rw [wf_s] at e
      have e0 : wf t 0 = 0 := rfl
      omega
  | succ n ih =>
    intro k ht hu e
    cases k with
    | zero =>
      have a := (wf_b (t := t) n (fun j hj => ht j (by omega))).1
      have b := ht n (by omega)
      rw [wf_s] at e
      have e0 : wf u 0 = 0 := rfl
      omega
    | succ k =>
      have b := ht n (by omega)
      have c := hu k (by omega)
      rw [wf_s, wf_s] at e
      obtain ⟨x, y⟩ := ih k (fun j hj => ht j (by omega)) (fun j hj => hu j (by omega)) (by omega)
      refine ⟨by omega, fun j hj => ?_⟩
      by_cases z : j = n
      · rw [z]; subst x; omega
      · exact y j (by omega)
theorem wf_cg {t u : Int → Int} : ∀ n : Nat, (∀ k : Nat, k < n → t (k : Int) = u (k : Int)) → wf t n = wf u n := by
  intro n
  induction n with
  | zero => intro _; rfl
  | succ n ih => intro h; rw [wf_s, wf_s, ih (fun k hk => h k (by omega)), h n (by omega)]
theorem or5 {w c : Int} (hw : 0 ≤ w) (hc : 0 ≤ c) (h5 : c < 32) : (((w * 2 ^ (5 : Int).toNat).toNat ||| c.toNat : Nat) : Int) = w * 32 + c := by
  obtain ⟨a, rfl⟩ : ∃ a : Nat, w = a := ⟨w.toNat, by omega⟩
  obtain ⟨b, rfl⟩ : ∃ b : Nat, c = b := ⟨c.toNat, by omega⟩
  have e : ((a : Int) * 2 ^ (5 : Int).toNat).toNat = 2 ^ 5 * a := by
    show ((a : Int) * 32).toNat = 32 * a
    omega
  rw [e, Int.toNat_natCast, ← Nat.two_pow_add_eq_or_of_lt (i := 5) (by omega)]
  omega
section TZ
variable {σ : zSt}
theorem sX2_signAt {K : Int → zSt → Prop} {p : Int} (hp : 0 ≤ p) (hz : zrg p) (hL : 0 ≤ σ 2 5 ∧ σ 2 5 ≤ 1400) (hK : K (ch (σ 3) (σ 2 5) p) σ) : fX2_signAt K σ p := by
  refine ⟨hz, fun z => by omega, fun _ => ⟨by omega, fun z => ⟨by decide, fun _ => ?_, fun y => absurd rfl y⟩, fun z => ⟨fun y => by omega, fun y => ⟨by decide, fun x => absurd x (by decide), fun _ => ⟨by omega, ?_⟩⟩⟩⟩⟩
  · rw [ch_0 z] at hK; exact hK
  · rw [ch_1 (by omega)] at hK; exact hK
theorem sX2_kindOf {K : Int → zSt → Prop} {c : Int} (hc : zrg c) (hK : K (kd c) σ) : fX2_kindOf K σ c := by
  have B28 : ¬ (97 ≤ c ∧ c ≤ 122) → ¬ (48 ≤ c ∧ c ≤ 57) → fX2_kindOf_B28 K σ c := fun a b => by
    unfold kd at hK
    rw [if_neg a, if_neg b] at hK
    refine ⟨hc, fun z => by rw [if_pos z] at hK; exact hK, fun z => ⟨fun y => by rw [if_neg z, if_pos y] at hK; exact hK, fun y => by rw [if_neg z, if_neg y] at hK; exact hK⟩⟩
  have B14 : ¬ (97 ≤ c ∧ c ≤ 122) → fX2_kindOf_B14 K σ c := fun a => by
    refine ⟨hc, fun z => B28 a (by omega), fun z => ⟨fun y => B28 a (by omega), fun y => ?_⟩⟩
    unfold kd at hK
    rw [if_neg a, if_pos ⟨by omega, by omega⟩] at hK
    exact hK
  refine ⟨hc, fun z => B14 (by omega), fun z => ⟨fun y => B14 (by omega), fun y => ?_⟩⟩
  unfold kd at hK
  rw [if_pos ⟨by omega, by omega⟩] at hK
  exact hK
theorem sX2_isBlank {K : Int → zSt → Prop} {c : Int} (hc : zrg c) (h1 : c = 32 ∨ c = 10 → K 1 σ) (h0 : ¬ (c = 32 ∨ c = 10) → K 0 σ) : fX2_isBlank K σ c :=
  ⟨hc, fun z => h1 (Or.inl z), fun z => ⟨fun y => h1 (Or.inr y), fun y => h0 (by omega)⟩⟩
theorem sM_peek {K : Int → zSt → Prop} (hp : 0 ≤ σ 0 8) (hL : 0 ≤ σ 0 7 ∧ σ 0 7 ≤ 1400) (hq : σ 0 8 ≤ σ 0 7) (hK : K (ch (σ 4) (σ 0 7) (σ 0 8)) σ) : fX12_peek K σ := by
  refine ⟨by omega, by omega, fun z => ?_, fun z => ⟨by omega, ?_⟩⟩
  · rw [ch_0 z] at hK; exact hK
  · rw [ch_1 (by omega)] at hK; exact hK
end TZ
/-! what both sides know of the text and of the token that was read last -/
def TB (σ τ : zSt) : Prop := σ 2 5 = τ 0 7 ∧ (0 ≤ σ 2 5 ∧ σ 2 5 ≤ 1400) ∧ σ 2 6 = τ 0 8 ∧ (0 ≤ σ 2 6 ∧ σ 2 6 ≤ σ 2 5) ∧ ∀ j, 0 ≤ j → j < σ 2 5 → σ 3 j = τ 4 j
def wd (B : zD) (s e : Int) : Int := if e - s ≤ 12 then wf (fun k => B (s + k) % 256) (e - s).toNat else 0
def TK (σ τ : zSt) : Prop := TB σ τ ∧ (σ 2 2 = τ 0 9 ∧ 0 ≤ σ 2 2 ∧ σ 2 2 ≤ σ 2 6) ∧ (σ 2 1 = τ 0 10 ∧ 0 ≤ τ 0 10 ∧ τ 0 10 ≤ 4) ∧ (σ 2 3 = min (τ 0 12) 10000 ∧ 0 ≤ τ 0 12 ∧ τ 0 12 ≤ 1000000009) ∧ (τ 0 10 = 1 → (∀ j, σ 2 2 ≤ j → j < σ 2 6 → 97 ≤ σ 3 j % 256 ∧ σ 3 j % 256 ≤ 122) ∧ τ 0 11 = wd (σ 3) (σ 2 2) (σ 2 6)) ∧ (τ 0 10 = 2 → ∀ j, σ 2 2 ≤ j → j < σ 2 6 → 48 ≤ σ 3 j % 256 ∧ σ 3 j % 256 ≤ 57)
abbrev pA : Int → Int → Prop := fun a b => a = 2 ∧ (b = 1 ∨ b = 2 ∨ b = 3 ∨ b = 6)
abbrev pB : Int → Int → Prop := fun a b => a = 0 ∧ (8 ≤ b ∧ b ≤ 12)
