/-! THE PURE LAYER: what the methods' predicates come to, over the reference's data D (cell 1 of its store) -/
theorem zb1 {A B : Prop} (h : B) : zrg 1 ∧ (((1 : Int) = 0 → A) ∧ (¬ (1 : Int) = 0 → B)) := ⟨⟨by decide, by decide⟩, fun q => absurd q (by decide), fun _ => h⟩
theorem zb0 {A B : Prop} (h : A) : zrg 0 ∧ (((0 : Int) = 0 → A) ∧ (¬ (0 : Int) = 0 → B)) := ⟨⟨by decide, by decide⟩, fun _ => h, fun q => absurd rfl q⟩
/-- a loop over x, x + 1, .., m rounds -/
def lp {α : Type} (g : Int → α → α) : Nat → Int → α → α
  | 0, _, a => a
  | m + 1, x, a => lp g m (x + 1) (g x a)
theorem lp_s {α : Type} (g : Int → α → α) (m : Nat) (x : Int) (a : α) : lp g (m + 1) x a = lp g m (x + 1) (g x a) := rfl
theorem lp_0 {α : Type} (g : Int → α → α) (x : Int) (a : α) : lp g 0 x a = a := rfl
theorem lp_inv {α : Type} {g : Int → α → α} (P : α → Prop) {lo hi : Int} (h : ∀ x a, lo ≤ x → x < hi → P a → P (g x a)) : ∀ (m : Nat) (x : Int) (a : α), lo ≤ x → x + m ≤ hi → P a → P (lp g m x a) := by
  intro m
  induction m with
  | zero => intro x a _ _ p; exact p
  | succ m ih => intro x a h1 h2 p; exact ih (x + 1) _ (by omega) (by omega) (h x a h1 (by omega) p)
theorem zu_eq (σ : zSt) (k i v : Int) : zu σ k i v k i = v := by simp [zu]
theorem zu_ne {σ : zSt} {k i v a b : Int} (h : a ≠ k ∨ b ≠ i) : zu σ k i v a b = σ a b := by
  unfold zu; rw [if_neg]; rintro ⟨rfl, rfl⟩; simp at h
abbrev zD : Type := Int → Int
/-- the pixel of a frame -/
def px (D : zD) (f x y : Int) : Int := D (91 + (120 * f) + (12 * y) + x)
def WFa (D : zD) : Prop := (4 ≤ D 0 ∧ D 0 ≤ 12) ∧ (4 ≤ D 1 ∧ D 1 ≤ 10) ∧ (0 ≤ D 2 ∧ D 2 ≤ 6) ∧ (0 ≤ D 3 ∧ D 3 ≤ 4) ∧ (0 ≤ D 4 ∧ D 4 ≤ 6) ∧ (0 ≤ D 5 ∧ D 5 ≤ 3)
def WFs (D : zD) : Prop := (0 ≤ D 83 ∧ D 83 ≤ 2) ∧ (1 ≤ D 84 ∧ D 84 ≤ 4) ∧ (0 ≤ D 85 ∧ D 85 ≤ 3) ∧ (0 ≤ D 86 ∧ D 86 ≤ 9) ∧ (0 ≤ D 87 ∧ D 87 ≤ 9) ∧ (1 ≤ D 88 ∧ D 88 ≤ 1000) ∧ (1 ≤ D 89 ∧ D 89 ≤ 999) ∧ (0 ≤ D 90 ∧ D 90 ≤ 9999)
def WFd (D : zD) : Prop := (∀ f, 0 ≤ f → f < D 2 → 0 ≤ D (6 + f) ∧ D (6 + f) ≤ 9999) ∧ (∀ f, 0 ≤ f → f + 1 < D 2 → D (6 + f) < D (6 + (f + 1)))
def WFp (D : zD) : Prop := ∀ f x y, 0 ≤ f → f < D 2 → 0 ≤ x → x < D 0 → 0 ≤ y → y < D 1 → 0 ≤ px D f x y ∧ px D f x y ≤ 9
def WFc (D : zD) : Prop := (∀ k, 0 ≤ k → k < D 3 → (0 ≤ D (12 + (2 * k)) ∧ D (12 + (2 * k)) < D 0) ∧ (0 ≤ D (12 + (2 * k) + 1) ∧ D (12 + (2 * k) + 1) < D 1)) ∧ (∀ k, 0 ≤ k → k < D 4 → (0 ≤ D (20 + (2 * k)) ∧ D (20 + (2 * k)) < D 0) ∧ (0 ≤ D (20 + (2 * k) + 1) ∧ D (20 + (2 * k) + 1) < D 1))
def WFr (D : zD) : Prop := ∀ t, 0 ≤ t → t < D 5 → (0 ≤ D (32 + t) ∧ D (32 + t) ≤ 8) ∧ (∀ r, 0 ≤ r → r < D (32 + t) → (0 ≤ D (35 + (8 * t) + r) ∧ D (35 + (8 * t) + r) ≤ 9999) ∧ (0 ≤ D (59 + (8 * t) + r) ∧ D (59 + (8 * t) + r) ≤ 9999)) ∧ (∀ r, 0 ≤ r → r + 1 < D (32 + t) → D (35 + (8 * t) + r) < D (35 + (8 * t) + (r + 1)))
def WF (D : zD) : Prop := WFa D ∧ WFs D ∧ WFd D ∧ WFp D ∧ WFc D ∧ WFr D
/-- the class's scene S shows the data D -/
def Sc1 (σ : zSt) (S : Int) (D : zD) : Prop := (S = 73 ∨ S = 104) ∧ σ S 0 = D 0 ∧ σ S 1 = D 1 ∧ σ S 2 = D 2 ∧ σ S 3 = D 5 ∧ σ (S + 4) 3 = D 3 ∧ σ (S + 7) 3 = D 4 ∧ (∀ i, 0 ≤ i → i < 8 → σ (S + 1) i = D (83 + i))
def Sc2 (σ : zSt) (S : Int) (D : zD) : Prop := (∀ f, 0 ≤ f → f < 6 → S + 10 ≤ σ (S + 2) f ∧ σ (S + 2) f < S + 16) ∧ (∀ f, 0 ≤ f → f < D 2 → σ (σ (S + 2) f) 0 = D (6 + f)) ∧ (∀ f x y, 0 ≤ f → f < D 2 → 0 ≤ x → x < D 0 → 0 ≤ y → y < D 1 → σ (σ (S + 2) f + 6) (12 * y + x) = px D f x y)
def Sc3 (σ : zSt) (S : Int) (D : zD) : Prop := (∀ k, 0 ≤ k → k < D 3 → σ (S + 5) k = D (12 + (2 * k)) ∧ σ (S + 6) k = D (12 + (2 * k) + 1)) ∧ (∀ k, 0 ≤ k → k < D 4 → σ (S + 8) k = D (20 + (2 * k)) ∧ σ (S + 9) k = D (20 + (2 * k) + 1))
def Sc4 (σ : zSt) (S : Int) (D : zD) : Prop := ∀ t, 0 ≤ t → t < D 5 → σ (S + 22 + t) 0 = D (32 + t) ∧ ∀ r, 0 ≤ r → r < D (32 + t) → σ (S + 25 + t) r = D (35 + (8 * t) + r) ∧ σ (S + 28 + t) r = D (59 + (8 * t) + r)
def Sc (σ : zSt) (S : Int) (D : zD) : Prop := WF D ∧ Sc1 σ S D ∧ Sc2 σ S D ∧ Sc3 σ S D ∧ Sc4 σ S D
theorem kX_73 {S : Int} (h : S = 73 ∨ S = 104) : kX S = 8 := by rcases h with rfl | rfl <;> rfl
theorem Sc.k {σ : zSt} {S : Int} {D : zD} (h : Sc σ S D) : kX S = 8 := kX_73 h.2.1.1
theorem Sc.fr {σ : zSt} {S : Int} {D : zD} (h : Sc σ S D) {f : Int} (h0 : 0 ≤ f) (h1 : f < 6) : kX (σ (S + 2) f) = 1 := by
  have := h.2.2.1.1 f h0 h1
  have h2 := h.2.1.1
  rw [kX_1]; omega
section T1
variable {K : Int → zSt → Prop} {σ : zSt} {S : Int} {D : zD} {f x y : Int}
theorem sX8_hasFrame (hS : Sc σ S D) (hf : zrg f) (h1 : 0 ≤ f → f < D 2 → K 1 σ) (h0 : ¬ (0 ≤ f ∧ f < D 2) → K 0 σ) : fX8_hasFrame K σ S f := by
  have a := hS.1.1
  obtain ⟨b0, b1, b2, b3, b4, b5, b6, b7⟩ := hS.2.1
  unfold WFa at a
  unfold fX8_hasFrame
  rw [b3]
  exact ⟨hS.k, hf, fun h => h0 (by omega), fun h => ⟨by omega, fun h => h0 (by omega), fun h => h1 (by omega) (by omega)⟩⟩
theorem sX8_hasFrame' (hS : Sc σ S D) (hf : zrg f) (h1 : 0 ≤ f → f < D 2 → K 1 σ) (h0 : ¬ (0 ≤ f ∧ f < D 2) → K 0 σ) : fX8_hasFrame K σ S f := by
  have a := hS.1.1
  have b := hS.k
  have c := hS.2.1.2.2.2.1
  unfold WFa at a
  unfold fX8_hasFrame
  grind
theorem sX8_hasPixel (hS : Sc σ S D) (hx : zrg x) (hy : zrg y) (h1 : 0 ≤ x → x < D 0 → 0 ≤ y → y < D 1 → K 1 σ) (h0 : ¬ (0 ≤ x ∧ x < D 0 ∧ 0 ≤ y ∧ y < D 1) → K 0 σ) : fX8_hasPixel K σ S x y := by
  have a := hS.1.1
  have b := hS.k
  obtain ⟨b0, b1, b2, b3, b4, b5, b6, b7⟩ := hS.2.1
  unfold WFa at a
  unfold fX8_hasPixel
  grind
theorem sX8_dayOf (hS : Sc σ S D) (hf : zrg f) (hK : K (if 0 ≤ f ∧ f < D 2 then D (6 + f) else -1) σ) : fX8_dayOf K σ S f := by
  have a := hS.1.1
  unfold WFa at a
  refine ⟨hS.k, sX8_hasFrame hS hf (fun h1 h2 => zb1 ⟨by omega, hS.fr h1 (by omega), ?_⟩) (fun h => zb0 ?_)⟩
  · rw [if_pos ⟨h1, h2⟩] at hK
    rw [hS.2.2.1.2.1 f h1 h2]
    exact hK
  · rwa [if_neg h] at hK
end T1
