/-! changes and how they are taken back: a scene with all its six places for frames is a V in the reference's layout -/
abbrev chg : Type := Int × Int × Int × Int × Int
def vup (V : zD) (k v : Int) : zD := fun i => if i = k then v else V i
theorem vup_eq (V : zD) (k v : Int) : vup V k v k = v := by unfold vup; rw [if_pos rfl]
theorem vup_ne {V : zD} {k v i : Int} (h : i ≠ k) : vup V k v i = V i := by unfold vup; rw [if_neg h]
/-- frames by new places: g says where the frame of a place comes from -/
def prm (V : zD) (g : Int → Int) (n : Int) : zD := fun i => if i = 2 then n else if 6 ≤ i ∧ i < 12 then V (6 + g (i - 6)) else if 91 ≤ i ∧ i < 811 then V (91 + 120 * g ((i - 91) / 120) + (i - 91) % 120) else V i
def gTk (n a f : Int) : Int := if f < a then f else if f < n - 1 then f + 1 else if f = n - 1 then a else f
def gPb (n a f : Int) : Int := if f < a then f else if f = a then n else if f ≤ n then f - 1 else f
def tko (V : zD) (a : Int) : zD := prm V (gTk (V 2) a) (V 2 - 1)
def pbk (V : zD) (a : Int) : zD := prm V (gPb (V 2) a) (V 2 + 1)
theorem prm_day {V : zD} {g : Int → Int} {n f : Int} (f0 : 0 ≤ f) (f1 : f < 6) : prm V g n (6 + f) = V (6 + g f) := by
  unfold prm
  rw [if_neg (by omega), if_pos (by omega), show 6 + f - 6 = f by omega]
theorem prm_px {V : zD} {g : Int → Int} {n f o : Int} (f0 : 0 ≤ f) (f1 : f < 6) (o0 : 0 ≤ o) (o1 : o < 120) : prm V g n (91 + 120 * f + o) = V (91 + 120 * g f + o) := by
  unfold prm
  rw [if_neg (by omega), if_neg (by omega), if_pos (by omega), show (91 + 120 * f + o - 91) / 120 = f by omega, show (91 + 120 * f + o - 91) % 120 = o by omega]
theorem prm_ot {V : zD} {g : Int → Int} {n i : Int} (h : i ≠ 2 ∧ ¬ (6 ≤ i ∧ i < 12) ∧ ¬ (91 ≤ i ∧ i < 811)) : prm V g n i = V i := by
  unfold prm
  rw [if_neg h.1, if_neg h.2.1, if_neg h.2.2]
theorem prm_2 {V : zD} {g : Int → Int} {n : Int} : prm V g n 2 = n := by unfold prm; rw [if_pos rfl]
theorem pbk_tko {V : zD} {a : Int} (a0 : 0 ≤ a) (a1 : a < V 2) (h6 : V 2 ≤ 6) : pbk (tko V a) a = V := by
  have e2 : tko V a 2 = V 2 - 1 := prm_2
  have gg : ∀ f, 0 ≤ f → f < 6 → 0 ≤ gPb (V 2 - 1) a f ∧ gPb (V 2 - 1) a f < 6 ∧ gTk (V 2) a (gPb (V 2 - 1) a f) = f := fun f f0 f1 => by
    by_cases w : f < a
    · have e : gPb (V 2 - 1) a f = f := by unfold gPb; rw [if_pos w]
      rw [e]; unfold gTk; rw [if_pos w]; omega
    · by_cases w2 : f = a
      · have e : gPb (V 2 - 1) a f = V 2 - 1 := by unfold gPb; rw [if_neg w, if_pos w2]
        rw [e]; unfold gTk; rw [if_neg (by omega), if_neg (by omega), if_pos rfl]; omega
      · by_cases w3 : f ≤ V 2 - 1
        · have e : gPb (V 2 - 1) a f = f - 1 := by unfold gPb; rw [if_neg w, if_neg w2, if_pos w3]
          rw [e]; unfold gTk; rw [if_neg (by omega), if_pos (by omega)]; omega
        · have e : gPb (V 2 - 1) a f = f := by unfold gPb; rw [if_neg w, if_neg w2, if_neg w3]
          rw [e]; unfold gTk; rw [if_neg (by omega), if_neg (by omega), if_neg (by omega)]; omega
  funext i
  unfold pbk
  rw [e2]
  by_cases h2 : i = 2
  · rw [h2, prm_2]; omega
  · by_cases hd : 6 ≤ i ∧ i < 12
    · obtain ⟨g0, g1, g2⟩ := gg (i - 6) (by omega) (by omega)
      rw [show i = 6 + (i - 6) by omega, prm_day (by omega) (by omega)]
      show prm V _ _ _ = _
      rw [prm_day g0 g1, g2]
    · by_cases hp : 91 ≤ i ∧ i < 811
      · obtain ⟨g0, g1, g2⟩ := gg ((i - 91) / 120) (by omega) (by omega)
        rw [show i = 91 + 120 * ((i - 91) / 120) + (i - 91) % 120 by omega, prm_px (by omega) (by omega) (by omega) (by omega)]
        show prm V _ _ _ = _
        rw [prm_px g0 g1 (by omega) (by omega), g2]
      · rw [prm_ot ⟨h2, hd, hp⟩]
        show prm V _ _ _ = _
        rw [prm_ot ⟨h2, hd, hp⟩]
/-- readings: the place of a day, put in, taken out -/
def ixc (V : zD) (t day r a : Int) : Int := if dS V t r < day then a + 1 else a
def ix (V : zD) (t day : Int) : Int := lp (ixc V t day) (nS V t).toNat 0 0
abbrev ixP (V : zD) (t day p : Int) : Prop := (0 ≤ p ∧ p ≤ nS V t) ∧ (∀ r, 0 ≤ r → r < p → dS V t r < day) ∧ (∀ r, p ≤ r → r < nS V t → day ≤ dS V t r)
theorem ix_u {V : zD} {t day p : Int} (h : ixP V t day p) : ix V t day = p := by
  have L : ∀ (m : Nat) (r a : Int), 0 ≤ r → r + m = nS V t → a = min r p → lp (ixc V t day) m r a = p := by
    intro m
    induction m with
    | zero => intro r a r0 e ea; rw [lp_0]; have := h.1; omega
    | succ m ih =>
      intro r a r0 e ea
      rw [lp_s]
      refine ih (r + 1) _ (by omega) (by omega) ?_
      unfold ixc
      by_cases w : r < p
      · rw [if_pos (h.2.1 r r0 w)]; omega
      · rw [if_neg (by have := h.2.2 r (by omega) (by omega); omega)]; omega
  have := h.1
  exact L (nS V t).toNat 0 0 (by decide) (by omega) (by omega)
theorem ix_ex {V : zD} {t day : Int} (n0 : 0 ≤ nS V t) (hs : ∀ r, 0 ≤ r → r + 1 < nS V t → dS V t r < dS V t (r + 1)) : ixP V t day (ix V t day) := by
  have mono : ∀ (m : Nat) (r : Int), 0 ≤ r → r + m < nS V t → dS V t r ≤ dS V t (r + m) := by
    intro m
    induction m with
    | zero => intro r r0 _; simp
    | succ m ih =>
      intro r r0 r1
      have a := ih r r0 (by omega)
      have b := hs (r + m) (by omega) (by omega)
      rw [show r + ((m + 1 : Nat) : Int) = r + m + 1 by omega]
      exact Int.le_trans a (Int.le_of_lt b)
  have ex : ∀ (m : Nat), (m : Int) ≤ nS V t → ∃ p, (0 ≤ p ∧ p ≤ (m : Int)) ∧ (∀ r, 0 ≤ r → r < p → dS V t r < day) ∧ (∀ r, p ≤ r → r < (m : Int) → day ≤ dS V t r) := by
    intro m
    induction m with
    | zero => intro _; exact ⟨0, by omega, fun r a b => by omega, fun r a b => by omega⟩
    | succ m ih =>
      intro hm
      obtain ⟨p, h1, h2, h3⟩ := ih (by omega)
      by_cases w : dS V t m < day
      · refine ⟨(m : Int) + 1, by omega, fun r r0 r1 => ?_, fun r a b => by omega⟩
        have := mono ((m : Int) - r).toNat r r0 (by omega)
        rw [show r + (((m : Int) - r).toNat : Int) = m by omega] at this
        exact Int.lt_of_le_of_lt this w
      · refine ⟨p, by omega, h2, fun r a b => ?_⟩
        by_cases z : r = m
        · rw [z]; exact Int.not_lt.mp w
        · exact h3 r a (by omega)
  obtain ⟨p, h1, h2, h3⟩ := ex (nS V t).toNat (by omega)
  have hp : ixP V t day p := ⟨by omega, h2, fun r a b => h3 r a (by omega)⟩
  rw [ix_u hp]
  exact hp
def rput (V : zD) (t p day len : Int) : zD := fun i => if i = 32 + t then V i + 1 else if 35 + 8 * t ≤ i ∧ i < 43 + 8 * t then (if i < 35 + 8 * t + p then V i else if i = 35 + 8 * t + p then day else V (i - 1)) else if 59 + 8 * t ≤ i ∧ i < 67 + 8 * t then (if i < 59 + 8 * t + p then V i else if i = 59 + 8 * t + p then len else V (i - 1)) else V i
def rcut (V : zD) (t p : Int) : zD := fun i => if i = 32 + t then V i - 1 else if 35 + 8 * t ≤ i ∧ i < 43 + 8 * t then (if i < 35 + 8 * t + p then V i else if i = 42 + 8 * t then 0 else V (i + 1)) else if 59 + 8 * t ≤ i ∧ i < 67 + 8 * t then (if i < 59 + 8 * t + p then V i else if i = 66 + 8 * t then 0 else V (i + 1)) else V i
theorem rcut_rput {V : zD} {t p day len : Int} (ht : 0 ≤ t ∧ t < 3) (hp : 0 ≤ p ∧ p ≤ 7) (z1 : V (42 + 8 * t) = 0) (z2 : V (66 + 8 * t) = 0) : rcut (rput V t p day len) t p = V := by
  funext i
  unfold rcut
  by_cases h0 : i = 32 + t
  · rw [if_pos h0]; unfold rput; rw [if_pos h0]; omega
  · rw [if_neg h0]
    by_cases h1 : 35 + 8 * t ≤ i ∧ i < 43 + 8 * t
    · rw [if_pos h1]
      by_cases h2 : i < 35 + 8 * t + p
      · rw [if_pos h2]; unfold rput; rw [if_neg h0, if_pos h1, if_pos h2]
      · rw [if_neg h2]
        by_cases h3 : i = 42 + 8 * t
        · rw [if_pos h3, h3, z1]
        · rw [if_neg h3]; unfold rput
          rw [if_neg (by omega), if_pos (by omega), if_neg (by omega), if_neg (by omega), show i + 1 - 1 = i by omega]
    · rw [if_neg h1]
      by_cases h4 : 59 + 8 * t ≤ i ∧ i < 67 + 8 * t
      · rw [if_pos h4]
        by_cases h2 : i < 59 + 8 * t + p
        · rw [if_pos h2]; unfold rput; rw [if_neg h0, if_neg h1, if_pos h4, if_pos h2]
        · rw [if_neg h2]
          by_cases h3 : i = 66 + 8 * t
          · rw [if_pos h3, h3, z2]
          · rw [if_neg h3]; unfold rput
            rw [if_neg (by omega), if_neg (by omega), if_pos (by omega), if_neg (by omega), if_neg (by omega), show i + 1 - 1 = i by omega]
      · rw [if_neg h4]; unfold rput; rw [if_neg h0, if_neg h1, if_neg h4]
theorem rput_rcut {V : zD} {t p day len : Int} (ht : 0 ≤ t ∧ t < 3) (hp : 0 ≤ p ∧ p ≤ 7) (z1 : dS V t p = day) (z2 : lS V t p = len) : rput (rcut V t p) t p day len = V := by
  funext i
  unfold rput
  by_cases h0 : i = 32 + t
  · rw [if_pos h0]; unfold rcut; rw [if_pos h0]; omega
  · rw [if_neg h0]
    by_cases h1 : 35 + 8 * t ≤ i ∧ i < 43 + 8 * t
    · rw [if_pos h1]
      by_cases h2 : i < 35 + 8 * t + p
      · rw [if_pos h2]; unfold rcut; rw [if_neg h0, if_pos h1, if_pos h2]
      · rw [if_neg h2]
        by_cases h3 : i = 35 + 8 * t + p
        · rw [if_pos h3, h3]; exact z1.symm
        · rw [if_neg h3]; unfold rcut
          rw [if_neg (by omega), if_pos (by omega), if_neg (by omega), if_neg (by omega), show i - 1 + 1 = i by omega]
    · rw [if_neg h1]
      by_cases h4 : 59 + 8 * t ≤ i ∧ i < 67 + 8 * t
      · rw [if_pos h4]
        by_cases h2 : i < 59 + 8 * t + p
        · rw [if_pos h2]; unfold rcut; rw [if_neg h0, if_neg h1, if_pos h4, if_pos h2]
        · rw [if_neg h2]
          by_cases h3 : i = 59 + 8 * t + p
          · rw [if_pos h3, h3]; exact z2.symm
          · rw [if_neg h3]; unfold rcut
            rw [if_neg (by omega), if_neg (by omega), if_pos (by omega), if_neg (by omega), if_neg (by omega), show i - 1 + 1 = i by omega]
      · rw [if_neg h4]; unfold rcut; rw [if_neg h0, if_neg h1, if_neg h4]
def rdel (V : zD) (t day : Int) : zD := if isSk V t ∧ ix V t day < nS V t ∧ dS V t (ix V t day) = day then rcut V t (ix V t day) else V
def rins (V : zD) (t day len : Int) : zD := if isSk V t ∧ nS V t < 8 then rput V t (ix V t day) day len else V
/-- a change taken back -/
def rv (c : chg) (V : zD) : zD :=
  if c.1 = 0 then (if 0 ≤ c.2.1 ∧ c.2.1 < 8 then vup V (83 + c.2.1) c.2.2.2.2 else V)
  else if c.1 = 1 then (if isFr V c.2.1 ∧ isPx V c.2.2.1 c.2.2.2.1 then vup V (91 + 120 * c.2.1 + (12 * c.2.2.2.1 + c.2.2.1)) c.2.2.2.2 else V)
  else if c.1 = 2 then (if 0 ≤ c.2.1 ∧ c.2.1 ≤ V 2 ∧ V 2 < 6 then pbk V c.2.1 else V)
  else if c.1 = 3 then (if isFt V c.2.1 then vup (vup V (20 + 2 * c.2.1) c.2.2.1) (20 + 2 * c.2.1 + 1) c.2.2.2.1 else V)
  else if c.1 = 4 then rdel V c.2.1 c.2.2.1 else rins V c.2.1 c.2.2.1 c.2.2.2.2
/-- what is seen of V is D's -/
def Vis (V D : zD) : Prop := (V 0 = D 0 ∧ V 1 = D 1 ∧ V 2 = D 2 ∧ V 3 = D 3 ∧ V 4 = D 4 ∧ V 5 = D 5) ∧ (∀ i, 0 ≤ i → i < 8 → V (83 + i) = D (83 + i)) ∧ (∀ f, 0 ≤ f → f < D 2 → V (6 + f) = D (6 + f)) ∧ (∀ f x y, 0 ≤ f → f < D 2 → 0 ≤ x → x < D 0 → 0 ≤ y → y < D 1 → px V f x y = px D f x y) ∧ (∀ k, 0 ≤ k → k < D 3 → V (12 + (2 * k)) = D (12 + (2 * k)) ∧ V (12 + (2 * k) + 1) = D (12 + (2 * k) + 1)) ∧ (∀ k, 0 ≤ k → k < D 4 → V (20 + (2 * k)) = D (20 + (2 * k)) ∧ V (20 + (2 * k) + 1) = D (20 + (2 * k) + 1)) ∧ (∀ t, 0 ≤ t → t < D 5 → nS V t = nS D t ∧ ∀ r, 0 ≤ r → r < nS D t → dS V t r = dS D t r ∧ lS V t r = lS D t r)
/-- places behind the readings hold 0 -/
def NV (V : zD) : Prop := ∀ t, 0 ≤ t → t < V 5 → ∀ r, nS V t ≤ r → r < 8 → dS V t r = 0 ∧ lS V t r = 0
/-- the class's scene S is V, with the frames behind the last -/
def Rp1 (σ : zSt) (S : Int) (V : zD) : Prop := (S = 73 ∨ S = 104) ∧ σ S 0 = V 0 ∧ σ S 1 = V 1 ∧ σ S 2 = V 2 ∧ σ S 3 = V 5 ∧ σ (S + 4) 3 = V 3 ∧ σ (S + 7) 3 = V 4 ∧ (∀ i, 0 ≤ i → i < 8 → σ (S + 1) i = V (83 + i))
def Rp2 (σ : zSt) (S : Int) (V : zD) : Prop := (∀ f, 0 ≤ f → f < 6 → S + 10 ≤ σ (S + 2) f ∧ σ (S + 2) f < S + 16) ∧ (∀ f g, 0 ≤ f → f < 6 → 0 ≤ g → g < 6 → σ (S + 2) f = σ (S + 2) g → f = g) ∧ (∀ f, 0 ≤ f → f < 6 → σ (σ (S + 2) f) 0 = V (6 + f)) ∧ (∀ f o, 0 ≤ f → f < 6 → 0 ≤ o → o < 120 → σ (σ (S + 2) f + 6) o = V (91 + 120 * f + o))
def Rp3 (σ : zSt) (S : Int) (V : zD) : Prop := (∀ k, 0 ≤ k → k < V 3 → σ (S + 5) k = V (12 + (2 * k)) ∧ σ (S + 6) k = V (12 + (2 * k) + 1)) ∧ (∀ k, 0 ≤ k → k < V 4 → σ (S + 8) k = V (20 + (2 * k)) ∧ σ (S + 9) k = V (20 + (2 * k) + 1))
def Rp4 (σ : zSt) (S : Int) (V : zD) : Prop := ∀ t, 0 ≤ t → t < V 5 → σ (S + 22 + t) 0 = nS V t ∧ ∀ r, 0 ≤ r → r < nS V t → σ (S + 25 + t) r = dS V t r ∧ σ (S + 28 + t) r = lS V t r
def Rp (σ : zSt) (S : Int) (V : zD) : Prop := Rp1 σ S V ∧ Rp2 σ S V ∧ Rp3 σ S V ∧ Rp4 σ S V
theorem Rp.sc {σ : zSt} {S : Int} {V D : zD} (h : Rp σ S V) (hv : Vis V D) (hD : WF D) : Sc σ S D := by
  have q := hD.1
  unfold WFa at q
  obtain ⟨⟨s0, s1, s2, s3, s4, s5, s6, s7⟩, ⟨f1, f2, f3, f4⟩, ⟨c1, c2⟩, r⟩ := h
  obtain ⟨⟨v0, v1, v2, v3, v4, v5⟩, vs, vd, vp, vc, vf, vr⟩ := hv
  refine ⟨hD, ⟨s0, s1.trans v0, s2.trans v1, s3.trans v2, s4.trans v5, s5.trans v3, s6.trans v4, fun i i0 i1 => (s7 i i0 i1).trans (vs i i0 i1)⟩, ⟨f1, fun f g0 g1 => (f3 f g0 (by omega)).trans (vd f g0 g1), fun f x y g0 g1 x0 x1 y0 y1 => ?_⟩, ⟨fun k k0 k1 => ?_, fun k k0 k1 => ?_⟩, fun t t0 t1 => ?_⟩
  · have a := vp f x y g0 g1 x0 x1 y0 y1
    rw [f4 f (12 * y + x) g0 (by omega) (by omega) (by omega), ← a]
    unfold px
    rw [show 91 + 120 * f + (12 * y + x) = 91 + 120 * f + 12 * y + x by omega]
  · have a := vc k k0 k1
    have b := c1 k k0 (by omega)
    exact ⟨b.1.trans a.1, b.2.trans a.2⟩
  · have a := vf k k0 k1
    have b := c2 k k0 (by omega)
    exact ⟨b.1.trans a.1, b.2.trans a.2⟩
  · have a := vr t t0 t1
    have b := r t t0 (by omega)
    refine ⟨b.1.trans a.1, fun r r0 r1 => ?_⟩
    have b2 := b.2 r r0 (by rw [a.1]; exact r1)
    have a2 := a.2 r r0 r1
    exact ⟨b2.1.trans a2.1, b2.2.trans a2.2⟩
/-- the class's n changes C (latest first) take V back, one after another, to what H says -/
def UC : Nat → zD → (Nat → chg) → (Nat → zD) → Prop
  | 0, _, _, _ => True
  | n + 1, V, C, H => (Vis (rv (C 0) V) (H 0) ∧ WF (H 0) ∧ NV (rv (C 0) V) ∧ (zrg (C 0).1 ∧ zrg (C 0).2.1 ∧ zrg (C 0).2.2.1 ∧ zrg (C 0).2.2.2.1 ∧ zrg (C 0).2.2.2.2)) ∧ UC n (rv (C 0) V) (fun k => C (k + 1)) (fun k => H (k + 1))
theorem UC_cong : ∀ (n : Nat) (V : zD) (C C' : Nat → chg) (H H' : Nat → zD), (∀ k, k < n → C k = C' k) → (∀ k, k < n → H k = H' k) → UC n V C H → UC n V C' H' := by
  intro n
  induction n with
  | zero => intro V C C' H H' _ _ _; trivial
  | succ n ih =>
    intro V C C' H H' hc hh h
    obtain ⟨h1, h2⟩ := h
    have e1 := hc 0 (by omega)
    have e2 := hh 0 (by omega)
    rw [e1, e2] at h1
    rw [e1] at h2
    exact ⟨h1, ih _ _ _ _ _ (fun k hk => hc (k + 1) (by omega)) (fun k hk => hh (k + 1) (by omega)) h2⟩
theorem UC_drop : ∀ (n : Nat) (V : zD) (C : Nat → chg) (H : Nat → zD), UC (n + 1) V C H → UC n V C H := by
  intro n
  induction n with
  | zero => intro V C H _; trivial
  | succ n ih => intro V C H h; exact ⟨h.1, ih _ _ _ h.2⟩
