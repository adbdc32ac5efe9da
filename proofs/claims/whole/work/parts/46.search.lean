/-! the search of a match -/
abbrev mS : Type := Int × Int × Int × Int × Int × Int
abbrev mbet (st : mS) (m w : Int) : Prop := st.1 = 0 ∨ m < st.2.2.2.1 ∨ (m = st.2.2.2.1 ∧ w < st.2.2.2.2.1)
def mcon (col row m w : Int) (st : mS) : mS := if mbet st m w then (st.1 + 1, col, row, m, w, st.2.2.2.1) else (st.1 + 1, st.2.1, st.2.2.1, st.2.2.2.1, st.2.2.2.2.1, if st.1 = 1 ∨ m < st.2.2.2.2.2 then m else st.2.2.2.2.2)
def mst (D : zD) (a u v b ex ey dy dx : Int) (st : mS) : mS := if ins D (ex + dx) (ey + dy) then mcon (ex + dx) (ey + dy) (mm D a u v b (ex + dx) (ey + dy)) ((dx.natAbs : Int) + (dy.natAbs : Int)) st else st
def mrw (D : zD) (a u v b ex ey dy : Int) (st : mS) : mS := lp (mst D a u v b ex ey dy) (2 * D 84 + 1).toNat (-(D 84)) st
def mSe (D : zD) (a u v b ex ey : Int) : mS := lp (mrw D a u v b ex ey) (2 * D 84 + 1).toNat (-(D 84)) (0, 0, 0, 0, 0, 0)
def mI (D : zD) (n : Int) (st : mS) : Prop := (0 ≤ st.1 ∧ st.1 ≤ n) ∧ (1 ≤ st.1 → ins D st.2.1 st.2.2.1 ∧ (0 ≤ st.2.2.2.1 ∧ st.2.2.2.1 ≤ 225) ∧ (0 ≤ st.2.2.2.2.1 ∧ st.2.2.2.2.1 ≤ 8)) ∧ (2 ≤ st.1 → st.2.2.2.1 ≤ st.2.2.2.2.2 ∧ st.2.2.2.2.2 ≤ 225)
theorem mcon_I {D : zD} {n col row m w : Int} {st : mS} (h : mI D n st) (hi : ins D col row) (hm : 0 ≤ m ∧ m ≤ 225) (hw : 0 ≤ w ∧ w ≤ 8) : mI D (n + 1) (mcon col row m w st) := by
  obtain ⟨h1, h2, h3⟩ := h
  unfold mcon
  by_cases z : mbet st m w
  · rw [if_pos z]
    refine ⟨by show 0 ≤ st.1 + 1 ∧ st.1 + 1 ≤ n + 1; omega, fun _ => ⟨hi, hm, hw⟩, fun g => ?_⟩
    have g : 2 ≤ st.1 + 1 := g
    show m ≤ st.2.2.2.1 ∧ st.2.2.2.1 ≤ 225
    have q := h2 (by omega)
    rcases z with z | z | ⟨z, -⟩ <;> omega
  · rw [if_neg z]
    have z0 : ¬ st.1 = 0 := fun k => z (Or.inl k)
    have z1 : ¬ m < st.2.2.2.1 := fun k => z (Or.inr (Or.inl k))
    refine ⟨by show 0 ≤ st.1 + 1 ∧ st.1 + 1 ≤ n + 1; omega, fun _ => h2 (by omega), fun _ => ?_⟩
    show st.2.2.2.1 ≤ (if st.1 = 1 ∨ m < st.2.2.2.2.2 then m else st.2.2.2.2.2) ∧ (if st.1 = 1 ∨ m < st.2.2.2.2.2 then m else st.2.2.2.2.2) ≤ 225
    have q := h2 (by omega)
    split
    · omega
    · exact h3 (by omega)
theorem mst_I {D : zD} (hD : WF D) {n a u v b ex ey dy dx : Int} (a0 : 0 ≤ a) (a1 : a < D 2) (b0 : 0 ≤ b) (b1 : b < D 2) (h1 : ins D u v) (d0 : -(D 84) ≤ dx ∧ dx ≤ D 84) (e0 : -(D 84) ≤ dy ∧ dy ≤ D 84) {st : mS} (h : mI D n st) : mI D (n + 1) (mst D a u v b ex ey dy dx st) := by
  have t := hD.2.1
  unfold WFs at t
  unfold mst
  split
  · rename_i g
    exact mcon_I h g (mm_b hD a0 a1 b0 b1 h1 g) (by omega)
  · exact ⟨⟨h.1.1, by have := h.1.2; omega⟩, h.2⟩
theorem lpn_inv {α : Type} {g : Int → α → α} (P : Int → α → Prop) {lo hi c : Int} (h : ∀ x n a, lo ≤ x → x < hi → P n a → P (n + c) (g x a)) : ∀ (m : Nat) (x n : Int) (a : α), lo ≤ x → x + m ≤ hi → P n a → P (n + m * c) (lp g m x a) := by
  intro m
  induction m with
  | zero => intro x n a _ _ p; rw [lp_0]; simpa using p
  | succ m ih =>
    intro x n a h1 h2 p
    rw [lp_s]
    have := ih (x + 1) (n + c) (g x a) (by omega) (by omega) (h x n a h1 (by omega) p)
    have e : n + ((m + 1 : Nat) : Int) * c = n + c + (m : Int) * c := by
      rw [Int.natCast_add, Int.add_mul]; simp; omega
    rw [e]; exact this
theorem mI_le {D : zD} {n k : Int} {st : mS} (h : mI D n st) (q : n ≤ k) : mI D k st := ⟨⟨h.1.1, Int.le_trans h.1.2 q⟩, h.2⟩
theorem mrw_I {D : zD} (hD : WF D) {n a u v b ex ey dy : Int} (a0 : 0 ≤ a) (a1 : a < D 2) (b0 : 0 ≤ b) (b1 : b < D 2) (h1 : ins D u v) (e0 : -(D 84) ≤ dy ∧ dy ≤ D 84) {st : mS} (h : mI D n st) : mI D (n + 9) (mrw D a u v b ex ey dy st) := by
  have t := hD.2.1
  unfold WFs at t
  exact mI_le (lpn_inv (mI D) (lo := -(D 84)) (hi := D 84 + 1) (c := 1) (fun x n s x0 x1 hs => mst_I hD a0 a1 b0 b1 h1 (by omega) e0 hs) _ _ n st (by omega) (by omega) h) (by omega)
theorem mSe_I {D : zD} (hD : WF D) {a u v b ex ey : Int} (a0 : 0 ≤ a) (a1 : a < D 2) (b0 : 0 ≤ b) (b1 : b < D 2) (h1 : ins D u v) : mI D 100 (mSe D a u v b ex ey) := by
  have t := hD.2.1
  unfold WFs at t
  exact mI_le (lpn_inv (mI D) (lo := -(D 84)) (hi := D 84 + 1) (c := 9) (fun x n s x0 x1 hs => mrw_I hD a0 a1 b0 b1 h1 (by omega) hs) (2 * D 84 + 1).toNat (-(D 84)) 0 (0, 0, 0, 0, 0, 0) (by omega) (by omega) ⟨by decide, fun z => absurd z (by decide), fun z => absurd z (by decide)⟩) (by omega)
/-- the match of a pixel, searched with the orientation -/
def mR (D : zD) (a u v b : Int) : mS := if (oriF D a).1 = 1 ∧ (oriF D b).1 = 1 ∧ ins D u v then mSe D a u v b (u + (oriF D b).2.1 - (oriF D a).2.1) (v + (oriF D b).2.2.1 - (oriF D a).2.2.1) else (0, 0, 0, 0, 0, 0)
theorem oriF_in {D : zD} {f : Int} (h : (oriF D f).1 = 1) : 0 ≤ f ∧ f < D 2 := by
  by_cases z : 0 ≤ f ∧ f < D 2 ∧ D 86 ≤ ctr D f
  · exact ⟨z.1, z.2.1⟩
  · rw [oriF_no z] at h
    exact absurd h (by decide)
theorem oriF_z {D : zD} (hD : WF D) {f : Int} (h : ¬ (oriF D f).1 = 1) : oriF D f = (0, 0, 0, 0) := by
  rcases oriF_b hD f with q | ⟨q, -⟩
  · exact q
  · exact absurd q h
theorem oriF_s {D : zD} (hD : WF D) (f : Int) : (-3 ≤ (oriF D f).2.1 ∧ (oriF D f).2.1 ≤ 3) ∧ (-3 ≤ (oriF D f).2.2.1 ∧ (oriF D f).2.2.1 ≤ 3) ∧ (0 ≤ (oriF D f).2.2.2 ∧ (oriF D f).2.2.2 ≤ 900) ∧ ((oriF D f).1 = 0 ∨ (oriF D f).1 = 1) := by
  rcases oriF_b hD f with q | ⟨q, q1, q2, q3⟩
  · rw [q]; exact ⟨by decide, by decide, by decide, Or.inl rfl⟩
  · exact ⟨q1, q2, q3, Or.inr q⟩
theorem mR_I {D : zD} (hD : WF D) (a u v b : Int) : mI D 100 (mR D a u v b) := by
  unfold mR
  split
  · rename_i h
    have p := oriF_in h.1
    have q := oriF_in h.2.1
    exact mSe_I hD p.1 p.2 q.1 q.2 h.2.2
  · exact ⟨by decide, fun z => absurd z (by decide), fun z => absurd z (by decide)⟩
def RX (σ : zSt) (st : mS) : Prop := σ 22 0 = st.1 ∧ (1 ≤ st.1 → σ 22 1 = st.2.1 ∧ σ 22 2 = st.2.2.1 ∧ σ 22 3 = st.2.2.2.1 ∧ σ 22 5 = st.2.2.2.2.1) ∧ (2 ≤ st.1 → σ 22 4 = st.2.2.2.2.2)
abbrev p22 : Int → Int → Prop := fun a _ => a = 22
section SX
variable {K : zSt → Prop} {S : Int} {D : zD}
theorem sX5_B37_1 {σ : zSt} {st : mS} {n col row m w : Int} (hR : RX σ st) (hI : mI D n st) (hb : mbet st m w) (hK : ∀ τ, frm p22 σ τ → RX τ (mcon col row m w st) → K τ) : fX5_consider_B37 K σ col row m w 1 := by
  obtain ⟨r1, r2, r3⟩ := hR
  have i1 := hI.1
  refine ⟨by decide, fun z => absurd z (by decide), fun _ σ11 e11 σ12 e12 σ13 e13 σ14 e14 σ15 e15 σ16 e16 => hK _ ?_ ?_⟩
  · subst e11 e12 e13 e14 e15 e16
    exact ((((((frm.rf (P := p22)).z rfl).z rfl).z rfl).z rfl).z rfl).z rfl
  · subst e11 e12 e13 e14 e15 e16
    unfold mcon
    rw [if_pos hb]
    refine ⟨by simp [zu, r1], fun _ => ⟨by simp [zu], by simp [zu], by simp [zu], by simp [zu]⟩, fun g => ?_⟩
    have g : 2 ≤ st.1 + 1 := g
    have := (r2 (by omega)).2.2.1
    simp [zu, this]
theorem sX5_B37_0 {σ : zSt} {st : mS} {n col row m w : Int} (hR : RX σ st) (hI : mI D n st) (hn : n ≤ 1000) (hm : 0 ≤ m ∧ m ≤ 225) (hb : ¬ mbet st m w) (hK : ∀ τ, frm p22 σ τ → RX τ (mcon col row m w st) → K τ) : fX5_consider_B37 K σ col row m w 0 := by
  obtain ⟨r1, r2, r3⟩ := hR
  obtain ⟨i1, i2, i3⟩ := hI
  have z0 : ¬ st.1 = 0 := fun k => hb (Or.inl k)
  obtain ⟨q1, q2, q3, q4⟩ := r2 (by omega)
  have e : mcon col row m w st = (st.1 + 1, st.2.1, st.2.2.1, st.2.2.2.1, st.2.2.2.2.1, if st.1 = 1 ∨ m < st.2.2.2.2.2 then m else st.2.2.2.2.2) := by unfold mcon; rw [if_neg hb]
  rw [e] at hK
  have b92 : (if st.1 = 1 ∨ m < st.2.2.2.2.2 then m else st.2.2.2.2.2) = m → fX5_consider_B92 K σ m := fun hm2 => by
    intro σ17 e17 σ18 e18
    subst e17 e18
    rw [hm2] at hK
    exact hK _ (((frm.rf (P := p22)).z rfl).z rfl) ⟨by simp [zu, r1], fun _ => ⟨by simp [zu, q1], by simp [zu, q2], by simp [zu, q3], by simp [zu, q4]⟩, fun _ => by simp [zu]⟩
  refine ⟨by decide, fun _ => ⟨by omega, fun z => b92 (if_pos (Or.inl (by omega))), fun z => ?_⟩, fun z => (z rfl).elim⟩
  have p := r3 (by omega)
  have p2 := i3 (by omega)
  have p3 := i2 (by omega)
  rw [p]
  refine ⟨by omega, by omega, fun g σ10 e10 => ?_, fun g => b92 (if_pos (Or.inr (by omega)))⟩
  subst e10
  rw [if_neg (by omega)] at hK
  exact hK _ ((frm.rf (P := p22)).z rfl) ⟨by simp [zu, r1], fun _ => ⟨by simp [zu, q1], by simp [zu, q2], by simp [zu, q3], by simp [zu, q4]⟩, fun _ => by simp [zu, p]⟩
theorem sX5_consider {σ : zSt} {st : mS} {n col row m w : Int} (hR : RX σ st) (hI : mI D n st) (hn : n ≤ 1000) (hm : 0 ≤ m ∧ m ≤ 225) (hw : 0 ≤ w ∧ w ≤ 8) (hK : ∀ τ, frm p22 σ τ → RX τ (mcon col row m w st) → K τ) : fX5_consider K σ col row m w := by
  have r1 := hR.1
  have i1 := hI.1
  refine ⟨by omega, fun z => sX5_B37_1 hR hI (Or.inl (by omega)) hK, fun z => ?_⟩
  obtain ⟨q1, q2, q3, q4⟩ := hR.2.1 (by omega)
  have p := hI.2.1 (by omega)
  rw [q3, q4]
  refine ⟨by omega, by omega, fun g => sX5_B37_1 hR hI (Or.inr (Or.inl g)) hK, fun g => ⟨fun k => ⟨by omega, by omega, fun j => sX5_B37_0 hR hI hn hm ?_ hK, fun j => sX5_B37_1 hR hI (Or.inr (Or.inr ⟨k, by omega⟩)) hK⟩, fun k => sX5_B37_0 hR hI hn hm ?_ hK⟩⟩
  · rintro (y | y | ⟨y, y2⟩) <;> omega
  · rintro (y | y | ⟨y, y2⟩) <;> omega
theorem p22_sc {σ τ : zSt} (h : frm p22 σ τ) (hS : Sc σ S D) : Sc τ S D := hS.mono (fun a b q => h a b (by omega))
theorem sX5_search_B93 {k81 : zSt → Int → Int → Int → Int → Int → Int → Int → Int → Int → Prop} {a u v b ex ey dy : Int} (a0 : 0 ≤ a) (a1 : a < D 2) (b0 : 0 ≤ b) (b1 : b < D 2) (h1 : ins D u v) (x0 : -100 ≤ ex ∧ ex ≤ 100) (y0 : -100 ≤ ey ∧ ey ≤ 100) (d0 : -(D 84) ≤ dy ∧ dy ≤ D 84) : ∀ (m : Nat) (dx n : Int) (σ : zSt) (st : mS), Sc σ S D → RX σ st → mI D n st → n + m ≤ 1000 → dx + m = D 84 + 1 → -(D 84) ≤ dx → (∀ τ, frm p22 σ τ → RX τ (lp (mst D a u v b ex ey dy) m dx st) → k81 τ S a u v b ex ey (D 84) (dy + 1)) → fX5_search_B93 K k81 (m + 1) σ S a u v b ex ey (D 84) dy dx := by
  intro m
  induction m with
  | zero =>
    intro dx n σ st hS hR hI hn e e0 hk
    have t := hS.1.2.1
    unfold WFs at t
    rw [uX5_search_B93]
    exact ⟨by omega, by omega, fun _ => hk σ frm.rf hR, fun h => (h (by omega)).elim⟩
  | succ m ih =>
    intro dx n σ st hS hR hI hn e e0 hk
    have t := hS.1.2.1
    unfold WFs at t
    have hI2 := mst_I hS.1 (ex := ex) (ey := ey) a0 a1 b0 b1 h1 (dx := dx) (by omega) d0 hI
    rw [uX5_search_B93]
    refine ⟨by omega, by omega, fun h => by omega, fun h => sX8_isWindowInside hS (by omega) (by omega) (fun g => zb1 (sX8_mismatch hS a0 a1 b0 b1 h1 g ⟨by omega, ?_⟩)) (fun g => zb0 ?_)⟩
    · have e2 : mst D a u v b ex ey dy dx st = mcon (ex + dx) (ey + dy) (mm D a u v b (ex + dx) (ey + dy)) ((dx.natAbs : Int) + (dy.natAbs : Int)) st := by unfold mst; rw [if_pos g]
      refine sX5_consider hR hI (by omega) (mm_b hS.1 a0 a1 b0 b1 h1 g) (by omega) (fun υ u1 u2 => ?_)
      rw [← e2] at u2
      exact ih (dx + 1) (n + 1) υ _ (p22_sc u1 hS) u2 hI2 (by omega) (by omega) (by omega) (fun τ h1 h2 => hk τ (u1.tr h1) h2)
    · have e2 : mst D a u v b ex ey dy dx st = st := by unfold mst; rw [if_neg g]
      refine ih (dx + 1) n σ st hS hR hI (by omega) (by omega) (by omega) (fun τ h1 h2 => hk τ h1 ?_)
      rw [lp_s, e2]
      exact h2
theorem sX5_search_B81 {a u v b ex ey : Int} (a0 : 0 ≤ a) (a1 : a < D 2) (b0 : 0 ≤ b) (b1 : b < D 2) (h1 : ins D u v) (x0 : -100 ≤ ex ∧ ex ≤ 100) (y0 : -100 ≤ ey ∧ ey ≤ 100) : ∀ (m : Nat) (dy n : Int) (σ : zSt) (st : mS), Sc σ S D → RX σ st → mI D n st → n + 9 * m ≤ 900 → dy + m = D 84 + 1 → -(D 84) ≤ dy → (∀ τ, frm p22 σ τ → RX τ (lp (mrw D a u v b ex ey) m dy st) → K τ) → fX5_search_B81 K (m + 1) σ S a u v b ex ey (D 84) dy := by
  intro m
  induction m with
  | zero =>
    intro dy n σ st hS hR hI hn e e0 hk
    have t := hS.1.2.1
    unfold WFs at t
    rw [uX5_search_B81]
    exact ⟨by omega, by omega, fun _ => hk σ frm.rf hR, fun h => (h (by omega)).elim⟩
  | succ m ih =>
    intro dy n σ st hS hR hI hn e e0 hk
    have t := hS.1.2.1
    unfold WFs at t
    rw [uX5_search_B81]
    refine ⟨by omega, by omega, fun h => by omega, fun h => ⟨(2 * D 84 + 1).toNat + 1, ?_⟩⟩
    refine sX5_search_B93 a0 a1 b0 b1 h1 x0 y0 (by omega) _ _ n σ st hS hR hI (by omega) (by omega) (by omega) (fun υ u1 u2 => ?_)
    exact ih (dy + 1) (n + 9) υ _ (p22_sc u1 hS) u2 (mrw_I hS.1 a0 a1 b0 b1 h1 (by omega) hI) (by omega) (by omega) (by omega) (fun τ h1 h2 => hk τ (u1.tr h1) h2)
theorem OI.c {σ : zSt} (hO : OI σ D) (hD : WF D) {f : Int} : 0 ≤ f → f < 6 → OIf σ f (oriF D f) ∧ oB (oriF D f) := fun f0 f1 => ⟨hO.2 f f0 f1, oriF_b hD f⟩
theorem oriF_no6 {D : zD} (hD : WF D) {f : Int} (h : 0 ≤ f → f < 6 → (oriF D f).1 = 0) : ¬ (oriF D f).1 = 1 := by
  intro z
  have p := oriF_in z
  have a := hD.1
  unfold WFa at a
  rw [h p.1 (by omega)] at z
  exact absurd z (by decide)
theorem sX6_xShiftOf {Kb : Int → zSt → Prop} {σ : zSt} {f : Int} (hO : OI σ D) (hD : WF D) (hf : zrg f) (hK : Kb (oriF D f).2.1 σ) : fX6_xShiftOf Kb σ f := by
  refine sX6_covers hf (hO.c hD) (fun f0 f1 z => zb1 ⟨⟨f0, f1⟩, ?_⟩) (fun z => zb0 ?_)
  · rw [((hO.2 f f0 f1).2 z).1]; exact hK
  · rw [oriF_z hD (oriF_no6 hD z)] at hK; exact hK
theorem sX6_yShiftOf {Kb : Int → zSt → Prop} {σ : zSt} {f : Int} (hO : OI σ D) (hD : WF D) (hf : zrg f) (hK : Kb (oriF D f).2.2.1 σ) : fX6_yShiftOf Kb σ f := by
  refine sX6_covers hf (hO.c hD) (fun f0 f1 z => zb1 ⟨⟨f0, f1⟩, ?_⟩) (fun z => zb0 ?_)
  · rw [((hO.2 f f0 f1).2 z).2.1]; exact hK
  · rw [oriF_z hD (oriF_no6 hD z)] at hK; exact hK
theorem sX6_errorOf {Kb : Int → zSt → Prop} {σ : zSt} {f : Int} (hO : OI σ D) (hD : WF D) (hf : zrg f) (hK : Kb (if (oriF D f).1 = 1 then (oriF D f).2.2.2 else -1) σ) : fX6_errorOf Kb σ f := by
  refine sX6_covers hf (hO.c hD) (fun f0 f1 z => zb1 ⟨⟨f0, f1⟩, ?_⟩) (fun z => zb0 ?_)
  · rw [((hO.2 f f0 f1).2 z).2.2]; rw [if_pos z] at hK; exact hK
  · rw [if_neg (oriF_no6 hD z)] at hK; exact hK
theorem OI.fr {σ τ : zSt} (hO : OI σ D) (h : ∀ a b, 17 ≤ a → a ≤ 21 → (a = 17 → b = 1) → τ a b = σ a b) : OI τ D := ⟨(h 17 1 (by decide) (by decide) (fun _ => rfl)).trans hO.1, fun f f0 f1 => (hO.2 f f0 f1).mv (fun a a0 a1 => h a f (by omega) a1 (fun z => by omega))⟩
theorem sX5_search {σ : zSt} {a u v b : Int} (hS : Sc σ S D) (hO : OI σ D) (ha : zrg a) (hb : zrg b) (hu : zrg u) (hv : zrg v) (hK : ∀ τ, frm p22 σ τ → RX τ (mR D a u v b) → K τ) : fX5_search K σ S a u v b := by
  have hD := hS.1
  have t := hD.2.1
  unfold WFs at t
  have q := hD.1
  unfold WFa at q
  refine ⟨hS.k, fun σ1 e1 => ?_⟩
  have hf : frm p22 σ σ1 := by subst e1; exact frm.wr rfl
  have hR0 : RX σ1 (0, 0, 0, 0, 0, 0) := by subst e1; exact ⟨zu_eq .., fun z => absurd z (by decide), fun z => absurd z (by decide)⟩
  have hS1 := p22_sc hf hS
  have hO1 : OI σ1 D := hO.fr (fun a b _ _ _ => hf a b (by omega))
  have no : ¬ ((oriF D a).1 = 1 ∧ (oriF D b).1 = 1 ∧ ins D u v) → K σ1 := fun z => hK σ1 hf (by unfold mR; rw [if_neg z]; exact hR0)
  refine sX6_covers ha (hO1.c hD) (fun _ _ za => zb1 (sX6_covers hb (hO1.c hD) (fun _ _ zb => zb1 (sX8_isWindowInside hS1 hu hv (fun zi => zb1 ?_) (fun z => zb0 (no (fun k => z k.2.2))))) (fun z => zb0 (no (fun k => oriF_no6 hD z k.2.1))))) (fun z => zb0 (no (fun k => oriF_no6 hD z k.1)))
  have sa := oriF_s hD a
  have sb := oriF_s hD b
  have ia := oriF_in za
  have ib := oriF_in zb
  refine sX6_xShiftOf hO1 hD hb (sX6_xShiftOf hO1 hD ha (sX6_yShiftOf hO1 hD hb (sX6_yShiftOf hO1 hD ha ⟨(2 * D 84 + 1).toNat + 1, ?_⟩)))
  have e4 : σ1 (S + 1) 1 = D 84 := hS1.2.1.2.2.2.2.2.2.2 1 (by decide) (by decide)
  rw [e4]
  refine sX5_search_B81 ia.1 ia.2 ib.1 ib.2 zi (by omega) (by omega) _ _ 0 σ1 _ hS1 hR0 ⟨by decide, fun z => absurd z (by decide), fun z => absurd z (by decide)⟩ (by omega) (by omega) (by omega) (fun τ h1 h2 => hK τ (hf.tr h1) ?_)
  unfold mR
  rw [if_pos ⟨za, zb, zi⟩]
  exact h2
end SX
