/-! both sides together: what holds between two calls; calls that change nothing -/
def TR (σ τ : zSt) : Prop := (σ 1 1 = 177 - σ 0 0 ∧ (∀ f, 0 ≤ f → f < 6 → 177 - σ 0 0 + 10 ≤ σ (177 - σ 0 0 + 2) f ∧ σ (177 - σ 0 0 + 2) f < 177 - σ 0 0 + 16) ∧ (∀ f g, 0 ≤ f → f < 6 → 0 ≤ g → g < 6 → σ (177 - σ 0 0 + 2) f = σ (177 - σ 0 0 + 2) g → f = g)) ∧ (σ 2 0 = τ 0 6 ∧ (0 ≤ σ 2 0 ∧ σ 2 0 ≤ 1400) ∧ ∀ j, 0 ≤ j → j < σ 2 0 → σ 3 j = τ 4 j) ∧ σ 0 7 = τ 0 14 ∧ (σ 77 0 = 4 ∧ σ 80 0 = 6 ∧ σ 108 0 = 4 ∧ σ 111 0 = 6) ∧ ∀ j, 0 ≤ j → j < σ 2 0 → -128 ≤ σ 3 j ∧ σ 3 j < 128
def TV (σ τ : zSt) (m : Int) (D V : zD) (n : Nat) (C : Nat → chg) (H : Nat → zD) : Prop := XA σ D ∧ Rp σ (σ 0 0) V ∧ Vis V D ∧ NV V ∧ JR σ n C ∧ τ 1 = D ∧ HR τ n H ∧ UC n V C H ∧ σ 0 8 ≤ m ∧ TR σ τ
def TW (σ τ : zSt) (m : Int) : Prop := ∃ (D V : zD) (n : Nat) (C : Nat → chg) (H : Nat → zD), TV σ τ m D V n C H
theorem TR.fr {σ τ σ' τ' : zSt} (h : TR σ τ) (e0 : σ' 0 0 = σ 0 0) (e7 : σ' 0 7 = σ 0 7) (g : ∀ a b, (1 ≤ a ∧ a ≤ 3) ∨ a = 177 - σ 0 0 + 2 ∨ (b = 0 ∧ (a = 77 ∨ a = 80 ∨ a = 108 ∨ a = 111)) → σ' a b = σ a b) (g4 : ∀ b, τ' 4 b = τ 4 b) (g6 : τ' 0 6 = τ 0 6) (g14 : τ' 0 14 = τ 0 14) : TR σ' τ' := by
  obtain ⟨⟨a1, a2, a3⟩, ⟨b1, b2, b3⟩, c, ⟨c1, c2, c3, c4⟩, c5⟩ := h
  have k : ∀ f, σ' (177 - σ 0 0 + 2) f = σ (177 - σ 0 0 + 2) f := fun f => g _ f (Or.inr (Or.inl rfl))
  have k2 : σ' 2 0 = σ 2 0 := g 2 0 (by omega)
  refine ⟨⟨?_, fun f f0 f1 => ?_, fun f x f0 f1 x0 x1 e => ?_⟩, ⟨?_, ?_, fun j j0 j1 => ?_⟩, ?_, ⟨(g _ _ (by omega)).trans c1, (g _ _ (by omega)).trans c2, (g _ _ (by omega)).trans c3, (g _ _ (by omega)).trans c4⟩, fun j j0 j1 => by rw [k2] at j1; rw [g 3 j (by omega)]; exact c5 j j0 j1⟩
  · rw [g 1 1 (by omega), e0]; exact a1
  · rw [e0, k]; exact a2 f f0 f1
  · rw [e0, k, k] at e; exact a3 f x f0 f1 x0 x1 e
  · rw [k2, g6]; exact b1
  · rw [k2]; exact b2
  · rw [k2] at j1
    rw [g 3 j (by omega), g4]; exact b3 j j0 j1
  · rw [e7, g14]; exact c
section CM
variable {σ τ : zSt} {m : Int} {D V : zD} {n : Nat} {C : Nat → chg} {H : Nat → zD}
theorem TV.fr {σ' τ' : zSt} (w : TV σ τ m D V n C H) (u : frm pQ σ σ') (x : XA σ' D) (v : frm pMq τ τ') : TW σ' τ' (m + 1) := by
  obtain ⟨h1, h2, h3, h4, h5, h6, h7, h8, h9, h10⟩ := w
  have hb := h3.vb h1.1.1.1
  have s := h2.1.1
  have e0 : σ' 0 0 = σ 0 0 := u 0 0 (by omega)
  refine ⟨D, V, n, C, H, x, ?_, h3, h4, h5.fr (fun a b a0 a1 => u a b (by omega)), v.D h6 (fun b => by omega), h7.fr (fun b => v 3 b (by omega)) (v 0 3 (by omega)) (fun i _ => v 1 i (by omega)), h8, ?_, h10.fr e0 (u 0 7 (by omega)) (fun a b z => u a b (by omega)) (fun b => v 4 b (by omega)) (v 0 6 (by omega)) (v 0 14 (by omega))⟩
  · rw [e0]; exact h2.mv hb (fun a b a0 a1 => u a b (by omega))
  · rw [u 0 8 (by omega)]; omega
abbrev cE (m : Int) (fm : (Int → zSt → Prop) → Prop) : Int → zSt → Prop := fun v υ => fm (fun w τ' => τ' 0 4 = 0 ∧ w = v ∧ TW υ τ' m)
abbrev cX (m : Int) (fm : (Int → zSt → Prop) → Prop) : String → zSt → Prop := fun E υ => E = eIO ∧ fm (fun _ τ' => τ' 0 4 = 1 ∧ TW υ τ' m)
abbrev cX2 (m : Int) (fm : (Int → zSt → Prop) → Prop) : String → zSt → Prop := fun E υ => (E = eIO ∧ fm (fun _ τ' => τ' 0 4 = 1 ∧ TW υ τ' m)) ∨ (E = eIS ∧ fm (fun _ τ' => τ' 0 4 = 2 ∧ TW υ τ' m))
abbrev cP (m : Int) (fm : (Int → zSt → Prop) → Prop) : Int → zSt → Prop := fun v υ => fm (fun w τ' => w = v ∧ TW υ τ' m)
theorem tQ (w : TV σ τ m D V n C H) (A : Int × Int) {fm : (Int → zSt → Prop) → Prop} (hA : A.1 ≠ 2) (hf : ∀ K, rK K τ A → fm K) : xK (cE (m + 1) fm) (cX (m + 1) fm) σ D A :=
  ⟨fun _ u x c => hf _ (fun _ _ v e q => ⟨e.trans c, q c, w.fr u x v⟩), fun _ u x c => ⟨rfl, hf _ (fun _ _ v e _ => ⟨e.trans c, w.fr u x v⟩)⟩, fun _ _ _ c => absurd c hA⟩
theorem tQ2 (w : TV σ τ m D V n C H) (A : Int × Int) {fm : (Int → zSt → Prop) → Prop} (hf : ∀ K, rK K τ A → fm K) : xK (cE (m + 1) fm) (cX2 (m + 1) fm) σ D A :=
  ⟨fun _ u x c => hf _ (fun _ _ v e q => ⟨e.trans c, q c, w.fr u x v⟩), fun _ u x c => Or.inl ⟨rfl, hf _ (fun _ _ v e _ => ⟨e.trans c, w.fr u x v⟩)⟩, fun _ u x c => Or.inr ⟨rfl, hf _ (fun _ _ v e _ => ⟨e.trans c, w.fr u x v⟩)⟩⟩
theorem tP (w : TV σ τ m D V n C H) {A : Int} {fm : (Int → zSt → Prop) → Prop} (hf : ∀ K : Int → zSt → Prop, (∀ τ', frm pMq τ τ' → K A τ') → fm K) : cP (m + 1) fm A σ :=
  hf _ (fun _ v => ⟨rfl, w.fr frm.rf w.1 v⟩)
theorem iA {c : Prop} [Decidable c] {a : Int} : (if c then ((0 : Int), a) else (1, 0)).1 ≠ 2 := by
  by_cases h : c
  · rw [if_pos h]; exact (by decide : (0 : Int) ≠ 2)
  · rw [if_neg h]; exact (by decide : (1 : Int) ≠ 2)
theorem TV.wf (w : TV σ τ m D V n C H) : WF D := w.1.1.1.1
theorem TV.d (w : TV σ τ m D V n C H) : τ 1 = D := w.2.2.2.2.2.1
theorem cmd_frameDay {a1 : Int} (h : TW σ τ m) (ha1 : zrg a1) : fX11_frameDay (cE (m + 1) (fun K => fX12_frameDay K τ a1)) (cX (m + 1) (fun K => fX12_frameDay K τ a1)) σ a1 := by
  obtain ⟨D, V, n, C, H, w⟩ := h
  exact rX_frameDay w.1 ha1 (tQ w (A_frameDay D a1) iA (fun K hK => rM_frameDay w.d w.wf ha1 hK))
theorem cmd_pixel {a1 a2 a3 : Int} (h : TW σ τ m) (ha1 : zrg a1) (ha2 : zrg a2) (ha3 : zrg a3) : fX11_pixel (cE (m + 1) (fun K => fX12_pixel K τ a1 a2 a3)) (cX (m + 1) (fun K => fX12_pixel K τ a1 a2 a3)) σ a1 a2 a3 := by
  obtain ⟨D, V, n, C, H, w⟩ := h
  exact rX_pixel w.1 ha1 ha2 ha3 (tQ w (A_pixel D a1 a2 a3) iA (fun K hK => rM_pixel w.d w.wf ha1 ha2 ha3 hK))
theorem cmd_contrast {a1 : Int} (h : TW σ τ m) (ha1 : zrg a1) : fX11_contrast (cE (m + 1) (fun K => fX12_contrast K τ a1)) (cX (m + 1) (fun K => fX12_contrast K τ a1)) σ a1 := by
  obtain ⟨D, V, n, C, H, w⟩ := h
  exact rX_contrast w.1 ha1 (tQ w (A_contrast D a1) iA (fun K hK => rM_contrast w.d w.wf ha1 hK))
theorem cmd_isUsable {a1 : Int} (h : TW σ τ m) (ha1 : zrg a1) : fX11_isUsable (cE (m + 1) (fun K => fX12_isUsable K τ a1)) (cX (m + 1) (fun K => fX12_isUsable K τ a1)) σ a1 := by
  obtain ⟨D, V, n, C, H, w⟩ := h
  exact rX_isUsable w.1 ha1 (tQ w (A_isUsable D a1) iA (fun K hK => rM_isUsable w.d w.wf ha1 hK))
theorem cmd_isOriented {a1 : Int} (h : TW σ τ m) (ha1 : zrg a1) : fX11_isOriented (cE (m + 1) (fun K => fX12_isOriented K τ a1)) (cX (m + 1) (fun K => fX12_isOriented K τ a1)) σ a1 := by
  obtain ⟨D, V, n, C, H, w⟩ := h
  exact rX_isOriented w.1 ha1 (tQ w (A_isOriented D a1) iA (fun K hK => rM_isOriented w.d w.wf ha1 hK))
theorem cmd_shiftX {a1 : Int} (h : TW σ τ m) (ha1 : zrg a1) : fX11_shiftX (cE (m + 1) (fun K => fX12_shiftX K τ a1)) (cX2 (m + 1) (fun K => fX12_shiftX K τ a1)) σ a1 := by
  obtain ⟨D, V, n, C, H, w⟩ := h
  exact rX_shiftX w.1 ha1 (tQ2 w (A_shiftX D a1) (fun K hK => rM_shiftX w.d w.wf ha1 hK))
theorem cmd_shiftY {a1 : Int} (h : TW σ τ m) (ha1 : zrg a1) : fX11_shiftY (cE (m + 1) (fun K => fX12_shiftY K τ a1)) (cX2 (m + 1) (fun K => fX12_shiftY K τ a1)) σ a1 := by
  obtain ⟨D, V, n, C, H, w⟩ := h
  exact rX_shiftY w.1 ha1 (tQ2 w (A_shiftY D a1) (fun K hK => rM_shiftY w.d w.wf ha1 hK))
theorem cmd_shiftError {a1 : Int} (h : TW σ τ m) (ha1 : zrg a1) : fX11_shiftError (cE (m + 1) (fun K => fX12_shiftError K τ a1)) (cX (m + 1) (fun K => fX12_shiftError K τ a1)) σ a1 := by
  obtain ⟨D, V, n, C, H, w⟩ := h
  exact rX_shiftError w.1 ha1 (tQ w (A_shiftError D a1) iA (fun K hK => rM_shiftError w.d w.wf ha1 hK))
theorem cmd_match {a1 a2 a3 a4 : Int} (h : TW σ τ m) (ha1 : zrg a1) (ha2 : zrg a2) (ha3 : zrg a3) (ha4 : zrg a4) : fX11_match (cE (m + 1) (fun K => fX12_match K τ a1 a2 a3 a4)) (cX (m + 1) (fun K => fX12_match K τ a1 a2 a3 a4)) σ a1 a2 a3 a4 := by
  obtain ⟨D, V, n, C, H, w⟩ := h
  exact rX_match w.1 ha1 ha2 ha3 ha4 (tQ w (A_match D a1 a2 a3 a4) iA (fun K hK => rM_match w.d w.wf ha1 ha2 ha3 ha4 hK))
theorem cmd_matchError {a1 a2 a3 a4 : Int} (h : TW σ τ m) (ha1 : zrg a1) (ha2 : zrg a2) (ha3 : zrg a3) (ha4 : zrg a4) : fX11_matchError (cE (m + 1) (fun K => fX12_matchError K τ a1 a2 a3 a4)) (cX (m + 1) (fun K => fX12_matchError K τ a1 a2 a3 a4)) σ a1 a2 a3 a4 := by
  obtain ⟨D, V, n, C, H, w⟩ := h
  exact rX_matchError w.1 ha1 ha2 ha3 ha4 (tQ w (A_matchError D a1 a2 a3 a4) iA (fun K hK => rM_matchError w.d w.wf ha1 ha2 ha3 ha4 hK))
theorem cmd_matchMargin {a1 a2 a3 a4 : Int} (h : TW σ τ m) (ha1 : zrg a1) (ha2 : zrg a2) (ha3 : zrg a3) (ha4 : zrg a4) : fX11_matchMargin (cE (m + 1) (fun K => fX12_matchMargin K τ a1 a2 a3 a4)) (cX (m + 1) (fun K => fX12_matchMargin K τ a1 a2 a3 a4)) σ a1 a2 a3 a4 := by
  obtain ⟨D, V, n, C, H, w⟩ := h
  exact rX_matchMargin w.1 ha1 ha2 ha3 ha4 (tQ w (A_matchMargin D a1 a2 a3 a4) iA (fun K hK => rM_matchMargin w.d w.wf ha1 ha2 ha3 ha4 hK))
theorem cmd_trackX {a1 a2 : Int} (h : TW σ τ m) (ha1 : zrg a1) (ha2 : zrg a2) : fX11_trackX (cE (m + 1) (fun K => fX12_trackX K τ a1 a2)) (cX (m + 1) (fun K => fX12_trackX K τ a1 a2)) σ a1 a2 := by
  obtain ⟨D, V, n, C, H, w⟩ := h
  exact rX_trackX w.1 ha1 ha2 (tQ w (A_trackX D a1 a2) iA (fun K hK => rM_trackX w.d w.wf ha1 ha2 hK))
theorem cmd_trackY {a1 a2 : Int} (h : TW σ τ m) (ha1 : zrg a1) (ha2 : zrg a2) : fX11_trackY (cE (m + 1) (fun K => fX12_trackY K τ a1 a2)) (cX (m + 1) (fun K => fX12_trackY K τ a1 a2)) σ a1 a2 := by
  obtain ⟨D, V, n, C, H, w⟩ := h
  exact rX_trackY w.1 ha1 ha2 (tQ w (A_trackY D a1 a2) iA (fun K hK => rM_trackY w.d w.wf ha1 ha2 hK))
theorem cmd_lostCount {a1 : Int} (h : TW σ τ m) (ha1 : zrg a1) : fX11_lostCount (cE (m + 1) (fun K => fX12_lostCount K τ a1)) (cX (m + 1) (fun K => fX12_lostCount K τ a1)) σ a1 := by
  obtain ⟨D, V, n, C, H, w⟩ := h
  exact rX_lostCount w.1 ha1 (tQ w (A_lostCount D a1) iA (fun K hK => rM_lostCount w.d w.wf ha1 hK))
theorem cmd_loopError {a1 a2 a3 : Int} (h : TW σ τ m) (ha1 : zrg a1) (ha2 : zrg a2) (ha3 : zrg a3) : fX11_loopError (cE (m + 1) (fun K => fX12_loopError K τ a1 a2 a3)) (cX (m + 1) (fun K => fX12_loopError K τ a1 a2 a3)) σ a1 a2 a3 := by
  obtain ⟨D, V, n, C, H, w⟩ := h
  exact rX_loopError w.1 ha1 ha2 ha3 (tQ w (A_loopError D a1 a2 a3) iA (fun K hK => rM_loopError w.d w.wf ha1 ha2 ha3 hK))
theorem cmd_closedLoops {a1 : Int} (h : TW σ τ m) (ha1 : zrg a1) : fX11_closedLoops (cE (m + 1) (fun K => fX12_closedLoops K τ a1)) (cX (m + 1) (fun K => fX12_closedLoops K τ a1)) σ a1 := by
  obtain ⟨D, V, n, C, H, w⟩ := h
  exact rX_closedLoops w.1 ha1 (tQ w (A_closedLoops D a1) iA (fun K hK => rM_closedLoops w.d w.wf ha1 hK))
theorem cmd_leastTolerance {a1 : Int} (h : TW σ τ m) (ha1 : zrg a1) : fX11_leastTolerance (cE (m + 1) (fun K => fX12_leastTolerance K τ a1)) (cX (m + 1) (fun K => fX12_leastTolerance K τ a1)) σ a1 := by
  obtain ⟨D, V, n, C, H, w⟩ := h
  exact rX_leastTolerance w.1 ha1 (tQ w (A_leastTolerance D a1) iA (fun K hK => rM_leastTolerance w.d w.wf ha1 hK))
theorem cmd_segmentCount {a1 : Int} (h : TW σ τ m) (ha1 : zrg a1) : fX11_segmentCount (cE (m + 1) (fun K => fX12_segmentCount K τ a1)) (cX (m + 1) (fun K => fX12_segmentCount K τ a1)) σ a1 := by
  obtain ⟨D, V, n, C, H, w⟩ := h
  exact rX_segmentCount w.1 ha1 (tQ w (A_segmentCount D a1) iA (fun K hK => rM_segmentCount w.d w.wf ha1 hK))
theorem cmd_speed {a1 a2 : Int} (h : TW σ τ m) (ha1 : zrg a1) (ha2 : zrg a2) : fX11_speed (cE (m + 1) (fun K => fX12_speed K τ a1 a2)) (cX (m + 1) (fun K => fX12_speed K τ a1 a2)) σ a1 a2 := by
  obtain ⟨D, V, n, C, H, w⟩ := h
  exact rX_speed w.1 ha1 ha2 (tQ w (A_speed D a1 a2) iA (fun K hK => rM_speed w.d w.wf ha1 ha2 hK))
theorem cmd_meanSpeed {a1 : Int} (h : TW σ τ m) (ha1 : zrg a1) : fX11_meanSpeed (cE (m + 1) (fun K => fX12_meanSpeed K τ a1)) (cX (m + 1) (fun K => fX12_meanSpeed K τ a1)) σ a1 := by
  obtain ⟨D, V, n, C, H, w⟩ := h
  exact rX_meanSpeed w.1 ha1 (tQ w (A_meanSpeed D a1) iA (fun K hK => rM_meanSpeed w.d w.wf ha1 hK))
theorem cmd_meanSpeedWithScale {a1 a2 : Int} (h : TW σ τ m) (ha1 : zrg a1) (ha2 : zrg a2) : fX11_meanSpeedWithScale (cE (m + 1) (fun K => fX12_meanSpeedWithScale K τ a1 a2)) (cX (m + 1) (fun K => fX12_meanSpeedWithScale K τ a1 a2)) σ a1 a2 := by
  obtain ⟨D, V, n, C, H, w⟩ := h
  exact rX_meanSpeedWithScale w.1 ha1 ha2 (tQ w (A_meanSpeedWithScale D a1 a2) iA (fun K hK => rM_meanSpeedWithScale w.d w.wf ha1 ha2 hK))
theorem cmd_surgeCount {a1 : Int} (h : TW σ τ m) (ha1 : zrg a1) : fX11_surgeCount (cE (m + 1) (fun K => fX12_surgeCount K τ a1)) (cX (m + 1) (fun K => fX12_surgeCount K τ a1)) σ a1 := by
  obtain ⟨D, V, n, C, H, w⟩ := h
  exact rX_surgeCount w.1 ha1 (tQ w (A_surgeCount D a1) iA (fun K hK => rM_surgeCount w.d w.wf ha1 hK))
theorem cmd_surgeStart {a1 a2 : Int} (h : TW σ τ m) (ha1 : zrg a1) (ha2 : zrg a2) : fX11_surgeStart (cE (m + 1) (fun K => fX12_surgeStart K τ a1 a2)) (cX (m + 1) (fun K => fX12_surgeStart K τ a1 a2)) σ a1 a2 := by
  obtain ⟨D, V, n, C, H, w⟩ := h
  exact rX_surgeStart w.1 ha1 ha2 (tQ w (A_surgeStart D a1 a2) iA (fun K hK => rM_surgeStart w.d w.wf ha1 ha2 hK))
theorem cmd_surgeDays {a1 a2 : Int} (h : TW σ τ m) (ha1 : zrg a1) (ha2 : zrg a2) : fX11_surgeDays (cE (m + 1) (fun K => fX12_surgeDays K τ a1 a2)) (cX (m + 1) (fun K => fX12_surgeDays K τ a1 a2)) σ a1 a2 := by
  obtain ⟨D, V, n, C, H, w⟩ := h
  exact rX_surgeDays w.1 ha1 ha2 (tQ w (A_surgeDays D a1 a2) iA (fun K hK => rM_surgeDays w.d w.wf ha1 ha2 hK))
theorem cmd_positionX {a1 a2 : Int} (h : TW σ τ m) (ha1 : zrg a1) (ha2 : zrg a2) : fX11_positionX (cE (m + 1) (fun K => fX12_positionX K τ a1 a2)) (cX (m + 1) (fun K => fX12_positionX K τ a1 a2)) σ a1 a2 := by
  obtain ⟨D, V, n, C, H, w⟩ := h
  exact rX_positionX w.1 ha1 ha2 (tQ w (A_positionX D a1 a2) iA (fun K hK => rM_positionX w.d w.wf ha1 ha2 hK))
theorem cmd_positionY {a1 a2 : Int} (h : TW σ τ m) (ha1 : zrg a1) (ha2 : zrg a2) : fX11_positionY (cE (m + 1) (fun K => fX12_positionY K τ a1 a2)) (cX (m + 1) (fun K => fX12_positionY K τ a1 a2)) σ a1 a2 := by
  obtain ⟨D, V, n, C, H, w⟩ := h
  exact rX_positionY w.1 ha1 ha2 (tQ w (A_positionY D a1 a2) iA (fun K hK => rM_positionY w.d w.wf ha1 ha2 hK))
theorem cmd_readingCount {a1 : Int} (h : TW σ τ m) (ha1 : zrg a1) : fX11_readingCount (cE (m + 1) (fun K => fX12_readingCount K τ a1)) (cX (m + 1) (fun K => fX12_readingCount K τ a1)) σ a1 := by
  obtain ⟨D, V, n, C, H, w⟩ := h
  exact rX_readingCount w.1 ha1 (tQ w (A_readingCount D a1) iA (fun K hK => rM_readingCount w.d w.wf ha1 hK))
theorem cmd_readingDay {a1 a2 : Int} (h : TW σ τ m) (ha1 : zrg a1) (ha2 : zrg a2) : fX11_readingDay (cE (m + 1) (fun K => fX12_readingDay K τ a1 a2)) (cX (m + 1) (fun K => fX12_readingDay K τ a1 a2)) σ a1 a2 := by
  obtain ⟨D, V, n, C, H, w⟩ := h
  exact rX_readingDay w.1 ha1 ha2 (tQ w (A_readingDay D a1 a2) iA (fun K hK => rM_readingDay w.d w.wf ha1 ha2 hK))
theorem cmd_readingLength {a1 a2 : Int} (h : TW σ τ m) (ha1 : zrg a1) (ha2 : zrg a2) : fX11_readingLength (cE (m + 1) (fun K => fX12_readingLength K τ a1 a2)) (cX (m + 1) (fun K => fX12_readingLength K τ a1 a2)) σ a1 a2 := by
  obtain ⟨D, V, n, C, H, w⟩ := h
  exact rX_readingLength w.1 ha1 ha2 (tQ w (A_readingLength D a1 a2) iA (fun K hK => rM_readingLength w.d w.wf ha1 ha2 hK))
theorem cmd_drillCount {a1 : Int} (h : TW σ τ m) (ha1 : zrg a1) : fX11_drillCount (cE (m + 1) (fun K => fX12_drillCount K τ a1)) (cX (m + 1) (fun K => fX12_drillCount K τ a1)) σ a1 := by
  obtain ⟨D, V, n, C, H, w⟩ := h
  exact rX_drillCount w.1 ha1 (tQ w (A_drillCount D a1) iA (fun K hK => rM_drillCount w.d w.wf ha1 hK))
theorem cmd_meltTo {a1 a2 : Int} (h : TW σ τ m) (ha1 : zrg a1) (ha2 : zrg a2) : fX11_meltTo (cE (m + 1) (fun K => fX12_meltTo K τ a1 a2)) (cX (m + 1) (fun K => fX12_meltTo K τ a1 a2)) σ a1 a2 := by
  obtain ⟨D, V, n, C, H, w⟩ := h
  exact rX_meltTo w.1 ha1 ha2 (tQ w (A_meltTo D a1 a2) iA (fun K hK => rM_meltTo w.d w.wf ha1 ha2 hK))
theorem cmd_melt {a1 a2 a3 : Int} (h : TW σ τ m) (ha1 : zrg a1) (ha2 : zrg a2) (ha3 : zrg a3) : fX11_melt (cE (m + 1) (fun K => fX12_melt K τ a1 a2 a3)) (cX (m + 1) (fun K => fX12_melt K τ a1 a2 a3)) σ a1 a2 a3 := by
  obtain ⟨D, V, n, C, H, w⟩ := h
  exact rX_melt w.1 ha1 ha2 ha3 (tQ w (A_melt D a1 a2 a3) iA (fun K hK => rM_melt w.d w.wf ha1 ha2 ha3 hK))
theorem cmd_warmestInterval {a1 : Int} (h : TW σ τ m) (ha1 : zrg a1) : fX11_warmestInterval (cE (m + 1) (fun K => fX12_warmestInterval K τ a1)) (cX (m + 1) (fun K => fX12_warmestInterval K τ a1)) σ a1 := by
  obtain ⟨D, V, n, C, H, w⟩ := h
  exact rX_warmestInterval w.1 ha1 (tQ w (A_warmestInterval D a1) iA (fun K hK => rM_warmestInterval w.d w.wf ha1 hK))
theorem cmd_registered {a1 a2 a3 : Int} (h : TW σ τ m) (ha1 : zrg a1) (ha2 : zrg a2) (ha3 : zrg a3) : fX11_registered (cE (m + 1) (fun K => fX12_registered K τ a1 a2 a3)) (cX (m + 1) (fun K => fX12_registered K τ a1 a2 a3)) σ a1 a2 a3 := by
  obtain ⟨D, V, n, C, H, w⟩ := h
  exact rX_registered w.1 ha1 ha2 ha3 (tQ w (A_registered D a1 a2 a3) iA (fun K hK => rM_registered w.d w.wf ha1 ha2 ha3 hK))
theorem cmd_changedPixels {a1 a2 a3 : Int} (h : TW σ τ m) (ha1 : zrg a1) (ha2 : zrg a2) (ha3 : zrg a3) : fX11_changedPixels (cE (m + 1) (fun K => fX12_changedPixels K τ a1 a2 a3)) (cX (m + 1) (fun K => fX12_changedPixels K τ a1 a2 a3)) σ a1 a2 a3 := by
  obtain ⟨D, V, n, C, H, w⟩ := h
  exact rX_changedPixels w.1 ha1 ha2 ha3 (tQ w (A_changedPixels D a1 a2 a3) iA (fun K hK => rM_changedPixels w.d w.wf ha1 ha2 ha3 hK))
theorem cmd_snowLine {a1 a2 : Int} (h : TW σ τ m) (ha1 : zrg a1) (ha2 : zrg a2) : fX11_snowLine (cE (m + 1) (fun K => fX12_snowLine K τ a1 a2)) (cX (m + 1) (fun K => fX12_snowLine K τ a1 a2)) σ a1 a2 := by
  obtain ⟨D, V, n, C, H, w⟩ := h
  exact rX_snowLine w.1 ha1 ha2 (tQ w (A_snowLine D a1 a2) iA (fun K hK => rM_snowLine w.d w.wf ha1 ha2 hK))
theorem cmd_strain {a1 a2 : Int} (h : TW σ τ m) (ha1 : zrg a1) (ha2 : zrg a2) : fX11_strain (cE (m + 1) (fun K => fX12_strain K τ a1 a2)) (cX (m + 1) (fun K => fX12_strain K τ a1 a2)) σ a1 a2 := by
  obtain ⟨D, V, n, C, H, w⟩ := h
  exact rX_strain w.1 ha1 ha2 (tQ w (A_strain D a1 a2) iA (fun K hK => rM_strain w.d w.wf ha1 ha2 hK))
theorem cmd_direction {a1 : Int} (h : TW σ τ m) (ha1 : zrg a1) : fX11_direction (cE (m + 1) (fun K => fX12_direction K τ a1)) (cX (m + 1) (fun K => fX12_direction K τ a1)) σ a1 := by
  obtain ⟨D, V, n, C, H, w⟩ := h
  exact rX_direction w.1 ha1 (tQ w (A_direction D a1) iA (fun K hK => rM_direction w.d w.wf ha1 hK))
theorem cmd_meltInSegment {a1 a2 : Int} (h : TW σ τ m) (ha1 : zrg a1) (ha2 : zrg a2) : fX11_meltInSegment (cE (m + 1) (fun K => fX12_meltInSegment K τ a1 a2)) (cX (m + 1) (fun K => fX12_meltInSegment K τ a1 a2)) σ a1 a2 := by
  obtain ⟨D, V, n, C, H, w⟩ := h
  exact rX_meltInSegment w.1 ha1 ha2 (tQ w (A_meltInSegment D a1 a2) iA (fun K hK => rM_meltInSegment w.d w.wf ha1 ha2 hK))
theorem cmd_width  (h : TW σ τ m)  : fX11_width (cP (m + 1) (fun K => fX12_width K τ )) σ  := by
  obtain ⟨D, V, n, C, H, w⟩ := h
  exact rX_width w.1  (tP w (fun K hK => rM_width w.d   hK))
theorem cmd_height  (h : TW σ τ m)  : fX11_height (cP (m + 1) (fun K => fX12_height K τ )) σ  := by
  obtain ⟨D, V, n, C, H, w⟩ := h
  exact rX_height w.1  (tP w (fun K hK => rM_height w.d   hK))
theorem cmd_frameCount  (h : TW σ τ m)  : fX11_frameCount (cP (m + 1) (fun K => fX12_frameCount K τ )) σ  := by
  obtain ⟨D, V, n, C, H, w⟩ := h
  exact rX_frameCount w.1  (tP w (fun K hK => rM_frameCount w.d   hK))
theorem cmd_controlCount  (h : TW σ τ m)  : fX11_controlCount (cP (m + 1) (fun K => fX12_controlCount K τ )) σ  := by
  obtain ⟨D, V, n, C, H, w⟩ := h
  exact rX_controlCount w.1  (tP w (fun K hK => rM_controlCount w.d   hK))
theorem cmd_featureCount  (h : TW σ τ m)  : fX11_featureCount (cP (m + 1) (fun K => fX12_featureCount K τ )) σ  := by
  obtain ⟨D, V, n, C, H, w⟩ := h
  exact rX_featureCount w.1  (tP w (fun K hK => rM_featureCount w.d   hK))
theorem cmd_stakeCount  (h : TW σ τ m)  : fX11_stakeCount (cP (m + 1) (fun K => fX12_stakeCount K τ )) σ  := by
  obtain ⟨D, V, n, C, H, w⟩ := h
  exact rX_stakeCount w.1  (tP w (fun K hK => rM_stakeCount w.d   hK))
theorem cmd_getSetting {a1 : Int} (h : TW σ τ m) (ha1 : zrg a1) : fX11_getSetting (cP (m + 1) (fun K => fX12_getSetting K τ a1)) σ a1 := by
  obtain ⟨D, V, n, C, H, w⟩ := h
  exact rX_getSetting w.1 ha1 (tP w (fun K hK => rM_getSetting w.d  ha1 hK))
theorem cmd_referenceFrame  (h : TW σ τ m)  : fX11_referenceFrame (cP (m + 1) (fun K => fX12_referenceFrame K τ )) σ  := by
  obtain ⟨D, V, n, C, H, w⟩ := h
  exact rX_referenceFrame w.1  (tP w (fun K hK => rM_referenceFrame w.d w.wf  hK))
theorem cmd_gapCount  (h : TW σ τ m)  : fX11_gapCount (cP (m + 1) (fun K => fX12_gapCount K τ )) σ  := by
  obtain ⟨D, V, n, C, H, w⟩ := h
  exact rX_gapCount w.1  (tP w (fun K hK => rM_gapCount w.d w.wf  hK))
theorem cmd_gapStart {a1 : Int} (h : TW σ τ m) (ha1 : zrg a1) : fX11_gapStart (cP (m + 1) (fun K => fX12_gapStart K τ a1)) σ a1 := by
  obtain ⟨D, V, n, C, H, w⟩ := h
  exact rX_gapStart w.1 ha1 (tP w (fun K hK => rM_gapStart w.d w.wf ha1 hK))
theorem cmd_gapDays {a1 : Int} (h : TW σ τ m) (ha1 : zrg a1) : fX11_gapDays (cP (m + 1) (fun K => fX12_gapDays K τ a1)) σ a1 := by
  obtain ⟨D, V, n, C, H, w⟩ := h
  exact rX_gapDays w.1 ha1 (tP w (fun K hK => rM_gapDays w.d w.wf ha1 hK))
theorem cmd_longestGap  (h : TW σ τ m)  : fX11_longestGap (cP (m + 1) (fun K => fX12_longestGap K τ )) σ  := by
  obtain ⟨D, V, n, C, H, w⟩ := h
  exact rX_longestGap w.1  (tP w (fun K hK => rM_longestGap w.d w.wf  hK))
theorem cmd_meanMelt {a1 a2 : Int} (h : TW σ τ m) (ha1 : zrg a1) (ha2 : zrg a2) : fX11_meanMelt (cP (m + 1) (fun K => fX12_meanMelt K τ a1 a2)) σ a1 a2 := by
  obtain ⟨D, V, n, C, H, w⟩ := h
  exact rX_meanMelt w.1 ha1 ha2 (tP w (fun K hK => rM_meanMelt w.d w.wf ha1 ha2 hK))
theorem cmd_fastestFeature (h : TW σ τ m) : fX11_fastestFeature (cP (m + 1) (fun K => fX12_fastestFeature K τ)) σ := by
  obtain ⟨D, V, n, C, H, w⟩ := h
  exact rX_fastestFeature w.1 (fun υ u x => rM_fastestFeature w.d w.wf (fun τ' v => ⟨rfl, w.fr u x v⟩))
theorem cmd_undoCount (h : TW σ τ m) : fX11_undoCount (cP (m + 1) (fun K => fX12_undoCount K τ)) σ := by
  obtain ⟨D, V, n, C, H, w⟩ := h
  exact rX_undoCount w.2.2.2.2.1 (rM_undoCount w.2.2.2.2.2.2.1 (fun τ' v => ⟨rfl, w.fr frm.rf w.1 (p4_q v)⟩))
theorem cmd_errorPosition (h : TW σ τ m) : fX11_errorPosition (cP (m + 1) (fun K => fX12_errorPosition K τ)) σ := by
  obtain ⟨D, V, n, C, H, w⟩ := h
  intro τ1 e1
  refine ⟨?_, w.fr frm.rf w.1 (by rw [e1]; exact frm.wr (P := pMq) (Or.inr ⟨rfl, Or.inl rfl⟩))⟩
  rw [e1, zu_ne (by omega)]
  exact w.2.2.2.2.2.2.2.2.2.2.2.1.symm
end CM
