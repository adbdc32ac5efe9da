/-! both sides together: readings, undo, feed -/
section CO
variable {σ τ : zSt} {m : Int} {D V : zD} {n : Nat} {C : Nat → chg} {H : Nat → zD}
theorem cmd_addReading {t day len : Int} (h : TW σ τ m) (hm : m < 99999) (ht : zrg t) (hd : zrg day) (hl : zrg len) : fX11_addReading (cP (m + 1) (fun K => fX12_addReading K τ t day len)) σ t day len := by
  obtain ⟨D, V, n, C, H, w⟩ := h
  have w0 := w
  obtain ⟨h1, h2, h3, h4, h5, h6, h7, h8, h9, h10⟩ := w0
  have hb := h3.vb w.wf
  have no : ∀ a : Int, (∀ K : Int → zSt → Prop, (∀ τ', frm p4 τ τ' → K a τ') → fX12_addReading K τ t day len) → cP (m + 1) (fun K => fX12_addReading K τ t day len) a σ := fun a g => g _ (fun τ' v => ⟨rfl, w.no v⟩)
  refine rX_addReading h1 h2 h3 h5 ht hd hl (fun hs d0 d1 l0 l1 hn y υ u1 u2 u3 u4 => ?_) (fun hs a b c => no _ (fun K g => rM_addReading h6 w.wf h7 ht hd hl (fun _ _ _ _ _ _ y => by omega) (fun _ _ _ _ => g) (fun _ z => (z ⟨a, b⟩).elim) (fun z => (z hs).elim))) (fun hs a => no _ (fun K g => rM_addReading h6 w.wf h7 ht hd hl (fun _ a1 a2 a3 a4 a5 _ => (a ⟨⟨a1, a2, a3, a4⟩, a5⟩).elim) (fun _ a1 a5 _ => (a ⟨a1, a5⟩).elim) (fun _ _ => g) (fun z => (z hs).elim))) (fun a => no _ (fun K g => rM_addReading h6 w.wf h7 ht hd hl (fun hs _ _ _ _ _ _ => (a hs).elim) (fun hs _ _ _ => (a hs).elim) (fun hs _ => (a hs).elim) (fun _ => g)))
  refine rM_addReading h6 w.wf h7 ht hd hl (fun _ _ _ _ _ _ _ τ' v1 v2 v3 => ⟨rfl, ?_⟩) (fun _ _ _ z => by omega) (fun _ z => (z ⟨⟨d0, d1, l0, l1⟩, hn⟩).elim) (fun z => (z hs).elim)
  obtain ⟨a1, a2, a3, a4, a5⟩ := h3.st w.wf hs
  have t3 := isSk3 w.wf hs
  have nb := nS_b w.wf hs
  have hx := ix_ex (V := V) (t := t) (day := day) (by omega) (fun r r0 r1 => a5 r (r + 1) r0 (by omega) r1)
  have ex := ix_eq (t := t) (day := day) h3 w.wf hs
  rw [← ex] at v2
  generalize ix V t day = p at hx v2 u3 ex
  obtain ⟨e1, e2, e3⟩ := v2
  obtain ⟨⟨p0, p1⟩, p2, p3⟩ := hx
  have sD : ∀ r, 0 ≤ r → r < nS D t → dS V t r = dS D t r ∧ lS V t r = lS D t r := fun r r0 r1 => a3 r r0 (by omega)
  refine w.mu hm u1 u2 u3 u4 v1 rfl v3 (Vis_st h3 w.wf hs (fun i hi => rput_o hi) e1 ?_ (fun r r0 r1 => ?_)) (WF_st w.wf hs e1 ?_ (fun r r0 r1 => ?_) (fun r r0 r1 => ?_)) (NV_put hb h4 a1 hb.2.2.2.2.2.1.2 (by omega) ⟨p0, p1⟩) (UC_push h8 h3 w.wf h4 ?_ ⟨(by decide : zrg 4), ht, hd, (by decide : zrg 0), (by decide : zrg 0)⟩ h5.2.1)
  · rw [e2, show nS (rput V t p day len) t = nS V t + 1 from rput_n, a2]
  · rw [e2] at r1
    have k := e3 r r0 (by omega)
    rw [k.1, k.2, rput_d t3 r0 (by omega), rput_l t3 r0 (by omega), rput_d t3 r0 (by omega), rput_l t3 r0 (by omega)]
    by_cases z : r < p
    · rw [if_pos z, if_pos z, if_pos z, if_pos z]; exact sD r r0 (by omega)
    · rw [if_neg z, if_neg z, if_neg z, if_neg z]
      by_cases y : r = p
      · rw [if_pos y, if_pos y, if_pos y, if_pos y]; exact ⟨rfl, rfl⟩
      · rw [if_neg y, if_neg y, if_neg y, if_neg y]; exact sD (r - 1) (by omega) (by omega)
  · rw [e2]; omega
  · rw [e2] at r1
    have k := e3 r r0 (by omega)
    rw [k.1, k.2, rput_d t3 r0 (by omega), rput_l t3 r0 (by omega)]
    by_cases z : r < p
    · rw [if_pos z, if_pos z]; exact rS_b w.wf hs r0 (by omega)
    · rw [if_neg z, if_neg z]
      by_cases y : r = p
      · rw [if_pos y, if_pos y]; omega
      · rw [if_neg y, if_neg y]; exact rS_b w.wf hs (by omega) (by omega)
  · rw [e2] at r1
    rw [(e3 r r0 (by omega)).1, (e3 (r + 1) (by omega) (by omega)).1, rput_d t3 r0 (by omega), rput_d t3 (by omega) (by omega)]
    by_cases z : r + 1 < p
    · rw [if_pos (show r < p by omega), if_pos z]; exact dS_lt2 w.wf hs r0 (by omega) (by omega)
    · rw [if_neg z]
      by_cases y : r + 1 = p
      · rw [if_pos (show r < p by omega), if_pos y, ← (sD r r0 (by omega)).1]; exact p2 r r0 (by omega)
      · rw [if_neg y, if_neg (show ¬ r < p by omega), show r + 1 - 1 = r by omega]
        by_cases x : r = p
        · rw [if_pos x]
          have k := p3 r (by omega) (by omega)
          rw [(sD r r0 (by omega)).1] at k
          have k2 := hn r r0 (by omega)
          omega
        · rw [if_neg x]; exact dS_lt2 w.wf hs (by omega) (by omega) (by omega)
  · have := rv_4 (V := V) (t := t) (day := day) (len := len) a1 hb.2.2.2.2.2.1.2 ⟨by omega, by omega⟩ (by rw [ix_u (p := p) ⟨⟨p0, p1⟩, p2, p3⟩]; exact ⟨⟨p0, p1⟩, p2, p3⟩) h4
    rw [ix_u (p := p) ⟨⟨p0, p1⟩, p2, p3⟩] at this
    exact this
theorem cmd_removeReading {t day : Int} (h : TW σ τ m) (hm : m < 99999) (ht : zrg t) (hd : zrg day) : fX11_removeReading (cP (m + 1) (fun K => fX12_removeReading K τ t day)) σ t day := by
  obtain ⟨D, V, n, C, H, w⟩ := h
  have w0 := w
  obtain ⟨h1, h2, h3, h4, h5, h6, h7, h8, h9, h10⟩ := w0
  have hb := h3.vb w.wf
  refine rX_removeReading h1 h2 h3 h5 ht hd (fun hs p p0 p1 ep υ u1 u2 u3 u4 => ?_) (fun a => rM_removeReading h6 w.wf h7 ht hd (fun hs p p0 p1 e => (a ⟨hs, p, p0, p1, e⟩).elim) (fun _ τ' v => ⟨rfl, w.no v⟩))
  refine rM_removeReading h6 w.wf h7 ht hd (fun _ p' p0' p1' ep' τ' v1 v2 v3 => ⟨rfl, ?_⟩) (fun z => (z ⟨hs, p, p0, p1, ep⟩).elim)
  have epp : p' = p := by
    rcases (show p' < p ∨ p' = p ∨ p < p' by omega) with z | z | z
    · have := dS_lt2 w.wf hs p0' z p1; omega
    · exact z
    · have := dS_lt2 w.wf hs p0 z p1'; omega
  rw [epp] at v2
  obtain ⟨a1, a2, a3, a4, a5⟩ := h3.st w.wf hs
  have t3 := isSk3 w.wf hs
  have nb := nS_b w.wf hs
  obtain ⟨e1, e2, e3⟩ := v2
  have sD : ∀ r, 0 ≤ r → r < nS D t → dS V t r = dS D t r ∧ lS V t r = lS D t r := fun r r0 r1 => a3 r r0 (by omega)
  have np := sD p p0 p1
  refine w.mu hm u1 u2 u3 u4 v1 rfl v3 (Vis_st h3 w.wf hs (fun i hi => rcut_o hi) e1 ?_ (fun r r0 r1 => ?_)) (WF_st w.wf hs e1 ?_ (fun r r0 r1 => ?_) (fun r r0 r1 => ?_)) (NV_cut hb h4 a1 ⟨p0, by omega⟩) (UC_push h8 h3 w.wf h4 ?_ ⟨(by decide : zrg 5), ht, hd, (by decide : zrg 0), ?_⟩ h5.2.1)
  · rw [e2, show nS (rcut V t p) t = nS V t - 1 from rcut_n, a2]
  · rw [e2] at r1
    have k := e3 r r0 (by omega)
    rw [k.1, k.2, rcut_d t3 r0 (by omega), rcut_l t3 r0 (by omega), rcut_d t3 r0 (by omega), rcut_l t3 r0 (by omega)]
    by_cases z : r < p
    · rw [if_pos z, if_pos z, if_pos z, if_pos z]; exact sD r r0 (by omega)
    · rw [if_neg z, if_neg z, if_neg z, if_neg z, if_neg (show ¬ r = 7 by omega), if_neg (show ¬ r = 7 by omega), if_neg (show ¬ r = 7 by omega), if_neg (show ¬ r = 7 by omega)]
      exact sD (r + 1) (by omega) (by omega)
  · rw [e2]; omega
  · rw [e2] at r1
    have k := e3 r r0 (by omega)
    rw [k.1, k.2, rcut_d t3 r0 (by omega), rcut_l t3 r0 (by omega)]
    by_cases z : r < p
    · rw [if_pos z, if_pos z]; exact rS_b w.wf hs r0 (by omega)
    · rw [if_neg z, if_neg z, if_neg (show ¬ r = 7 by omega), if_neg (show ¬ r = 7 by omega)]; exact rS_b w.wf hs (by omega) (by omega)
  · rw [e2] at r1
    rw [(e3 r r0 (by omega)).1, (e3 (r + 1) (by omega) (by omega)).1, rcut_d t3 r0 (by omega), rcut_d t3 (by omega) (by omega)]
    by_cases z : r + 1 < p
    · rw [if_pos (show r < p by omega), if_pos z]; exact dS_lt2 w.wf hs r0 (by omega) (by omega)
    · rw [if_neg z, if_neg (show ¬ r + 1 = 7 by omega)]
      by_cases y : r < p
      · rw [if_pos y]; exact dS_lt2 w.wf hs r0 (by omega) (by omega)
      · rw [if_neg y, if_neg (show ¬ r = 7 by omega)]; exact dS_lt2 w.wf hs (by omega) (by omega) (by omega)
  · exact rv_5 a1 hb.2.2.2.2.2.1.2 (by omega) p0 (by omega) (by rw [np.1]; exact ep) rfl a5
  · show zrg (lS V t p)
    rw [np.2]
    have := (rS_b w.wf hs p0 p1).2
    omega
theorem cmd_undo (h : TW σ τ m) (hm : m < 99999) : fX11_undo (cP (m + 1) (fun K => fX12_undo K τ)) σ := by
  obtain ⟨D, V, n, C, H, w⟩ := h
  have w0 := w
  obtain ⟨h1, h2, h3, h4, h5, h6, h7, h8, h9, h10⟩ := w0
  refine rX_undo h1 h2 h3 h5 h8 (fun k e υ u1 u2 u3 u4 => rM_undo h7 (fun k' e' τ' v1 v2 v3 => ⟨by omega, ?_⟩) (fun z => by omega)) (fun z => rM_undo h7 (fun k e => by omega) (fun _ τ' v => ⟨rfl, w.no v⟩))
  have ek : k' = k := by omega
  subst ek
  subst e
  obtain ⟨⟨a1, a2, a3, a4⟩, b⟩ := h8
  exact w.mu hm u1 u2 u3 u4 (v1.mo (fun a b z => by omega)) v2 v3 a1 a2 a3 b
/-! bytes fed -/
def fd (B : zD) (s x : Int) : zD := vup (vup (vup (vup B s ((x / 2 ^ (24 : Int).toNat).bmod 256)) (s + 1) ((x / 2 ^ (16 : Int).toNat).bmod 256)) (s + 1 + 1) ((x / 2 ^ (8 : Int).toNat).bmod 256)) (s + 1 + 1 + 1) ((x / 2 ^ (0 : Int).toNat).bmod 256)
theorem fd_eq {A B : zD} {s x : Int} (h : ∀ j, 0 ≤ j → j < s → A j = B j) : ∀ j, 0 ≤ j → j < s + 4 → fd A s x j = fd B s x j := fun j j0 j1 => by
  unfold fd
  by_cases z3 : j = s + 1 + 1 + 1
  · rw [z3, vup_eq, vup_eq]
  · rw [vup_ne z3, vup_ne z3]
    by_cases z2 : j = s + 1 + 1
    · rw [z2, vup_eq, vup_eq]
    · rw [vup_ne z2, vup_ne z2]
      by_cases z1 : j = s + 1
      · rw [z1, vup_eq, vup_eq]
      · rw [vup_ne z1, vup_ne z1]
        by_cases z0 : j = s
        · rw [z0, vup_eq, vup_eq]
        · rw [vup_ne z0, vup_ne z0]; exact h j j0 (by omega)
theorem bm_r (x : Int) : -128 ≤ x.bmod 256 ∧ x.bmod 256 < 128 := by
  unfold Int.bmod
  dsimp only
  split <;> omega
theorem fd_r {A : zD} {s x : Int} (h : ∀ j, 0 ≤ j → j < s → -128 ≤ A j ∧ A j < 128) : ∀ j, 0 ≤ j → j < s + 4 → -128 ≤ fd A s x j ∧ fd A s x j < 128 := fun j j0 j1 => by
  unfold fd
  by_cases z3 : j = s + 1 + 1 + 1
  · rw [z3, vup_eq]; exact bm_r _
  · rw [vup_ne z3]
    by_cases z2 : j = s + 1 + 1
    · rw [z2, vup_eq]; exact bm_r _
    · rw [vup_ne z2]
      by_cases z1 : j = s + 1
      · rw [z1, vup_eq]; exact bm_r _
      · rw [vup_ne z1]
        by_cases z0 : j = s
        · rw [z0, vup_eq]; exact bm_r _
        · rw [vup_ne z0]; exact h j j0 (by omega)
theorem zu_c (σ : zSt) (c k v : Int) : zu σ c k v c = vup (σ c) k v := by
  funext i
  unfold vup
  by_cases h : i = k
  · rw [if_pos h, h, zu_eq]
  · rw [if_neg h, zu_ne (Or.inr h)]
theorem zu_d {σ : zSt} {c d k v : Int} (h : d ≠ c) : zu σ c k v d = σ d := by
  funext i
  exact zu_ne (Or.inl h)
theorem sX2_append {K : zSt → Prop} {x : Int} (hx : zrg x) (s0 : 0 ≤ σ 2 0) (s1 : σ 2 0 + 4 ≤ 1400) (hK : ∀ υ, frm (fun a b => a = 3 ∨ (a = 2 ∧ b = 0)) σ υ → υ 2 0 = σ 2 0 + 4 → υ 3 = fd (σ 3) (σ 2 0) x → K υ) : fX2_append K σ x := by
  refine ⟨0 + 1 + 1 + 1 + 1 + 1, ?_⟩
  rw [uX2_append_B3]
  refine ⟨by decide, fun z => absurd z (by decide), fun _ => ⟨by omega, fun z => by omega, fun _ => ⟨hx, by decide, by omega, fun a0 ea0 b0 eb0 => ?_⟩⟩⟩
  have na0 : a0 2 0 = σ 2 0 := by rw [ea0, zu_ne (by omega)]
  have nb0 : b0 2 0 = σ 2 0 + 1 := by rw [eb0, zu_eq, na0]
  have fb0 : b0 3 = vup (σ 3) (σ 2 0) ((x / 2 ^ (24 : Int).toNat).bmod 256) := by rw [eb0, zu_d (by decide), ea0, zu_c]
  rw [uX2_append_B3]
  refine ⟨by decide, fun z => absurd z (by decide), fun _ => ⟨by omega, fun z => by omega, fun _ => ⟨hx, by decide, by omega, fun a1 ea1 b1 eb1 => ?_⟩⟩⟩
  have na1 : a1 2 0 = b0 2 0 := by rw [ea1, zu_ne (by omega)]
  have nb1 : b1 2 0 = b0 2 0 + 1 := by rw [eb1, zu_eq, na1]
  have fb1 : b1 3 = vup (b0 3) (b0 2 0) ((x / 2 ^ (16 : Int).toNat).bmod 256) := by rw [eb1, zu_d (by decide), ea1, zu_c]; rfl
  rw [uX2_append_B3]
  refine ⟨by decide, fun z => absurd z (by decide), fun _ => ⟨by omega, fun z => by omega, fun _ => ⟨hx, by decide, by omega, fun a2 ea2 b2 eb2 => ?_⟩⟩⟩
  have na2 : a2 2 0 = b1 2 0 := by rw [ea2, zu_ne (by omega)]
  have nb2 : b2 2 0 = b1 2 0 + 1 := by rw [eb2, zu_eq, na2]
  have fb2 : b2 3 = vup (b1 3) (b1 2 0) ((x / 2 ^ (8 : Int).toNat).bmod 256) := by rw [eb2, zu_d (by decide), ea2, zu_c]; rfl
  rw [uX2_append_B3]
  refine ⟨by decide, fun z => absurd z (by decide), fun _ => ⟨by omega, fun z => by omega, fun _ => ⟨hx, by decide, by omega, fun a3 ea3 b3 eb3 => ?_⟩⟩⟩
  have na3 : a3 2 0 = b2 2 0 := by rw [ea3, zu_ne (by omega)]
  have nb3 : b3 2 0 = b2 2 0 + 1 := by rw [eb3, zu_eq, na3]
  have fb3 : b3 3 = vup (b2 3) (b2 2 0) ((x / 2 ^ (0 : Int).toNat).bmod 256) := by rw [eb3, zu_d (by decide), ea3, zu_c]; rfl
  rw [uX2_append_B3]
  refine ⟨by decide, fun _ => hK b3 ?_ (by omega) ?_, fun z => absurd (by decide) z⟩
  · rw [eb3, ea3, eb2, ea2, eb1, ea1, eb0, ea0]
    exact ((((((((frm.rf).z (Or.inl rfl)).z (Or.inr ⟨rfl, rfl⟩)).z (Or.inl rfl)).z (Or.inr ⟨rfl, rfl⟩)).z (Or.inl rfl)).z (Or.inr ⟨rfl, rfl⟩)).z (Or.inl rfl)).z (Or.inr ⟨rfl, rfl⟩)
  · rw [fb3, fb2, fb1, fb0, nb2, nb1, nb0]
    rfl
theorem sM_append {K : zSt → Prop} {x : Int} (hx : zrg x) (s0 : 0 ≤ σ 0 6) (s1 : σ 0 6 + 4 ≤ 1400) (hK : ∀ υ, frm (fun a b => a = 4 ∨ (a = 0 ∧ b = 6)) σ υ → υ 0 6 = σ 0 6 + 4 → υ 4 = fd (σ 4) (σ 0 6) x → K υ) : fX12_append K σ x := by
  refine ⟨0 + 1 + 1 + 1 + 1 + 1, ?_⟩
  rw [uX12_append_B3]
  refine ⟨by decide, fun z => absurd z (by decide), fun _ => ⟨hx, by decide, by omega, fun a0 ea0 b0 eb0 => ?_⟩⟩
  have na0 : a0 0 6 = σ 0 6 := by rw [ea0, zu_ne (by omega)]
  have nb0 : b0 0 6 = σ 0 6 + 1 := by rw [eb0, zu_eq, na0]
  have fb0 : b0 4 = vup (σ 4) (σ 0 6) ((x / 2 ^ (24 : Int).toNat).bmod 256) := by rw [eb0, zu_d (by decide), ea0, zu_c]
  rw [uX12_append_B3]
  refine ⟨by decide, fun z => absurd z (by decide), fun _ => ⟨hx, by decide, by omega, fun a1 ea1 b1 eb1 => ?_⟩⟩
  have na1 : a1 0 6 = b0 0 6 := by rw [ea1, zu_ne (by omega)]
  have nb1 : b1 0 6 = b0 0 6 + 1 := by rw [eb1, zu_eq, na1]
  have fb1 : b1 4 = vup (b0 4) (b0 0 6) ((x / 2 ^ (16 : Int).toNat).bmod 256) := by rw [eb1, zu_d (by decide), ea1, zu_c]; rfl
  rw [uX12_append_B3]
  refine ⟨by decide, fun z => absurd z (by decide), fun _ => ⟨hx, by decide, by omega, fun a2 ea2 b2 eb2 => ?_⟩⟩
  have na2 : a2 0 6 = b1 0 6 := by rw [ea2, zu_ne (by omega)]
  have nb2 : b2 0 6 = b1 0 6 + 1 := by rw [eb2, zu_eq, na2]
  have fb2 : b2 4 = vup (b1 4) (b1 0 6) ((x / 2 ^ (8 : Int).toNat).bmod 256) := by rw [eb2, zu_d (by decide), ea2, zu_c]; rfl
  rw [uX12_append_B3]
  refine ⟨by decide, fun z => absurd z (by decide), fun _ => ⟨hx, by decide, by omega, fun a3 ea3 b3 eb3 => ?_⟩⟩
  have na3 : a3 0 6 = b2 0 6 := by rw [ea3, zu_ne (by omega)]
  have nb3 : b3 0 6 = b2 0 6 + 1 := by rw [eb3, zu_eq, na3]
  have fb3 : b3 4 = vup (b2 4) (b2 0 6) ((x / 2 ^ (0 : Int).toNat).bmod 256) := by rw [eb3, zu_d (by decide), ea3, zu_c]; rfl
  rw [uX12_append_B3]
  refine ⟨by decide, fun _ => hK b3 ?_ (by omega) ?_, fun z => absurd (by decide) z⟩
  · rw [eb3, ea3, eb2, ea2, eb1, ea1, eb0, ea0]
    exact ((((((((frm.rf).z (Or.inl rfl)).z (Or.inr ⟨rfl, rfl⟩)).z (Or.inl rfl)).z (Or.inr ⟨rfl, rfl⟩)).z (Or.inl rfl)).z (Or.inr ⟨rfl, rfl⟩)).z (Or.inl rfl)).z (Or.inr ⟨rfl, rfl⟩)
  · rw [fb3, fb2, fb1, fb0, nb2, nb1, nb0]
    rfl
theorem XA.f4 {σ' : zSt} (h : XA σ D) (g : ∀ a b, ¬ ((1 ≤ a ∧ a ≤ 4) ∨ (a = 0 ∧ b = 7)) → σ' a b = σ a b) : XA σ' D := by
  obtain ⟨⟨hS, hv, ho, hc⟩, ht⟩ := h
  have e0 : σ' 0 0 = σ 0 0 := g _ _ (by omega)
  have e8 : σ' 0 8 = σ 0 8 := g _ _ (by omega)
  have e7 : σ' 17 0 = σ 17 0 := g _ _ (by omega)
  refine ⟨⟨by rw [e0]; exact hS.mono (fun a b p => g a b (by omega)), by rw [e8]; exact hv, by rw [e7, e8]; exact ho, fun e => ?_⟩, ht.fr (fun a b z => g a b (by omega))⟩
  rw [e7, e8] at e
  exact (hc e).fr (fun a b a0 a1 _ => g a b (by omega))
theorem cmd_feed {x1 x2 x3 x4 x5 : Int} (h : TW σ τ m) (z1 : zrg x1) (z2 : zrg x2) (z3 : zrg x3) (z4 : zrg x4) (z5 : zrg x5) : fX11_feed (cP (m + 1) (fun K => fX12_feed K τ x1 x2 x3 x4 x5)) σ x1 x2 x3 x4 x5 := by
  obtain ⟨D, V, n, C, H, w⟩ := h
  have w0 := w
  obtain ⟨h1, h2, h3, h4, h5, h6, h7, h8, h9, h10⟩ := w0
  have hb := h3.vb w.wf
  have s := h2.1.1
  obtain ⟨t1, ⟨t2, t3, t4⟩, t5, t6, t7⟩ := h10
  have cc : ∀ τ1 : zSt, τ1 = zu τ 0 4 0 → τ1 0 6 = τ 0 6 ∧ τ1 4 = τ 4 ∧ frm p4 τ τ1 := fun τ1 e1 => by rw [e1]; exact ⟨zu_ne (by omega), zu_d (by decide), frm.wr (P := p4) ⟨rfl, rfl⟩⟩
  refine ⟨by omega, fun hs => ?_, fun hs τ1 e1 => ?_⟩
  · refine sX2_append z1 (by omega) (by omega) (fun σ1 u1 u1n u1b => sX2_append z2 (by omega) (by omega) (fun σ2 u2 u2n u2b => sX2_append z3 (by omega) (by omega) (fun σ3 u3 u3n u3b => sX2_append z4 (by omega) (by omega) (fun σ4 u4 u4n u4b => sX2_append z5 (by omega) (by omega) (fun σ5 u5 u5n u5b => ?_)))))
    intro τ1 e1
    obtain ⟨c6, c4, cf⟩ := cc τ1 e1
    refine ⟨by omega, fun hs' => ?_, fun z => by omega⟩
    refine sM_append z1 (by omega) (by omega) (fun τ2 v1 v1n v1b => sM_append z2 (by omega) (by omega) (fun τ3 v2 v2n v2b => sM_append z3 (by omega) (by omega) (fun τ4 v3 v3n v3b => sM_append z4 (by omega) (by omega) (fun τ5 v4 v4n v4b => sM_append z5 (by omega) (by omega) (fun τ6 v5 v5n v5b => ⟨by omega, ?_⟩)))))
    have u : frm (fun a b => a = 3 ∨ (a = 2 ∧ b = 0)) σ σ5 := u1.tr (u2.tr (u3.tr (u4.tr u5)))
    have v : frm (fun a b => a = 4 ∨ (a = 0 ∧ (b = 6 ∨ b = 4))) τ τ6 := (cf.mo (fun a b z => by omega)).tr ((v1.mo (fun a b z => by omega)).tr ((v2.mo (fun a b z => by omega)).tr ((v3.mo (fun a b z => by omega)).tr ((v4.mo (fun a b z => by omega)).tr (v5.mo (fun a b z => by omega))))))
    have e0 : σ5 0 0 = σ 0 0 := u 0 0 (by omega)
    refine ⟨D, V, n, C, H, h1.f4 (fun a b z => u a b (by omega)), ?_, h3, h4, h5.fr (fun a b a0 a1 => u a b (by omega)), v.D h6 (fun b => by omega), h7.fr (fun b => v 3 b (by omega)) (v 0 3 (by omega)) (fun i _ => v 1 i (by omega)), h8, by rw [u 0 8 (by omega)]; omega, ⟨⟨?_, fun f f0 f1 => ?_, fun f x f0 f1 x0 x1 e => ?_⟩, ⟨by omega, by omega, ?_⟩, ?_, by rw [u 77 0 (by omega), u 80 0 (by omega), u 108 0 (by omega), u 111 0 (by omega)]; exact t6, ?_⟩⟩
    · rw [e0]; exact h2.mv hb (fun a b a0 a1 => u a b (by omega))
    · rw [u 1 1 (by omega), e0]; exact t1.1
    · rw [e0, u _ f (by omega)]; exact t1.2.1 f f0 f1
    · rw [e0, u _ f (by omega), u _ x (by omega)] at e; exact t1.2.2 f x f0 f1 x0 x1 e
    · intro j j0 j1
      rw [u5b, u4b, u3b, u2b, u1b, v5b, v4b, v3b, v2b, v1b, c4, u4n, u3n, u2n, u1n, v4n, v3n, v2n, v1n, c6, ← t2]
      refine fd_eq (fd_eq (fd_eq (fd_eq (fd_eq t4)))) j j0 (by omega)
    · rw [u 0 7 (by omega), v 0 14 (by omega)]; exact t5
    · intro j j0 j1
      rw [u5b, u4b, u3b, u2b, u1b, u4n, u3n, u2n, u1n]
      exact fd_r (fd_r (fd_r (fd_r (fd_r t7)))) j j0 (by omega)
  · obtain ⟨c6, c4, cf⟩ := cc τ1 e1
    exact ⟨by omega, fun z => by omega, fun _ => ⟨rfl, w.no cf⟩⟩
end CO
