section TY
theorem wd_s {B : zD} {s e : Int} (h : s ≤ e) (h12 : e - s < 12) : wd B s (e + 1) = wd B s e * 32 + (B e % 256 - 96) := by
  unfold wd
  rw [if_pos (show e + 1 - s ≤ 12 by omega), if_pos (show e - s ≤ 12 by omega), show (e + 1 - s).toNat = (e - s).toNat + 1 by omega, wf_s, show s + ((e - s).toNat : Int) = e by omega]
theorem wd_12 {B : zD} {s e : Int} (h12 : 12 < e - s) : wd B s e = 0 := by unfold wd; rw [if_neg (by omega)]
theorem wd_z {B : zD} {s : Int} : wd B s s = 0 := by
  unfold wd
  rw [if_pos (by omega), show (s - s).toNat = 0 by omega]
  rfl
theorem wd_b {B : zD} {s e : Int} (h : s ≤ e) (hl : ∀ j, s ≤ j → j < e → 97 ≤ B j % 256 ∧ B j % 256 ≤ 122) : 0 ≤ wd B s e ∧ wd B s e < 1152921504606846976 := by
  unfold wd
  by_cases z : e - s ≤ 12
  · rw [if_pos z]
    have a := wf_b (t := fun k => B (s + k) % 256) (e - s).toNat (fun k hk => hl (s + k) (by omega) (by omega))
    have b : (32 : Int) ^ (e - s).toNat ≤ 32 ^ 12 := by
      have := Nat.pow_le_pow_right (n := 32) (by decide) (show (e - s).toNat ≤ 12 by omega)
      exact_mod_cast this
    have c : (32 : Int) ^ 12 = 1152921504606846976 := by decide
    omega
  · rw [if_neg z]; omega
theorem TB.c {σ τ : zSt} (h : TB σ τ) : ch (σ 3) (σ 2 5) (σ 2 6) = ch (τ 4) (τ 0 7) (τ 0 8) := by
  obtain ⟨a, b, c, d, e⟩ := h
  rw [← a, ← c]
  exact ch_cg e d.1
theorem TB.k {σ τ σ' τ' : zSt} (h : TB σ τ) (u : frm pA σ σ') (v : frm pB τ τ') (e : σ' 2 6 = τ' 0 8) (p0 : 0 ≤ σ' 2 6) (p1 : σ' 2 6 ≤ σ 2 5) : TB σ' τ' := by
  obtain ⟨a, b, c, d, f⟩ := h
  have x5 : σ' 2 5 = σ 2 5 := u 2 5 (by omega)
  refine ⟨?_, by omega, e, by omega, fun j j0 j1 => ?_⟩
  · rw [x5, v 0 7 (by omega)]; exact a
  · rw [u 3 j (by omega), v 4 j (by omega)]; exact f j j0 (by omega)
theorem letters : ∀ (m : Nat) (σ τ : zSt), TB σ τ → (σ 2 5 - σ 2 6 = m) → (σ 2 2 = τ 0 9 ∧ 0 ≤ σ 2 2 ∧ σ 2 2 ≤ σ 2 6) → (σ 2 1 = 1 ∧ τ 0 10 = 1) → (σ 2 3 = 0 ∧ τ 0 12 = 0) → (∀ j, σ 2 2 ≤ j → j < σ 2 6 → 97 ≤ σ 3 j % 256 ∧ σ 3 j % 256 ≤ 122) → τ 0 11 = wd (σ 3) (σ 2 2) (σ 2 6) → ∃ σ' τ', (∃ n, ∀ K : zSt → Prop, K σ' → fX2_advance_B93 K n σ) ∧ (∃ n, ∀ K : zSt → Prop, K τ' → fX12_advance_B82 K n τ) ∧ TK σ' τ' ∧ frm pA σ σ' ∧ frm pB τ τ' ∧ (σ 2 6 ≤ σ' 2 6 ∧ σ' 2 2 = σ 2 2 ∧ ((97 ≤ ch (σ 3) (σ 2 5) (σ 2 6) ∧ ch (σ 3) (σ 2 5) (σ 2 6) ≤ 122) → σ 2 6 < σ' 2 6)) := by
  intro m
  induction m with
  | zero =>
    intro σ τ hB em hs hk hv hl hw
    have hB0 := hB
    obtain ⟨b1, b2, b3, b4, b5⟩ := hB
    have c := hB0.c
    have cn : ch (σ 3) (σ 2 5) (σ 2 6) = -1 := ch_0 (by omega)
    rw [cn] at c
    have tk : ∀ τ', frm pB τ τ' → τ' 0 8 = τ 0 8 → τ' 0 9 = τ 0 9 → τ' 0 10 = 1 → τ' 0 12 = 0 → τ' 0 11 = τ 0 11 → TK σ τ' := fun τ' v a1 a2 a3 a4 a5 => by
      refine ⟨hB0.k frm.rf v (by omega) b4.1 b4.2, by omega, by omega, by omega, fun _ => ⟨hl, by rw [a5]; exact hw⟩, fun z => by omega⟩
    refine ⟨σ, τ, ⟨0 + 1, fun K hK => ?_⟩, ⟨0 + 1, fun K hK => ?_⟩, tk τ frm.rf rfl rfl hk.2 hv.2 rfl, frm.rf, frm.rf, Int.le_refl _, rfl, fun z => by omega⟩
    · rw [uX2_advance_B93]
      exact ⟨by omega, by omega, fun _ => hK, fun z => by omega⟩
    · rw [uX12_advance_B82]
      refine sM_peek (by omega) (by omega) (by omega) ?_
      rw [← c]
      refine sM_inRange (by decide) (by decide) (by decide) (fun a b => by omega) (fun z => ⟨by decide, fun _ => ⟨by omega, fun _ => hK, fun y σ36 e36 => ?_⟩, fun y => absurd rfl y⟩)
      have : σ36 = τ := by
        rw [e36]
        funext a b
        unfold zu
        split
        · rename_i x
          rw [x.1, x.2, hw, wd_12 (by omega)]
        · rfl
      rw [this]; exact hK
  | succ m ih =>
    intro σ τ hB em hs hk hv hl hw
    have hB0 := hB
    obtain ⟨b1, b2, b3, b4, b5⟩ := hB
    have c := hB0.c
    have cr := ch_r (B := σ 3) (L := σ 2 5) (p := σ 2 6)
    have c1 : ch (σ 3) (σ 2 5) (σ 2 6) = σ 3 (σ 2 6) % 256 := ch_1 (by omega)
    by_cases lt : 97 ≤ σ 3 (σ 2 6) % 256 ∧ σ 3 (σ 2 6) % 256 ≤ 122
    · -- a letter
      have hkd : kd (ch (σ 3) (σ 2 5) (σ 2 6)) = 1 := by unfold kd; rw [c1, if_pos lt]
      have u1 : frm pA σ (zu (zu σ 2 3 0) 2 6 (σ 2 6 + 1)) := (frm.wr (P := pA) (by omega)).z (by omega)
      have w26 : zu (zu σ 2 3 0) 2 6 (σ 2 6 + 1) 2 6 = σ 2 6 + 1 := zu_eq ..
      have w23 : zu (zu σ 2 3 0) 2 6 (σ 2 6 + 1) 2 3 = 0 := by rw [zu_ne (by omega), zu_eq]
      have w22 : zu (zu σ 2 3 0) 2 6 (σ 2 6 + 1) 2 2 = σ 2 2 := by rw [zu_ne (by omega), zu_ne (by omega)]
      have w21 : zu (zu σ 2 3 0) 2 6 (σ 2 6 + 1) 2 1 = σ 2 1 := by rw [zu_ne (by omega), zu_ne (by omega)]
      have w25 : zu (zu σ 2 3 0) 2 6 (σ 2 6 + 1) 2 5 = σ 2 5 := by rw [zu_ne (by omega), zu_ne (by omega)]
      have w3 : ∀ j, zu (zu σ 2 3 0) 2 6 (σ 2 6 + 1) 3 j = σ 3 j := fun j => by rw [zu_ne (by omega), zu_ne (by omega)]
      have w3' : zu (zu σ 2 3 0) 2 6 (σ 2 6 + 1) 3 = σ 3 := by funext j; exact w3 j
      have step : ∀ τ1, frm pB τ τ1 → τ1 0 8 = τ 0 8 + 1 → τ1 0 9 = τ 0 9 → τ1 0 10 = 1 → τ1 0 12 = 0 → τ1 0 11 = wd (σ 3) (σ 2 2) (σ 2 6 + 1) → (∀ K : zSt → Prop, ∀ n, fX12_advance_B82 K n τ1 → fX12_advance_B82 K (n + 1) τ) → ∃ σ' τ', (∃ n, ∀ K : zSt → Prop, K σ' → fX2_advance_B93 K n σ) ∧ (∃ n, ∀ K : zSt → Prop, K τ' → fX12_advance_B82 K n τ) ∧ TK σ' τ' ∧ frm pA σ σ' ∧ frm pB τ τ' ∧ (σ 2 6 ≤ σ' 2 6 ∧ σ' 2 2 = σ 2 2 ∧ ((97 ≤ ch (σ 3) (σ 2 5) (σ 2 6) ∧ ch (σ 3) (σ 2 5) (σ 2 6) ≤ 122) → σ 2 6 < σ' 2 6)) := fun τ1 v1 a8 a9 a10 a12 a11 go => by
        obtain ⟨σ', τ', ⟨n1, g1⟩, ⟨n2, g2⟩, t, u2, v2, q1, q2, -⟩ := ih _ τ1 (hB0.k u1 v1 (by rw [w26]; omega) (by rw [w26]; omega) (by rw [w26]; omega)) (by rw [w26, w25]; omega) (by rw [w26, w22]; omega) ⟨by rw [w21]; exact hk.1, a10⟩ ⟨w23, a12⟩ (fun j j0 j1 => by
          rw [w22] at j0
          rw [w26] at j1
          rw [w3]
          by_cases z : j = σ 2 6
          · rw [z]; exact lt
          · exact hl j j0 (by omega)) (by rw [w3', w22, w26]; exact a11)
        refine ⟨σ', τ', ⟨n1 + 1, fun K hK => ?_⟩, ⟨n2 + 1, fun K hK => go K n2 (g2 K hK)⟩, t, u1.tr u2, v1.tr v2, by rw [w26] at q1; omega, by rw [q2, w22], fun _ => by rw [w26] at q1; omega⟩
        rw [uX2_advance_B93]
        refine ⟨by omega, by omega, fun z => by omega, fun _ => sX2_signAt (by omega) (by omega) (by omega) (sX2_kindOf (by omega) ?_)⟩
        rw [hkd]
        refine ⟨by decide, by omega, fun _ => ⟨fun z => by omega, fun _ σ21 e21 σ22 e22 => ?_⟩, fun z => (z hk.1.symm).elim⟩
        have x : σ22 = zu (zu σ 2 3 0) 2 6 (σ 2 6 + 1) := by rw [e22, e21, zu_ne (by omega)]
        rw [x]; exact g1 K hK
      by_cases l12 : 12 ≤ σ 2 6 - σ 2 2
      · refine step (zu (zu τ 0 11 0) 0 8 (τ 0 8 + 1)) ((frm.wr (P := pB) (by omega)).z (by omega)) (zu_eq ..) (by rw [zu_ne (by omega), zu_ne (by omega)]) (by rw [zu_ne (by omega), zu_ne (by omega)]; exact hk.2) (by rw [zu_ne (by omega), zu_ne (by omega)]; exact hv.2) (by rw [zu_ne (by omega), zu_eq, wd_12 (by omega)]) (fun K n g => ?_)
        rw [uX12_advance_B82]
        refine sM_peek (by omega) (by omega) (by omega) ?_
        rw [← c, c1]
        refine sM_inRange (by omega) (by decide) (by decide) (fun a b => ⟨by decide, fun y => absurd y (by decide), fun _ => ⟨by omega, fun _ σ38 e38 σ39 e39 => ?_, fun y => by omega⟩⟩) (fun z => (z lt).elim)
        have x : σ39 = zu (zu τ 0 11 0) 0 8 (τ 0 8 + 1) := by rw [e39, e38, zu_ne (by omega)]
        rw [x]; exact g
      · have wb := wd_b (B := σ 3) hs.2.2 hl
        refine step (zu (zu τ 0 11 (wd (σ 3) (σ 2 2) (σ 2 6 + 1))) 0 8 (τ 0 8 + 1)) ((frm.wr (P := pB) (by omega)).z (by omega)) (zu_eq ..) (by rw [zu_ne (by omega), zu_ne (by omega)]) (by rw [zu_ne (by omega), zu_ne (by omega)]; exact hk.2) (by rw [zu_ne (by omega), zu_ne (by omega)]; exact hv.2) (by rw [zu_ne (by omega), zu_eq]) (fun K n g => ?_)
        rw [uX12_advance_B82]
        refine sM_peek (by omega) (by omega) (by omega) ?_
        rw [← c, c1]
        refine sM_inRange (by omega) (by decide) (by decide) (fun a b => ⟨by decide, fun y => absurd y (by decide), fun _ => ⟨by omega, fun y => by omega, fun _ => sM_peek (by omega) (by omega) (by omega) ?_⟩⟩) (fun z => (z lt).elim)
        rw [← c, c1, hw]
        refine ⟨by omega, by have : (2 : Int) ^ (5 : Int).toNat = 32 := rfl; rw [this]; omega, by omega, fun σ44 e44 σ45 e45 => ?_⟩
        have x : σ45 = zu (zu τ 0 11 (wd (σ 3) (σ 2 2) (σ 2 6 + 1))) 0 8 (τ 0 8 + 1) := by
          rw [e45, e44, zu_ne (by omega), or5 wb.1 (by omega) (by omega), wd_s hs.2.2 (by omega)]
        rw [x]; exact g
    · -- no letter
      have hkd : kd (ch (σ 3) (σ 2 5) (σ 2 6)) ≠ 1 := by unfold kd; rw [c1, if_neg lt]; split <;> (try split) <;> (try split) <;> decide
      have tk : TK σ τ := ⟨hB0, hs, by omega, by omega, fun _ => ⟨hl, hw⟩, fun z => by omega⟩
      refine ⟨σ, τ, ⟨0 + 1, fun K hK => ?_⟩, ⟨0 + 1, fun K hK => ?_⟩, tk, frm.rf, frm.rf, Int.le_refl _, rfl, fun z => (lt (by rw [c1] at z; exact z)).elim⟩
      · rw [uX2_advance_B93]
        refine ⟨by omega, by omega, fun z => by omega, fun _ => sX2_signAt (by omega) (by omega) (by omega) (sX2_kindOf (by omega) ?_)⟩
        refine ⟨?_, by omega, fun z => (hkd (by omega)).elim, fun _ => hK⟩
        unfold kd; split <;> (try split) <;> (try split) <;> (try split) <;> decide
      · rw [uX12_advance_B82]
        refine sM_peek (by omega) (by omega) (by omega) ?_
        rw [← c, c1]
        refine sM_inRange (by omega) (by decide) (by decide) (fun a b => (lt ⟨a, b⟩).elim) (fun z => ⟨by decide, fun _ => ⟨by omega, fun _ => hK, fun y σ36 e36 => ?_⟩, fun y => absurd rfl y⟩)
        have : σ36 = τ := by
          rw [e36]
          funext a b
          unfold zu
          split
          · rename_i x
            rw [x.1, x.2, hw, wd_12 (by omega)]
          · rfl
        rw [this]; exact hK
theorem digits : ∀ (m : Nat) (σ τ : zSt), TB σ τ → (σ 2 5 - σ 2 6 = m) → (σ 2 2 = τ 0 9 ∧ 0 ≤ σ 2 2 ∧ σ 2 2 ≤ σ 2 6) → (σ 2 1 = 2 ∧ τ 0 10 = 2) → (σ 2 3 = min (τ 0 12) 10000 ∧ 0 ≤ τ 0 12 ∧ τ 0 12 ≤ 1000000009) → (∀ j, σ 2 2 ≤ j → j < σ 2 6 → 48 ≤ σ 3 j % 256 ∧ σ 3 j % 256 ≤ 57) → ∃ σ' τ', (∃ n, ∀ K : zSt → Prop, K σ' → fX2_advance_B93 K n σ) ∧ (∃ n, ∀ K : zSt → Prop, K τ' → fX12_advance_B184 K n τ) ∧ TK σ' τ' ∧ frm pA σ σ' ∧ frm pB τ τ' ∧ (σ 2 6 ≤ σ' 2 6 ∧ σ' 2 2 = σ 2 2 ∧ ((48 ≤ ch (σ 3) (σ 2 5) (σ 2 6) ∧ ch (σ 3) (σ 2 5) (σ 2 6) ≤ 57) → σ 2 6 < σ' 2 6)) := by
  intro m
  induction m with
  | zero =>
    intro σ τ hB em hs hk hv hl
    have hB0 := hB
    obtain ⟨b1, b2, b3, b4, b5⟩ := hB
    have c := hB0.c
    have cn : ch (σ 3) (σ 2 5) (σ 2 6) = -1 := ch_0 (by omega)
    rw [cn] at c
    refine ⟨σ, τ, ⟨0 + 1, fun K hK => ?_⟩, ⟨0 + 1, fun K hK => ?_⟩, ⟨hB0, hs, by omega, hv, fun z => by omega, fun _ => hl⟩, frm.rf, frm.rf, Int.le_refl _, rfl, fun z => by omega⟩
    · rw [uX2_advance_B93]
      exact ⟨by omega, by omega, fun _ => hK, fun z => by omega⟩
    · rw [uX12_advance_B184]
      refine sM_peek (by omega) (by omega) (by omega) ?_
      rw [← c]
      exact sM_inRange (by decide) (by decide) (by decide) (fun a b => by omega) (fun z => ⟨by decide, fun _ => hK, fun y => absurd rfl y⟩)
  | succ m ih =>
    intro σ τ hB em hs hk hv hl
    have hB0 := hB
    obtain ⟨b1, b2, b3, b4, b5⟩ := hB
    have c := hB0.c
    have cr := ch_r (B := σ 3) (L := σ 2 5) (p := σ 2 6)
    have c1 : ch (σ 3) (σ 2 5) (σ 2 6) = σ 3 (σ 2 6) % 256 := ch_1 (by omega)
    by_cases lt : 48 ≤ σ 3 (σ 2 6) % 256 ∧ σ 3 (σ 2 6) % 256 ≤ 57
    · have hkd : kd (ch (σ 3) (σ 2 5) (σ 2 6)) = 2 := by unfold kd; rw [c1, if_neg (by omega), if_pos lt]
      generalize ev : min (10 * σ 2 3 + σ 3 (σ 2 6) % 256 - 48) 10000 = v
      have u1 : frm pA σ (zu (zu σ 2 3 v) 2 6 (σ 2 6 + 1)) := (frm.wr (P := pA) (by omega)).z (by omega)
      have w26 : zu (zu σ 2 3 v) 2 6 (σ 2 6 + 1) 2 6 = σ 2 6 + 1 := zu_eq ..
      have w23 : zu (zu σ 2 3 v) 2 6 (σ 2 6 + 1) 2 3 = v := by rw [zu_ne (by omega), zu_eq]
      have w22 : zu (zu σ 2 3 v) 2 6 (σ 2 6 + 1) 2 2 = σ 2 2 := by rw [zu_ne (by omega), zu_ne (by omega)]
      have w21 : zu (zu σ 2 3 v) 2 6 (σ 2 6 + 1) 2 1 = σ 2 1 := by rw [zu_ne (by omega), zu_ne (by omega)]
      have w25 : zu (zu σ 2 3 v) 2 6 (σ 2 6 + 1) 2 5 = σ 2 5 := by rw [zu_ne (by omega), zu_ne (by omega)]
      have w3 : ∀ j, zu (zu σ 2 3 v) 2 6 (σ 2 6 + 1) 3 j = σ 3 j := fun j => by rw [zu_ne (by omega), zu_ne (by omega)]
      have step : ∀ x, x = (if τ 0 12 ≤ 100000000 then 10 * τ 0 12 + σ 3 (σ 2 6) % 256 - 48 else 1000000000) → (∀ K : zSt → Prop, ∀ n, fX12_advance_B184 K n (zu (zu τ 0 12 x) 0 8 (τ 0 8 + 1)) → fX12_advance_B184 K (n + 1) τ) → ∃ σ' τ', (∃ n, ∀ K : zSt → Prop, K σ' → fX2_advance_B93 K n σ) ∧ (∃ n, ∀ K : zSt → Prop, K τ' → fX12_advance_B184 K n τ) ∧ TK σ' τ' ∧ frm pA σ σ' ∧ frm pB τ τ' ∧ (σ 2 6 ≤ σ' 2 6 ∧ σ' 2 2 = σ 2 2 ∧ ((48 ≤ ch (σ 3) (σ 2 5) (σ 2 6) ∧ ch (σ 3) (σ 2 5) (σ 2 6) ≤ 57) → σ 2 6 < σ' 2 6)) := fun x ex go => by
        have v1 : frm pB τ (zu (zu τ 0 12 x) 0 8 (τ 0 8 + 1)) := (frm.wr (P := pB) (by omega)).z (by omega)
        obtain ⟨σ', τ', ⟨n1, g1⟩, ⟨n2, g2⟩, t, u2, v2, q1, q2, -⟩ := ih _ (zu (zu τ 0 12 x) 0 8 (τ 0 8 + 1)) (hB0.k u1 v1 (by rw [w26, zu_eq]; omega) (by rw [w26]; omega) (by rw [w26]; omega)) (by rw [w26, w25]; omega) (by rw [w26, w22, zu_ne (by omega), zu_ne (by omega)]; omega) ⟨by rw [w21]; exact hk.1, by rw [zu_ne (by omega), zu_ne (by omega)]; exact hk.2⟩ (by
          rw [w23, zu_ne (by omega), zu_eq]
          rw [hv.1] at ev
          by_cases z : τ 0 12 ≤ 100000000
          · rw [if_pos z] at ex; omega
          · rw [if_neg z] at ex; omega) (fun j j0 j1 => by
          rw [w22] at j0
          rw [w26] at j1
          rw [w3]
          by_cases z : j = σ 2 6
          · rw [z]; exact lt
          · exact hl j j0 (by omega))
        refine ⟨σ', τ', ⟨n1 + 1, fun K hK => ?_⟩, ⟨n2 + 1, fun K hK => go K n2 (g2 K hK)⟩, t, u1.tr u2, v1.tr v2, by rw [w26] at q1; omega, by rw [q2, w22], fun _ => by rw [w26] at q1; omega⟩
        rw [uX2_advance_B93]
        refine ⟨by omega, by omega, fun z => by omega, fun _ => sX2_signAt (by omega) (by omega) (by omega) (sX2_kindOf (by omega) ?_)⟩
        rw [hkd]
        refine ⟨by decide, by omega, fun _ => ⟨fun _ => sX2_signAt (by omega) (by omega) (by omega) ?_, fun z => (z hk.1).elim⟩, fun z => (z hk.1.symm).elim⟩
        rw [c1]
        refine ⟨by omega, fun σ25 e25 σ26 e26 => ?_⟩
        have x : σ26 = zu (zu σ 2 3 v) 2 6 (σ 2 6 + 1) := by rw [e26, e25, zu_ne (by omega), ev]
        rw [x]; exact g1 K hK
      refine step _ rfl (fun K n g => ?_)
      rw [uX12_advance_B184]
      refine sM_peek (by omega) (by omega) (by omega) ?_
      rw [← c, c1]
      refine sM_inRange (by omega) (by decide) (by decide) (fun a b => ⟨by decide, fun y => absurd y (by decide), fun _ => ⟨by omega, fun y => sM_peek (by omega) (by omega) (by omega) ?_, fun y σ30 e30 σ31 e31 => ?_⟩⟩) (fun z => (z lt).elim)
      · rw [← c, c1]
        intro σ28 e28 σ29 e29
        rw [if_pos y] at g
        rw [e29, e28, zu_ne (by omega)]; exact g
      · rw [if_neg y] at g
        rw [e31, e30, zu_ne (by omega)]; exact g
    · have hkd : kd (ch (σ 3) (σ 2 5) (σ 2 6)) ≠ 2 := by unfold kd; rw [c1, if_neg lt]; split <;> (try split) <;> (try split) <;> decide
      refine ⟨σ, τ, ⟨0 + 1, fun K hK => ?_⟩, ⟨0 + 1, fun K hK => ?_⟩, ⟨hB0, hs, by omega, hv, fun z => by omega, fun _ => hl⟩, frm.rf, frm.rf, Int.le_refl _, rfl, fun z => (lt (by rw [c1] at z; exact z)).elim⟩
      · rw [uX2_advance_B93]
        refine ⟨by omega, by omega, fun z => by omega, fun _ => sX2_signAt (by omega) (by omega) (by omega) (sX2_kindOf (by omega) ?_)⟩
        refine ⟨?_, by omega, fun z => (hkd (by omega)).elim, fun _ => hK⟩
        unfold kd; split <;> (try split) <;> (try split) <;> (try split) <;> decide
      · rw [uX12_advance_B184]
        refine sM_peek (by omega) (by omega) (by omega) ?_
        rw [← c, c1]
        exact sM_inRange (by omega) (by decide) (by decide) (fun a b => (lt ⟨a, b⟩).elim) (fun z => ⟨by decide, fun _ => hK, fun y => absurd rfl y⟩)
end TY
