/-! the next token; words -/
section TX
def TL (σ τ : zSt) : Prop := TK σ τ ∧ (σ 2 1 ≠ 0 → σ 2 2 < σ 2 6)
theorem tokn {σ τ : zSt} (hB : TB σ τ) (nb : ¬ (ch (σ 3) (σ 2 5) (σ 2 6) = 32 ∨ ch (σ 3) (σ 2 5) (σ 2 6) = 10)) : ∃ σ' τ', (∀ K : zSt → Prop, K σ' → fX2_advance_B38 K σ) ∧ (∀ K : zSt → Prop, K τ' → fX12_advance_B0 K (0 + 1) τ) ∧ TL σ' τ' ∧ frm pA σ σ' ∧ frm pB τ τ' ∧ σ 2 6 ≤ σ' 2 2 := by
  have hB0 := hB
  obtain ⟨b1, b2, b3, b4, b5⟩ := hB
  have c := hB0.c
  have cr := ch_r (B := σ 3) (L := σ 2 5) (p := σ 2 6)
  generalize ec : ch (σ 3) (σ 2 5) (σ 2 6) = x at nb c cr
  -- the class's state
  have sx : ∃ s3, s3 = zu (zu (zu σ 2 2 (σ 2 6)) 2 3 0) 2 1 (kd x) := ⟨_, rfl⟩
  obtain ⟨s3, es⟩ := sx
  have s22 : s3 2 2 = σ 2 6 := by rw [es, zu_ne (by omega), zu_ne (by omega), zu_eq]
  have s23 : s3 2 3 = 0 := by rw [es, zu_ne (by omega), zu_eq]
  have s21 : s3 2 1 = kd x := by rw [es, zu_eq]
  have s26 : s3 2 6 = σ 2 6 := by rw [es, zu_ne (by omega), zu_ne (by omega), zu_ne (by omega)]
  have s25 : s3 2 5 = σ 2 5 := by rw [es, zu_ne (by omega), zu_ne (by omega), zu_ne (by omega)]
  have s30 : s3 3 = σ 3 := by rw [es, zu_d (by decide), zu_d (by decide), zu_d (by decide)]
  have su : frm pA σ s3 := by rw [es]; exact ((frm.wr (P := pA) (by omega)).z (by omega)).z (by omega)
  have clG : ∀ K : zSt → Prop, (((kd x = 3 → ∀ σ13, σ13 = zu s3 2 6 ((s3 2 6) + 1) → K σ13) ∧ (¬ kd x = 3 → ((kd x = 4 → ∀ σ14, σ14 = zu s3 2 6 ((s3 2 6) + 1) → K σ14) ∧ (¬ kd x = 4 → (∃ n, fX2_advance_B93 K n s3)))))) → fX2_advance_B38 K σ := fun K h => by
    intro σ7 e7 σ8 e8
    have g5 : σ8 2 5 = σ 2 5 := by rw [e8, e7, zu_ne (by omega), zu_ne (by omega)]
    have g2 : σ8 2 2 = σ 2 6 := by rw [e8, e7, zu_ne (by omega), zu_eq]
    have g3 : σ8 3 = σ 3 := by rw [e8, e7, zu_d (by decide), zu_d (by decide)]
    refine sX2_signAt (by omega) (by omega) (by omega) ?_
    rw [g2, g3, g5, ec]
    refine sX2_kindOf (by omega) (fun σ11 e11 => ?_)
    have e3 : σ11 = s3 := by rw [e11, e8, e7, es]
    rw [e3, s21]
    refine ⟨?_, h⟩
    unfold kd; split <;> (try split) <;> (try split) <;> (try split) <;> decide
  -- the reference's state
  have tx : ∀ v, ∃ t3, t3 = zu (zu (zu (zu τ 0 9 (τ 0 8)) 0 11 0) 0 12 0) 0 10 v := fun v => ⟨_, rfl⟩
  obtain ⟨t3, et⟩ := tx (kd x)
  have t9 : t3 0 9 = τ 0 8 := by rw [et, zu_ne (by omega), zu_ne (by omega), zu_ne (by omega), zu_eq]
  have t11 : t3 0 11 = 0 := by rw [et, zu_ne (by omega), zu_ne (by omega), zu_eq]
  have t12 : t3 0 12 = 0 := by rw [et, zu_ne (by omega), zu_eq]
  have t10 : t3 0 10 = kd x := by rw [et, zu_eq]
  have t8 : t3 0 8 = τ 0 8 := by rw [et, zu_ne (by omega), zu_ne (by omega), zu_ne (by omega), zu_ne (by omega)]
  have tu : frm pB τ t3 := by rw [et]; exact (((frm.wr (P := pB) (by omega)).z (by omega)).z (by omega)).z (by omega)
  have rfG : ∀ K : zSt → Prop, (∀ σ8, σ8 = zu (zu (zu τ 0 9 (τ 0 8)) 0 11 0) 0 12 0 → (0 ≤ x → fX12_inRange (fun r11 σ11 => zrg r11 ∧ ((r11 = 0 → fX12_inRange (fun r13 σ13 => zrg r13 ∧ ((r13 = 0 → ((x = 59 → ∀ σ17, σ17 = zu σ13 0 10 3 → ∀ σ18, σ18 = zu σ17 0 8 ((σ17 0 8) + 1) → K σ18) ∧ (¬ x = 59 → ∀ σ15, σ15 = zu σ13 0 10 4 → ∀ σ16, σ16 = zu σ15 0 8 ((σ15 0 8) + 1) → K σ16))) ∧ (¬ r13 = 0 → ∀ σ19, σ19 = zu σ13 0 10 2 → (∃ n, fX12_advance_B184 K n σ19 )))) σ11 x 48 57) ∧ (¬ r11 = 0 → ∀ σ20, σ20 = zu σ11 0 10 1 → (∃ n, fX12_advance_B82 K n σ20 )))) σ8 x 97 122) ∧ (¬ 0 ≤ x → ∀ σ21, σ21 = zu σ8 0 10 0 → K σ21)) → fX12_advance_B0 K (0 + 1) τ := fun K h => by
    rw [uX12_advance_B0]
    refine sM_peek (by omega) (by omega) (by omega) ?_
    rw [← c]
    refine ⟨by omega, fun z => (nb (Or.inl z)).elim, fun _ => sM_peek (by omega) (by omega) (by omega) ?_⟩
    rw [← c]
    refine ⟨by omega, fun z => (nb (Or.inr z)).elim, fun _ σ6 e6 σ7 e7 σ8 e8 => ?_⟩
    have e : σ8 = zu (zu (zu τ 0 9 (τ 0 8)) 0 11 0) 0 12 0 := by rw [e8, e7, e6]
    have g8 : σ8 0 8 = τ 0 8 := by rw [e, zu_ne (by omega), zu_ne (by omega), zu_ne (by omega)]
    have g7 : σ8 0 7 = τ 0 7 := by rw [e, zu_ne (by omega), zu_ne (by omega), zu_ne (by omega)]
    have g4 : σ8 4 = τ 4 := by rw [e, zu_d (by decide), zu_d (by decide), zu_d (by decide)]
    refine sM_peek (by omega) (by omega) (by omega) ?_
    rw [g4, g7, g8, ← c]
    exact ⟨by omega, h σ8 e⟩
  have hB3 : TB s3 t3 := hB0.k su tu (by omega) (by omega) (by omega)
  by_cases k1 : 97 ≤ x ∧ x ≤ 122
  · have ek : kd x = 1 := by unfold kd; rw [if_pos k1]
    rw [ek] at s21 t10 et
    obtain ⟨σ', τ', ⟨n1, g1⟩, ⟨n2, g2⟩, t, u2, v2, q1, q2, q3⟩ := letters (σ 2 5 - σ 2 6).toNat s3 t3 hB3 (by omega) (by omega) ⟨s21, t10⟩ ⟨s23, t12⟩ (fun j j0 j1 => by omega) (by rw [t11, s22, s26, wd_z])
    refine ⟨σ', τ', fun K hK => clG K (by rw [ek]; exact ⟨fun z => absurd z (by decide), fun _ => ⟨fun z => absurd z (by decide), fun _ => ⟨n1, g1 K hK⟩⟩⟩), fun K hK => rfG K (fun σ8 e8 => ⟨fun _ => ?_, fun z => by omega⟩), ⟨t, fun _ => by rw [s30, s25, s26, ec] at q3; have := q3 (by omega); omega⟩, su.tr u2, tu.tr v2, by omega⟩
    refine sM_inRange (by omega) (by decide) (by decide) (fun _ _ => ⟨by decide, fun z => absurd z (by decide), fun _ σ20 e20 => ?_⟩) (fun z => (z k1).elim)
    have e : σ20 = t3 := by rw [e20, e8, et]
    rw [e]; exact ⟨n2, g2 K hK⟩
  · by_cases k2 : 48 ≤ x ∧ x ≤ 57
    · have ek : kd x = 2 := by unfold kd; rw [if_neg k1, if_pos k2]
      rw [ek] at s21 t10 et
      obtain ⟨σ', τ', ⟨n1, g1⟩, ⟨n2, g2⟩, t, u2, v2, q1, q2, q3⟩ := digits (σ 2 5 - σ 2 6).toNat s3 t3 hB3 (by omega) (by omega) ⟨s21, t10⟩ (by rw [s23, t12]; decide) (fun j j0 j1 => by omega)
      refine ⟨σ', τ', fun K hK => clG K (by rw [ek]; exact ⟨fun z => absurd z (by decide), fun _ => ⟨fun z => absurd z (by decide), fun _ => ⟨n1, g1 K hK⟩⟩⟩), fun K hK => rfG K (fun σ8 e8 => ⟨fun _ => ?_, fun z => by omega⟩), ⟨t, fun _ => by rw [s30, s25, s26, ec] at q3; have := q3 (by omega); omega⟩, su.tr u2, tu.tr v2, by omega⟩
      refine sM_inRange (by omega) (by decide) (by decide) (fun a b => (k1 ⟨a, b⟩).elim) (fun _ => ⟨by decide, fun _ => sM_inRange (by omega) (by decide) (by decide) (fun _ _ => ⟨by decide, fun z => absurd z (by decide), fun _ σ19 e19 => ?_⟩) (fun z => (z k2).elim), fun z => absurd rfl z⟩)
      have e : σ19 = t3 := by rw [e19, e8, et]
      rw [e]; exact ⟨n2, g2 K hK⟩
    · by_cases k0 : x = -1
      · have ek : kd x = 0 := by unfold kd; rw [if_neg k1, if_neg k2, if_pos k0]
        rw [ek] at s21 t10 et
        have pL : σ 2 5 ≤ σ 2 6 := by
          by_cases z : σ 2 6 < σ 2 5
          · exact (ch_1n z (by rw [ec]; exact k0)).elim
          · omega
        refine ⟨s3, t3, fun K hK => clG K (by rw [ek]; exact ⟨fun z => absurd z (by decide), fun _ => ⟨fun z => absurd z (by decide), fun _ => ⟨0 + 1, by rw [uX2_advance_B93]; exact ⟨by omega, by omega, fun _ => hK, fun z => by omega⟩⟩⟩⟩), fun K hK => rfG K (fun σ8 e8 => ⟨fun z => by omega, fun _ σ21 e21 => ?_⟩), ⟨⟨hB3, by omega, by omega, by rw [s23, t12]; decide, fun z => by omega, fun z => by omega⟩, fun z => (z s21).elim⟩, su, tu, by omega⟩
        have e : σ21 = t3 := by rw [e21, e8, et]
        rw [e]; exact hK
      · have pL : σ 2 6 < σ 2 5 := ch_in (by rw [ec]; exact k0)
        have uu : frm pA σ (zu s3 2 6 (s3 2 6 + 1)) := su.z (by omega)
        have vv : frm pB τ (zu t3 0 8 (t3 0 8 + 1)) := tu.z (by omega)
        have tk : (kd x = 3 ∨ kd x = 4) → TL (zu s3 2 6 (s3 2 6 + 1)) (zu t3 0 8 (t3 0 8 + 1)) := fun h => by
          refine ⟨?_, fun _ => by rw [zu_eq, zu_ne (by omega)]; omega⟩
          refine ⟨hB0.k uu vv (by rw [zu_eq, zu_eq]; omega) (by rw [zu_eq]; omega) (by rw [zu_eq]; omega), ?_, ?_, ?_, fun z => ?_, fun z => ?_⟩
          · rw [zu_ne (by omega), zu_ne (by omega), zu_eq]; omega
          · rw [zu_ne (by omega), zu_ne (by omega)]; omega
          · rw [zu_ne (by omega), zu_ne (by omega), s23, t12]; decide
          · rw [zu_ne (by omega)] at z; omega
          · rw [zu_ne (by omega)] at z; omega
        by_cases k3 : x = 59
        · have ek : kd x = 3 := by rw [k3]; decide
          rw [ek] at s21 t10 et
          refine ⟨_, _, fun K hK => clG K (by rw [ek]; exact ⟨fun _ σ13 e13 => by rw [e13]; exact hK, fun z => absurd rfl z⟩), fun K hK => rfG K (fun σ8 e8 => ⟨fun _ => ?_, fun z => by omega⟩), tk (Or.inl ek), uu, vv, by rw [zu_ne (by omega)]; omega⟩
          refine sM_inRange (by omega) (by decide) (by decide) (fun a b => (k1 ⟨a, b⟩).elim) (fun _ => ⟨by decide, fun _ => sM_inRange (by omega) (by decide) (by decide) (fun a b => (k2 ⟨a, b⟩).elim) (fun _ => ⟨by decide, fun _ => ⟨fun _ σ17 e17 σ18 e18 => ?_, fun z => (z k3).elim⟩, fun z => absurd rfl z⟩), fun z => absurd rfl z⟩)
          have e : σ17 = t3 := by rw [e17, e8, et]
          rw [e18, e]; exact hK
        · have ek : kd x = 4 := by unfold kd; rw [if_neg k1, if_neg k2, if_neg k0, if_neg k3]
          rw [ek] at s21 t10 et
          refine ⟨_, _, fun K hK => clG K (by rw [ek]; exact ⟨fun z => absurd z (by decide), fun _ => ⟨fun _ σ14 e14 => by rw [e14]; exact hK, fun z => absurd rfl z⟩⟩), fun K hK => rfG K (fun σ8 e8 => ⟨fun _ => ?_, fun z => by omega⟩), tk (Or.inr ek), uu, vv, by rw [zu_ne (by omega)]; omega⟩
          refine sM_inRange (by omega) (by decide) (by decide) (fun a b => (k1 ⟨a, b⟩).elim) (fun _ => ⟨by decide, fun _ => sM_inRange (by omega) (by decide) (by decide) (fun a b => (k2 ⟨a, b⟩).elim) (fun _ => ⟨by decide, fun _ => ⟨fun z => (k3 z).elim, fun _ σ15 e15 σ16 e16 => ?_⟩, fun z => absurd rfl z⟩), fun z => absurd rfl z⟩)
          have e : σ15 = t3 := by rw [e15, e8, et]
          rw [e16, e]; exact hK
theorem blanks : ∀ (m : Nat) (σ τ : zSt), TB σ τ → (σ 2 5 - σ 2 6 = m) → ∃ σ' τ', (∃ n, ∀ K : zSt → Prop, K σ' → fX2_advance_B0 K n σ) ∧ (∃ n, ∀ K : zSt → Prop, K τ' → fX12_advance_B0 K n τ) ∧ TL σ' τ' ∧ frm pA σ σ' ∧ frm pB τ τ' ∧ σ 2 6 ≤ σ' 2 2 := by
  have fin : ∀ (σ τ : zSt), TB σ τ → ¬ (ch (σ 3) (σ 2 5) (σ 2 6) = 32 ∨ ch (σ 3) (σ 2 5) (σ 2 6) = 10) → ∃ σ' τ', (∃ n, ∀ K : zSt → Prop, K σ' → fX2_advance_B0 K n σ) ∧ (∃ n, ∀ K : zSt → Prop, K τ' → fX12_advance_B0 K n τ) ∧ TL σ' τ' ∧ frm pA σ σ' ∧ frm pB τ τ' ∧ σ 2 6 ≤ σ' 2 2 := fun σ τ hB nb => by
    obtain ⟨σ', τ', g1, g2, t, u, v, q⟩ := tokn hB nb
    obtain ⟨b1, b2, b3, b4, b5⟩ := hB
    have cr := ch_r (B := σ 3) (L := σ 2 5) (p := σ 2 6)
    refine ⟨σ', τ', ⟨0 + 1, fun K hK => ?_⟩, ⟨0 + 1, g2⟩, t, u, v, q⟩
    rw [uX2_advance_B0]
    exact ⟨by omega, by omega, fun _ => g1 K hK, fun _ => sX2_signAt (by omega) (by omega) (by omega) (sX2_isBlank (by omega) (fun z => (nb z).elim) (fun _ => ⟨by decide, fun _ => g1 K hK, fun z => absurd rfl z⟩))⟩
  intro m
  induction m with
  | zero =>
    intro σ τ hB em
    refine fin σ τ hB ?_
    rw [ch_0 (by omega)]
    decide
  | succ m ih =>
    intro σ τ hB em
    by_cases nb : ch (σ 3) (σ 2 5) (σ 2 6) = 32 ∨ ch (σ 3) (σ 2 5) (σ 2 6) = 10
    · have hB0 := hB
      obtain ⟨b1, b2, b3, b4, b5⟩ := hB
      have c := hB0.c
      have cr := ch_r (B := σ 3) (L := σ 2 5) (p := σ 2 6)
      have uu : frm pA σ (zu σ 2 6 (σ 2 6 + 1)) := frm.wr (P := pA) (by omega)
      have vv : frm pB τ (zu τ 0 8 (τ 0 8 + 1)) := frm.wr (P := pB) (by omega)
      obtain ⟨σ', τ', ⟨n1, g1⟩, ⟨n2, g2⟩, t, u, v, q⟩ := ih (zu σ 2 6 (σ 2 6 + 1)) (zu τ 0 8 (τ 0 8 + 1)) (hB0.k uu vv (by rw [zu_eq, zu_eq]; omega) (by rw [zu_eq]; omega) (by rw [zu_eq]; omega)) (by rw [zu_eq, zu_ne (by omega)]; omega)
      refine ⟨σ', τ', ⟨n1 + 1, fun K hK => ?_⟩, ⟨n2 + 1, fun K hK => ?_⟩, t, uu.tr u, vv.tr v, by rw [zu_eq] at q; omega⟩
      · rw [uX2_advance_B0]
        refine ⟨by omega, by omega, fun z => by omega, fun _ => sX2_signAt (by omega) (by omega) (by omega) (sX2_isBlank (by omega) (fun _ => ⟨by decide, fun z => absurd z (by decide), fun _ σ6 e6 => ?_⟩) (fun z => (z nb).elim))⟩
        rw [e6]; exact g1 K hK
      · rw [uX12_advance_B0]
        refine sM_peek (by omega) (by omega) (by omega) ?_
        rw [← c]
        refine ⟨by omega, fun _ σ3 e3 => by rw [e3]; exact g2 K hK, fun y => sM_peek (by omega) (by omega) (by omega) ?_⟩
        rw [← c]
        exact ⟨by omega, fun _ σ22 e22 => by rw [e22]; exact g2 K hK, fun z => by omega⟩
    · exact fin σ τ hB nb
/-- both sides go on by a token -/
theorem adv {σ τ : zSt} (hB : TB σ τ) : ∃ σ' τ', (∀ K : zSt → Prop, K σ' → fX2_advance K σ) ∧ (∀ K : zSt → Prop, K τ' → fX12_advance K τ) ∧ TL σ' τ' ∧ frm pA σ σ' ∧ frm pB τ τ' ∧ σ 2 6 ≤ σ' 2 2 := by
  obtain ⟨σ', τ', ⟨n1, g1⟩, ⟨n2, g2⟩, t, u, v, q⟩ := blanks (σ 2 5 - σ 2 6).toNat σ τ hB (by have := hB.2.2.2.1; omega)
  exact ⟨σ', τ', fun K hK => ⟨n1, g1 K hK⟩, fun K hK => ⟨n2, g2 K hK⟩, t, u, v, q⟩
/-! words -/
def zWd (i : Nat) : Int := ([632645, 6882725, 3739896300, 6611949125, 20579685, 19636, 781652471, 18921701, 20194516, 119676667508, 22518700226661, 20022661, 7216, 20629733] : List Int).getD i 0
theorem zWd_ok : ∀ i : Nat, i < 14 → (1 ≤ cLen (i : Int) ∧ cLen (i : Int) ≤ 12) ∧ (∀ j : Nat, (j : Int) < cLen (i : Int) → 97 ≤ cChr (i : Int) (j : Int) ∧ cChr (i : Int) (j : Int) ≤ 122) ∧ zWd i = wf (fun j => cChr (i : Int) j) (cLen (i : Int)).toNat := by
  intro i hi
  have h12 : ∀ i : Nat, i < 14 → (1 ≤ cLen (i : Int) ∧ cLen (i : Int) ≤ 12) ∧ (∀ j : Nat, j < 12 → (j : Int) < cLen (i : Int) → 97 ≤ cChr (i : Int) (j : Int) ∧ cChr (i : Int) (j : Int) ≤ 122) ∧ zWd i = wf (fun j => cChr (i : Int) j) (cLen (i : Int)).toNat := by decide +kernel
  obtain ⟨a, b, c⟩ := h12 i hi
  exact ⟨a, fun j hj => b j (by omega) hj, c⟩
theorem sJ0_length {σ : zSt} {K : Int → zSt → Prop} {x : Int} (h : 0 ≤ x ∧ x < 21) (hz : zrg (cLen x)) (hK : K (cLen x) σ) : fJ0_length_8abf5 K σ x :=
  ⟨h, h, fun z => absurd z (by decide), fun _ => ⟨hz, by decide, by
    have e : (2 : Int) ^ (0 : Int).toNat = 1 := rfl
    rw [e, Int.ediv_one]; exact hK⟩⟩
theorem sJ0_charAt {σ : zSt} {K : Int → zSt → Prop} {x j : Int} (h : 0 ≤ x ∧ x < 21) (hz : zrg (cLen x)) (hj : 0 ≤ j ∧ j < cLen x) (hc : 97 ≤ cChr x j ∧ cChr x j ≤ 122) (hK : K (cChr x j) σ) : fJ0_charAt_5068e K σ x j := by
  have e : cChr x j % 256 = cChr x j := by omega
  refine ⟨h, h, fun z => absurd z (by decide), fun _ => ⟨fun _ => ⟨by decide, fun z => absurd z (by decide), fun _ => ⟨h, ⟨hj.1, hj.2, hz⟩, hj, by omega, by omega, ?_⟩⟩, fun z => absurd rfl z⟩⟩
  rw [e]; exact hK
theorem word {σ τ : zSt} (hT : TK σ τ) (h13 : τ 0 13 = 0) {i : Nat} (hi : i < 14) : ∃ b : Int, (b = 0 ∨ (b = 1 ∧ τ 0 10 = 1)) ∧ (∀ K : Int → zSt → Prop, K b σ → fX2_isWord K σ (i : Int)) ∧ (∀ K : Int → zSt → Prop, K b τ → fX12_isWord K τ (zWd i)) := by
  obtain ⟨hB, hs, hk, hv, hl, -⟩ := hT
  obtain ⟨b1, b2, b3, b4, b5⟩ := hB
  obtain ⟨⟨c1, c2⟩, c3, c4⟩ := zWd_ok i hi
  by_cases k1 : τ 0 10 = 1
  · obtain ⟨l1, l2⟩ := hl k1
    have wb := wd_b (B := σ 3) hs.2.2 l1
    have zb : 0 ≤ zWd i ∧ zWd i < 1152921504606846976 := by
      rw [c4]
      have a := wf_b (t := fun j => cChr (i : Int) j) (cLen (i : Int)).toNat (fun k hk => c3 k (by omega))
      have b : (32 : Int) ^ (cLen (i : Int)).toNat ≤ 32 ^ 12 := by
        have := Nat.pow_le_pow_right (n := 32) (by decide) (show (cLen (i : Int)).toNat ≤ 12 by omega)
        exact_mod_cast this
      have c : (32 : Int) ^ 12 = 1152921504606846976 := by decide
      omega
    have rf : ∀ b : Int, (b = if wd (σ 3) (σ 2 2) (σ 2 6) = zWd i then 1 else 0) → ∀ K : Int → zSt → Prop, K b τ → fX12_isWord K τ (zWd i) := fun b eb K hK => by
      refine ⟨by omega, fun _ => ⟨by omega, fun _ => ?_, fun z => (z k1).elim⟩, fun z => (z h13).elim⟩
      rw [l2]
      refine ⟨by omega, by omega, fun z => ?_, fun z => ?_⟩
      · have : wd (σ 3) (σ 2 2) (σ 2 6) = zWd i := by
          unfold zcmp at z
          split at z
          · exact absurd z (by decide)
          · split at z
            · assumption
            · exact absurd z (by decide)
        rw [if_pos this] at eb
        rw [eb] at hK; exact hK
      · have : ¬ wd (σ 3) (σ 2 2) (σ 2 6) = zWd i := fun w => z (by
          unfold zcmp
          rw [w, if_neg (Int.lt_irrefl _), if_pos rfl])
        rw [if_neg this] at eb
        rw [eb] at hK; exact hK
    by_cases le : σ 2 6 - σ 2 2 = cLen (i : Int)
    · have L : ∀ (m : Nat) (j : Int), j + m = cLen (i : Int) → 0 ≤ j → ∃ b : Int, ((b = 1 ∧ (∀ q : Nat, j ≤ (q : Int) → (q : Int) < cLen (i : Int) → σ 3 (σ 2 2 + q) % 256 = cChr (i : Int) q)) ∨ (b = 0 ∧ ¬ (∀ q : Nat, j ≤ (q : Int) → (q : Int) < cLen (i : Int) → σ 3 (σ 2 2 + q) % 256 = cChr (i : Int) q))) ∧ ∃ n, ∀ K : Int → zSt → Prop, K b σ → fX2_isWord_B23 K n σ (i : Int) j := by
        intro m
        induction m with
        | zero =>
          intro j ej j0
          refine ⟨1, Or.inl ⟨rfl, fun q q0 q1 => by omega⟩, 0 + 1, fun K hK => ?_⟩
          rw [uX2_isWord_B23]
          exact sJ0_length (by omega) (by omega) ⟨by omega, by omega, fun _ => hK, fun z => by omega⟩
        | succ m ih =>
          intro j ej j0
          obtain ⟨q, rfl⟩ : ∃ q : Nat, j = q := ⟨j.toNat, by omega⟩
          have cl := c3 q (by omega)
          have c1' : ch (σ 3) (σ 2 5) (σ 2 2 + q) = σ 3 (σ 2 2 + q) % 256 := ch_1 (by omega)
          by_cases eq : σ 3 (σ 2 2 + q) % 256 = cChr (i : Int) q
          · obtain ⟨b, eb, n, g⟩ := ih (q + 1) (by omega) (by omega)
            refine ⟨b, ?_, n + 1, fun K hK => ?_⟩
            · rcases eb with ⟨x, w⟩ | ⟨x, w⟩
              · refine Or.inl ⟨x, fun r r0 r1 => ?_⟩
                by_cases z : r = q
                · rw [z]; exact eq
                · exact w r (by omega) r1
              · exact Or.inr ⟨x, fun z => w (fun r r0 r1 => z r (by omega) r1)⟩
            · rw [uX2_isWord_B23]
              refine sJ0_length (by omega) (by omega) ⟨by omega, by omega, fun z => by omega, fun _ => sX2_signAt (by omega) (by omega) (by omega) (sJ0_charAt (by omega) (by omega) (by omega) cl ?_)⟩
              rw [c1']
              exact ⟨by omega, by omega, fun _ => g K hK, fun z => (z eq).elim⟩
          · refine ⟨0, Or.inr ⟨rfl, fun z => eq (z q (by omega) (by omega))⟩, 0 + 1, fun K hK => ?_⟩
            rw [uX2_isWord_B23]
            refine sJ0_length (by omega) (by omega) ⟨by omega, by omega, fun z => by omega, fun _ => sX2_signAt (by omega) (by omega) (by omega) (sJ0_charAt (by omega) (by omega) (by omega) cl ?_)⟩
            rw [c1']
            exact ⟨by omega, by omega, fun z => (eq z).elim, fun _ => hK⟩
      obtain ⟨b, eb, n, g⟩ := L (cLen (i : Int)).toNat 0 (by omega) (by omega)
      have eb2 : b = if wd (σ 3) (σ 2 2) (σ 2 6) = zWd i then 1 else 0 := by
        unfold wd
        rw [if_pos (show σ 2 6 - σ 2 2 ≤ 12 by omega), le, c4]
        rcases eb with ⟨x, w⟩ | ⟨x, w⟩
        · rw [x, if_pos]
          exact wf_cg _ (fun k hk => w k (by omega) (by omega))
        · rw [x, if_neg]
          intro z
          have y := (wf_inj _ _ (fun j hj => by
            have := l1 (σ 2 2 + j) (by omega) (by omega)
            exact this) (fun j hj => c3 j (by omega)) z).2
          exact w (fun q q0 q1 => y q (by omega))
      have bb : b = 0 ∨ (b = 1 ∧ τ 0 10 = 1) := by
        rcases eb with ⟨x, _⟩ | ⟨x, _⟩
        · exact Or.inr ⟨x, k1⟩
        · exact Or.inl x
      refine ⟨b, bb, fun K hK => ?_, rf b eb2⟩
      refine ⟨by omega, by omega, fun _ => ?_, fun z => by omega⟩
      unfold fX2_tokenLength
      exact sJ0_length (by omega) (by omega) ⟨by omega, by omega, fun _ => ⟨n, g K hK⟩, fun z => (z le).elim⟩
    · refine ⟨0, Or.inl rfl, fun K hK => ?_, rf 0 ?_⟩
      · refine ⟨by omega, by omega, fun _ => ?_, fun z => by omega⟩
        unfold fX2_tokenLength
        exact sJ0_length (by omega) (by omega) ⟨by omega, by omega, fun z => (le z).elim, fun _ => hK⟩
      · rw [if_neg]
        intro z
        unfold wd at z
        rw [c4] at z
        by_cases y : σ 2 6 - σ 2 2 ≤ 12
        · rw [if_pos y] at z
          have x := (wf_inj _ _ (fun j hj => by
            have := l1 (σ 2 2 + j) (by omega) (by omega)
            exact this) (fun j hj => c3 j (by omega)) z).1
          omega
        · rw [if_neg y] at z
          have q := wf_inj (t := fun j => cChr (i : Int) j) (u := fun _ => 97) (cLen (i : Int)).toNat 0 (fun j hj => c3 j (by omega)) (fun j hj => absurd hj (Nat.not_lt_zero j)) z.symm
          omega
  · refine ⟨0, Or.inl rfl, fun K hK => ⟨by omega, by omega, fun z => by omega, fun _ => hK⟩, fun K hK => ⟨by omega, fun _ => ⟨by omega, fun z => (k1 z).elim, fun _ => hK⟩, fun z => (z h13).elim⟩⟩
end TX
