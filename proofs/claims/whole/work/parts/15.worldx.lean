/-! THE CLASS'S WORLD: 135 cells. 0 camera, 1 loader, 2 input, 3 bytes, 4 given, 5 journal, 6 changes, 7..16 the changes, 17 orientation, 18..21 its arrays, 22 match, 23 tracks, 24..30 the tracks (30: trial), 31..72 their arrays, six each; 73..103 a scene, 104..134 the other:
0 scene, 1 settings, 2 frames, 3 stakes, 4 controls, 5 and 6 its arrays, 7 features, 8 and 9 its arrays, 10..15 frames, 16..21 their brightness, 22..24 stakes, 25..27 days, 28..30 lengths -/
def kS (j : Int) : Nat := if j = 0 then 8 else if j = 1 then 17 else if j = 2 then 21 else if j = 3 then 22 else if j = 4 then 7 else if j < 7 then 14 else if j = 7 then 7 else if j < 10 then 14 else if j < 16 then 1 else if j < 22 then 18 else if j < 25 then 9 else 17
def kX (k : Int) : Nat := if k < 0 then 99 else if k = 0 then 11 else if k = 1 then 4 else if k = 2 then 2 else if k = 3 then 13 else if k = 4 then 15 else if k = 5 then 3 else if k = 6 then 20 else if k < 17 then 0 else if k = 17 then 6 else if k = 18 then 16 else if k < 22 then 14 else if k = 22 then 5 else if k = 23 then 23 else if k < 31 then 10 else if k < 73 then 14 else if k < 104 then kS (k - 73) else if k < 135 then kS (k - 104) else 99
theorem kX_lo {k : Int} (h : k < 0) : kX k = 99 := by unfold kX; rw [if_pos h]
theorem kX_hi {k : Int} (h : 135 ≤ k) : kX k = 99 := by
  unfold kX
  repeat rw [if_neg (by omega)]
theorem kX_by {c : Nat} {P : Int → Prop} (hc : c ≠ 99) (h : ∀ n : Nat, n < 135 → (kX (n : Int) = c ↔ P (n : Int))) (hb : ∀ k, P k → 0 ≤ k ∧ k < 135) (k : Int) : kX k = c ↔ P k := by
  rcases Int.lt_or_le k 0 with q | q
  · rw [kX_lo q]; exact ⟨fun z => absurd z.symm hc, fun z => by have := hb k z; omega⟩
  · rcases Int.lt_or_le k 135 with r | r
    · obtain ⟨n, rfl⟩ : ∃ n : Nat, k = n := ⟨k.toNat, by omega⟩
      exact h n (by omega)
    · rw [kX_hi r]; exact ⟨fun z => absurd z.symm hc, fun z => by have := hb k z; omega⟩
theorem kX_11 {k : Int} : kX k = 11 ↔ k = 0 := kX_by (P := fun k => k = 0) (by decide) (by decide +kernel) (fun k h => by omega) k
theorem kX_4 {k : Int} : kX k = 4 ↔ k = 1 := kX_by (P := fun k => k = 1) (by decide) (by decide +kernel) (fun k h => by omega) k
theorem kX_2 {k : Int} : kX k = 2 ↔ k = 2 := kX_by (P := fun k => k = 2) (by decide) (by decide +kernel) (fun k h => by omega) k
theorem kX_13 {k : Int} : kX k = 13 ↔ k = 3 := kX_by (P := fun k => k = 3) (by decide) (by decide +kernel) (fun k h => by omega) k
theorem kX_15 {k : Int} : kX k = 15 ↔ k = 4 := kX_by (P := fun k => k = 4) (by decide) (by decide +kernel) (fun k h => by omega) k
theorem kX_3 {k : Int} : kX k = 3 ↔ k = 5 := kX_by (P := fun k => k = 5) (by decide) (by decide +kernel) (fun k h => by omega) k
theorem kX_20 {k : Int} : kX k = 20 ↔ k = 6 := kX_by (P := fun k => k = 6) (by decide) (by decide +kernel) (fun k h => by omega) k
theorem kX_0 {k : Int} : kX k = 0 ↔ 7 ≤ k ∧ k < 17 := kX_by (P := fun k => 7 ≤ k ∧ k < 17) (by decide) (by decide +kernel) (fun k h => by omega) k
theorem kX_6 {k : Int} : kX k = 6 ↔ k = 17 := kX_by (P := fun k => k = 17) (by decide) (by decide +kernel) (fun k h => by omega) k
theorem kX_16 {k : Int} : kX k = 16 ↔ k = 18 := kX_by (P := fun k => k = 18) (by decide) (by decide +kernel) (fun k h => by omega) k
theorem kX_5 {k : Int} : kX k = 5 ↔ k = 22 := kX_by (P := fun k => k = 22) (by decide) (by decide +kernel) (fun k h => by omega) k
theorem kX_23 {k : Int} : kX k = 23 ↔ k = 23 := kX_by (P := fun k => k = 23) (by decide) (by decide +kernel) (fun k h => by omega) k
theorem kX_10 {k : Int} : kX k = 10 ↔ 24 ≤ k ∧ k < 31 := kX_by (P := fun k => 24 ≤ k ∧ k < 31) (by decide) (by decide +kernel) (fun k h => by omega) k
theorem kX_8 {k : Int} : kX k = 8 ↔ k = 73 ∨ k = 104 := kX_by (P := fun k => k = 73 ∨ k = 104) (by decide) (by decide +kernel) (fun k h => by omega) k
theorem kX_17 {k : Int} : kX k = 17 ↔ k = 74 ∨ k = 105 ∨ (98 ≤ k ∧ k < 104) ∨ (129 ≤ k ∧ k < 135) := kX_by (P := fun k => k = 74 ∨ k = 105 ∨ (98 ≤ k ∧ k < 104) ∨ (129 ≤ k ∧ k < 135)) (by decide) (by decide +kernel) (fun k h => by omega) k
theorem kX_21 {k : Int} : kX k = 21 ↔ k = 75 ∨ k = 106 := kX_by (P := fun k => k = 75 ∨ k = 106) (by decide) (by decide +kernel) (fun k h => by omega) k
theorem kX_22 {k : Int} : kX k = 22 ↔ k = 76 ∨ k = 107 := kX_by (P := fun k => k = 76 ∨ k = 107) (by decide) (by decide +kernel) (fun k h => by omega) k
theorem kX_7 {k : Int} : kX k = 7 ↔ k = 77 ∨ k = 80 ∨ k = 108 ∨ k = 111 := kX_by (P := fun k => k = 77 ∨ k = 80 ∨ k = 108 ∨ k = 111) (by decide) (by decide +kernel) (fun k h => by omega) k
theorem kX_14 {k : Int} : kX k = 14 ↔ (19 ≤ k ∧ k < 22) ∨ (31 ≤ k ∧ k < 73) ∨ k = 78 ∨ k = 79 ∨ k = 81 ∨ k = 82 ∨ k = 109 ∨ k = 110 ∨ k = 112 ∨ k = 113 := kX_by (P := fun k => (19 ≤ k ∧ k < 22) ∨ (31 ≤ k ∧ k < 73) ∨ k = 78 ∨ k = 79 ∨ k = 81 ∨ k = 82 ∨ k = 109 ∨ k = 110 ∨ k = 112 ∨ k = 113) (by decide) (by decide +kernel) (fun k h => by omega) k
theorem kX_1 {k : Int} : kX k = 1 ↔ (83 ≤ k ∧ k < 89) ∨ (114 ≤ k ∧ k < 120) := kX_by (P := fun k => (83 ≤ k ∧ k < 89) ∨ (114 ≤ k ∧ k < 120)) (by decide) (by decide +kernel) (fun k h => by omega) k
theorem kX_18 {k : Int} : kX k = 18 ↔ (89 ≤ k ∧ k < 95) ∨ (120 ≤ k ∧ k < 126) := kX_by (P := fun k => (89 ≤ k ∧ k < 95) ∨ (120 ≤ k ∧ k < 126)) (by decide) (by decide +kernel) (fun k h => by omega) k
theorem kX_9 {k : Int} : kX k = 9 ↔ (95 ≤ k ∧ k < 98) ∨ (126 ≤ k ∧ k < 129) := kX_by (P := fun k => (95 ≤ k ∧ k < 98) ∨ (126 ≤ k ∧ k < 129)) (by decide) (by decide +kernel) (fun k h => by omega) k
abbrev NX : Nat := 135
def tyA (dA : Nat → ClassId) : List (ClassId × FieldType) := [(dA 0, .byte), (dA 1, .int), (dA 2, .boolean), (dA 3, .object "GlacierCamera$Change"), (dA 4, .object "GlacierCamera$Frame"), (dA 5, .object "GlacierCamera$Stake"), (dA 6, .object "GlacierCamera$Track"), (dA 7, .long)]
def celK (ad : Nat → Nat) (dA : Nat → ClassId) (σ : zSt) (k : Int) : Nat → va_E := fun c =>
  if c = 0 then .inr (0, [vI (σ k 0), vI (σ k 1), vI (σ k 2), vI (σ k 3), vI (σ k 4)]) else if c = 1 then .inr (1, [vI (σ k 0), vR ad (k + 6)]) else if c = 2 then .inr (2, [vI (σ k 0), vI (σ k 1), vI (σ k 2), vI (σ k 3), vR ad (3), vI (σ k 5), vI (σ k 6)]) else if c = 3 then .inr (3, [vI (σ k 0), vI (σ k 1), vR ad (6)]) else if c = 4 then .inr (4, [vR ad (2), vR ad (σ k 1), vR ad (4)]) else if c = 5 then .inr (5, [vI (σ k 0), vI (σ k 1), vI (σ k 2), vI (σ k 3), vI (σ k 4), vI (σ k 5)]) else if c = 6 then .inr (6, [vI (σ k 0), vI (σ k 1), vR ad (18), vR ad (19), vR ad (20), vR ad (21)]) else if c = 7 then .inr (7, [vI (σ k 0), vR ad (k + 1), vR ad (k + 2), vI (σ k 3)]) else if c = 8 then .inr (8, [vI (σ k 0), vI (σ k 1), vI (σ k 2), vI (σ k 3), vR ad (k + 1), vR ad (k + 2), vR ad (k + 3), vR ad (k + 4), vR ad (k + 7)]) else if c = 9 then .inr (9, [vI (σ k 0), vR ad (k + 3), vR ad (k + 6)]) else if c = 10 then .inr (10, [vI (σ k 0), vI (σ k 1), vI (σ k 2), vI (σ k 3), vR ad (31 + 6 * (k - 24) + 0), vR ad (31 + 6 * (k - 24) + 1), vR ad (31 + 6 * (k - 24) + 2), vR ad (31 + 6 * (k - 24) + 3), vR ad (31 + 6 * (k - 24) + 4), vR ad (31 + 6 * (k - 24) + 5)]) else if c = 11 then .inr (11, [vR ad (σ k 0), vR ad (1), vR ad (5), vR ad (17), vR ad (22), vR ad (23), vR ad (30), vI (σ k 7), vI (σ k 8)]) else if c = 13 then .inl (dA 0, 1400, .inl (fun j => Int32.ofInt (σ k (j : Int)))) else if c = 14 then .inl (dA 1, 6, .inl (fun j => Int32.ofInt (σ k (j : Int)))) else if c = 15 then .inl (dA 2, 8, .inl (fun j => Int32.ofInt (σ k (j : Int)))) else if c = 16 then .inl (dA 2, 6, .inl (fun j => Int32.ofInt (σ k (j : Int)))) else if c = 17 then .inl (dA 1, 8, .inl (fun j => Int32.ofInt (σ k (j : Int)))) else if c = 18 then .inl (dA 1, 120, .inl (fun j => Int32.ofInt (σ k (j : Int)))) else if c = 20 then .inl (dA 3, 10, .inr (.inr (.inr (.inr (fun j => some (ad (7 + (j : Int)).toNat)))))) else if c = 21 then .inl (dA 4, 6, .inr (.inr (.inr (.inr (fun j => some (ad (σ k (j : Int)).toNat)))))) else if c = 22 then .inl (dA 5, 3, .inr (.inr (.inr (.inr (fun j => some (ad (k + 19 + (j : Int)).toNat)))))) else if c = 23 then .inl (dA 6, 6, .inr (.inr (.inr (.inr (fun j => some (ad (24 + (j : Int)).toNat)))))) else .inr (0, [])
def celX (ad : Nat → Nat) (dA : Nat → ClassId) (σ : zSt) (n : Nat) : va_E := celK ad dA σ (n : Int) (kX (n : Int))
theorem kX_pos {k : Int} {c : Nat} (h : kX k = c) (hc : c ≠ 99) : 0 ≤ k ∧ k < 135 := by
  constructor
  · rcases Int.lt_or_le k 0 with q | q
    · exact absurd (h.symm.trans (kX_lo q)) hc
    · exact q
  · rcases Int.lt_or_le k 135 with q | q
    · exact q
    · exact absurd (h.symm.trans (kX_hi q)) hc
theorem celX_at {ad : Nat → Nat} {dA : Nat → ClassId} {σ : zSt} {k : Int} (h : 0 ≤ k) : celX ad dA σ k.toNat = celK ad dA σ k (kX k) := by
  unfold celX
  rw [show ((k.toNat : Nat) : Int) = k by omega]
theorem loX {ad : Nat → Nat} {dA : Nat → ClassId} {k : Int} (h : 0 ≤ k) : zLo (celX ad dA) k := by
  intro σ i v j hj
  have hne : ¬ ((j : Int) = k) := by omega
  have e : ∀ q : Int, zu σ k i v (j : Int) q = σ (j : Int) q := fun q => by simp [zu, hne]
  unfold celX celK
  simp only [e]
theorem loX' {ad : Nat → Nat} {dA : Nat → ClassId} {k : Int} {c : Nat} (h : kX k = c) (hc : c ≠ 99) : zLo (celX ad dA) k := loX (kX_pos h hc).1
theorem oX_0 {ad : Nat → Nat} {dA : Nat → ClassId} {k : Int} (h : kX k = 0) : zOb vwCl NX (celX ad dA) 0 (RX0, TX0, 5) (fun σ => [vI (σ k 0), vI (σ k 1), vI (σ k 2), vI (σ k 3), vI (σ k 4)]) k := by
  obtain ⟨h0, h1⟩ := kX_pos h (by decide)
  exact ⟨by show k.toNat < 135; omega, rfl, fun σ => by rw [celX_at h0, h]; rfl⟩
theorem oX_1 {ad : Nat → Nat} {dA : Nat → ClassId} {k : Int} (h : kX k = 1) : zOb vwCl NX (celX ad dA) 1 (RX1, TX1, 2) (fun σ => [vI (σ k 0), vR ad (k + 6)]) k := by
  obtain ⟨h0, h1⟩ := kX_pos h (by decide)
  exact ⟨by show k.toNat < 135; omega, rfl, fun σ => by rw [celX_at h0, h]; rfl⟩
theorem oX_2 {ad : Nat → Nat} {dA : Nat → ClassId} {k : Int} (h : kX k = 2) : zOb vwCl NX (celX ad dA) 2 (RX2, TX2, 7) (fun σ => [vI (σ k 0), vI (σ k 1), vI (σ k 2), vI (σ k 3), vR ad (3), vI (σ k 5), vI (σ k 6)]) k := by
  obtain ⟨h0, h1⟩ := kX_pos h (by decide)
  exact ⟨by show k.toNat < 135; omega, rfl, fun σ => by rw [celX_at h0, h]; rfl⟩
theorem oX_3 {ad : Nat → Nat} {dA : Nat → ClassId} {k : Int} (h : kX k = 3) : zOb vwCl NX (celX ad dA) 3 (RX3, TX3, 3) (fun σ => [vI (σ k 0), vI (σ k 1), vR ad (6)]) k := by
  obtain ⟨h0, h1⟩ := kX_pos h (by decide)
  exact ⟨by show k.toNat < 135; omega, rfl, fun σ => by rw [celX_at h0, h]; rfl⟩
theorem oX_4 {ad : Nat → Nat} {dA : Nat → ClassId} {k : Int} (h : kX k = 4) : zOb vwCl NX (celX ad dA) 4 (RX4, TX4, 3) (fun σ => [vR ad (2), vR ad (σ k 1), vR ad (4)]) k := by
  obtain ⟨h0, h1⟩ := kX_pos h (by decide)
  exact ⟨by show k.toNat < 135; omega, rfl, fun σ => by rw [celX_at h0, h]; rfl⟩
theorem oX_5 {ad : Nat → Nat} {dA : Nat → ClassId} {k : Int} (h : kX k = 5) : zOb vwCl NX (celX ad dA) 5 (RX5, TX5, 6) (fun σ => [vI (σ k 0), vI (σ k 1), vI (σ k 2), vI (σ k 3), vI (σ k 4), vI (σ k 5)]) k := by
  obtain ⟨h0, h1⟩ := kX_pos h (by decide)
  exact ⟨by show k.toNat < 135; omega, rfl, fun σ => by rw [celX_at h0, h]; rfl⟩
theorem oX_6 {ad : Nat → Nat} {dA : Nat → ClassId} {k : Int} (h : kX k = 6) : zOb vwCl NX (celX ad dA) 6 (RX6, TX6, 6) (fun σ => [vI (σ k 0), vI (σ k 1), vR ad (18), vR ad (19), vR ad (20), vR ad (21)]) k := by
  obtain ⟨h0, h1⟩ := kX_pos h (by decide)
  exact ⟨by show k.toNat < 135; omega, rfl, fun σ => by rw [celX_at h0, h]; rfl⟩
theorem oX_7 {ad : Nat → Nat} {dA : Nat → ClassId} {k : Int} (h : kX k = 7) : zOb vwCl NX (celX ad dA) 7 (RX7, TX7, 4) (fun σ => [vI (σ k 0), vR ad (k + 1), vR ad (k + 2), vI (σ k 3)]) k := by
  obtain ⟨h0, h1⟩ := kX_pos h (by decide)
  exact ⟨by show k.toNat < 135; omega, rfl, fun σ => by rw [celX_at h0, h]; rfl⟩
theorem oX_8 {ad : Nat → Nat} {dA : Nat → ClassId} {k : Int} (h : kX k = 8) : zOb vwCl NX (celX ad dA) 8 (RX8, TX8, 9) (fun σ => [vI (σ k 0), vI (σ k 1), vI (σ k 2), vI (σ k 3), vR ad (k + 1), vR ad (k + 2), vR ad (k + 3), vR ad (k + 4), vR ad (k + 7)]) k := by
  obtain ⟨h0, h1⟩ := kX_pos h (by decide)
  exact ⟨by show k.toNat < 135; omega, rfl, fun σ => by rw [celX_at h0, h]; rfl⟩
theorem oX_9 {ad : Nat → Nat} {dA : Nat → ClassId} {k : Int} (h : kX k = 9) : zOb vwCl NX (celX ad dA) 9 (RX9, TX9, 3) (fun σ => [vI (σ k 0), vR ad (k + 3), vR ad (k + 6)]) k := by
  obtain ⟨h0, h1⟩ := kX_pos h (by decide)
  exact ⟨by show k.toNat < 135; omega, rfl, fun σ => by rw [celX_at h0, h]; rfl⟩
theorem oX_10 {ad : Nat → Nat} {dA : Nat → ClassId} {k : Int} (h : kX k = 10) : zOb vwCl NX (celX ad dA) 10 (RX10, TX10, 10) (fun σ => [vI (σ k 0), vI (σ k 1), vI (σ k 2), vI (σ k 3), vR ad (31 + 6 * (k - 24) + 0), vR ad (31 + 6 * (k - 24) + 1), vR ad (31 + 6 * (k - 24) + 2), vR ad (31 + 6 * (k - 24) + 3), vR ad (31 + 6 * (k - 24) + 4), vR ad (31 + 6 * (k - 24) + 5)]) k := by
  obtain ⟨h0, h1⟩ := kX_pos h (by decide)
  exact ⟨by show k.toNat < 135; omega, rfl, fun σ => by rw [celX_at h0, h]; rfl⟩
theorem oX_11 {ad : Nat → Nat} {dA : Nat → ClassId} {k : Int} (h : kX k = 11) : zOb vwCl NX (celX ad dA) 11 (RX11, TX11, 9) (fun σ => [vR ad (σ k 0), vR ad (1), vR ad (5), vR ad (17), vR ad (22), vR ad (23), vR ad (30), vI (σ k 7), vI (σ k 8)]) k := by
  obtain ⟨h0, h1⟩ := kX_pos h (by decide)
  exact ⟨by show k.toNat < 135; omega, rfl, fun σ => by rw [celX_at h0, h]; rfl⟩
theorem aX_13 {ad : Nat → Nat} {dA : Nat → ClassId} {k : Int} (h : kX k = 13) : zIA (tyA dA) NX (celX ad dA) .byte 1400 k := by
  obtain ⟨h0, h1⟩ := kX_pos h (by decide)
  exact ⟨by show k.toNat < 135; omega, by decide, 0, dA 0, rfl, fun σ => by rw [celX_at h0, h]; rfl⟩
theorem aX_14 {ad : Nat → Nat} {dA : Nat → ClassId} {k : Int} (h : kX k = 14) : zIA (tyA dA) NX (celX ad dA) .int 6 k := by
  obtain ⟨h0, h1⟩ := kX_pos h (by decide)
  exact ⟨by show k.toNat < 135; omega, by decide, 1, dA 1, rfl, fun σ => by rw [celX_at h0, h]; rfl⟩
theorem aX_15 {ad : Nat → Nat} {dA : Nat → ClassId} {k : Int} (h : kX k = 15) : zIA (tyA dA) NX (celX ad dA) .boolean 8 k := by
  obtain ⟨h0, h1⟩ := kX_pos h (by decide)
  exact ⟨by show k.toNat < 135; omega, by decide, 2, dA 2, rfl, fun σ => by rw [celX_at h0, h]; rfl⟩
theorem aX_16 {ad : Nat → Nat} {dA : Nat → ClassId} {k : Int} (h : kX k = 16) : zIA (tyA dA) NX (celX ad dA) .boolean 6 k := by
  obtain ⟨h0, h1⟩ := kX_pos h (by decide)
  exact ⟨by show k.toNat < 135; omega, by decide, 2, dA 2, rfl, fun σ => by rw [celX_at h0, h]; rfl⟩
theorem aX_17 {ad : Nat → Nat} {dA : Nat → ClassId} {k : Int} (h : kX k = 17) : zIA (tyA dA) NX (celX ad dA) .int 8 k := by
  obtain ⟨h0, h1⟩ := kX_pos h (by decide)
  exact ⟨by show k.toNat < 135; omega, by decide, 1, dA 1, rfl, fun σ => by rw [celX_at h0, h]; rfl⟩
theorem aX_18 {ad : Nat → Nat} {dA : Nat → ClassId} {k : Int} (h : kX k = 18) : zIA (tyA dA) NX (celX ad dA) .int 120 k := by
  obtain ⟨h0, h1⟩ := kX_pos h (by decide)
  exact ⟨by show k.toNat < 135; omega, by decide, 1, dA 1, rfl, fun σ => by rw [celX_at h0, h]; rfl⟩
theorem aX_20 {ad : Nat → Nat} {dA : Nat → ClassId} {k : Int} (h : kX k = 20) : zRA (tyA dA) NX ad (celX ad dA) "GlacierCamera$Change" 10 (fun σ j => 7 + j) k := by
  obtain ⟨h0, h1⟩ := kX_pos h (by decide)
  exact ⟨by show k.toNat < 135; omega, by decide, 3, dA 3, rfl, fun σ => by rw [celX_at h0, h]; rfl⟩
theorem aX_21 {ad : Nat → Nat} {dA : Nat → ClassId} {k : Int} (h : kX k = 21) : zRA (tyA dA) NX ad (celX ad dA) "GlacierCamera$Frame" 6 (fun σ j => σ k j) k := by
  obtain ⟨h0, h1⟩ := kX_pos h (by decide)
  exact ⟨by show k.toNat < 135; omega, by decide, 4, dA 4, rfl, fun σ => by rw [celX_at h0, h]; rfl⟩
theorem aX_22 {ad : Nat → Nat} {dA : Nat → ClassId} {k : Int} (h : kX k = 22) : zRA (tyA dA) NX ad (celX ad dA) "GlacierCamera$Stake" 3 (fun σ j => k + 19 + j) k := by
  obtain ⟨h0, h1⟩ := kX_pos h (by decide)
  exact ⟨by show k.toNat < 135; omega, by decide, 5, dA 5, rfl, fun σ => by rw [celX_at h0, h]; rfl⟩
theorem aX_23 {ad : Nat → Nat} {dA : Nat → ClassId} {k : Int} (h : kX k = 23) : zRA (tyA dA) NX ad (celX ad dA) "GlacierCamera$Track" 6 (fun σ j => 24 + j) k := by
  obtain ⟨h0, h1⟩ := kX_pos h (by decide)
  exact ⟨by show k.toNat < 135; omega, by decide, 6, dA 6, rfl, fun σ => by rw [celX_at h0, h]; rfl⟩
-- kinds of what final references lead to
theorem kf_1_1 {k : Int} (h : kX k = 1) : kX (k + 6) = 18 := by rw [kX_1] at h; rw [kX_18]; omega
theorem kf_7_1 {k : Int} (h : kX k = 7) : kX (k + 1) = 14 := by rw [kX_7] at h; rw [kX_14]; omega
theorem kf_7_2 {k : Int} (h : kX k = 7) : kX (k + 2) = 14 := by rw [kX_7] at h; rw [kX_14]; omega
theorem kf_8_4 {k : Int} (h : kX k = 8) : kX (k + 1) = 17 := by rw [kX_8] at h; rw [kX_17]; omega
theorem kf_8_5 {k : Int} (h : kX k = 8) : kX (k + 2) = 21 := by rw [kX_8] at h; rw [kX_21]; omega
theorem kf_8_6 {k : Int} (h : kX k = 8) : kX (k + 3) = 22 := by rw [kX_8] at h; rw [kX_22]; omega
theorem kf_8_7 {k : Int} (h : kX k = 8) : kX (k + 4) = 7 := by rw [kX_8] at h; rw [kX_7]; omega
theorem kf_8_8 {k : Int} (h : kX k = 8) : kX (k + 7) = 7 := by rw [kX_8] at h; rw [kX_7]; omega
theorem kf_9_1 {k : Int} (h : kX k = 9) : kX (k + 3) = 17 := by rw [kX_9] at h; rw [kX_17]; omega
theorem kf_9_2 {k : Int} (h : kX k = 9) : kX (k + 6) = 17 := by rw [kX_9] at h; rw [kX_17]; omega
theorem kf_10_4 {k : Int} (h : kX k = 10) : kX (31 + 6 * (k - 24) + 0) = 14 := by rw [kX_10] at h; rw [kX_14]; omega
theorem kf_10_5 {k : Int} (h : kX k = 10) : kX (31 + 6 * (k - 24) + 1) = 14 := by rw [kX_10] at h; rw [kX_14]; omega
theorem kf_10_6 {k : Int} (h : kX k = 10) : kX (31 + 6 * (k - 24) + 2) = 14 := by rw [kX_10] at h; rw [kX_14]; omega
theorem kf_10_7 {k : Int} (h : kX k = 10) : kX (31 + 6 * (k - 24) + 3) = 14 := by rw [kX_10] at h; rw [kX_14]; omega
theorem kf_10_8 {k : Int} (h : kX k = 10) : kX (31 + 6 * (k - 24) + 4) = 14 := by rw [kX_10] at h; rw [kX_14]; omega
theorem kf_10_9 {k : Int} (h : kX k = 10) : kX (31 + 6 * (k - 24) + 5) = 14 := by rw [kX_10] at h; rw [kX_14]; omega
theorem ke_20 {k j : Int} (h : kX k = 20) (hj : 0 ≤ j ∧ j < 10) : kX (7 + j) = 0 := by rw [kX_20] at h; rw [kX_0]; omega
theorem ke_22 {k j : Int} (h : kX k = 22) (hj : 0 ≤ j ∧ j < 3) : kX (k + 19 + j) = 9 := by rw [kX_22] at h; rw [kX_9]; omega
theorem ke_23 {k j : Int} (h : kX k = 23) (hj : 0 ≤ j ∧ j < 6) : kX (24 + j) = 10 := by rw [kX_23] at h; rw [kX_10]; omega
/-! what the class reads besides its world: links to nest mates, three constant arrays -/
def zNest : List Cond := [.castable "java/lang/IllegalStateException" "java/lang/IllegalStateException", .castable "java/lang/IndexOutOfBoundsException" "java/lang/IndexOutOfBoundsException", .declares ⟨"java/lang/Exception", "<init>", "(Ljava/lang/String;)V"⟩, .declares ⟨"java/lang/RuntimeException", "<init>", "(Ljava/lang/String;)V"⟩, .declares ⟨"java/lang/Throwable", "<init>", "(Ljava/lang/String;)V"⟩, .fieldLinkNest RX4 166 "GlacierCamera" "LEAST_VALUE" "[I" "GlacierCamera", .fieldLinkNest RX4 169 "GlacierCamera" "GREATEST_VALUE" "[I" "GlacierCamera", .fieldLinkNest RX8 54 "GlacierCamera" "INITIAL_VALUE" "[I" "GlacierCamera", .methodLinkNest RX0 25 yX11_isSetting "GlacierCamera", .methodLinkNest RX10 129 yX11_squareRoot "GlacierCamera", .methodLinkNest RX10 137 yX11_quotient "GlacierCamera", .methodLinkNest RX11 18 yX4_init "GlacierCamera", .methodLinkNest RX11 32 yX6_init "GlacierCamera", .methodLinkNest RX11 39 yX5_init "GlacierCamera", .methodLinkNest RX11 50 yX10_init "GlacierCamera", .methodLinkNest RX3 24 yX0_init "GlacierCamera", .methodLinkNest RX4 11 yX2_init "GlacierCamera", .methodLinkNest RX4 162 yX11_isSetting "GlacierCamera", .methodLinkNest RX4 191 yX11_isBetween "GlacierCamera", .methodLinkNest RX8 52 yX1_init "GlacierCamera", .methodLinkNest RX8 53 yX9_init "GlacierCamera"]
def cLEAST (i : Int) : Int := if i = 1 then 1 else if i = 5 then 1 else if i = 6 then 1 else 0
def cGREAT (i : Int) : Int := if i = 0 then 2 else if i = 1 then 4 else if i = 2 then 3 else if i = 3 then 9 else if i = 4 then 9 else if i = 5 then 1000 else if i = 6 then 999 else 9999
def cINIT (i : Int) : Int := if i = 0 then 1 else if i = 1 then 2 else if i = 2 then 1 else if i = 3 then 2 else if i = 4 then 2 else if i = 5 then 100 else if i = 6 then 10 else 50
def zSlen : List Nat := [4, 5, 7, 7, 5, 3, 6, 5, 5, 8, 9, 5, 3, 5, 13, 16, 25, 15, 15, 13, 15]
def zSbyt : List (List Int32) := [[115, 105, 122, 101], [102, 114, 97, 109, 101], [99, 111, 110, 116, 114, 111, 108], [102, 101, 97, 116, 117, 114, 101], [115, 116, 97, 107, 101], [115, 101, 116], [119, 105, 110, 100, 111, 119], [114, 97, 110, 103, 101], [115, 104, 105, 102, 116], [99, 111, 110, 116, 114, 97, 115, 116], [116, 111, 108, 101, 114, 97, 110, 99, 101], [115, 99, 97, 108, 101], [103, 97, 112], [115, 117, 114, 103, 101], [110, 111, 32, 115, 117, 99, 104, 32, 102, 114, 97, 109, 101], [110, 111, 116, 32, 105, 110, 32, 116, 104, 101, 32, 105, 109, 97, 103, 101], [116, 104, 101, 32, 102, 114, 97, 109, 101, 32, 105, 115, 32, 110, 111, 116, 32, 111, 114, 105, 101, 110, 116, 101, 100], [110, 111, 32, 115, 117, 99, 104, 32, 102, 101, 97, 116, 117, 114, 101], [110, 111, 32, 115, 117, 99, 104, 32, 115, 101, 103, 109, 101, 110, 116], [110, 111, 32, 115, 117, 99, 104, 32, 115, 116, 97, 107, 101], [110, 111, 32, 115, 117, 99, 104, 32, 114, 101, 97, 100, 105, 110, 103]]
/-- the length and the chars of text i -/
def cLen (i : Int) : Int := ((zSlen.getD i.toNat 0 : Nat) : Int)
def cChr (i j : Int) : Int := ((zSbyt.getD i.toNat []).getD j.toNat 0).toInt
def zXX (aL aG aI : Nat) (aK aV : Nat → Nat) : zX := (zNest, [("LEAST_VALUE", aL, fun j => Int32.ofInt (cLEAST (j : Int))), ("GREATEST_VALUE", aG, fun j => Int32.ofInt (cGREAT (j : Int))), ("INITIAL_VALUE", aI, fun j => Int32.ofInt (cINIT (j : Int)))], [(RX4, 47, "size", aK 0), (RX4, 57, "frame", aK 1), (RX4, 65, "control", aK 2), (RX4, 75, "feature", aK 3), (RX4, 80, "stake", aK 4), (RX4, 88, "set", aK 5), (RX4, 175, "window", aK 6), (RX4, 177, "range", aK 7), (RX4, 179, "shift", aK 8), (RX4, 181, "contrast", aK 9), (RX4, 183, "tolerance", aK 10), (RX4, 185, "scale", aK 11), (RX4, 187, "gap", aK 12), (RX4, 189, "surge", aK 13), (RX11, 389, "no such frame", aK 14), (RX11, 394, "not in the image", aK 15), (RX11, 398, "the frame is not oriented", aK 16), (RX11, 401, "no such feature", aK 17), (RX11, 406, "no such segment", aK 18), (RX11, 408, "no such stake", aK 19), (RX11, 410, "no such reading", aK 20)], (21, zSlen, zSbyt, aK, aV), true)
