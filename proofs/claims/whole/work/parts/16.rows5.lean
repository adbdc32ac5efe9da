theorem fb_rng' (x : Int32) : zrg x.toInt := ⟨by have := Int32.le_toInt x; simpa using this, by have := Int32.toInt_lt x; simpa using this⟩
theorem zi_bb (x : Int) : vp_nar .byte (Int32.ofInt (x.bmod 256)) = Int32.ofInt (x.bmod 256) := by
  rw [vp_nar_byte, zi_b, Int.bmod_bmod]
def zxor (x y : Int) : Int := (Int32.ofInt x ^^^ Int32.ofInt y).toInt
theorem zxor_rg (x y : Int) : zrg (zxor x y) := fb_rng' _
section ZR5
variable {p : Program} {l : Launch} {e : Env} {R : Room} {s : State} {m : MethodId} {args : Array Value} {below : List Frame} {meth : Method} {c : Code} {cells slots : Nat} {Q : State → Prop}
variable {cc : ByteArray} {nL : Nat} {Ts : List Cond} {own : String} {D : va_G} {cl : List vw_C} {tys : List (ClassId × FieldType)} {A : Nat → Prop} {N : Nat} {ad : Nat → Nat} {cel : zSt → Nat → va_E}
variable {pc : Nat} {lv : List (Nat × Value)} {stk : List Value} {σ : zSt}
theorem z_tsi (hC : zC p m c cc nL s args Ts own meth D cl tys A N ad cel) {x : Int} {dflt lo hi : Int} {offs : Array Int} {len : Nat} {off : Int} {tgt : Nat} (hdg : decode cc pc = .ok (.tableswitch dflt lo hi offs, len)) (hx : zrg x) (kv : Int) (hk : x = kv) (h1 : ¬ kv < lo) (h2 : ¬ hi < kv) (ho : offs[(kv - lo).toNat]? = some off) (ht : (pc : Int) + off = (tgt : Int)) (g : zAt p l e R s m args below meth c cells slots Q nL D cl A N ad cel (tgt) (lv) (stk) (σ)) : zAt p l e R s m args below meth c cells slots Q nL D cl A N ad cel (pc) lv (vI x :: stk) σ :=
  fun H locs ls hP hS hl => lv_tableIn hC.1.1 hC.1.2.1 hdg (by rw [zi_t hx, hk]; exact h1) (by rw [zi_t hx, hk]; exact h2) (by rw [zi_t hx, hk]; exact ho) ht (g H locs ls hP hS hl)
theorem z_tso (hC : zC p m c cc nL s args Ts own meth D cl tys A N ad cel) {x : Int} {dflt lo hi : Int} {offs : Array Int} {len : Nat} {tgt : Nat} (hdg : decode cc pc = .ok (.tableswitch dflt lo hi offs, len)) (hx : zrg x) (hk : x < lo ∨ hi < x) (ht : (pc : Int) + dflt = (tgt : Int)) (g : zAt p l e R s m args below meth c cells slots Q nL D cl A N ad cel (tgt) (lv) (stk) (σ)) : zAt p l e R s m args below meth c cells slots Q nL D cl A N ad cel (pc) lv (vI x :: stk) σ :=
  fun H locs ls hP hS hl => lv_tableOut hC.1.1 hC.1.2.1 hdg (by rw [zi_t hx]; exact hk) ht (g H locs ls hP hS hl)
theorem z_ixor (hC : zC p m c cc nL s args Ts own meth D cl tys A N ad cel) {x y : Int} (hdg : decode cc pc = .ok (.ixor, 1)) (g : zAt p l e R s m args below meth c cells slots Q nL D cl A N ad cel (pc + 1) (lv) (vI (zxor x y) :: stk) (σ)) : zAt p l e R s m args below meth c cells slots Q nL D cl A N ad cel (pc) lv (vI y :: vI x :: stk) σ :=
  fun H locs ls hP hS hl => lv_ixor hC.1.1 hC.1.2.1 hdg (by have := g H locs ls hP hS hl; unfold zxor vI at this; rwa [Int32.ofInt_toInt] at this)
end ZR5
/-! THE REFERENCE'S WORLD: 22 cells. 0 the object, 1 data, 2 loaded, 3 history, 4 buffer, 5 oriented, 6 shiftsX, 7 shiftsY, 8 shiftErrors, 9 tracked, 10 tracksX, 11 tracksY, 12 starts, 13 ends, 14 lengths, 15 surgeFirst, 16 surgeLast, 17 gapStarts, 18 gapLengths, 19 otherTracked, 20 otherX, 21 otherY -/
abbrev NM : Nat := 22
def kM (k : Int) : Nat := if k < 0 then 99 else if k = 0 then 12 else if k < 3 then 30 else if k = 3 then 31 else if k = 4 then 32 else if k = 5 then 33 else if k = 9 then 33 else if k = 19 then 33 else if k < 22 then 34 else 99
def celMK (ad : Nat → Nat) (dA : Nat → ClassId) (σ : zSt) (k : Int) : Nat → va_E := fun c =>
  if c = 12 then .inr (12, [vR ad 1, vR ad 2, vR ad 3, vI (σ k 3), vI (σ k 4), vR ad 4, vI (σ k 6), vI (σ k 7), vI (σ k 8), vI (σ k 9), vI (σ k 10), vL (σ k 11), vI (σ k 12), vI (σ k 13), vI (σ k 14), vI (σ k 15), vI (σ k 16), vI (σ k 17), vR ad 5, vR ad 6, vR ad 7, vR ad 8, vI (σ k 22), vI (σ k 23), vI (σ k 24), vI (σ k 25), vR ad 9, vR ad 10, vR ad 11, vI (σ k 29), vR ad 12, vR ad 13, vR ad 14, vI (σ k 33), vR ad 15, vR ad 16, vI (σ k 36), vR ad 17, vR ad 18, vR ad 19, vR ad 20, vR ad 21]) else if c = 30 then .inl (dA 1, 811, .inl (fun j => Int32.ofInt (σ k (j : Int)))) else if c = 31 then .inl (dA 1, 8110, .inl (fun j => Int32.ofInt (σ k (j : Int)))) else if c = 32 then .inl (dA 0, 1400, .inl (fun j => Int32.ofInt (σ k (j : Int)))) else if c = 33 then .inl (dA 2, 6, .inl (fun j => Int32.ofInt (σ k (j : Int)))) else if c = 34 then .inl (dA 1, 6, .inl (fun j => Int32.ofInt (σ k (j : Int)))) else .inr (0, [])
def celM (ad : Nat → Nat) (dA : Nat → ClassId) (σ : zSt) (n : Nat) : va_E := celMK ad dA σ (n : Int) (kM (n : Int))
theorem kM_lo {k : Int} (h : k < 0) : kM k = 99 := by unfold kM; rw [if_pos h]
theorem kM_hi {k : Int} (h : 22 ≤ k) : kM k = 99 := by
  unfold kM
  repeat rw [if_neg (by omega)]
theorem kM_by {c : Nat} {P : Int → Prop} (hc : c ≠ 99) (h : ∀ n : Nat, n < 22 → (kM (n : Int) = c ↔ P (n : Int))) (hb : ∀ k, P k → 0 ≤ k ∧ k < 22) (k : Int) : kM k = c ↔ P k := by
  rcases Int.lt_or_le k 0 with q | q
  · rw [kM_lo q]; exact ⟨fun z => absurd z.symm hc, fun z => by have := hb k z; omega⟩
  · rcases Int.lt_or_le k 22 with r | r
    · obtain ⟨n, rfl⟩ : ∃ n : Nat, k = n := ⟨k.toNat, by omega⟩
      exact h n (by omega)
    · rw [kM_hi r]; exact ⟨fun z => absurd z.symm hc, fun z => by have := hb k z; omega⟩
theorem kM_30 {k : Int} : kM k = 30 ↔ k = 1 ∨ k = 2 := kM_by (P := fun k => k = 1 ∨ k = 2) (by decide) (by decide +kernel) (fun k h => by omega) k
theorem kM_pos {k : Int} {c : Nat} (h : kM k = c) (hc : c ≠ 99) : 0 ≤ k ∧ k < 22 := by
  constructor
  · rcases Int.lt_or_le k 0 with q | q
    · exact absurd (h.symm.trans (kM_lo q)) hc
    · exact q
  · rcases Int.lt_or_le k 22 with q | q
    · exact q
    · exact absurd (h.symm.trans (kM_hi q)) hc
theorem celM_at {ad : Nat → Nat} {dA : Nat → ClassId} {σ : zSt} {k : Int} (h : 0 ≤ k) : celM ad dA σ k.toNat = celMK ad dA σ k (kM k) := by
  unfold celM
  rw [show ((k.toNat : Nat) : Int) = k by omega]
theorem loM {ad : Nat → Nat} {dA : Nat → ClassId} {k : Int} (h : 0 ≤ k) : zLo (celM ad dA) k := by
  intro σ i v j hj
  have hne : ¬ ((j : Int) = k) := by omega
  have e : ∀ q : Int, zu σ k i v (j : Int) q = σ (j : Int) q := fun q => by simp [zu, hne]
  unfold celM celMK
  simp only [e]
theorem loM' {ad : Nat → Nat} {dA : Nat → ClassId} {k : Int} {c : Nat} (h : kM k = c) (hc : c ≠ 99) : zLo (celM ad dA) k := loM (kM_pos h hc).1
def zX0 : zX := ([], [], [], (0, [], [], fun q => q, fun q => q), false)
theorem oM_12 {ad : Nat → Nat} {dA : Nat → ClassId} {k : Int} (h : kM k = 12) : zOb vwCl NM (celM ad dA) 12 (RX12, TX12, 42) (fun σ => [vR ad 1, vR ad 2, vR ad 3, vI (σ k 3), vI (σ k 4), vR ad 4, vI (σ k 6), vI (σ k 7), vI (σ k 8), vI (σ k 9), vI (σ k 10), vL (σ k 11), vI (σ k 12), vI (σ k 13), vI (σ k 14), vI (σ k 15), vI (σ k 16), vI (σ k 17), vR ad 5, vR ad 6, vR ad 7, vR ad 8, vI (σ k 22), vI (σ k 23), vI (σ k 24), vI (σ k 25), vR ad 9, vR ad 10, vR ad 11, vI (σ k 29), vR ad 12, vR ad 13, vR ad 14, vI (σ k 33), vR ad 15, vR ad 16, vI (σ k 36), vR ad 17, vR ad 18, vR ad 19, vR ad 20, vR ad 21]) k := by
  obtain ⟨h0, h1⟩ := kM_pos h (by decide)
  exact ⟨by show k.toNat < 22; omega, rfl, fun σ => by rw [celM_at h0, h]; rfl⟩
theorem aM_30 {ad : Nat → Nat} {dA : Nat → ClassId} {k : Int} (h : kM k = 30) : zIA (tyA dA) NM (celM ad dA) .int 811 k := by
  obtain ⟨h0, h1⟩ := kM_pos h (by decide)
  exact ⟨by show k.toNat < 22; omega, by decide, 1, dA 1, rfl, fun σ => by rw [celM_at h0, h]; rfl⟩
theorem aM_31 {ad : Nat → Nat} {dA : Nat → ClassId} {k : Int} (h : kM k = 31) : zIA (tyA dA) NM (celM ad dA) .int 8110 k := by
  obtain ⟨h0, h1⟩ := kM_pos h (by decide)
  exact ⟨by show k.toNat < 22; omega, by decide, 1, dA 1, rfl, fun σ => by rw [celM_at h0, h]; rfl⟩
theorem aM_32 {ad : Nat → Nat} {dA : Nat → ClassId} {k : Int} (h : kM k = 32) : zIA (tyA dA) NM (celM ad dA) .byte 1400 k := by
  obtain ⟨h0, h1⟩ := kM_pos h (by decide)
  exact ⟨by show k.toNat < 22; omega, by decide, 0, dA 0, rfl, fun σ => by rw [celM_at h0, h]; rfl⟩
theorem aM_33 {ad : Nat → Nat} {dA : Nat → ClassId} {k : Int} (h : kM k = 33) : zIA (tyA dA) NM (celM ad dA) .boolean 6 k := by
  obtain ⟨h0, h1⟩ := kM_pos h (by decide)
  exact ⟨by show k.toNat < 22; omega, by decide, 2, dA 2, rfl, fun σ => by rw [celM_at h0, h]; rfl⟩
theorem aM_34 {ad : Nat → Nat} {dA : Nat → ClassId} {k : Int} (h : kM k = 34) : zIA (tyA dA) NM (celM ad dA) .int 6 k := by
  obtain ⟨h0, h1⟩ := kM_pos h (by decide)
  exact ⟨by show k.toNat < 22; omega, by decide, 1, dA 1, rfl, fun σ => by rw [celM_at h0, h]; rfl⟩
