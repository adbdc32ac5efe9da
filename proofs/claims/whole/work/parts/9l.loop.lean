/-! the law: start of both sides, and its loop -/
def V0 : zD := fun i => if 91 ≤ i then 0 else if 83 ≤ i then cINIT (i - 83) else if i = 0 then 12 else if i = 1 then 8 else 0
theorem V0_z {i : Int} (h : 91 ≤ i ∨ (2 ≤ i ∧ i < 83)) : V0 i = 0 := by
  unfold V0
  rcases h with h | h
  · rw [if_pos h]
  · rw [if_neg (by omega), if_neg (by omega), if_neg (by omega), if_neg (by omega)]
theorem V0_s {i : Int} (h : 0 ≤ i) (h2 : i < 8) : V0 (83 + i) = cINIT i := by
  unfold V0
  rw [if_neg (by omega), if_pos (by omega), show 83 + i - 83 = i by omega]
theorem z_6 {f : Int} (h : 0 ≤ f) (h2 : f < 6) : f = 0 ∨ f = 1 ∨ f = 2 ∨ f = 3 ∨ f = 4 ∨ f = 5 := by omega
theorem TW_start {τ : zSt} (h : zRM τ) : TW sgI τ 0 := by
  obtain ⟨⟨h3, h6, h14⟩, ⟨d0, d1⟩, hs, hz⟩ := h
  have d2 := hz 2 (by omega) (by omega)
  have d3 := hz 3 (by omega) (by omega)
  have d4 := hz 4 (by omega) (by omega)
  have d5 := hz 5 (by omega) (by omega)
  have c : ∀ i : Int, 0 ≤ i → i < 8 → cINIT i = τ 1 (83 + i) := fun i a b => (hs i a b).symm
  have s0 : τ 1 83 = 1 := hs 0 (by omega) (by omega)
  have s1 : τ 1 84 = 2 := hs 1 (by omega) (by omega)
  have s2 : τ 1 85 = 1 := hs 2 (by omega) (by omega)
  have s3 : τ 1 86 = 2 := hs 3 (by omega) (by omega)
  have s4 : τ 1 87 = 2 := hs 4 (by omega) (by omega)
  have s5 : τ 1 88 = 100 := hs 5 (by omega) (by omega)
  have s6 : τ 1 89 = 10 := hs 6 (by omega) (by omega)
  have s7 : τ 1 90 = 50 := hs 7 (by omega) (by omega)
  have wf : WF (τ 1) := by
    refine ⟨?_, ?_, ⟨?_, ?_⟩, ?_, ⟨?_, ?_⟩, ?_⟩
    · unfold WFa; omega
    · unfold WFs; omega
    · intro f _ b; rw [d2] at b; omega
    · intro f _ b; rw [d2] at b; omega
    · intro f x y _ b; rw [d2] at b; omega
    · intro k _ b; rw [d3] at b; omega
    · intro k _ b; rw [d4] at b; omega
    · intro t _ b; rw [d5] at b; omega
  have cap : ∀ f : Int, 0 ≤ f → f < 6 → sgI 75 f = 83 + f := fun f a b => rfl
  have cap2 : ∀ f : Int, 0 ≤ f → f < 6 → sgI 106 f = 114 + f := fun f a b => rfl
  refine ⟨τ 1, V0, 0, fun _ => (0, 0, 0, 0, 0), fun _ => τ 1, ⟨⟨⟨wf, ?_, ?_, ?_, ?_⟩, ?_, ?_, ?_⟩, ?_⟩, ⟨?_, ?_, ?_, ?_⟩, ?_, ?_, ?_, rfl, ?_, trivial, ?_, ?_⟩
  · exact ⟨Or.inl rfl, d0.symm, d1.symm, d2.symm, d5.symm, d3.symm, d4.symm, fun i a b => c i a b⟩
  · refine ⟨fun f a b => ?_, fun f _ b => ?_, fun f x y _ b => ?_⟩
    · show 73 + 10 ≤ sgI 75 f ∧ sgI 75 f < 73 + 16
      rw [cap f a b]; omega
    · rw [d2] at b; omega
    · rw [d2] at b; omega
  · refine ⟨fun k _ b => ?_, fun k _ b => ?_⟩
    · rw [d3] at b; omega
    · rw [d4] at b; omega
  · intro t _ b; rw [d5] at b; omega
  · show (0 : Int) ≤ 0 ∧ (0 : Int) < 100000; omega
  · show (-1 : Int) ≤ -1 ∧ (-1 : Int) ≤ 0; omega
  · intro q
    have q : (-1 : Int) = 0 := q
    omega
  · intro i a b
    have e : sgI (24 + i) 0 = -1 := by rcases z_6 a b with rfl | rfl | rfl | rfl | rfl | rfl <;> rfl
    rw [e]
    refine ⟨?_, fun q => ?_⟩
    · show (-1 : Int) ≤ -1 ∧ (-1 : Int) ≤ 0; omega
    · have q : (-1 : Int) = 0 := q
      omega
  · exact ⟨Or.inl rfl, rfl, rfl, rfl, rfl, rfl, rfl, fun i a b => (V0_s a b).symm⟩
  · refine ⟨fun f a b => ?_, fun f g a b a2 b2 q => ?_, fun f a b => ?_, fun f o a b oa ob => ?_⟩
    · show 73 + 10 ≤ sgI 75 f ∧ sgI 75 f < 73 + 16
      rw [cap f a b]; omega
    · have q : sgI 75 f = sgI 75 g := q
      rw [cap f a b, cap g a2 b2] at q; omega
    · rw [V0_z (by omega)]
      rcases z_6 a b with rfl | rfl | rfl | rfl | rfl | rfl <;> rfl
    · rw [V0_z (by omega)]
      rcases z_6 a b with rfl | rfl | rfl | rfl | rfl | rfl <;> rfl
  · refine ⟨fun k _ b => ?_, fun k _ b => ?_⟩
    · rw [V0_z (by omega)] at b; omega
    · rw [V0_z (by omega)] at b; omega
  · intro t _ b; rw [V0_z (by omega)] at b; omega
  · refine ⟨⟨d0.symm, d1.symm, d2.symm, d3.symm, d4.symm, d5.symm⟩, fun i a b => (V0_s a b).trans (c i a b), fun f _ b => ?_, fun f x y _ b => ?_, fun k _ b => ?_, fun k _ b => ?_, fun t _ b => ?_⟩
    · rw [d2] at b; omega
    · rw [d2] at b; omega
    · rw [d3] at b; omega
    · rw [d4] at b; omega
    · rw [d5] at b; omega
  · intro t _ b; rw [V0_z (by omega)] at b; omega
  · exact ⟨rfl, by omega, by show (0 : Int) ≤ 0 ∧ (0 : Int) < 10; omega, fun h b => absurd b (Nat.not_lt_zero h)⟩
  · exact ⟨h3, by omega, fun h b => absurd b (Nat.not_lt_zero h)⟩
  · show (0 : Int) ≤ 0; omega
  · refine ⟨⟨rfl, fun f a b => ?_, fun f g a b a2 b2 q => ?_⟩, ⟨h6.symm, ?_, fun j a b => ?_⟩, h14.symm, ⟨rfl, rfl, rfl, rfl⟩, fun j a b => ?_⟩
    · show 114 ≤ sgI 106 f ∧ sgI 106 f < 120
      rw [cap2 f a b]; omega
    · have q : sgI 106 f = sgI 106 g := q
      rw [cap2 f a b, cap2 g a2 b2] at q; omega
    · show (0 : Int) ≤ 0 ∧ (0 : Int) ≤ 1400; omega
    · have b : j < 0 := b
      omega
    · have b : j < 0 := b
      omega
theorem zAnd63 (x : Int32) : ∃ i : Nat, i < 64 ∧ (x &&& Int32.ofInt 63).toInt = (i : Int) := by
  have h : (x.toBitVec &&& BitVec.ofInt 32 63).toNat < 64 := by
    rw [BitVec.toNat_and]
    exact Nat.lt_of_le_of_lt Nat.and_le_right (by decide)
  refine ⟨(x.toBitVec &&& BitVec.ofInt 32 63).toNat, h, ?_⟩
  show (x.toBitVec &&& BitVec.ofInt 32 63).toInt = _
  rw [BitVec.toInt_eq_toNat_of_lt (by omega)]
section ZLE
variable {p : Program} {l : Launch} {e : Env} {s : State} {m : MethodId} {args : Array Value} {below : List Frame} {meth : Method} {c : Code} {cells slots : Nat} {Q : State → Prop}
variable {D : va_G} {dA : Nat → ClassId} {aL aG aI : Nat} {aK aV : Nat → Nat} {b L : Nat} {xs : Nat → Int32} {ad bd : Nat → Nat} {od : Nat} {o : Int64} {σ τ : zSt}
variable {pc : Nat} {lv : List (Nat × Value)} {stk : List Value} {ws : va_W}
theorem zl_len (hC : zLC p m c s args meth D dA (zXX aL aG aI aK aV) b L xs) (hdg : decode cL_law (pc) = .ok (.arraylength, 1)) (g : zL p l e room_1 s m args below meth c (cells) (slots) Q 7 D (fun q => s.heap.size ≤ q) (pc + 1) (lv) (vI (L : Int) :: stk) (ws)) : zL p l e room_1 s m args below meth c (cells) (slots) Q 7 D (fun q => s.heap.size ≤ q) (pc) (lv) (.ref b :: stk) (ws) := by
  intro H locs ls hP hD hS hl
  refine va_slen hC.1.1.1 hC.1.1.2.1 hC.2.2.1 hC.2.2.2.1 (Nat.not_le.mpr hC.2.2.2.1) hS hdg ?_
  have e : Value.int (Int32.ofNat L) = vI (L : Int) := congrArg Value.int (by
    apply Int32.toInt_inj.mp
    rw [Int32.toInt_ofNat_of_lt (by have := hC.2.2.2.2; omega), Int32.toInt_ofInt_of_le (by omega) (by have := hC.2.2.2.2; omega)])
  rw [e]
  exact g H locs ls hP hD hS hl
theorem zl_iand (hC : zLC p m c s args meth D dA (zXX aL aG aI aK aV) b L xs) {y z : Int} (hdg : decode cL_law (pc) = .ok (.iand, 1)) (g : zL p l e room_1 s m args below meth c (cells) (slots) Q 7 D (fun q => s.heap.size ≤ q) (pc + 1) (lv) (.int (Int32.ofInt y &&& Int32.ofInt z) :: stk) (ws)) : zL p l e room_1 s m args below meth c (cells) (slots) Q 7 D (fun q => s.heap.size ≤ q) (pc) (lv) (vI z :: vI y :: stk) (ws) :=
  fun H locs ls hP hD hS hl => lv_iand hC.1.1.1 hC.1.1.2.1 hdg (g H locs ls hP hD hS hl)
theorem zl_tab (hC : zLC p m c s args meth D dA (zXX aL aG aI aK aV) b L xs) {x : Int32} {off : Int} {tgt : Nat} (i : Nat) (hx : x.toInt = (i : Int)) (hi : i < 64) {offs : Array Int} {dflt : Int} (hdg : decode cL_law 40 = .ok (.tableswitch dflt 0 63 offs, 272)) (ho : offs[i]? = some off) (ht : ((40 : Nat) : Int) + off = (tgt : Int)) (g : zL p l e room_1 s m args below meth c (cells) (slots) Q 7 D (fun q => s.heap.size ≤ q) (tgt) (lv) (stk) (ws)) : zL p l e room_1 s m args below meth c (cells) (slots) Q 7 D (fun q => s.heap.size ≤ q) (40) (lv) (.int x :: stk) (ws) :=
  fun H locs ls hP hD hS hl => lv_tableIn hC.1.1.1 hC.1.1.2.1 hdg (by omega) (by omega) (by rw [hx, show ((i : Int) - 0).toNat = i by omega]; exact ho) ht (g H locs ls hP hD hS hl)
theorem lb_all (hC : zLC p m c s args meth D dA (zXX aL aG aI aK aV) b L xs) {n : Nat} {μ : Int} (hst : l.stackTraces = false) (hT : TW σ τ μ) (hm : μ < 99999) (hn : 6 * n + 5 < L) (hcs : cells + 3 ≤ room_1.cells ∧ slots + 18 ≤ room_1.slots) (g : ∀ (o1 : Int64) (σ1 τ1 : zSt), TW σ1 τ1 (μ + 1) → zL p l e room_1 s m args below meth c (cells + 3) (slots + 18) Q 7 D (fun q => s.heap.size ≤ q) (3543) (zLV b ad bd od n) ([]) (zLW dA ad bd od o1 σ1 τ1)) {x : Int32} {i : Nat} (hx : x.toInt = (i : Int)) (hi : i < 64) : zL p l e room_1 s m args below meth c (cells) (slots) Q 7 D (fun q => s.heap.size ≤ q) (40) (zLV b ad bd od n) (.int x :: []) (zLW dA ad bd od o σ τ) := by
  match i, hx, hi with
  | 0, hx, hi => exact zl_tab hC (off := 272) (tgt := 312) 0 hx hi dL_law_40 rfl (by decide) (lb_0 hC hst hT hm hn hcs g)
  | 1, hx, hi => exact zl_tab hC (off := 345) (tgt := 385) 1 hx hi dL_law_40 rfl (by decide) (lb_1 hC hst hT hm hn hcs g)
  | 2, hx, hi => exact zl_tab hC (off := 370) (tgt := 410) 2 hx hi dL_law_40 rfl (by decide) (lb_2 hC hst hT hm hn hcs g)
  | 3, hx, hi => exact zl_tab hC (off := 383) (tgt := 423) 3 hx hi dL_law_40 rfl (by decide) (lb_3 hC hst hT hm hn hcs g)
  | 4, hx, hi => exact zl_tab hC (off := 396) (tgt := 436) 4 hx hi dL_law_40 rfl (by decide) (lb_4 hC hst hT hm hn hcs g)
  | 5, hx, hi => exact zl_tab hC (off := 409) (tgt := 449) 5 hx hi dL_law_40 rfl (by decide) (lb_5 hC hst hT hm hn hcs g)
  | 6, hx, hi => exact zl_tab hC (off := 422) (tgt := 462) 6 hx hi dL_law_40 rfl (by decide) (lb_6 hC hst hT hm hn hcs g)
  | 7, hx, hi => exact zl_tab hC (off := 435) (tgt := 475) 7 hx hi dL_law_40 rfl (by decide) (lb_7 hC hst hT hm hn hcs g)
  | 8, hx, hi => exact zl_tab hC (off := 448) (tgt := 488) 8 hx hi dL_law_40 rfl (by decide) (lb_8 hC hst hT hm hn hcs g)
  | 9, hx, hi => exact zl_tab hC (off := 461) (tgt := 501) 9 hx hi dL_law_40 rfl (by decide) (lb_9 hC hst hT hm hn hcs g)
  | 10, hx, hi => exact zl_tab hC (off := 486) (tgt := 526) 10 hx hi dL_law_40 rfl (by decide) (lb_10 hC hst hT hm hn hcs g)
  | 11, hx, hi => exact zl_tab hC (off := 523) (tgt := 563) 11 hx hi dL_law_40 rfl (by decide) (lb_11 hC hst hT hm hn hcs g)
  | 12, hx, hi => exact zl_tab hC (off := 579) (tgt := 619) 12 hx hi dL_law_40 rfl (by decide) (lb_12 hC hst hT hm hn hcs g)
  | 13, hx, hi => exact zl_tab hC (off := 659) (tgt := 699) 13 hx hi dL_law_40 rfl (by decide) (lb_13 hC hst hT hm hn hcs g)
  | 14, hx, hi => exact zl_tab hC (off := 720) (tgt := 760) 14 hx hi dL_law_40 rfl (by decide) (lb_14 hC hst hT hm hn hcs g)
  | 15, hx, hi => exact zl_tab hC (off := 745) (tgt := 785) 15 hx hi dL_law_40 rfl (by decide) (lb_15 hC hst hT hm hn hcs g)
  | 16, hx, hi => exact zl_tab hC (off := 801) (tgt := 841) 16 hx hi dL_law_40 rfl (by decide) (lb_16 hC hst hT hm hn hcs g)
  | 17, hx, hi => exact zl_tab hC (off := 864) (tgt := 904) 17 hx hi dL_law_40 rfl (by decide) (lb_17 hC hst hT hm hn hcs g)
  | 18, hx, hi => exact zl_tab hC (off := 877) (tgt := 917) 18 hx hi dL_law_40 rfl (by decide) (lb_18 hC hst hT hm hn hcs g)
  | 19, hx, hi => exact zl_tab hC (off := 940) (tgt := 980) 19 hx hi dL_law_40 rfl (by decide) (lb_19 hC hst hT hm hn hcs g)
  | 20, hx, hi => exact zl_tab hC (off := 996) (tgt := 1036) 20 hx hi dL_law_40 rfl (by decide) (lb_20 hC hst hT hm hn hcs g)
  | 21, hx, hi => exact zl_tab hC (off := 1052) (tgt := 1092) 21 hx hi dL_law_40 rfl (by decide) (lb_21 hC hst hT hm hn hcs g)
  | 22, hx, hi => exact zl_tab hC (off := 1108) (tgt := 1148) 22 hx hi dL_law_40 rfl (by decide) (lb_22 hC hst hT hm hn hcs g)
  | 23, hx, hi => exact zl_tab hC (off := 1200) (tgt := 1240) 23 hx hi dL_law_40 rfl (by decide) (lb_23 hC hst hT hm hn hcs g)
  | 24, hx, hi => exact zl_tab hC (off := 1292) (tgt := 1332) 24 hx hi dL_law_40 rfl (by decide) (lb_24 hC hst hT hm hn hcs g)
  | 25, hx, hi => exact zl_tab hC (off := 1384) (tgt := 1424) 25 hx hi dL_law_40 rfl (by decide) (lb_25 hC hst hT hm hn hcs g)
  | 26, hx, hi => exact zl_tab hC (off := 1452) (tgt := 1492) 26 hx hi dL_law_40 rfl (by decide) (lb_26 hC hst hT hm hn hcs g)
  | 27, hx, hi => exact zl_tab hC (off := 1520) (tgt := 1560) 27 hx hi dL_law_40 rfl (by decide) (lb_27 hC hst hT hm hn hcs g)
  | 28, hx, hi => exact zl_tab hC (off := 1576) (tgt := 1616) 28 hx hi dL_law_40 rfl (by decide) (lb_28 hC hst hT hm hn hcs g)
  | 29, hx, hi => exact zl_tab hC (off := 1656) (tgt := 1696) 29 hx hi dL_law_40 rfl (by decide) (lb_29 hC hst hT hm hn hcs g)
  | 30, hx, hi => exact zl_tab hC (off := 1712) (tgt := 1752) 30 hx hi dL_law_40 rfl (by decide) (lb_30 hC hst hT hm hn hcs g)
  | 31, hx, hi => exact zl_tab hC (off := 1768) (tgt := 1808) 31 hx hi dL_law_40 rfl (by decide) (lb_31 hC hst hT hm hn hcs g)
  | 32, hx, hi => exact zl_tab hC (off := 1824) (tgt := 1864) 32 hx hi dL_law_40 rfl (by decide) (lb_32 hC hst hT hm hn hcs g)
  | 33, hx, hi => exact zl_tab hC (off := 1892) (tgt := 1932) 33 hx hi dL_law_40 rfl (by decide) (lb_33 hC hst hT hm hn hcs g)
  | 34, hx, hi => exact zl_tab hC (off := 1948) (tgt := 1988) 34 hx hi dL_law_40 rfl (by decide) (lb_34 hC hst hT hm hn hcs g)
  | 35, hx, hi => exact zl_tab hC (off := 2016) (tgt := 2056) 35 hx hi dL_law_40 rfl (by decide) (lb_35 hC hst hT hm hn hcs g)
  | 36, hx, hi => exact zl_tab hC (off := 2029) (tgt := 2069) 36 hx hi dL_law_40 rfl (by decide) (lb_36 hC hst hT hm hn hcs g)
  | 37, hx, hi => exact zl_tab hC (off := 2085) (tgt := 2125) 37 hx hi dL_law_40 rfl (by decide) (lb_37 hC hst hT hm hn hcs g)
  | 38, hx, hi => exact zl_tab hC (off := 2153) (tgt := 2193) 38 hx hi dL_law_40 rfl (by decide) (lb_38 hC hst hT hm hn hcs g)
  | 39, hx, hi => exact zl_tab hC (off := 2221) (tgt := 2261) 39 hx hi dL_law_40 rfl (by decide) (lb_39 hC hst hT hm hn hcs g)
  | 40, hx, hi => exact zl_tab hC (off := 2289) (tgt := 2329) 40 hx hi dL_law_40 rfl (by decide) (lb_40 hC hst hT hm hn hcs g)
  | 41, hx, hi => exact zl_tab hC (off := 2357) (tgt := 2397) 41 hx hi dL_law_40 rfl (by decide) (lb_41 hC hst hT hm hn hcs g)
  | 42, hx, hi => exact zl_tab hC (off := 2406) (tgt := 2446) 42 hx hi dL_law_40 rfl (by decide) (lb_42 hC hst hT hm hn hcs g)
  | 43, hx, hi => exact zl_tab hC (off := 2419) (tgt := 2459) 43 hx hi dL_law_40 rfl (by decide) (lb_43 hC hst hT hm hn hcs g)
  | 44, hx, hi => exact zl_tab hC (off := 2444) (tgt := 2484) 44 hx hi dL_law_40 rfl (by decide) (lb_44 hC hst hT hm hn hcs g)
  | 45, hx, hi => exact zl_tab hC (off := 2469) (tgt := 2509) 45 hx hi dL_law_40 rfl (by decide) (lb_45 hC hst hT hm hn hcs g)
  | 46, hx, hi => exact zl_tab hC (off := 2482) (tgt := 2522) 46 hx hi dL_law_40 rfl (by decide) (lb_46 hC hst hT hm hn hcs g)
  | 47, hx, hi => exact zl_tab hC (off := 2538) (tgt := 2578) 47 hx hi dL_law_40 rfl (by decide) (lb_47 hC hst hT hm hn hcs g)
  | 48, hx, hi => exact zl_tab hC (off := 2606) (tgt := 2646) 48 hx hi dL_law_40 rfl (by decide) (lb_48 hC hst hT hm hn hcs g)
  | 49, hx, hi => exact zl_tab hC (off := 2674) (tgt := 2714) 49 hx hi dL_law_40 rfl (by decide) (lb_49 hC hst hT hm hn hcs g)
  | 50, hx, hi => exact zl_tab hC (off := 2723) (tgt := 2763) 50 hx hi dL_law_40 rfl (by decide) (lb_50 hC hst hT hm hn hcs g)
  | 51, hx, hi => exact zl_tab hC (off := 2760) (tgt := 2800) 51 hx hi dL_law_40 rfl (by decide) (lb_51 hC hst hT hm hn hcs g)
  | 52, hx, hi => exact zl_tab hC (off := 2816) (tgt := 2856) 52 hx hi dL_law_40 rfl (by decide) (lb_52 hC hst hT hm hn hcs g)
  | 53, hx, hi => exact zl_tab hC (off := 2884) (tgt := 2924) 53 hx hi dL_law_40 rfl (by decide) (lb_53 hC hst hT hm hn hcs g)
  | 54, hx, hi => exact zl_tab hC (off := 2964) (tgt := 3004) 54 hx hi dL_law_40 rfl (by decide) (lb_54 hC hst hT hm hn hcs g)
  | 55, hx, hi => exact zl_tab hC (off := 3001) (tgt := 3041) 55 hx hi dL_law_40 rfl (by decide) (lb_55 hC hst hT hm hn hcs g)
  | 56, hx, hi => exact zl_tab hC (off := 3057) (tgt := 3097) 56 hx hi dL_law_40 rfl (by decide) (lb_56 hC hst hT hm hn hcs g)
  | 57, hx, hi => exact zl_tab hC (off := 3070) (tgt := 3110) 57 hx hi dL_law_40 rfl (by decide) (lb_57 hC hst hT hm hn hcs g)
  | 58, hx, hi => exact zl_tab hC (off := 3083) (tgt := 3123) 58 hx hi dL_law_40 rfl (by decide) (lb_58 hC hst hT hm hn hcs g)
  | 59, hx, hi => exact zl_tab hC (off := 3163) (tgt := 3203) 59 hx hi dL_law_40 rfl (by decide) (lb_59 hC hst hT hm hn hcs g)
  | 60, hx, hi => exact zl_tab hC (off := 3243) (tgt := 3283) 60 hx hi dL_law_40 rfl (by decide) (lb_60 hC hst hT hm hn hcs g)
  | 61, hx, hi => exact zl_tab hC (off := 3311) (tgt := 3351) 61 hx hi dL_law_40 rfl (by decide) (lb_61 hC hst hT hm hn hcs g)
  | 62, hx, hi => exact zl_tab hC (off := 3379) (tgt := 3419) 62 hx hi dL_law_40 rfl (by decide) (lb_62 hC hst hT hm hn hcs g)
  | 63, hx, hi => exact zl_tab hC (off := 3435) (tgt := 3475) 63 hx hi dL_law_40 rfl (by decide) (lb_63 hC hst hT hm hn hcs g)
  | (i + 64), _, hi => exact absurd hi (by omega)
theorem lb_loop (hC : zLC p m c s args meth D dA (zXX aL aG aI aK aV) b L xs) (hst : l.stackTraces = false) (hQ : ∀ (cells slots : Nat) (lv : List (Nat × Value)) (ws : va_W), cells ≤ 2000 → slots ≤ 30000 → zL p l e room_1 s m args below meth c cells slots Q 7 D (fun q => s.heap.size ≤ q) 3550 lv [vI 1] ws) :
    ∀ (k n : Nat), L < 6 * n + 6 * k → 6 * n ≤ 3072 → ∀ (o : Int64) (σ τ : zSt) (cells slots : Nat), cells ≤ 200 + 3 * n → slots ≤ 15000 + 18 * n → TW σ τ (n : Int) → zL p l e room_1 s m args below meth c (cells) (slots) Q 7 D (fun q => s.heap.size ≤ q) (23) (zLV b ad bd od n) ([]) (zLW dA ad bd od o σ τ) := by
  intro k
  induction k with
  | zero =>
    intro n hk hn3 o σ τ cells slots h1 h2 hT
    refine zn_iload hC.1 dL_law_23 4 rfl ?_
    refine zn_aload_n hC.1 dL_law_25 0 rfl rfl ?_
    refine zl_len hC dL_law_26 ?_
    refine zn_bipush hC.1 dL_law_27 rfl ?_
    refine zn_isub hC.1 dL_law_29 ?_
    refine zn_gt (tgt := 3549) hC.1 ⟨by omega, by omega⟩ (by have := hC.2.2.2.2; exact ⟨by omega, by omega⟩) dL_law_30 (by decide) (fun hlt => ?_) (fun hlt => absurd (by omega) hlt)
    refine zn_iconst hC.1 dL_law_3549 ?_
    exact hQ _ _ _ _ (by omega) (by omega)
  | succ k ih =>
    intro n hk hn3 o σ τ cells slots h1 h2 hT
    refine zn_iload hC.1 dL_law_23 4 rfl ?_
    refine zn_aload_n hC.1 dL_law_25 0 rfl rfl ?_
    refine zl_len hC dL_law_26 ?_
    refine zn_bipush hC.1 dL_law_27 rfl ?_
    refine zn_isub hC.1 dL_law_29 ?_
    refine zn_gt (tgt := 3549) hC.1 ⟨by omega, by omega⟩ (by have := hC.2.2.2.2; exact ⟨by omega, by omega⟩) dL_law_30 (by decide) (fun hlt => ?_) (fun hlt => ?_)
    · refine zn_iconst hC.1 dL_law_3549 ?_
      exact hQ _ _ _ _ (by omega) (by omega)
    · have hL := hC.2.2.2.2
      refine zn_aload_n hC.1 dL_law_33 0 rfl rfl ?_
      refine zn_iload hC.1 dL_law_34 4 rfl ?_
      refine zl_ald hC (j := 6 * n) (by omega) (by omega) dL_law_36 ?_
      refine zn_bipush hC.1 dL_law_37 rfl ?_
      refine zl_iand hC dL_law_39 ?_
      obtain ⟨i, hi, hx⟩ := zAnd63 (Int32.ofInt (sc xs (6 * n)))
      have hr : room_1.cells = 601024 ∧ room_1.slots = 7293034 := ⟨rfl, rfl⟩
      refine lb_all hC hst hT (by omega) (by omega) ⟨by rw [hr.1]; omega, by rw [hr.2]; omega⟩ (fun o1 σ1 τ1 hT1 => ?_) hx hi
      refine zn_iinc hC.1 ((4, vI (6 * (n : Int) + 6)) :: [(0, .ref b), (1, vR ad 0), (2, vR bd 0), (3, .ref od)]) dL_law_3543 4 rfl (by decide) rfl ?_
      have e : 6 * (n : Int) + 6 = 6 * ((n + 1 : Nat) : Int) := by omega
      rw [e]
      refine zn_sub (lv' := zLV b ad bd od (n + 1)) [1, 2, 3, 4, 0] rfl ?_
      refine zn_goto (tgt := 23) hC.1 dL_law_3546 (by decide) ?_
      refine ih (n + 1) (by omega) (by omega) o1 σ1 τ1 _ _ (by omega) (by omega) ?_
      have e2 : ((n + 1 : Nat) : Int) = (n : Int) + 1 := by omega
      rw [e2]; exact hT1
end ZLE
theorem zn_init2 {p : Program} {l : Launch} {e : Env} {R : Room} {s : State} {m : MethodId} {args : Array Value} {below : List Frame} {meth : Method} {c : Code} {cells slots : Nat} {Q : State → Prop}
    {cc : ByteArray} {nL : Nat} {Ts : List Cond} {own : String} {D : va_G} {dA : Nat → ClassId} {A : Nat → Prop} {pc : Nat} {lv : List (Nat × Value)} {stk : List Value} {ws : va_W}
    {aL aG aI : Nat} {aK aV : Nat → Nat} (hC : zIC p m c cc nL s args Ts own meth D dA A (zXX aL aG aI aK aV)) {y : MethodName} {bytes : ByteArray} {maxL n index mc ms ci q : Nat} {wc : List Cond} {rm : Room} {fs : List Value} (hM : zIM2 l y wc rm mc ms ci fs) (cw : CallB R s args own index y bytes maxL none wc rm mc ms n ∧ y.name = "<init>" ∧ (Cond.instanceMethod y).before args s = true) (hn : ([] : List Value).length = n) (hWd : (stk.map fun v => v.category).sum ≤ 8) (hcs : cells + mc ≤ R.cells ∧ slots + ms ≤ R.slots) (hdg : decode cc pc = .ok (.invokespecial index, 3)) (g : ∀ (u : Nat → Nat) (τ : zSt), u 0 = q → zRM τ → zL p l e R s m args below meth c (cells + mc) (slots + ms) Q nL D A (pc + 3) lv stk (zW 22 u (celM u dA τ) ++ ws)) : zL p l e R s m args below meth c cells slots Q nL D A pc lv (.ref q :: stk) ((q, .inr (ci, fs)) :: ws) := by
  intro H locs ls hP hD hS hl
  have hsub2 : ∀ y, zOn q H.size y → A y := fun y h => h.elim (fun h => by rw [h]; exact hD.2 0 _ rfl) (fun h => hC.2.2.2.1 y (Nat.le_trans hS.1 h))
  refine va_callv (va_runI (As := []) (rest := stk) hC.1 (hM D dA aL aG aI aK aV q H.size) cw ⟨zI_blind, fun U hU hW => ⟨rfl, zI_pre hC hP hD hS hU hW⟩⟩ rfl hn hl.1 rfl (by show 2 * 0 + _ ≤ 8; omega) hdg hcs) hS (fun y _ h => hsub2 y h) hsub2 (fun u t H1 locs1 ht hvm hw hB hz1 hk1 hS1 => ?_)
  obtain ⟨b1, b2, b3⟩ := hB
  rw [ht] at b1
  obtain ⟨hP2, hD2⟩ := zI_join hP hD hsub2 hk1 b1 b2
  exact g u.1 u.2 hw.1 hw.2 H1 locs1 ls hP2 hD2 hS1 hl
