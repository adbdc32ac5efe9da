/-! what holds at the start -/
theorem tk1 {w : Cond} (i : Nat) (h : tables_1_1[i]? = some w) : w ∈ lw_tbl := List.mem_append_right _ (List.mem_append_left _ (List.mem_of_getElem? h))
theorem tk2 {w : Cond} (i : Nat) (h : tables_1_2[i]? = some w) : w ∈ lw_tbl := List.mem_append_right _ (List.mem_append_right _ (List.mem_append_left _ (List.mem_of_getElem? h)))
theorem tk3 {w : Cond} (i : Nat) (h : tables_1_3[i]? = some w) : w ∈ lw_tbl := List.mem_append_right _ (List.mem_append_right _ (List.mem_append_right _ (List.mem_append_left _ (List.mem_of_getElem? h))))
theorem tk4 {w : Cond} (i : Nat) (h : tables_1_4[i]? = some w) : w ∈ lw_tbl := List.mem_append_right _ (List.mem_append_right _ (List.mem_append_right _ (List.mem_append_right _ (List.mem_append_left _ (List.mem_of_getElem? h)))))
theorem tk5 {w : Cond} (i : Nat) (h : tables_1_5[i]? = some w) : w ∈ lw_tbl := List.mem_append_right _ (List.mem_append_right _ (List.mem_append_right _ (List.mem_append_right _ (List.mem_append_right _ (List.mem_append_left _ (List.mem_of_getElem? h))))))
theorem tk6 {w : Cond} (i : Nat) (h : tables_1_6[i]? = some w) : w ∈ lw_tbl := List.mem_append_right _ (List.mem_append_right _ (List.mem_append_right _ (List.mem_append_right _ (List.mem_append_right _ (List.mem_append_right _ (List.mem_append_left _ (List.mem_of_getElem? h)))))))
theorem tk7 {w : Cond} (i : Nat) (h : tables_1_7[i]? = some w) : w ∈ lw_tbl := List.mem_append_right _ (List.mem_append_right _ (List.mem_append_right _ (List.mem_append_right _ (List.mem_append_right _ (List.mem_append_right _ (List.mem_append_right _ (List.mem_append_left _ (List.mem_of_getElem? h))))))))
theorem tk8 {w : Cond} (i : Nat) (h : tables_1_8[i]? = some w) : w ∈ lw_tbl := List.mem_append_right _ (List.mem_append_right _ (List.mem_append_right _ (List.mem_append_right _ (List.mem_append_right _ (List.mem_append_right _ (List.mem_append_right _ (List.mem_append_right _ (List.mem_append_left _ (List.mem_of_getElem? h)))))))))
theorem tk9 {w : Cond} (i : Nat) (h : tables_1_9[i]? = some w) : w ∈ lw_tbl := List.mem_append_right _ (List.mem_append_right _ (List.mem_append_right _ (List.mem_append_right _ (List.mem_append_right _ (List.mem_append_right _ (List.mem_append_right _ (List.mem_append_right _ (List.mem_append_right _ ((List.mem_of_getElem? h))))))))))
def zFL : List Cond := flatC (Jvm.Cond.and given_1 narrow_1)
theorem zF {args : Array Value} {s : State} (hg : (Jvm.Cond.and given_1 narrow_1).before args s = true) (i : Nat) {w : Cond} (h : zFL[i]? = some w) : w.before args s = true := flat_of_before _ hg w (List.mem_of_getElem? h)
theorem zT_len {args : Array Value} {s : State} {t : Term} {v : Value} (h : (Term.length t).eval args s none [] s = some v) : ∃ b cell, t.eval args s none [] s = some (.ref b) ∧ s.arrayAt? b = some cell ∧ cell.slots.size < 2147483648 ∧ v = .int cell.slots.size.toInt32 := by
  obtain ⟨a, cell, h1, h2, h3⟩ := Term.length_spec h
  by_cases hs : cell.slots.size < 2147483648
  · exact ⟨a, cell, h1, h2, hs, h3⟩
  · have q := h
    simp [Term.eval, h1, h2] at q
    exact absurd q.1 hs
theorem zXof {args : Array Value} {s : State} {tm : Term} {N : Nat} {f : Nat → Int32} (hN : N < 2 ^ 31) (harr : (Cond.arrayOf tm .int).before args s = true) (hlen : (Term.length tm).eval args s none [] s = some (.int (Int32.ofNat N))) (hel : ∀ j : Nat, j < N → (Term.elem tm (.int (Int32.ofNat j))).eval args s none [] s = some (.int (f j))) : ∃ t : Nat, tm.eval args s none [] s = some (.ref t) ∧ va_X t N f s s.heap ∧ t < s.heap.size := by
  obtain ⟨t, ht, cell, hc, hof, hkn, h1, h2, h3, -⟩ := va_Tof (A := fun q => s.heap.size ≤ q) (f := fun j => .int (f j)) hN harr hlen hel (fun a h => by omega)
  obtain ⟨t', cell', ht', hat, hs, hv⟩ := zT_len hlen
  cases ht.symm.trans ht'
  obtain ⟨hcell, -⟩ := State.arrayAt?_spec hat
  cases hc.symm.trans hcell
  refine ⟨t, ht, ⟨cell, hc, hof, hkn, ?_, h3⟩, (Array.getElem?_eq_some_iff.mp hc).1⟩
  have e : Int32.ofNat cell.slots.size = Int32.ofNat N := h2
  have e2 := congrArg Int32.toInt e
  rw [Int32.toInt_ofNat_of_lt hs, Int32.toInt_ofNat_of_lt hN] at e2
  omega
theorem zSarr {args : Array Value} {s : State} (hg : (Jvm.Cond.and given_1 narrow_1).before args s = true) (n : String) (base : Nat) (f : Nat → Int32) (hl : (Cond.laysStatic "GlacierCamera" n "[I").before args s = true) (hini : (Cond.initialized "GlacierCamera").before args s = true) (h1 : zFL[base]? = some (Cond.arrayOf (Term.static "GlacierCamera" n "[I") .int)) (h2 : zFL[base + 1]? = some (Cond.eq (Term.length (Term.static "GlacierCamera" n "[I")) (.int (Int32.ofNat 8)))) (h3 : ∀ j : Nat, j < 8 → zFL[base + 2 + j]? = some (Cond.eq (Term.elem (Term.static "GlacierCamera" n "[I") (.int (Int32.ofNat j))) (.int (f j)))) : ∃ q : Nat, va_Z "GlacierCamera" n "[I" (.ref q) (fun q => s.heap.size ≤ q) s s.heap ∧ va_X q 8 f s s.heap ∧ q < s.heap.size ∧ ¬ s.heap.size ≤ q := by
  obtain ⟨q, hq, hX, hlt⟩ := zXof (N := 8) (by decide) (zF hg _ h1) (va_eqt (zF hg _ h2)) (fun j hj => va_eqt (zF hg _ (h3 j hj)))
  exact ⟨q, va_Zof hl hini hq (fun a h => by omega), hX, hlt, by omega⟩
def zTk : List (String × Nat) := [(RX4, 47), (RX4, 57), (RX4, 65), (RX4, 75), (RX4, 80), (RX4, 88), (RX4, 175), (RX4, 177), (RX4, 179), (RX4, 181), (RX4, 183), (RX4, 185), (RX4, 187), (RX4, 189), (RX11, 389), (RX11, 394), (RX11, 398), (RX11, 401), (RX11, 406), (RX11, 408), (RX11, 410)]
def zTm (i : Nat) : Term := Term.string (zTk.getD i ("", 0)).1 (zTk.getD i ("", 0)).2
def zPB : List Nat := [72, 80, 90, 103, 117, 130, 142, 158, 174, 191, 212, 235, 255, 274, 296, 327, 362, 407, 443, 480, 516]
def zPN : List (List Nat) := [[0, 89, 101, 114, 126, 137, 152, 167, 183, 203, 225, 244, 262, 283, 313, 347, 391, 426, 462, 497, 535], [89, 0, 102, 115, 127, 138, 153, 168, 184, 204, 226, 245, 263, 284, 314, 348, 392, 427, 463, 498, 536], [101, 102, 0, 116, 128, 139, 154, 169, 185, 205, 227, 246, 264, 285, 315, 349, 393, 428, 464, 499, 537], [114, 115, 116, 0, 129, 140, 155, 170, 186, 206, 228, 247, 265, 286, 316, 350, 394, 429, 465, 500, 538], [126, 127, 128, 129, 0, 141, 156, 171, 187, 207, 229, 248, 266, 287, 317, 351, 395, 430, 466, 501, 539], [137, 138, 139, 140, 141, 0, 157, 172, 188, 208, 230, 249, 267, 288, 318, 352, 396, 431, 467, 502, 540], [152, 153, 154, 155, 156, 157, 0, 173, 189, 209, 231, 250, 268, 289, 319, 353, 397, 432, 468, 503, 541], [167, 168, 169, 170, 171, 172, 173, 0, 190, 210, 232, 251, 269, 290, 320, 354, 398, 433, 469, 504, 542], [183, 184, 185, 186, 187, 188, 189, 190, 0, 211, 233, 252, 270, 291, 321, 355, 399, 434, 470, 505, 543], [203, 204, 205, 206, 207, 208, 209, 210, 211, 0, 234, 253, 271, 292, 322, 356, 400, 435, 471, 506, 544], [225, 226, 227, 228, 229, 230, 231, 232, 233, 234, 0, 254, 272, 293, 323, 357, 401, 436, 472, 507, 545], [244, 245, 246, 247, 248, 249, 250, 251, 252, 253, 254, 0, 273, 294, 324, 358, 402, 437, 473, 508, 546], [262, 263, 264, 265, 266, 267, 268, 269, 270, 271, 272, 273, 0, 295, 325, 359, 403, 438, 474, 509, 547], [283, 284, 285, 286, 287, 288, 289, 290, 291, 292, 293, 294, 295, 0, 326, 360, 404, 439, 475, 510, 548], [313, 314, 315, 316, 317, 318, 319, 320, 321, 322, 323, 324, 325, 326, 0, 361, 405, 440, 476, 511, 549], [347, 348, 349, 350, 351, 352, 353, 354, 355, 356, 357, 358, 359, 360, 361, 0, 406, 441, 477, 512, 550], [391, 392, 393, 394, 395, 396, 397, 398, 399, 400, 401, 402, 403, 404, 405, 406, 0, 442, 478, 513, 551], [426, 427, 428, 429, 430, 431, 432, 433, 434, 435, 436, 437, 438, 439, 440, 441, 442, 0, 479, 514, 552], [462, 463, 464, 465, 466, 467, 468, 469, 470, 471, 472, 473, 474, 475, 476, 477, 478, 479, 0, 515, 553], [497, 498, 499, 500, 501, 502, 503, 504, 505, 506, 507, 508, 509, 510, 511, 512, 513, 514, 515, 0, 554], [535, 536, 537, 538, 539, 540, 541, 542, 543, 544, 545, 546, 547, 548, 549, 550, 551, 552, 553, 554, 0]]
theorem zS_ex : ∀ i : Nat, i < 21 → zFL[zPB.getD i 0]? = some (Cond.exactly (zTm i) "java/lang/String") := by decide +kernel
theorem zS_co : ∀ i : Nat, i < 21 → zFL[zPB.getD i 0 + 1]? = some (Cond.eq (.field (zTm i) "java/lang/String" "coder" "B") (.int 0)) := by decide +kernel
theorem zS_ar : ∀ i : Nat, i < 21 → zFL[zPB.getD i 0 + 2]? = some (Cond.arrayOf (.field (zTm i) "java/lang/String" "value" "[B") .byte) := by decide +kernel
theorem zS_le : ∀ i : Nat, i < 21 → zFL[zPB.getD i 0 + 3]? = some (Cond.eq (.length (.field (zTm i) "java/lang/String" "value" "[B")) (.int (Int32.ofNat (zSlen.getD i 0)))) := by decide +kernel
theorem zS_el : ∀ i : Nat, i < 21 → ∀ j : Nat, j < zSlen.getD i 0 → zFL[zPB.getD i 0 + 4 + j]? = some (Cond.eq (.elem (.field (zTm i) "java/lang/String" "value" "[B") (.int (Int32.ofNat j))) (.int ((zSbyt.getD i []).getD j 0))) := by decide +kernel
theorem zS_ne : ∀ i : Nat, i < 21 → ∀ j : Nat, j < 21 → i ≠ j → zFL[(zPN.getD i []).getD j 0]? = some (Cond.not (Cond.eq (zTm i) (zTm j))) ∨ zFL[(zPN.getD i []).getD j 0]? = some (Cond.not (Cond.eq (zTm j) (zTm i))) := by decide +kernel
theorem ls_text {args : Array Value} {s : State} (hg : (Jvm.Cond.and given_1 narrow_1).before args s = true) : ∃ aK aV : Nat → Nat, vk_S 21 zSlen zSbyt aK aV (fun q => s.heap.size ≤ q) s s.heap ∧ ∀ i : Nat, i < 21 → (zTm i).eval args s none [] s = some (.ref (aK i)) :=
  vk_Sof (tm := zTm) (by decide) (fun i hi => zF hg _ (zS_ex i hi)) (fun i hi => zF hg _ (zS_co i hi)) (fun i hi => zF hg _ (zS_ar i hi)) (fun i hi => zF hg _ (zS_le i hi)) (fun i hi j hj => zF hg _ (zS_el i hi j hj)) (fun i j hi hj hn => (zS_ne i hi j hj hn).imp (fun h => zF hg _ h) (fun h => zF hg _ h)) (fun a h => by omega)
theorem ls_nest {args : Array Value} {s : State} (hts : ∀ w ∈ lw_tbl, w.before args s = true) : ∀ w ∈ zNest, va_Nw w s ∧ zNw w := by
  refine List.forall_mem_cons.mpr ⟨⟨va_Nw.of rfl (hts _ (tk5 116 rfl)), Or.inr (Or.inr (Or.inl ⟨_, _, rfl⟩))⟩, List.forall_mem_cons.mpr ⟨⟨va_Nw.of rfl (hts _ (tk5 3 rfl)), Or.inr (Or.inr (Or.inl ⟨_, _, rfl⟩))⟩, List.forall_mem_cons.mpr ⟨⟨va_Nw.of rfl (hts _ (tk5 7 rfl)), Or.inr (Or.inr (Or.inr ⟨_, rfl⟩))⟩, List.forall_mem_cons.mpr ⟨⟨va_Nw.of rfl (hts _ (tk5 5 rfl)), Or.inr (Or.inr (Or.inr ⟨_, rfl⟩))⟩, List.forall_mem_cons.mpr ⟨⟨va_Nw.of rfl (hts _ (tk5 9 rfl)), Or.inr (Or.inr (Or.inr ⟨_, rfl⟩))⟩, List.forall_mem_cons.mpr ⟨⟨va_Nw.of rfl (hts _ (tk3 117 rfl)), Or.inl ⟨_, _, _, _, _, _, rfl⟩⟩, List.forall_mem_cons.mpr ⟨⟨va_Nw.of rfl (hts _ (tk3 119 rfl)), Or.inl ⟨_, _, _, _, _, _, rfl⟩⟩, List.forall_mem_cons.mpr ⟨⟨va_Nw.of rfl (hts _ (tk1 107 rfl)), Or.inl ⟨_, _, _, _, _, _, rfl⟩⟩, List.forall_mem_cons.mpr ⟨⟨va_Nw.of rfl (hts _ (tk4 211 rfl)), Or.inr (Or.inl ⟨_, _, _, _, rfl⟩)⟩, List.forall_mem_cons.mpr ⟨⟨va_Nw.of rfl (hts _ (tk4 99 rfl)), Or.inr (Or.inl ⟨_, _, _, _, rfl⟩)⟩, List.forall_mem_cons.mpr ⟨⟨va_Nw.of rfl (hts _ (tk4 107 rfl)), Or.inr (Or.inl ⟨_, _, _, _, rfl⟩)⟩, List.forall_mem_cons.mpr ⟨⟨va_Nw.of rfl (hts _ (tk1 162 rfl)), Or.inr (Or.inl ⟨_, _, _, _, rfl⟩)⟩, List.forall_mem_cons.mpr ⟨⟨va_Nw.of rfl (hts _ (tk2 20 rfl)), Or.inr (Or.inl ⟨_, _, _, _, rfl⟩)⟩, List.forall_mem_cons.mpr ⟨⟨va_Nw.of rfl (hts _ (tk2 48 rfl)), Or.inr (Or.inl ⟨_, _, _, _, rfl⟩)⟩, List.forall_mem_cons.mpr ⟨⟨va_Nw.of rfl (hts _ (tk2 82 rfl)), Or.inr (Or.inl ⟨_, _, _, _, rfl⟩)⟩, List.forall_mem_cons.mpr ⟨⟨va_Nw.of rfl (hts _ (tk1 222 rfl)), Or.inr (Or.inl ⟨_, _, _, _, rfl⟩)⟩, List.forall_mem_cons.mpr ⟨⟨va_Nw.of rfl (hts _ (tk1 168 rfl)), Or.inr (Or.inl ⟨_, _, _, _, rfl⟩)⟩, List.forall_mem_cons.mpr ⟨⟨va_Nw.of rfl (hts _ (tk3 114 rfl)), Or.inr (Or.inl ⟨_, _, _, _, rfl⟩)⟩, List.forall_mem_cons.mpr ⟨⟨va_Nw.of rfl (hts _ (tk3 24 rfl)), Or.inr (Or.inl ⟨_, _, _, _, rfl⟩)⟩, List.forall_mem_cons.mpr ⟨⟨va_Nw.of rfl (hts _ (tk1 74 rfl)), Or.inr (Or.inl ⟨_, _, _, _, rfl⟩)⟩, List.forall_mem_cons.mpr ⟨⟨va_Nw.of rfl (hts _ (tk1 88 rfl)), Or.inr (Or.inl ⟨_, _, _, _, rfl⟩)⟩, fun _ h => absurd h List.not_mem_nil⟩⟩⟩⟩⟩⟩⟩⟩⟩⟩⟩⟩⟩⟩⟩⟩⟩⟩⟩⟩⟩
theorem ls_K {args : Array Value} {s : State} (hts : ∀ w ∈ lw_tbl, w.before args s = true) : ∃ (D : va_G) (dA : Nat → ClassId), va_K D vwCl (tyA dA) s := by
  have hu : ∀ w ∈ UW, w.before args s = true := fun w h => hts w (uw_in w h)
  have h0 : ∀ c : Nat, ∃ p : ClassId × (Nat → Nat), ∀ q : vw_C, vwCl[c]? = some q → u_Kn s q.1 q.2.1 q.2.2 p.1 p.2 := by
    intro c
    have key : ∀ {C : String} {T : u_T} {N n : Nat}, (∀ w ∈ u_ws C T N, w ∈ UW) → Cond.instantiable C n ∈ UW → vwCl[c]? = some (C, T, N) → ∃ p : ClassId × (Nat → Nat), ∀ q : vw_C, vwCl[c]? = some q → u_Kn s q.1 q.2.1 q.2.2 p.1 p.2 := by
      intro C T N n h1 h2 h3
      obtain ⟨cC, iS, h⟩ := u_known hu h1 (hu _ h2)
      exact ⟨(cC, iS), fun q hq => by rw [h3] at hq; rw [← Option.some.inj hq]; exact h⟩
    by_cases hc0 : c = 0
    · subst hc0; exact key uL0 ui_RX0 rfl
    by_cases hc1 : c = 1
    · subst hc1; exact key uL1 ui_RX1 rfl
    by_cases hc2 : c = 2
    · subst hc2; exact key uL2 ui_RX2 rfl
    by_cases hc3 : c = 3
    · subst hc3; exact key uL3 ui_RX3 rfl
    by_cases hc4 : c = 4
    · subst hc4; exact key uL4 ui_RX4 rfl
    by_cases hc5 : c = 5
    · subst hc5; exact key uL5 ui_RX5 rfl
    by_cases hc6 : c = 6
    · subst hc6; exact key uL6 ui_RX6 rfl
    by_cases hc7 : c = 7
    · subst hc7; exact key uL7 ui_RX7 rfl
    by_cases hc8 : c = 8
    · subst hc8; exact key uL8 ui_RX8 rfl
    by_cases hc9 : c = 9
    · subst hc9; exact key uL9 ui_RX9 rfl
    by_cases hc10 : c = 10
    · subst hc10; exact key uL10 ui_RX10 rfl
    by_cases hc11 : c = 11
    · subst hc11; exact key uL11 ui_RX11 rfl
    by_cases hc12 : c = 12
    · subst hc12; exact key uL12 ui_RX12 rfl
    obtain ⟨k, rfl⟩ : ∃ k, c = k + 13 := ⟨c - 13, by omega⟩
    exact ⟨(0, fun _ => 0), fun q hq => by cases hq⟩
  obtain ⟨f, hf⟩ := Classical.axiomOfChoice h0
  have pr : ∀ {ty : FieldType}, (Cond.arrayClass ty).before args s = true → ∃ cA : ClassId, ArrOfT s cA ty ∧ s.vm.findClass ("[" ++ ty.toString) = some cA := by
    intro ty h
    obtain ⟨cA, kA, comp, h1, h2, h3⟩ := Cond.arrayClass_spec h
    exact ⟨cA, fun n z => by first | exact ⟨fun k h => (by cases h), kA, h2, comp, h3⟩ | exact ⟨kA, h2, comp, h3⟩, h1⟩
  have ob : ∀ {C : String}, (Cond.arrayOver (.object C)).before args s = true → ∃ cA : ClassId, ArrOfT s cA (.object C) ∧ va_RA s cA (.object C) := by
    intro C h
    obtain ⟨comp, cA, kA, f1, -, f2, f3, f4⟩ := Cond.arrayOver_spec h
    exact ⟨cA, fun N z => ⟨(fun k h => by cases h), kA, f2, comp, f3⟩, kA, comp, f2, f3, f1, f4⟩
  obtain ⟨c0, a0, b0⟩ := pr (hu _ ua_byte)
  obtain ⟨c1, a1, b1⟩ := pr (hu _ ua_int)
  obtain ⟨c2, a2, b2⟩ := pr (hu _ ua_boolean)
  obtain ⟨c3, a3, b3⟩ := ob (hts _ (tk1 220 rfl))
  obtain ⟨c4, a4, b4⟩ := ob (hts _ (tk1 39 rfl))
  obtain ⟨c5, a5, b5⟩ := ob (hts _ (tk1 41 rfl))
  obtain ⟨c6, a6, b6⟩ := ob (hts _ (tk2 80 rfl))
  obtain ⟨c7, a7, b7⟩ := pr (hu _ ua_long)
  refine ⟨(fun c => (f c).1, fun c => (f c).2), fun k => [c0, c1, c2, c3, c4, c5, c6, c7].getD k 0, fun c q hq => hf c q hq, ?_⟩
  intro k q hk
  match k, hk with
  | 0, hk => cases hk; exact ⟨a0, b0⟩
  | 1, hk => cases hk; exact ⟨a1, b1⟩
  | 2, hk => cases hk; exact ⟨a2, b2⟩
  | 3, hk => cases hk; exact ⟨a3, b3⟩
  | 4, hk => cases hk; exact ⟨a4, b4⟩
  | 5, hk => cases hk; exact ⟨a5, b5⟩
  | 6, hk => cases hk; exact ⟨a6, b6⟩
  | 7, hk => cases hk; exact ⟨a7, b7⟩
  | (k + 8), hk => cases hk
theorem ls_start {args : Array Value} {s : State} (hts : ∀ w ∈ lw_tbl, w.before args s = true) (hg : (Jvm.Cond.and given_1 narrow_1).before args s = true) : ∃ (aL aG aI : Nat) (aK aV : Nat → Nat), zE (zXX aL aG aI aK aV) (fun q => s.heap.size ≤ q) s s.heap ∧ (∀ C ∈ zAO, va_AO C s) ∧ va_Nc eIS eIO s := by
  have hini := hts _ (tk1 1 rfl : Cond.initialized "GlacierCamera" ∈ lw_tbl)
  have hA : ∀ a : Nat, a < s.heap.size → ¬ (fun q => s.heap.size ≤ q) a := fun a h => by show ¬ s.heap.size ≤ a; omega
  obtain ⟨aL, pL⟩ := zSarr hg "LEAST_VALUE" 21 (fun j => Int32.ofInt (cLEAST (j : Int))) (hts _ (tk3 118 rfl)) hini (by decide +kernel) (by decide +kernel) (by decide +kernel)
  obtain ⟨aG, pG⟩ := zSarr hg "GREATEST_VALUE" 32 (fun j => Int32.ofInt (cGREAT (j : Int))) (hts _ (tk3 120 rfl)) hini (by decide +kernel) (by decide +kernel) (by decide +kernel)
  obtain ⟨aI, pI⟩ := zSarr hg "INITIAL_VALUE" 5 (fun j => Int32.ofInt (cINIT (j : Int))) (hts _ (tk1 108 rfl)) hini (by decide +kernel) (by decide +kernel) (by decide +kernel)
  obtain ⟨aK, aV, hS, hT⟩ := ls_text hg
  refine ⟨aL, aG, aI, aK, aV, ⟨ls_nest hts, ?_, ?_, hS, fun _ => ?_⟩, ?_, ?_⟩
  · exact List.forall_mem_cons.mpr ⟨pL, List.forall_mem_cons.mpr ⟨pG, List.forall_mem_cons.mpr ⟨pI, fun _ h => absurd h List.not_mem_nil⟩⟩⟩
  · exact List.forall_mem_cons.mpr ⟨vk_R.of (hts _ (tk2 194 rfl)) (hT 0 (by decide)), List.forall_mem_cons.mpr ⟨vk_R.of (hts _ (tk3 27 rfl)) (hT 1 (by decide)), List.forall_mem_cons.mpr ⟨vk_R.of (hts _ (tk3 61 rfl)) (hT 2 (by decide)), List.forall_mem_cons.mpr ⟨vk_R.of (hts _ (tk3 83 rfl)) (hT 3 (by decide)), List.forall_mem_cons.mpr ⟨vk_R.of (hts _ (tk3 84 rfl)) (hT 4 (by decide)), List.forall_mem_cons.mpr ⟨vk_R.of (hts _ (tk3 97 rfl)) (hT 5 (by decide)), List.forall_mem_cons.mpr ⟨vk_R.of (hts _ (tk3 106 rfl)) (hT 6 (by decide)), List.forall_mem_cons.mpr ⟨vk_R.of (hts _ (tk3 107 rfl)) (hT 7 (by decide)), List.forall_mem_cons.mpr ⟨vk_R.of (hts _ (tk3 108 rfl)) (hT 8 (by decide)), List.forall_mem_cons.mpr ⟨vk_R.of (hts _ (tk3 109 rfl)) (hT 9 (by decide)), List.forall_mem_cons.mpr ⟨vk_R.of (hts _ (tk3 110 rfl)) (hT 10 (by decide)), List.forall_mem_cons.mpr ⟨vk_R.of (hts _ (tk3 111 rfl)) (hT 11 (by decide)), List.forall_mem_cons.mpr ⟨vk_R.of (hts _ (tk3 112 rfl)) (hT 12 (by decide)), List.forall_mem_cons.mpr ⟨vk_R.of (hts _ (tk3 113 rfl)) (hT 13 (by decide)), List.forall_mem_cons.mpr ⟨vk_R.of (hts _ (tk5 41 rfl)) (hT 14 (by decide)), List.forall_mem_cons.mpr ⟨vk_R.of (hts _ (tk5 78 rfl)) (hT 15 (by decide)), List.forall_mem_cons.mpr ⟨vk_R.of (hts _ (tk5 123 rfl)) (hT 16 (by decide)), List.forall_mem_cons.mpr ⟨vk_R.of (hts _ (tk5 188 rfl)) (hT 17 (by decide)), List.forall_mem_cons.mpr ⟨vk_R.of (hts _ (tk6 20 rfl)) (hT 18 (by decide)), List.forall_mem_cons.mpr ⟨vk_R.of (hts _ (tk6 115 rfl)) (hT 19 (by decide)), List.forall_mem_cons.mpr ⟨vk_R.of (hts _ (tk6 127 rfl)) (hT 20 (by decide)), fun _ h => absurd h List.not_mem_nil⟩⟩⟩⟩⟩⟩⟩⟩⟩⟩⟩⟩⟩⟩⟩⟩⟩⟩⟩⟩⟩
  · exact ⟨vx_Zqof (hts _ (tk5 28 rfl)) (hts _ (tk1 19 rfl)) (zF hg 42 (by decide +kernel)) hA, vx_Zqof (hts _ (tk5 30 rfl)) (hts _ (tk1 19 rfl)) (zF hg 43 (by decide +kernel)) hA, va_Zof (hts _ (tk2 212 rfl)) (hts _ (tk1 15 rfl)) (va_eqi (zF hg 15 (by decide +kernel))) hA, va_Zqof (hts _ (tk2 228 rfl)) (hts _ (tk1 17 rfl)) (zF hg 16 (by decide +kernel)) hA⟩
  · exact List.forall_mem_cons.mpr ⟨va_AO.of (hts _ (tk1 220 rfl)), List.forall_mem_cons.mpr ⟨va_AO.of (hts _ (tk1 39 rfl)), List.forall_mem_cons.mpr ⟨va_AO.of (hts _ (tk1 41 rfl)), List.forall_mem_cons.mpr ⟨va_AO.of (hts _ (tk2 80 rfl)), fun _ h => absurd h List.not_mem_nil⟩⟩⟩⟩
  · exact va_Nc.of (zF hg 57 (by decide +kernel))
