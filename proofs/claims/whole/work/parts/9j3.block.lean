/-! the law: its blocks 48 to 63 -/
section ZLD3
variable {p : Program} {l : Launch} {e : Env} {s : State} {m : MethodId} {args : Array Value} {below : List Frame} {meth : Method} {c : Code} {cells slots : Nat} {Q : State → Prop}
variable {D : va_G} {dA : Nat → ClassId} {aL aG aI : Nat} {aK aV : Nat → Nat} {b L : Nat} {xs : Nat → Int32} {ad bd : Nat → Nat} {od : Nat} {o : Int64} {σ τ : zSt}
variable {pc : Nat} {lv : List (Nat × Value)} {stk : List Value} {ws : va_W}
theorem lb_48 (hC : zLC p m c s args meth D dA (zXX aL aG aI aK aV) b L xs) {n : Nat} {μ : Int} (hst : l.stackTraces = false) (hT : TW σ τ μ) (hm : μ < 99999) (hn : 6 * n + 5 < L) (hcs : cells + 3 ≤ room_1.cells ∧ slots + 18 ≤ room_1.slots) (g : ∀ (o1 : Int64) (σ1 τ1 : zSt), TW σ1 τ1 (μ + 1) → zL p l e room_1 s m args below meth c (cells + 3) (slots + 18) Q 7 D (fun q => s.heap.size ≤ q) (3543) (zLV b ad bd od n) ([]) (zLW dA ad bd od o1 σ1 τ1)) : zL p l e room_1 s m args below meth c (cells) (slots) Q 7 D (fun q => s.heap.size ≤ q) (2646) (zLV b ad bd od n) ([]) (zLW dA ad bd od o σ τ) := by
  have hcs0 : cells ≤ room_1.cells ∧ slots ≤ room_1.slots := ⟨Nat.le_trans (Nat.le_add_right _ _) hcs.1, Nat.le_trans (Nat.le_add_right _ _) hcs.2⟩
  refine zn_aload_n hC.1 dL_law_2646 1 rfl rfl ?_
  refine zl_arg hC (n := n) 1 (by omega) 0 4 rfl rfl rfl dL_law_2647 dL_law_2648 dL_law_2650 dL_law_2651 dL_law_2652 ?_
  refine zl_arg hC (n := n) 2 (by omega) 0 4 rfl rfl rfl dL_law_2653 dL_law_2654 dL_law_2656 dL_law_2657 dL_law_2658 ?_
  refine zn_aload_n hC.1 dL_law_2659 3 rfl rfl ?_
  refine zl_H hC (G := fun z o1 σ1 => (∃ v : Int, z = 0 ∧ o1 = (Int32.ofInt v).toInt64 ∧ cE (μ + 1) (fun K => fX12_readingLength K τ (sc xs (6 * n + 1)) (sc xs (6 * n + 2))) v σ1) ∨ ∃ k : Int, z = k ∧ (k = 1 ∨ k = 2) ∧ fX12_readingLength (fun _ τ1 => τ1 0 4 = k ∧ TW σ1 τ1 (μ + 1)) τ (sc xs (6 * n + 1)) (sc xs (6 * n + 2))) [vI (sc xs (6 * n + 1)), vI (sc xs (6 * n + 2)), .ref od] (fun sz => cH_readingLength l hst D dA aL aG aI aK aV ad od sz σ o (cmd_readingLength hT (sc_rg xs (6 * n + 1)) (sc_rg xs (6 * n + 2))) (fun v σ1 hk => Or.inl ⟨v, rfl, rfl, hk⟩) (fun E σ1 hk => ⟨hk.1, Or.inr ⟨1, rfl, Or.inl rfl, hk.2⟩⟩)) (vx_cwSW 4 hC.1.1.2.2.2.2 (uSW uId u1432 u1433 u104 uh_readingLength) rfl rfl rfl (by decide +kernel) ⟨Nat.le_of_ble_eq_true rfl, Nat.le_of_ble_eq_true rfl⟩) rfl rfl (Nat.le_of_ble_eq_true rfl) ⟨Nat.le_trans (Nat.add_le_add_left (by decide) cells) hcs.1, Nat.le_trans (Nat.add_le_add_left (by decide) slots) hcs.2⟩ dL_law_2660 (fun z o1 σ1 hk => ?_)
  have hcs1 : cells + 2 ≤ room_1.cells ∧ slots + 12 ≤ room_1.slots := ⟨Nat.le_trans (Nat.add_le_add_left (by decide) cells) hcs.1, Nat.le_trans (Nat.add_le_add_left (by decide) slots) hcs.2⟩
  refine zn_istore hC.1 ((5, vI z) :: zLV b ad bd od n) dL_law_2663 (by decide) rfl ?_
  refine zn_aload_n hC.1 dL_law_2665 3 rfl rfl ?_
  refine zl_arg hC (n := n) 1 (by omega) 1 5 rfl rfl rfl dL_law_2666 dL_law_2667 dL_law_2669 dL_law_2670 dL_law_2671 ?_
  refine zl_arg hC (n := n) 2 (by omega) 1 5 rfl rfl rfl dL_law_2672 dL_law_2673 dL_law_2675 dL_law_2676 dL_law_2677 ?_
  rcases hk with ⟨v, rfl, rfl, hk⟩ | ⟨k, rfl, hk1, hk⟩
  · refine zl_M hC [vI (sc xs (6 * n + 1)), vI (sc xs (6 * n + 2))] (fun hinj sz => mX12_readingLength l hinj sz hk) (cwV 2 hC.1.1.2.2.2.2 (uV uId u2136 u2137 u2138 u118 u2139) rfl rfl rfl (by decide +kernel) ⟨Nat.le_of_ble_eq_true rfl, Nat.le_of_ble_eq_true rfl⟩) rfl rfl (Nat.le_of_ble_eq_true rfl) hcs1 dL_law_2678 (fun w τ1 hk2 => ?_)
    obtain ⟨h4, rfl, hk2⟩ := hk2
    refine zl_tailI hC dL_law_2681 dL_law_2683 dL_law_2684 dL_law_2687 dL_law_2689 dL_law_2694 dL_law_2696 dL_law_2699 dL_law_2700 dL_law_2701 dL_law_2702 dL_law_2704 dL_law_2705 dL_law_2706 dL_law_2711 (by decide) hcs1 h4 (Or.inl ⟨rfl, rfl⟩) ?_
    exact zn_widen (Nat.add_le_add_left (by decide) cells) (Nat.add_le_add_left (by decide) slots) (g _ σ1 τ1 hk2)
  · refine zl_M hC [vI (sc xs (6 * n + 1)), vI (sc xs (6 * n + 2))] (fun hinj sz => mX12_readingLength l hinj sz hk) (cwV 2 hC.1.1.2.2.2.2 (uV uId u2136 u2137 u2138 u118 u2139) rfl rfl rfl (by decide +kernel) ⟨Nat.le_of_ble_eq_true rfl, Nat.le_of_ble_eq_true rfl⟩) rfl rfl (Nat.le_of_ble_eq_true rfl) hcs1 dL_law_2678 (fun w τ1 hk2 => ?_)
    obtain ⟨h4, hk2⟩ := hk2
    refine zl_tailI hC dL_law_2681 dL_law_2683 dL_law_2684 dL_law_2687 dL_law_2689 dL_law_2694 dL_law_2696 dL_law_2699 dL_law_2700 dL_law_2701 dL_law_2702 dL_law_2704 dL_law_2705 dL_law_2706 dL_law_2711 (by decide) hcs1 h4 (Or.inr hk1) ?_
    exact zn_widen (Nat.add_le_add_left (by decide) cells) (Nat.add_le_add_left (by decide) slots) (g _ σ1 τ1 hk2)
theorem lb_49 (hC : zLC p m c s args meth D dA (zXX aL aG aI aK aV) b L xs) {n : Nat} {μ : Int} (hst : l.stackTraces = false) (hT : TW σ τ μ) (hm : μ < 99999) (hn : 6 * n + 5 < L) (hcs : cells + 3 ≤ room_1.cells ∧ slots + 18 ≤ room_1.slots) (g : ∀ (o1 : Int64) (σ1 τ1 : zSt), TW σ1 τ1 (μ + 1) → zL p l e room_1 s m args below meth c (cells + 3) (slots + 18) Q 7 D (fun q => s.heap.size ≤ q) (3543) (zLV b ad bd od n) ([]) (zLW dA ad bd od o1 σ1 τ1)) : zL p l e room_1 s m args below meth c (cells) (slots) Q 7 D (fun q => s.heap.size ≤ q) (2714) (zLV b ad bd od n) ([]) (zLW dA ad bd od o σ τ) := by
  have hcs0 : cells ≤ room_1.cells ∧ slots ≤ room_1.slots := ⟨Nat.le_trans (Nat.le_add_right _ _) hcs.1, Nat.le_trans (Nat.le_add_right _ _) hcs.2⟩
  refine zn_aload_n hC.1 dL_law_2714 1 rfl rfl ?_
  refine zl_arg hC (n := n) 1 (by omega) 0 4 rfl rfl rfl dL_law_2715 dL_law_2716 dL_law_2718 dL_law_2719 dL_law_2720 ?_
  refine zl_arg hC (n := n) 2 (by omega) 0 4 rfl rfl rfl dL_law_2721 dL_law_2722 dL_law_2724 dL_law_2725 dL_law_2726 ?_
  refine zl_arg hC (n := n) 3 (by omega) 0 4 rfl rfl rfl dL_law_2727 dL_law_2728 dL_law_2730 dL_law_2731 dL_law_2732 ?_
  refine zl_X hC [vI (sc xs (6 * n + 1)), vI (sc xs (6 * n + 2)), vI (sc xs (6 * n + 3))] (fun hinj sz => mX11_addReading l hinj sz (cmd_addReading hT hm (sc_rg xs (6 * n + 1)) (sc_rg xs (6 * n + 2)) (sc_rg xs (6 * n + 3)))) (cwV 3 hC.1.1.2.2.2.2 (uV uId u969 u970 u971 u105 u972) rfl rfl rfl (by decide +kernel) ⟨Nat.le_of_ble_eq_true rfl, Nat.le_of_ble_eq_true rfl⟩) rfl rfl (Nat.le_of_ble_eq_true rfl) hcs0 dL_law_2733 (fun z σ1 hk => ?_)
  refine zn_aload_n hC.1 dL_law_2736 2 rfl rfl ?_
  refine zl_arg hC (n := n) 1 (by omega) 0 4 rfl rfl rfl dL_law_2737 dL_law_2738 dL_law_2740 dL_law_2741 dL_law_2742 ?_
  refine zl_arg hC (n := n) 2 (by omega) 0 4 rfl rfl rfl dL_law_2743 dL_law_2744 dL_law_2746 dL_law_2747 dL_law_2748 ?_
  refine zl_arg hC (n := n) 3 (by omega) 0 4 rfl rfl rfl dL_law_2749 dL_law_2750 dL_law_2752 dL_law_2753 dL_law_2754 ?_
  refine zl_M hC [vI (sc xs (6 * n + 1)), vI (sc xs (6 * n + 2)), vI (sc xs (6 * n + 3))] (fun hinj sz => mX12_addReading l hinj sz hk) (cwV 3 hC.1.1.2.2.2.2 (uV uId u2144 u2145 u2146 u118 u2147) rfl rfl rfl (by decide +kernel) ⟨Nat.le_of_ble_eq_true rfl, Nat.le_of_ble_eq_true rfl⟩) rfl rfl (Nat.le_of_ble_eq_true rfl) hcs0 dL_law_2755 (fun w τ1 hk2 => ?_)
  obtain ⟨rfl, hk2⟩ := hk2
  refine zn_eq_t (tgt := 3543) hC.1 dL_law_2758 (by decide) ?_
  exact zn_widen (Nat.le_add_right _ _) (Nat.le_add_right _ _) (g o σ1 τ1 hk2)
theorem lb_50 (hC : zLC p m c s args meth D dA (zXX aL aG aI aK aV) b L xs) {n : Nat} {μ : Int} (hst : l.stackTraces = false) (hT : TW σ τ μ) (hm : μ < 99999) (hn : 6 * n + 5 < L) (hcs : cells + 3 ≤ room_1.cells ∧ slots + 18 ≤ room_1.slots) (g : ∀ (o1 : Int64) (σ1 τ1 : zSt), TW σ1 τ1 (μ + 1) → zL p l e room_1 s m args below meth c (cells + 3) (slots + 18) Q 7 D (fun q => s.heap.size ≤ q) (3543) (zLV b ad bd od n) ([]) (zLW dA ad bd od o1 σ1 τ1)) : zL p l e room_1 s m args below meth c (cells) (slots) Q 7 D (fun q => s.heap.size ≤ q) (2763) (zLV b ad bd od n) ([]) (zLW dA ad bd od o σ τ) := by
  have hcs0 : cells ≤ room_1.cells ∧ slots ≤ room_1.slots := ⟨Nat.le_trans (Nat.le_add_right _ _) hcs.1, Nat.le_trans (Nat.le_add_right _ _) hcs.2⟩
  refine zn_aload_n hC.1 dL_law_2763 1 rfl rfl ?_
  refine zl_arg hC (n := n) 1 (by omega) 0 4 rfl rfl rfl dL_law_2764 dL_law_2765 dL_law_2767 dL_law_2768 dL_law_2769 ?_
  refine zl_arg hC (n := n) 2 (by omega) 0 4 rfl rfl rfl dL_law_2770 dL_law_2771 dL_law_2773 dL_law_2774 dL_law_2775 ?_
  refine zl_X hC [vI (sc xs (6 * n + 1)), vI (sc xs (6 * n + 2))] (fun hinj sz => mX11_removeReading l hinj sz (cmd_removeReading hT hm (sc_rg xs (6 * n + 1)) (sc_rg xs (6 * n + 2)))) (cwV 2 hC.1.1.2.2.2.2 (uV uId u982 u983 u984 u105 u985) rfl rfl rfl (by decide +kernel) ⟨Nat.le_of_ble_eq_true rfl, Nat.le_of_ble_eq_true rfl⟩) rfl rfl (Nat.le_of_ble_eq_true rfl) hcs0 dL_law_2776 (fun z σ1 hk => ?_)
  refine zn_aload_n hC.1 dL_law_2779 2 rfl rfl ?_
  refine zl_arg hC (n := n) 1 (by omega) 0 4 rfl rfl rfl dL_law_2780 dL_law_2781 dL_law_2783 dL_law_2784 dL_law_2785 ?_
  refine zl_arg hC (n := n) 2 (by omega) 0 4 rfl rfl rfl dL_law_2786 dL_law_2787 dL_law_2789 dL_law_2790 dL_law_2791 ?_
  refine zl_M hC [vI (sc xs (6 * n + 1)), vI (sc xs (6 * n + 2))] (fun hinj sz => mX12_removeReading l hinj sz hk) (cwV 2 hC.1.1.2.2.2.2 (uV uId u2152 u2153 u2154 u118 u2155) rfl rfl rfl (by decide +kernel) ⟨Nat.le_of_ble_eq_true rfl, Nat.le_of_ble_eq_true rfl⟩) rfl rfl (Nat.le_of_ble_eq_true rfl) hcs0 dL_law_2792 (fun w τ1 hk2 => ?_)
  obtain ⟨rfl, hk2⟩ := hk2
  refine zn_eq_t (tgt := 3543) hC.1 dL_law_2795 (by decide) ?_
  exact zn_widen (Nat.le_add_right _ _) (Nat.le_add_right _ _) (g o σ1 τ1 hk2)
theorem lb_51 (hC : zLC p m c s args meth D dA (zXX aL aG aI aK aV) b L xs) {n : Nat} {μ : Int} (hst : l.stackTraces = false) (hT : TW σ τ μ) (hm : μ < 99999) (hn : 6 * n + 5 < L) (hcs : cells + 3 ≤ room_1.cells ∧ slots + 18 ≤ room_1.slots) (g : ∀ (o1 : Int64) (σ1 τ1 : zSt), TW σ1 τ1 (μ + 1) → zL p l e room_1 s m args below meth c (cells + 3) (slots + 18) Q 7 D (fun q => s.heap.size ≤ q) (3543) (zLV b ad bd od n) ([]) (zLW dA ad bd od o1 σ1 τ1)) : zL p l e room_1 s m args below meth c (cells) (slots) Q 7 D (fun q => s.heap.size ≤ q) (2800) (zLV b ad bd od n) ([]) (zLW dA ad bd od o σ τ) := by
  have hcs0 : cells ≤ room_1.cells ∧ slots ≤ room_1.slots := ⟨Nat.le_trans (Nat.le_add_right _ _) hcs.1, Nat.le_trans (Nat.le_add_right _ _) hcs.2⟩
  refine zn_aload_n hC.1 dL_law_2800 1 rfl rfl ?_
  refine zl_arg hC (n := n) 1 (by omega) 0 4 rfl rfl rfl dL_law_2801 dL_law_2802 dL_law_2804 dL_law_2805 dL_law_2806 ?_
  refine zn_aload_n hC.1 dL_law_2807 3 rfl rfl ?_
  refine zl_H hC (G := fun z o1 σ1 => (∃ v : Int, z = 0 ∧ o1 = (Int32.ofInt v).toInt64 ∧ cE (μ + 1) (fun K => fX12_drillCount K τ (sc xs (6 * n + 1))) v σ1) ∨ ∃ k : Int, z = k ∧ (k = 1 ∨ k = 2) ∧ fX12_drillCount (fun _ τ1 => τ1 0 4 = k ∧ TW σ1 τ1 (μ + 1)) τ (sc xs (6 * n + 1))) [vI (sc xs (6 * n + 1)), .ref od] (fun sz => cH_drillCount l hst D dA aL aG aI aK aV ad od sz σ o (cmd_drillCount hT (sc_rg xs (6 * n + 1))) (fun v σ1 hk => Or.inl ⟨v, rfl, rfl, hk⟩) (fun E σ1 hk => ⟨hk.1, Or.inr ⟨1, rfl, Or.inl rfl, hk.2⟩⟩)) (vx_cwSW 3 hC.1.1.2.2.2.2 (uSW uId u1439 u1440 u104 uh_drillCount) rfl rfl rfl (by decide +kernel) ⟨Nat.le_of_ble_eq_true rfl, Nat.le_of_ble_eq_true rfl⟩) rfl rfl (Nat.le_of_ble_eq_true rfl) ⟨Nat.le_trans (Nat.add_le_add_left (by decide) cells) hcs.1, Nat.le_trans (Nat.add_le_add_left (by decide) slots) hcs.2⟩ dL_law_2808 (fun z o1 σ1 hk => ?_)
  have hcs1 : cells + 1 ≤ room_1.cells ∧ slots + 6 ≤ room_1.slots := ⟨Nat.le_trans (Nat.add_le_add_left (by decide) cells) hcs.1, Nat.le_trans (Nat.add_le_add_left (by decide) slots) hcs.2⟩
  refine zn_istore hC.1 ((5, vI z) :: zLV b ad bd od n) dL_law_2811 (by decide) rfl ?_
  refine zn_aload_n hC.1 dL_law_2813 3 rfl rfl ?_
  refine zl_arg hC (n := n) 1 (by omega) 1 5 rfl rfl rfl dL_law_2814 dL_law_2815 dL_law_2817 dL_law_2818 dL_law_2819 ?_
  rcases hk with ⟨v, rfl, rfl, hk⟩ | ⟨k, rfl, hk1, hk⟩
  · refine zl_M hC [vI (sc xs (6 * n + 1))] (fun hinj sz => mX12_drillCount l hinj sz hk) (cwV 1 hC.1.1.2.2.2.2 (uV uId u2156 u2157 u2158 u118 u2159) rfl rfl rfl (by decide +kernel) ⟨Nat.le_of_ble_eq_true rfl, Nat.le_of_ble_eq_true rfl⟩) rfl rfl (Nat.le_of_ble_eq_true rfl) hcs1 dL_law_2820 (fun w τ1 hk2 => ?_)
    obtain ⟨h4, rfl, hk2⟩ := hk2
    refine zl_tailI hC dL_law_2823 dL_law_2825 dL_law_2826 dL_law_2829 dL_law_2831 dL_law_2836 dL_law_2838 dL_law_2841 dL_law_2842 dL_law_2843 dL_law_2844 dL_law_2846 dL_law_2847 dL_law_2848 dL_law_2853 (by decide) hcs1 h4 (Or.inl ⟨rfl, rfl⟩) ?_
    exact zn_widen (Nat.add_le_add_left (by decide) cells) (Nat.add_le_add_left (by decide) slots) (g _ σ1 τ1 hk2)
  · refine zl_M hC [vI (sc xs (6 * n + 1))] (fun hinj sz => mX12_drillCount l hinj sz hk) (cwV 1 hC.1.1.2.2.2.2 (uV uId u2156 u2157 u2158 u118 u2159) rfl rfl rfl (by decide +kernel) ⟨Nat.le_of_ble_eq_true rfl, Nat.le_of_ble_eq_true rfl⟩) rfl rfl (Nat.le_of_ble_eq_true rfl) hcs1 dL_law_2820 (fun w τ1 hk2 => ?_)
    obtain ⟨h4, hk2⟩ := hk2
    refine zl_tailI hC dL_law_2823 dL_law_2825 dL_law_2826 dL_law_2829 dL_law_2831 dL_law_2836 dL_law_2838 dL_law_2841 dL_law_2842 dL_law_2843 dL_law_2844 dL_law_2846 dL_law_2847 dL_law_2848 dL_law_2853 (by decide) hcs1 h4 (Or.inr hk1) ?_
    exact zn_widen (Nat.add_le_add_left (by decide) cells) (Nat.add_le_add_left (by decide) slots) (g _ σ1 τ1 hk2)
theorem lb_52 (hC : zLC p m c s args meth D dA (zXX aL aG aI aK aV) b L xs) {n : Nat} {μ : Int} (hst : l.stackTraces = false) (hT : TW σ τ μ) (hm : μ < 99999) (hn : 6 * n + 5 < L) (hcs : cells + 3 ≤ room_1.cells ∧ slots + 18 ≤ room_1.slots) (g : ∀ (o1 : Int64) (σ1 τ1 : zSt), TW σ1 τ1 (μ + 1) → zL p l e room_1 s m args below meth c (cells + 3) (slots + 18) Q 7 D (fun q => s.heap.size ≤ q) (3543) (zLV b ad bd od n) ([]) (zLW dA ad bd od o1 σ1 τ1)) : zL p l e room_1 s m args below meth c (cells) (slots) Q 7 D (fun q => s.heap.size ≤ q) (2856) (zLV b ad bd od n) ([]) (zLW dA ad bd od o σ τ) := by
  have hcs0 : cells ≤ room_1.cells ∧ slots ≤ room_1.slots := ⟨Nat.le_trans (Nat.le_add_right _ _) hcs.1, Nat.le_trans (Nat.le_add_right _ _) hcs.2⟩
  refine zn_aload_n hC.1 dL_law_2856 1 rfl rfl ?_
  refine zl_arg hC (n := n) 1 (by omega) 0 4 rfl rfl rfl dL_law_2857 dL_law_2858 dL_law_2860 dL_law_2861 dL_law_2862 ?_
  refine zl_arg hC (n := n) 2 (by omega) 0 4 rfl rfl rfl dL_law_2863 dL_law_2864 dL_law_2866 dL_law_2867 dL_law_2868 ?_
  refine zn_aload_n hC.1 dL_law_2869 3 rfl rfl ?_
  refine zl_H hC (G := fun z o1 σ1 => (∃ v : Int, z = 0 ∧ o1 = (Int32.ofInt v).toInt64 ∧ cE (μ + 1) (fun K => fX12_meltTo K τ (sc xs (6 * n + 1)) (sc xs (6 * n + 2))) v σ1) ∨ ∃ k : Int, z = k ∧ (k = 1 ∨ k = 2) ∧ fX12_meltTo (fun _ τ1 => τ1 0 4 = k ∧ TW σ1 τ1 (μ + 1)) τ (sc xs (6 * n + 1)) (sc xs (6 * n + 2))) [vI (sc xs (6 * n + 1)), vI (sc xs (6 * n + 2)), .ref od] (fun sz => cH_meltTo l hst D dA aL aG aI aK aV ad od sz σ o (cmd_meltTo hT (sc_rg xs (6 * n + 1)) (sc_rg xs (6 * n + 2))) (fun v σ1 hk => Or.inl ⟨v, rfl, rfl, hk⟩) (fun E σ1 hk => ⟨hk.1, Or.inr ⟨1, rfl, Or.inl rfl, hk.2⟩⟩)) (vx_cwSW 4 hC.1.1.2.2.2.2 (uSW uId u1450 u1451 u104 uh_meltTo) rfl rfl rfl (by decide +kernel) ⟨Nat.le_of_ble_eq_true rfl, Nat.le_of_ble_eq_true rfl⟩) rfl rfl (Nat.le_of_ble_eq_true rfl) ⟨Nat.le_trans (Nat.add_le_add_left (by decide) cells) hcs.1, Nat.le_trans (Nat.add_le_add_left (by decide) slots) hcs.2⟩ dL_law_2870 (fun z o1 σ1 hk => ?_)
  have hcs1 : cells + 1 ≤ room_1.cells ∧ slots + 6 ≤ room_1.slots := ⟨Nat.le_trans (Nat.add_le_add_left (by decide) cells) hcs.1, Nat.le_trans (Nat.add_le_add_left (by decide) slots) hcs.2⟩
  refine zn_istore hC.1 ((5, vI z) :: zLV b ad bd od n) dL_law_2873 (by decide) rfl ?_
  refine zn_aload_n hC.1 dL_law_2875 3 rfl rfl ?_
  refine zl_arg hC (n := n) 1 (by omega) 1 5 rfl rfl rfl dL_law_2876 dL_law_2877 dL_law_2879 dL_law_2880 dL_law_2881 ?_
  refine zl_arg hC (n := n) 2 (by omega) 1 5 rfl rfl rfl dL_law_2882 dL_law_2883 dL_law_2885 dL_law_2886 dL_law_2887 ?_
  rcases hk with ⟨v, rfl, rfl, hk⟩ | ⟨k, rfl, hk1, hk⟩
  · refine zl_M hC [vI (sc xs (6 * n + 1)), vI (sc xs (6 * n + 2))] (fun hinj sz => mX12_meltTo l hinj sz hk) (cwV 2 hC.1.1.2.2.2.2 (uV uId u2164 u2165 u2166 u118 u2167) rfl rfl rfl (by decide +kernel) ⟨Nat.le_of_ble_eq_true rfl, Nat.le_of_ble_eq_true rfl⟩) rfl rfl (Nat.le_of_ble_eq_true rfl) hcs1 dL_law_2888 (fun w τ1 hk2 => ?_)
    obtain ⟨h4, rfl, hk2⟩ := hk2
    refine zl_tailI hC dL_law_2891 dL_law_2893 dL_law_2894 dL_law_2897 dL_law_2899 dL_law_2904 dL_law_2906 dL_law_2909 dL_law_2910 dL_law_2911 dL_law_2912 dL_law_2914 dL_law_2915 dL_law_2916 dL_law_2921 (by decide) hcs1 h4 (Or.inl ⟨rfl, rfl⟩) ?_
    exact zn_widen (Nat.add_le_add_left (by decide) cells) (Nat.add_le_add_left (by decide) slots) (g _ σ1 τ1 hk2)
  · refine zl_M hC [vI (sc xs (6 * n + 1)), vI (sc xs (6 * n + 2))] (fun hinj sz => mX12_meltTo l hinj sz hk) (cwV 2 hC.1.1.2.2.2.2 (uV uId u2164 u2165 u2166 u118 u2167) rfl rfl rfl (by decide +kernel) ⟨Nat.le_of_ble_eq_true rfl, Nat.le_of_ble_eq_true rfl⟩) rfl rfl (Nat.le_of_ble_eq_true rfl) hcs1 dL_law_2888 (fun w τ1 hk2 => ?_)
    obtain ⟨h4, hk2⟩ := hk2
    refine zl_tailI hC dL_law_2891 dL_law_2893 dL_law_2894 dL_law_2897 dL_law_2899 dL_law_2904 dL_law_2906 dL_law_2909 dL_law_2910 dL_law_2911 dL_law_2912 dL_law_2914 dL_law_2915 dL_law_2916 dL_law_2921 (by decide) hcs1 h4 (Or.inr hk1) ?_
    exact zn_widen (Nat.add_le_add_left (by decide) cells) (Nat.add_le_add_left (by decide) slots) (g _ σ1 τ1 hk2)
theorem lb_53 (hC : zLC p m c s args meth D dA (zXX aL aG aI aK aV) b L xs) {n : Nat} {μ : Int} (hst : l.stackTraces = false) (hT : TW σ τ μ) (hm : μ < 99999) (hn : 6 * n + 5 < L) (hcs : cells + 3 ≤ room_1.cells ∧ slots + 18 ≤ room_1.slots) (g : ∀ (o1 : Int64) (σ1 τ1 : zSt), TW σ1 τ1 (μ + 1) → zL p l e room_1 s m args below meth c (cells + 3) (slots + 18) Q 7 D (fun q => s.heap.size ≤ q) (3543) (zLV b ad bd od n) ([]) (zLW dA ad bd od o1 σ1 τ1)) : zL p l e room_1 s m args below meth c (cells) (slots) Q 7 D (fun q => s.heap.size ≤ q) (2924) (zLV b ad bd od n) ([]) (zLW dA ad bd od o σ τ) := by
  have hcs0 : cells ≤ room_1.cells ∧ slots ≤ room_1.slots := ⟨Nat.le_trans (Nat.le_add_right _ _) hcs.1, Nat.le_trans (Nat.le_add_right _ _) hcs.2⟩
  refine zn_aload_n hC.1 dL_law_2924 1 rfl rfl ?_
  refine zl_arg hC (n := n) 1 (by omega) 0 4 rfl rfl rfl dL_law_2925 dL_law_2926 dL_law_2928 dL_law_2929 dL_law_2930 ?_
  refine zl_arg hC (n := n) 2 (by omega) 0 4 rfl rfl rfl dL_law_2931 dL_law_2932 dL_law_2934 dL_law_2935 dL_law_2936 ?_
  refine zl_arg hC (n := n) 3 (by omega) 0 4 rfl rfl rfl dL_law_2937 dL_law_2938 dL_law_2940 dL_law_2941 dL_law_2942 ?_
  refine zn_aload_n hC.1 dL_law_2943 3 rfl rfl ?_
  refine zl_H hC (G := fun z o1 σ1 => (∃ v : Int, z = 0 ∧ o1 = (Int32.ofInt v).toInt64 ∧ cE (μ + 1) (fun K => fX12_melt K τ (sc xs (6 * n + 1)) (sc xs (6 * n + 2)) (sc xs (6 * n + 3))) v σ1) ∨ ∃ k : Int, z = k ∧ (k = 1 ∨ k = 2) ∧ fX12_melt (fun _ τ1 => τ1 0 4 = k ∧ TW σ1 τ1 (μ + 1)) τ (sc xs (6 * n + 1)) (sc xs (6 * n + 2)) (sc xs (6 * n + 3))) [vI (sc xs (6 * n + 1)), vI (sc xs (6 * n + 2)), vI (sc xs (6 * n + 3)), .ref od] (fun sz => cH_melt l hst D dA aL aG aI aK aV ad od sz σ o (cmd_melt hT (sc_rg xs (6 * n + 1)) (sc_rg xs (6 * n + 2)) (sc_rg xs (6 * n + 3))) (fun v σ1 hk => Or.inl ⟨v, rfl, rfl, hk⟩) (fun E σ1 hk => ⟨hk.1, Or.inr ⟨1, rfl, Or.inl rfl, hk.2⟩⟩)) (vx_cwSW 5 hC.1.1.2.2.2.2 (uSW uId u1458 u1459 u104 uh_melt) rfl rfl rfl (by decide +kernel) ⟨Nat.le_of_ble_eq_true rfl, Nat.le_of_ble_eq_true rfl⟩) rfl rfl (Nat.le_of_ble_eq_true rfl) ⟨Nat.le_trans (Nat.add_le_add_left (by decide) cells) hcs.1, Nat.le_trans (Nat.add_le_add_left (by decide) slots) hcs.2⟩ dL_law_2944 (fun z o1 σ1 hk => ?_)
  have hcs1 : cells + 1 ≤ room_1.cells ∧ slots + 6 ≤ room_1.slots := ⟨Nat.le_trans (Nat.add_le_add_left (by decide) cells) hcs.1, Nat.le_trans (Nat.add_le_add_left (by decide) slots) hcs.2⟩
  refine zn_istore hC.1 ((5, vI z) :: zLV b ad bd od n) dL_law_2947 (by decide) rfl ?_
  refine zn_aload_n hC.1 dL_law_2949 3 rfl rfl ?_
  refine zl_arg hC (n := n) 1 (by omega) 1 5 rfl rfl rfl dL_law_2950 dL_law_2951 dL_law_2953 dL_law_2954 dL_law_2955 ?_
  refine zl_arg hC (n := n) 2 (by omega) 1 5 rfl rfl rfl dL_law_2956 dL_law_2957 dL_law_2959 dL_law_2960 dL_law_2961 ?_
  refine zl_arg hC (n := n) 3 (by omega) 1 5 rfl rfl rfl dL_law_2962 dL_law_2963 dL_law_2965 dL_law_2966 dL_law_2967 ?_
  rcases hk with ⟨v, rfl, rfl, hk⟩ | ⟨k, rfl, hk1, hk⟩
  · refine zl_M hC [vI (sc xs (6 * n + 1)), vI (sc xs (6 * n + 2)), vI (sc xs (6 * n + 3))] (fun hinj sz => mX12_melt l hinj sz hk) (cwV 3 hC.1.1.2.2.2.2 (uV uId u2177 u2178 u2179 u118 u2180) rfl rfl rfl (by decide +kernel) ⟨Nat.le_of_ble_eq_true rfl, Nat.le_of_ble_eq_true rfl⟩) rfl rfl (Nat.le_of_ble_eq_true rfl) hcs1 dL_law_2968 (fun w τ1 hk2 => ?_)
    obtain ⟨h4, rfl, hk2⟩ := hk2
    refine zl_tailI hC dL_law_2971 dL_law_2973 dL_law_2974 dL_law_2977 dL_law_2979 dL_law_2984 dL_law_2986 dL_law_2989 dL_law_2990 dL_law_2991 dL_law_2992 dL_law_2994 dL_law_2995 dL_law_2996 dL_law_3001 (by decide) hcs1 h4 (Or.inl ⟨rfl, rfl⟩) ?_
    exact zn_widen (Nat.add_le_add_left (by decide) cells) (Nat.add_le_add_left (by decide) slots) (g _ σ1 τ1 hk2)
  · refine zl_M hC [vI (sc xs (6 * n + 1)), vI (sc xs (6 * n + 2)), vI (sc xs (6 * n + 3))] (fun hinj sz => mX12_melt l hinj sz hk) (cwV 3 hC.1.1.2.2.2.2 (uV uId u2177 u2178 u2179 u118 u2180) rfl rfl rfl (by decide +kernel) ⟨Nat.le_of_ble_eq_true rfl, Nat.le_of_ble_eq_true rfl⟩) rfl rfl (Nat.le_of_ble_eq_true rfl) hcs1 dL_law_2968 (fun w τ1 hk2 => ?_)
    obtain ⟨h4, hk2⟩ := hk2
    refine zl_tailI hC dL_law_2971 dL_law_2973 dL_law_2974 dL_law_2977 dL_law_2979 dL_law_2984 dL_law_2986 dL_law_2989 dL_law_2990 dL_law_2991 dL_law_2992 dL_law_2994 dL_law_2995 dL_law_2996 dL_law_3001 (by decide) hcs1 h4 (Or.inr hk1) ?_
    exact zn_widen (Nat.add_le_add_left (by decide) cells) (Nat.add_le_add_left (by decide) slots) (g _ σ1 τ1 hk2)
theorem lb_54 (hC : zLC p m c s args meth D dA (zXX aL aG aI aK aV) b L xs) {n : Nat} {μ : Int} (hst : l.stackTraces = false) (hT : TW σ τ μ) (hm : μ < 99999) (hn : 6 * n + 5 < L) (hcs : cells + 3 ≤ room_1.cells ∧ slots + 18 ≤ room_1.slots) (g : ∀ (o1 : Int64) (σ1 τ1 : zSt), TW σ1 τ1 (μ + 1) → zL p l e room_1 s m args below meth c (cells + 3) (slots + 18) Q 7 D (fun q => s.heap.size ≤ q) (3543) (zLV b ad bd od n) ([]) (zLW dA ad bd od o1 σ1 τ1)) : zL p l e room_1 s m args below meth c (cells) (slots) Q 7 D (fun q => s.heap.size ≤ q) (3004) (zLV b ad bd od n) ([]) (zLW dA ad bd od o σ τ) := by
  have hcs0 : cells ≤ room_1.cells ∧ slots ≤ room_1.slots := ⟨Nat.le_trans (Nat.le_add_right _ _) hcs.1, Nat.le_trans (Nat.le_add_right _ _) hcs.2⟩
  refine zn_aload_n hC.1 dL_law_3004 1 rfl rfl ?_
  refine zl_arg hC (n := n) 1 (by omega) 0 4 rfl rfl rfl dL_law_3005 dL_law_3006 dL_law_3008 dL_law_3009 dL_law_3010 ?_
  refine zl_arg hC (n := n) 2 (by omega) 0 4 rfl rfl rfl dL_law_3011 dL_law_3012 dL_law_3014 dL_law_3015 dL_law_3016 ?_
  refine zl_X hC [vI (sc xs (6 * n + 1)), vI (sc xs (6 * n + 2))] (fun hinj sz => mX11_meanMelt l hinj sz (cmd_meanMelt hT (sc_rg xs (6 * n + 1)) (sc_rg xs (6 * n + 2)))) (cwV 2 hC.1.1.2.2.2.2 (uV uId u991 u992 u993 u105 u994) rfl rfl rfl (by decide +kernel) ⟨Nat.le_of_ble_eq_true rfl, Nat.le_of_ble_eq_true rfl⟩) rfl rfl (Nat.le_of_ble_eq_true rfl) hcs0 dL_law_3017 (fun z σ1 hk => ?_)
  refine zn_aload_n hC.1 dL_law_3020 2 rfl rfl ?_
  refine zl_arg hC (n := n) 1 (by omega) 0 4 rfl rfl rfl dL_law_3021 dL_law_3022 dL_law_3024 dL_law_3025 dL_law_3026 ?_
  refine zl_arg hC (n := n) 2 (by omega) 0 4 rfl rfl rfl dL_law_3027 dL_law_3028 dL_law_3030 dL_law_3031 dL_law_3032 ?_
  refine zl_M hC [vI (sc xs (6 * n + 1)), vI (sc xs (6 * n + 2))] (fun hinj sz => mX12_meanMelt l hinj sz hk) (cwV 2 hC.1.1.2.2.2.2 (uV uId u2185 u2186 u2187 u118 u2188) rfl rfl rfl (by decide +kernel) ⟨Nat.le_of_ble_eq_true rfl, Nat.le_of_ble_eq_true rfl⟩) rfl rfl (Nat.le_of_ble_eq_true rfl) hcs0 dL_law_3033 (fun w τ1 hk2 => ?_)
  obtain ⟨rfl, hk2⟩ := hk2
  refine zn_eq_t (tgt := 3543) hC.1 dL_law_3036 (by decide) ?_
  exact zn_widen (Nat.le_add_right _ _) (Nat.le_add_right _ _) (g o σ1 τ1 hk2)
theorem lb_55 (hC : zLC p m c s args meth D dA (zXX aL aG aI aK aV) b L xs) {n : Nat} {μ : Int} (hst : l.stackTraces = false) (hT : TW σ τ μ) (hm : μ < 99999) (hn : 6 * n + 5 < L) (hcs : cells + 3 ≤ room_1.cells ∧ slots + 18 ≤ room_1.slots) (g : ∀ (o1 : Int64) (σ1 τ1 : zSt), TW σ1 τ1 (μ + 1) → zL p l e room_1 s m args below meth c (cells + 3) (slots + 18) Q 7 D (fun q => s.heap.size ≤ q) (3543) (zLV b ad bd od n) ([]) (zLW dA ad bd od o1 σ1 τ1)) : zL p l e room_1 s m args below meth c (cells) (slots) Q 7 D (fun q => s.heap.size ≤ q) (3041) (zLV b ad bd od n) ([]) (zLW dA ad bd od o σ τ) := by
  have hcs0 : cells ≤ room_1.cells ∧ slots ≤ room_1.slots := ⟨Nat.le_trans (Nat.le_add_right _ _) hcs.1, Nat.le_trans (Nat.le_add_right _ _) hcs.2⟩
  refine zn_aload_n hC.1 dL_law_3041 1 rfl rfl ?_
  refine zl_arg hC (n := n) 1 (by omega) 0 4 rfl rfl rfl dL_law_3042 dL_law_3043 dL_law_3045 dL_law_3046 dL_law_3047 ?_
  refine zn_aload_n hC.1 dL_law_3048 3 rfl rfl ?_
  refine zl_H hC (G := fun z o1 σ1 => (∃ v : Int, z = 0 ∧ o1 = (Int32.ofInt v).toInt64 ∧ cE (μ + 1) (fun K => fX12_warmestInterval K τ (sc xs (6 * n + 1))) v σ1) ∨ ∃ k : Int, z = k ∧ (k = 1 ∨ k = 2) ∧ fX12_warmestInterval (fun _ τ1 => τ1 0 4 = k ∧ TW σ1 τ1 (μ + 1)) τ (sc xs (6 * n + 1))) [vI (sc xs (6 * n + 1)), .ref od] (fun sz => cH_warmestInterval l hst D dA aL aG aI aK aV ad od sz σ o (cmd_warmestInterval hT (sc_rg xs (6 * n + 1))) (fun v σ1 hk => Or.inl ⟨v, rfl, rfl, hk⟩) (fun E σ1 hk => ⟨hk.1, Or.inr ⟨1, rfl, Or.inl rfl, hk.2⟩⟩)) (vx_cwSW 3 hC.1.1.2.2.2.2 (uSW uId u1465 u1466 u104 uh_warmestInterval) rfl rfl rfl (by decide +kernel) ⟨Nat.le_of_ble_eq_true rfl, Nat.le_of_ble_eq_true rfl⟩) rfl rfl (Nat.le_of_ble_eq_true rfl) ⟨Nat.le_trans (Nat.add_le_add_left (by decide) cells) hcs.1, Nat.le_trans (Nat.add_le_add_left (by decide) slots) hcs.2⟩ dL_law_3049 (fun z o1 σ1 hk => ?_)
  have hcs1 : cells + 1 ≤ room_1.cells ∧ slots + 6 ≤ room_1.slots := ⟨Nat.le_trans (Nat.add_le_add_left (by decide) cells) hcs.1, Nat.le_trans (Nat.add_le_add_left (by decide) slots) hcs.2⟩
  refine zn_istore hC.1 ((5, vI z) :: zLV b ad bd od n) dL_law_3052 (by decide) rfl ?_
  refine zn_aload_n hC.1 dL_law_3054 3 rfl rfl ?_
  refine zl_arg hC (n := n) 1 (by omega) 1 5 rfl rfl rfl dL_law_3055 dL_law_3056 dL_law_3058 dL_law_3059 dL_law_3060 ?_
  rcases hk with ⟨v, rfl, rfl, hk⟩ | ⟨k, rfl, hk1, hk⟩
  · refine zl_M hC [vI (sc xs (6 * n + 1))] (fun hinj sz => mX12_warmestInterval l hinj sz hk) (cwV 1 hC.1.1.2.2.2.2 (uV uId u2189 u2190 u2191 u118 u2192) rfl rfl rfl (by decide +kernel) ⟨Nat.le_of_ble_eq_true rfl, Nat.le_of_ble_eq_true rfl⟩) rfl rfl (Nat.le_of_ble_eq_true rfl) hcs1 dL_law_3061 (fun w τ1 hk2 => ?_)
    obtain ⟨h4, rfl, hk2⟩ := hk2
    refine zl_tailI hC dL_law_3064 dL_law_3066 dL_law_3067 dL_law_3070 dL_law_3072 dL_law_3077 dL_law_3079 dL_law_3082 dL_law_3083 dL_law_3084 dL_law_3085 dL_law_3087 dL_law_3088 dL_law_3089 dL_law_3094 (by decide) hcs1 h4 (Or.inl ⟨rfl, rfl⟩) ?_
    exact zn_widen (Nat.add_le_add_left (by decide) cells) (Nat.add_le_add_left (by decide) slots) (g _ σ1 τ1 hk2)
  · refine zl_M hC [vI (sc xs (6 * n + 1))] (fun hinj sz => mX12_warmestInterval l hinj sz hk) (cwV 1 hC.1.1.2.2.2.2 (uV uId u2189 u2190 u2191 u118 u2192) rfl rfl rfl (by decide +kernel) ⟨Nat.le_of_ble_eq_true rfl, Nat.le_of_ble_eq_true rfl⟩) rfl rfl (Nat.le_of_ble_eq_true rfl) hcs1 dL_law_3061 (fun w τ1 hk2 => ?_)
    obtain ⟨h4, hk2⟩ := hk2
    refine zl_tailI hC dL_law_3064 dL_law_3066 dL_law_3067 dL_law_3070 dL_law_3072 dL_law_3077 dL_law_3079 dL_law_3082 dL_law_3083 dL_law_3084 dL_law_3085 dL_law_3087 dL_law_3088 dL_law_3089 dL_law_3094 (by decide) hcs1 h4 (Or.inr hk1) ?_
    exact zn_widen (Nat.add_le_add_left (by decide) cells) (Nat.add_le_add_left (by decide) slots) (g _ σ1 τ1 hk2)
theorem lb_56 (hC : zLC p m c s args meth D dA (zXX aL aG aI aK aV) b L xs) {n : Nat} {μ : Int} (hst : l.stackTraces = false) (hT : TW σ τ μ) (hm : μ < 99999) (hn : 6 * n + 5 < L) (hcs : cells + 3 ≤ room_1.cells ∧ slots + 18 ≤ room_1.slots) (g : ∀ (o1 : Int64) (σ1 τ1 : zSt), TW σ1 τ1 (μ + 1) → zL p l e room_1 s m args below meth c (cells + 3) (slots + 18) Q 7 D (fun q => s.heap.size ≤ q) (3543) (zLV b ad bd od n) ([]) (zLW dA ad bd od o1 σ1 τ1)) : zL p l e room_1 s m args below meth c (cells) (slots) Q 7 D (fun q => s.heap.size ≤ q) (3097) (zLV b ad bd od n) ([]) (zLW dA ad bd od o σ τ) := by
  have hcs0 : cells ≤ room_1.cells ∧ slots ≤ room_1.slots := ⟨Nat.le_trans (Nat.le_add_right _ _) hcs.1, Nat.le_trans (Nat.le_add_right _ _) hcs.2⟩
  refine zn_aload_n hC.1 dL_law_3097 1 rfl rfl ?_
  refine zl_X hC [] (fun hinj sz => mX11_undo l hinj sz (cmd_undo hT hm )) (cwV 0 hC.1.1.2.2.2.2 (uV uId u1022 u1023 u1024 u105 u1025) rfl rfl rfl (by decide +kernel) ⟨Nat.le_of_ble_eq_true rfl, Nat.le_of_ble_eq_true rfl⟩) rfl rfl (Nat.le_of_ble_eq_true rfl) hcs0 dL_law_3098 (fun z σ1 hk => ?_)
  refine zn_aload_n hC.1 dL_law_3101 2 rfl rfl ?_
  refine zl_M hC [] (fun hinj sz => mX12_undo l hinj sz hk) (cwV 0 hC.1.1.2.2.2.2 (uV uId u1676 u1677 u1678 u118 u1679) rfl rfl rfl (by decide +kernel) ⟨Nat.le_of_ble_eq_true rfl, Nat.le_of_ble_eq_true rfl⟩) rfl rfl (Nat.le_of_ble_eq_true rfl) hcs0 dL_law_3102 (fun w τ1 hk2 => ?_)
  obtain ⟨rfl, hk2⟩ := hk2
  refine zn_eq_t (tgt := 3543) hC.1 dL_law_3105 (by decide) ?_
  exact zn_widen (Nat.le_add_right _ _) (Nat.le_add_right _ _) (g o σ1 τ1 hk2)
theorem lb_57 (hC : zLC p m c s args meth D dA (zXX aL aG aI aK aV) b L xs) {n : Nat} {μ : Int} (hst : l.stackTraces = false) (hT : TW σ τ μ) (hm : μ < 99999) (hn : 6 * n + 5 < L) (hcs : cells + 3 ≤ room_1.cells ∧ slots + 18 ≤ room_1.slots) (g : ∀ (o1 : Int64) (σ1 τ1 : zSt), TW σ1 τ1 (μ + 1) → zL p l e room_1 s m args below meth c (cells + 3) (slots + 18) Q 7 D (fun q => s.heap.size ≤ q) (3543) (zLV b ad bd od n) ([]) (zLW dA ad bd od o1 σ1 τ1)) : zL p l e room_1 s m args below meth c (cells) (slots) Q 7 D (fun q => s.heap.size ≤ q) (3110) (zLV b ad bd od n) ([]) (zLW dA ad bd od o σ τ) := by
  have hcs0 : cells ≤ room_1.cells ∧ slots ≤ room_1.slots := ⟨Nat.le_trans (Nat.le_add_right _ _) hcs.1, Nat.le_trans (Nat.le_add_right _ _) hcs.2⟩
  refine zn_aload_n hC.1 dL_law_3110 1 rfl rfl ?_
  refine zl_X hC [] (fun hinj sz => mX11_undoCount l hinj sz (cmd_undoCount hT )) (cwV 0 hC.1.1.2.2.2.2 (uV uId u1049 u1050 u1051 u105 u1052) rfl rfl rfl (by decide +kernel) ⟨Nat.le_of_ble_eq_true rfl, Nat.le_of_ble_eq_true rfl⟩) rfl rfl (Nat.le_of_ble_eq_true rfl) hcs0 dL_law_3111 (fun z σ1 hk => ?_)
  refine zn_aload_n hC.1 dL_law_3114 2 rfl rfl ?_
  refine zl_M hC [] (fun hinj sz => mX12_undoCount l hinj sz hk) (cwV 0 hC.1.1.2.2.2.2 (uV uId u1680 u1681 u1682 u118 u1683) rfl rfl rfl (by decide +kernel) ⟨Nat.le_of_ble_eq_true rfl, Nat.le_of_ble_eq_true rfl⟩) rfl rfl (Nat.le_of_ble_eq_true rfl) hcs0 dL_law_3115 (fun w τ1 hk2 => ?_)
  obtain ⟨rfl, hk2⟩ := hk2
  refine zn_eq_t (tgt := 3543) hC.1 dL_law_3118 (by decide) ?_
  exact zn_widen (Nat.le_add_right _ _) (Nat.le_add_right _ _) (g o σ1 τ1 hk2)
theorem lb_58 (hC : zLC p m c s args meth D dA (zXX aL aG aI aK aV) b L xs) {n : Nat} {μ : Int} (hst : l.stackTraces = false) (hT : TW σ τ μ) (hm : μ < 99999) (hn : 6 * n + 5 < L) (hcs : cells + 3 ≤ room_1.cells ∧ slots + 18 ≤ room_1.slots) (g : ∀ (o1 : Int64) (σ1 τ1 : zSt), TW σ1 τ1 (μ + 1) → zL p l e room_1 s m args below meth c (cells + 3) (slots + 18) Q 7 D (fun q => s.heap.size ≤ q) (3543) (zLV b ad bd od n) ([]) (zLW dA ad bd od o1 σ1 τ1)) : zL p l e room_1 s m args below meth c (cells) (slots) Q 7 D (fun q => s.heap.size ≤ q) (3123) (zLV b ad bd od n) ([]) (zLW dA ad bd od o σ τ) := by
  have hcs0 : cells ≤ room_1.cells ∧ slots ≤ room_1.slots := ⟨Nat.le_trans (Nat.le_add_right _ _) hcs.1, Nat.le_trans (Nat.le_add_right _ _) hcs.2⟩
  refine zn_aload_n hC.1 dL_law_3123 1 rfl rfl ?_
  refine zl_arg hC (n := n) 1 (by omega) 0 4 rfl rfl rfl dL_law_3124 dL_law_3125 dL_law_3127 dL_law_3128 dL_law_3129 ?_
  refine zl_arg hC (n := n) 2 (by omega) 0 4 rfl rfl rfl dL_law_3130 dL_law_3131 dL_law_3133 dL_law_3134 dL_law_3135 ?_
  refine zl_arg hC (n := n) 3 (by omega) 0 4 rfl rfl rfl dL_law_3136 dL_law_3137 dL_law_3139 dL_law_3140 dL_law_3141 ?_
  refine zn_aload_n hC.1 dL_law_3142 3 rfl rfl ?_
  refine zl_H hC (G := fun z o1 σ1 => (∃ v : Int, z = 0 ∧ o1 = (Int32.ofInt v).toInt64 ∧ cE (μ + 1) (fun K => fX12_registered K τ (sc xs (6 * n + 1)) (sc xs (6 * n + 2)) (sc xs (6 * n + 3))) v σ1) ∨ ∃ k : Int, z = k ∧ (k = 1 ∨ k = 2) ∧ fX12_registered (fun _ τ1 => τ1 0 4 = k ∧ TW σ1 τ1 (μ + 1)) τ (sc xs (6 * n + 1)) (sc xs (6 * n + 2)) (sc xs (6 * n + 3))) [vI (sc xs (6 * n + 1)), vI (sc xs (6 * n + 2)), vI (sc xs (6 * n + 3)), .ref od] (fun sz => cH_registered l hst D dA aL aG aI aK aV ad od sz σ o (cmd_registered hT (sc_rg xs (6 * n + 1)) (sc_rg xs (6 * n + 2)) (sc_rg xs (6 * n + 3))) (fun v σ1 hk => Or.inl ⟨v, rfl, rfl, hk⟩) (fun E σ1 hk => ⟨hk.1, Or.inr ⟨1, rfl, Or.inl rfl, hk.2⟩⟩)) (vx_cwSW 5 hC.1.1.2.2.2.2 (uSW uId u1476 u1477 u104 uh_registered) rfl rfl rfl (by decide +kernel) ⟨Nat.le_of_ble_eq_true rfl, Nat.le_of_ble_eq_true rfl⟩) rfl rfl (Nat.le_of_ble_eq_true rfl) ⟨Nat.le_trans (Nat.add_le_add_left (by decide) cells) hcs.1, Nat.le_trans (Nat.add_le_add_left (by decide) slots) hcs.2⟩ dL_law_3143 (fun z o1 σ1 hk => ?_)
  have hcs1 : cells + 2 ≤ room_1.cells ∧ slots + 12 ≤ room_1.slots := ⟨Nat.le_trans (Nat.add_le_add_left (by decide) cells) hcs.1, Nat.le_trans (Nat.add_le_add_left (by decide) slots) hcs.2⟩
  refine zn_istore hC.1 ((5, vI z) :: zLV b ad bd od n) dL_law_3146 (by decide) rfl ?_
  refine zn_aload_n hC.1 dL_law_3148 3 rfl rfl ?_
  refine zl_arg hC (n := n) 1 (by omega) 1 5 rfl rfl rfl dL_law_3149 dL_law_3150 dL_law_3152 dL_law_3153 dL_law_3154 ?_
  refine zl_arg hC (n := n) 2 (by omega) 1 5 rfl rfl rfl dL_law_3155 dL_law_3156 dL_law_3158 dL_law_3159 dL_law_3160 ?_
  refine zl_arg hC (n := n) 3 (by omega) 1 5 rfl rfl rfl dL_law_3161 dL_law_3162 dL_law_3164 dL_law_3165 dL_law_3166 ?_
  rcases hk with ⟨v, rfl, rfl, hk⟩ | ⟨k, rfl, hk1, hk⟩
  · refine zl_M hC [vI (sc xs (6 * n + 1)), vI (sc xs (6 * n + 2)), vI (sc xs (6 * n + 3))] (fun hinj sz => mX12_registered l hinj sz hk) (cwV 3 hC.1.1.2.2.2.2 (uV uId u2197 u2198 u2199 u118 u2200) rfl rfl rfl (by decide +kernel) ⟨Nat.le_of_ble_eq_true rfl, Nat.le_of_ble_eq_true rfl⟩) rfl rfl (Nat.le_of_ble_eq_true rfl) hcs1 dL_law_3167 (fun w τ1 hk2 => ?_)
    obtain ⟨h4, rfl, hk2⟩ := hk2
    refine zl_tailI hC dL_law_3170 dL_law_3172 dL_law_3173 dL_law_3176 dL_law_3178 dL_law_3183 dL_law_3185 dL_law_3188 dL_law_3189 dL_law_3190 dL_law_3191 dL_law_3193 dL_law_3194 dL_law_3195 dL_law_3200 (by decide) hcs1 h4 (Or.inl ⟨rfl, rfl⟩) ?_
    exact zn_widen (Nat.add_le_add_left (by decide) cells) (Nat.add_le_add_left (by decide) slots) (g _ σ1 τ1 hk2)
  · refine zl_M hC [vI (sc xs (6 * n + 1)), vI (sc xs (6 * n + 2)), vI (sc xs (6 * n + 3))] (fun hinj sz => mX12_registered l hinj sz hk) (cwV 3 hC.1.1.2.2.2.2 (uV uId u2197 u2198 u2199 u118 u2200) rfl rfl rfl (by decide +kernel) ⟨Nat.le_of_ble_eq_true rfl, Nat.le_of_ble_eq_true rfl⟩) rfl rfl (Nat.le_of_ble_eq_true rfl) hcs1 dL_law_3167 (fun w τ1 hk2 => ?_)
    obtain ⟨h4, hk2⟩ := hk2
    refine zl_tailI hC dL_law_3170 dL_law_3172 dL_law_3173 dL_law_3176 dL_law_3178 dL_law_3183 dL_law_3185 dL_law_3188 dL_law_3189 dL_law_3190 dL_law_3191 dL_law_3193 dL_law_3194 dL_law_3195 dL_law_3200 (by decide) hcs1 h4 (Or.inr hk1) ?_
    exact zn_widen (Nat.add_le_add_left (by decide) cells) (Nat.add_le_add_left (by decide) slots) (g _ σ1 τ1 hk2)
theorem lb_59 (hC : zLC p m c s args meth D dA (zXX aL aG aI aK aV) b L xs) {n : Nat} {μ : Int} (hst : l.stackTraces = false) (hT : TW σ τ μ) (hm : μ < 99999) (hn : 6 * n + 5 < L) (hcs : cells + 3 ≤ room_1.cells ∧ slots + 18 ≤ room_1.slots) (g : ∀ (o1 : Int64) (σ1 τ1 : zSt), TW σ1 τ1 (μ + 1) → zL p l e room_1 s m args below meth c (cells + 3) (slots + 18) Q 7 D (fun q => s.heap.size ≤ q) (3543) (zLV b ad bd od n) ([]) (zLW dA ad bd od o1 σ1 τ1)) : zL p l e room_1 s m args below meth c (cells) (slots) Q 7 D (fun q => s.heap.size ≤ q) (3203) (zLV b ad bd od n) ([]) (zLW dA ad bd od o σ τ) := by
  have hcs0 : cells ≤ room_1.cells ∧ slots ≤ room_1.slots := ⟨Nat.le_trans (Nat.le_add_right _ _) hcs.1, Nat.le_trans (Nat.le_add_right _ _) hcs.2⟩
  refine zn_aload_n hC.1 dL_law_3203 1 rfl rfl ?_
  refine zl_arg hC (n := n) 1 (by omega) 0 4 rfl rfl rfl dL_law_3204 dL_law_3205 dL_law_3207 dL_law_3208 dL_law_3209 ?_
  refine zl_arg hC (n := n) 2 (by omega) 0 4 rfl rfl rfl dL_law_3210 dL_law_3211 dL_law_3213 dL_law_3214 dL_law_3215 ?_
  refine zl_arg hC (n := n) 3 (by omega) 0 4 rfl rfl rfl dL_law_3216 dL_law_3217 dL_law_3219 dL_law_3220 dL_law_3221 ?_
  refine zn_aload_n hC.1 dL_law_3222 3 rfl rfl ?_
  refine zl_H hC (G := fun z o1 σ1 => (∃ v : Int, z = 0 ∧ o1 = (Int32.ofInt v).toInt64 ∧ cE (μ + 1) (fun K => fX12_changedPixels K τ (sc xs (6 * n + 1)) (sc xs (6 * n + 2)) (sc xs (6 * n + 3))) v σ1) ∨ ∃ k : Int, z = k ∧ (k = 1 ∨ k = 2) ∧ fX12_changedPixels (fun _ τ1 => τ1 0 4 = k ∧ TW σ1 τ1 (μ + 1)) τ (sc xs (6 * n + 1)) (sc xs (6 * n + 2)) (sc xs (6 * n + 3))) [vI (sc xs (6 * n + 1)), vI (sc xs (6 * n + 2)), vI (sc xs (6 * n + 3)), .ref od] (fun sz => cH_changedPixels l hst D dA aL aG aI aK aV ad od sz σ o (cmd_changedPixels hT (sc_rg xs (6 * n + 1)) (sc_rg xs (6 * n + 2)) (sc_rg xs (6 * n + 3))) (fun v σ1 hk => Or.inl ⟨v, rfl, rfl, hk⟩) (fun E σ1 hk => ⟨hk.1, Or.inr ⟨1, rfl, Or.inl rfl, hk.2⟩⟩)) (vx_cwSW 5 hC.1.1.2.2.2.2 (uSW uId u1487 u1488 u104 uh_changedPixels) rfl rfl rfl (by decide +kernel) ⟨Nat.le_of_ble_eq_true rfl, Nat.le_of_ble_eq_true rfl⟩) rfl rfl (Nat.le_of_ble_eq_true rfl) ⟨Nat.le_trans (Nat.add_le_add_left (by decide) cells) hcs.1, Nat.le_trans (Nat.add_le_add_left (by decide) slots) hcs.2⟩ dL_law_3223 (fun z o1 σ1 hk => ?_)
  have hcs1 : cells + 2 ≤ room_1.cells ∧ slots + 12 ≤ room_1.slots := ⟨Nat.le_trans (Nat.add_le_add_left (by decide) cells) hcs.1, Nat.le_trans (Nat.add_le_add_left (by decide) slots) hcs.2⟩
  refine zn_istore hC.1 ((5, vI z) :: zLV b ad bd od n) dL_law_3226 (by decide) rfl ?_
  refine zn_aload_n hC.1 dL_law_3228 3 rfl rfl ?_
  refine zl_arg hC (n := n) 1 (by omega) 1 5 rfl rfl rfl dL_law_3229 dL_law_3230 dL_law_3232 dL_law_3233 dL_law_3234 ?_
  refine zl_arg hC (n := n) 2 (by omega) 1 5 rfl rfl rfl dL_law_3235 dL_law_3236 dL_law_3238 dL_law_3239 dL_law_3240 ?_
  refine zl_arg hC (n := n) 3 (by omega) 1 5 rfl rfl rfl dL_law_3241 dL_law_3242 dL_law_3244 dL_law_3245 dL_law_3246 ?_
  rcases hk with ⟨v, rfl, rfl, hk⟩ | ⟨k, rfl, hk1, hk⟩
  · refine zl_M hC [vI (sc xs (6 * n + 1)), vI (sc xs (6 * n + 2)), vI (sc xs (6 * n + 3))] (fun hinj sz => mX12_changedPixels l hinj sz hk) (cwV 3 hC.1.1.2.2.2.2 (uV uId u2205 u2206 u2207 u118 u2208) rfl rfl rfl (by decide +kernel) ⟨Nat.le_of_ble_eq_true rfl, Nat.le_of_ble_eq_true rfl⟩) rfl rfl (Nat.le_of_ble_eq_true rfl) hcs1 dL_law_3247 (fun w τ1 hk2 => ?_)
    obtain ⟨h4, rfl, hk2⟩ := hk2
    refine zl_tailI hC dL_law_3250 dL_law_3252 dL_law_3253 dL_law_3256 dL_law_3258 dL_law_3263 dL_law_3265 dL_law_3268 dL_law_3269 dL_law_3270 dL_law_3271 dL_law_3273 dL_law_3274 dL_law_3275 dL_law_3280 (by decide) hcs1 h4 (Or.inl ⟨rfl, rfl⟩) ?_
    exact zn_widen (Nat.add_le_add_left (by decide) cells) (Nat.add_le_add_left (by decide) slots) (g _ σ1 τ1 hk2)
  · refine zl_M hC [vI (sc xs (6 * n + 1)), vI (sc xs (6 * n + 2)), vI (sc xs (6 * n + 3))] (fun hinj sz => mX12_changedPixels l hinj sz hk) (cwV 3 hC.1.1.2.2.2.2 (uV uId u2205 u2206 u2207 u118 u2208) rfl rfl rfl (by decide +kernel) ⟨Nat.le_of_ble_eq_true rfl, Nat.le_of_ble_eq_true rfl⟩) rfl rfl (Nat.le_of_ble_eq_true rfl) hcs1 dL_law_3247 (fun w τ1 hk2 => ?_)
    obtain ⟨h4, hk2⟩ := hk2
    refine zl_tailI hC dL_law_3250 dL_law_3252 dL_law_3253 dL_law_3256 dL_law_3258 dL_law_3263 dL_law_3265 dL_law_3268 dL_law_3269 dL_law_3270 dL_law_3271 dL_law_3273 dL_law_3274 dL_law_3275 dL_law_3280 (by decide) hcs1 h4 (Or.inr hk1) ?_
    exact zn_widen (Nat.add_le_add_left (by decide) cells) (Nat.add_le_add_left (by decide) slots) (g _ σ1 τ1 hk2)
theorem lb_60 (hC : zLC p m c s args meth D dA (zXX aL aG aI aK aV) b L xs) {n : Nat} {μ : Int} (hst : l.stackTraces = false) (hT : TW σ τ μ) (hm : μ < 99999) (hn : 6 * n + 5 < L) (hcs : cells + 3 ≤ room_1.cells ∧ slots + 18 ≤ room_1.slots) (g : ∀ (o1 : Int64) (σ1 τ1 : zSt), TW σ1 τ1 (μ + 1) → zL p l e room_1 s m args below meth c (cells + 3) (slots + 18) Q 7 D (fun q => s.heap.size ≤ q) (3543) (zLV b ad bd od n) ([]) (zLW dA ad bd od o1 σ1 τ1)) : zL p l e room_1 s m args below meth c (cells) (slots) Q 7 D (fun q => s.heap.size ≤ q) (3283) (zLV b ad bd od n) ([]) (zLW dA ad bd od o σ τ) := by
  have hcs0 : cells ≤ room_1.cells ∧ slots ≤ room_1.slots := ⟨Nat.le_trans (Nat.le_add_right _ _) hcs.1, Nat.le_trans (Nat.le_add_right _ _) hcs.2⟩
  refine zn_aload_n hC.1 dL_law_3283 1 rfl rfl ?_
  refine zl_arg hC (n := n) 1 (by omega) 0 4 rfl rfl rfl dL_law_3284 dL_law_3285 dL_law_3287 dL_law_3288 dL_law_3289 ?_
  refine zl_arg hC (n := n) 2 (by omega) 0 4 rfl rfl rfl dL_law_3290 dL_law_3291 dL_law_3293 dL_law_3294 dL_law_3295 ?_
  refine zn_aload_n hC.1 dL_law_3296 3 rfl rfl ?_
  refine zl_H hC (G := fun z o1 σ1 => (∃ v : Int, z = 0 ∧ o1 = (Int32.ofInt v).toInt64 ∧ cE (μ + 1) (fun K => fX12_snowLine K τ (sc xs (6 * n + 1)) (sc xs (6 * n + 2))) v σ1) ∨ ∃ k : Int, z = k ∧ (k = 1 ∨ k = 2) ∧ fX12_snowLine (fun _ τ1 => τ1 0 4 = k ∧ TW σ1 τ1 (μ + 1)) τ (sc xs (6 * n + 1)) (sc xs (6 * n + 2))) [vI (sc xs (6 * n + 1)), vI (sc xs (6 * n + 2)), .ref od] (fun sz => cH_snowLine l hst D dA aL aG aI aK aV ad od sz σ o (cmd_snowLine hT (sc_rg xs (6 * n + 1)) (sc_rg xs (6 * n + 2))) (fun v σ1 hk => Or.inl ⟨v, rfl, rfl, hk⟩) (fun E σ1 hk => ⟨hk.1, Or.inr ⟨1, rfl, Or.inl rfl, hk.2⟩⟩)) (vx_cwSW 4 hC.1.1.2.2.2.2 (uSW uId u1494 u1495 u104 uh_snowLine) rfl rfl rfl (by decide +kernel) ⟨Nat.le_of_ble_eq_true rfl, Nat.le_of_ble_eq_true rfl⟩) rfl rfl (Nat.le_of_ble_eq_true rfl) ⟨Nat.le_trans (Nat.add_le_add_left (by decide) cells) hcs.1, Nat.le_trans (Nat.add_le_add_left (by decide) slots) hcs.2⟩ dL_law_3297 (fun z o1 σ1 hk => ?_)
  have hcs1 : cells + 1 ≤ room_1.cells ∧ slots + 6 ≤ room_1.slots := ⟨Nat.le_trans (Nat.add_le_add_left (by decide) cells) hcs.1, Nat.le_trans (Nat.add_le_add_left (by decide) slots) hcs.2⟩
  refine zn_istore hC.1 ((5, vI z) :: zLV b ad bd od n) dL_law_3300 (by decide) rfl ?_
  refine zn_aload_n hC.1 dL_law_3302 3 rfl rfl ?_
  refine zl_arg hC (n := n) 1 (by omega) 1 5 rfl rfl rfl dL_law_3303 dL_law_3304 dL_law_3306 dL_law_3307 dL_law_3308 ?_
  refine zl_arg hC (n := n) 2 (by omega) 1 5 rfl rfl rfl dL_law_3309 dL_law_3310 dL_law_3312 dL_law_3313 dL_law_3314 ?_
  rcases hk with ⟨v, rfl, rfl, hk⟩ | ⟨k, rfl, hk1, hk⟩
  · refine zl_M hC [vI (sc xs (6 * n + 1)), vI (sc xs (6 * n + 2))] (fun hinj sz => mX12_snowLine l hinj sz hk) (cwV 2 hC.1.1.2.2.2.2 (uV uId u2209 u2210 u2211 u118 u2212) rfl rfl rfl (by decide +kernel) ⟨Nat.le_of_ble_eq_true rfl, Nat.le_of_ble_eq_true rfl⟩) rfl rfl (Nat.le_of_ble_eq_true rfl) hcs1 dL_law_3315 (fun w τ1 hk2 => ?_)
    obtain ⟨h4, rfl, hk2⟩ := hk2
    refine zl_tailI hC dL_law_3318 dL_law_3320 dL_law_3321 dL_law_3324 dL_law_3326 dL_law_3331 dL_law_3333 dL_law_3336 dL_law_3337 dL_law_3338 dL_law_3339 dL_law_3341 dL_law_3342 dL_law_3343 dL_law_3348 (by decide) hcs1 h4 (Or.inl ⟨rfl, rfl⟩) ?_
    exact zn_widen (Nat.add_le_add_left (by decide) cells) (Nat.add_le_add_left (by decide) slots) (g _ σ1 τ1 hk2)
  · refine zl_M hC [vI (sc xs (6 * n + 1)), vI (sc xs (6 * n + 2))] (fun hinj sz => mX12_snowLine l hinj sz hk) (cwV 2 hC.1.1.2.2.2.2 (uV uId u2209 u2210 u2211 u118 u2212) rfl rfl rfl (by decide +kernel) ⟨Nat.le_of_ble_eq_true rfl, Nat.le_of_ble_eq_true rfl⟩) rfl rfl (Nat.le_of_ble_eq_true rfl) hcs1 dL_law_3315 (fun w τ1 hk2 => ?_)
    obtain ⟨h4, hk2⟩ := hk2
    refine zl_tailI hC dL_law_3318 dL_law_3320 dL_law_3321 dL_law_3324 dL_law_3326 dL_law_3331 dL_law_3333 dL_law_3336 dL_law_3337 dL_law_3338 dL_law_3339 dL_law_3341 dL_law_3342 dL_law_3343 dL_law_3348 (by decide) hcs1 h4 (Or.inr hk1) ?_
    exact zn_widen (Nat.add_le_add_left (by decide) cells) (Nat.add_le_add_left (by decide) slots) (g _ σ1 τ1 hk2)
theorem lb_61 (hC : zLC p m c s args meth D dA (zXX aL aG aI aK aV) b L xs) {n : Nat} {μ : Int} (hst : l.stackTraces = false) (hT : TW σ τ μ) (hm : μ < 99999) (hn : 6 * n + 5 < L) (hcs : cells + 3 ≤ room_1.cells ∧ slots + 18 ≤ room_1.slots) (g : ∀ (o1 : Int64) (σ1 τ1 : zSt), TW σ1 τ1 (μ + 1) → zL p l e room_1 s m args below meth c (cells + 3) (slots + 18) Q 7 D (fun q => s.heap.size ≤ q) (3543) (zLV b ad bd od n) ([]) (zLW dA ad bd od o1 σ1 τ1)) : zL p l e room_1 s m args below meth c (cells) (slots) Q 7 D (fun q => s.heap.size ≤ q) (3351) (zLV b ad bd od n) ([]) (zLW dA ad bd od o σ τ) := by
  have hcs0 : cells ≤ room_1.cells ∧ slots ≤ room_1.slots := ⟨Nat.le_trans (Nat.le_add_right _ _) hcs.1, Nat.le_trans (Nat.le_add_right _ _) hcs.2⟩
  refine zn_aload_n hC.1 dL_law_3351 1 rfl rfl ?_
  refine zl_arg hC (n := n) 1 (by omega) 0 4 rfl rfl rfl dL_law_3352 dL_law_3353 dL_law_3355 dL_law_3356 dL_law_3357 ?_
  refine zl_arg hC (n := n) 2 (by omega) 0 4 rfl rfl rfl dL_law_3358 dL_law_3359 dL_law_3361 dL_law_3362 dL_law_3363 ?_
  refine zn_aload_n hC.1 dL_law_3364 3 rfl rfl ?_
  refine zl_H hC (G := fun z o1 σ1 => (∃ v : Int, z = 0 ∧ o1 = (Int32.ofInt v).toInt64 ∧ cE (μ + 1) (fun K => fX12_strain K τ (sc xs (6 * n + 1)) (sc xs (6 * n + 2))) v σ1) ∨ ∃ k : Int, z = k ∧ (k = 1 ∨ k = 2) ∧ fX12_strain (fun _ τ1 => τ1 0 4 = k ∧ TW σ1 τ1 (μ + 1)) τ (sc xs (6 * n + 1)) (sc xs (6 * n + 2))) [vI (sc xs (6 * n + 1)), vI (sc xs (6 * n + 2)), .ref od] (fun sz => cH_strain l hst D dA aL aG aI aK aV ad od sz σ o (cmd_strain hT (sc_rg xs (6 * n + 1)) (sc_rg xs (6 * n + 2))) (fun v σ1 hk => Or.inl ⟨v, rfl, rfl, hk⟩) (fun E σ1 hk => ⟨hk.1, Or.inr ⟨1, rfl, Or.inl rfl, hk.2⟩⟩)) (vx_cwSW 4 hC.1.1.2.2.2.2 (uSW uId u1501 u1502 u104 uh_strain) rfl rfl rfl (by decide +kernel) ⟨Nat.le_of_ble_eq_true rfl, Nat.le_of_ble_eq_true rfl⟩) rfl rfl (Nat.le_of_ble_eq_true rfl) ⟨Nat.le_trans (Nat.add_le_add_left (by decide) cells) hcs.1, Nat.le_trans (Nat.add_le_add_left (by decide) slots) hcs.2⟩ dL_law_3365 (fun z o1 σ1 hk => ?_)
  have hcs1 : cells + 2 ≤ room_1.cells ∧ slots + 12 ≤ room_1.slots := ⟨Nat.le_trans (Nat.add_le_add_left (by decide) cells) hcs.1, Nat.le_trans (Nat.add_le_add_left (by decide) slots) hcs.2⟩
  refine zn_istore hC.1 ((5, vI z) :: zLV b ad bd od n) dL_law_3368 (by decide) rfl ?_
  refine zn_aload_n hC.1 dL_law_3370 3 rfl rfl ?_
  refine zl_arg hC (n := n) 1 (by omega) 1 5 rfl rfl rfl dL_law_3371 dL_law_3372 dL_law_3374 dL_law_3375 dL_law_3376 ?_
  refine zl_arg hC (n := n) 2 (by omega) 1 5 rfl rfl rfl dL_law_3377 dL_law_3378 dL_law_3380 dL_law_3381 dL_law_3382 ?_
  rcases hk with ⟨v, rfl, rfl, hk⟩ | ⟨k, rfl, hk1, hk⟩
  · refine zl_M hC [vI (sc xs (6 * n + 1)), vI (sc xs (6 * n + 2))] (fun hinj sz => mX12_strain l hinj sz hk) (cwV 2 hC.1.1.2.2.2.2 (uV uId u2213 u2214 u2215 u118 u2216) rfl rfl rfl (by decide +kernel) ⟨Nat.le_of_ble_eq_true rfl, Nat.le_of_ble_eq_true rfl⟩) rfl rfl (Nat.le_of_ble_eq_true rfl) hcs1 dL_law_3383 (fun w τ1 hk2 => ?_)
    obtain ⟨h4, rfl, hk2⟩ := hk2
    refine zl_tailI hC dL_law_3386 dL_law_3388 dL_law_3389 dL_law_3392 dL_law_3394 dL_law_3399 dL_law_3401 dL_law_3404 dL_law_3405 dL_law_3406 dL_law_3407 dL_law_3409 dL_law_3410 dL_law_3411 dL_law_3416 (by decide) hcs1 h4 (Or.inl ⟨rfl, rfl⟩) ?_
    exact zn_widen (Nat.add_le_add_left (by decide) cells) (Nat.add_le_add_left (by decide) slots) (g _ σ1 τ1 hk2)
  · refine zl_M hC [vI (sc xs (6 * n + 1)), vI (sc xs (6 * n + 2))] (fun hinj sz => mX12_strain l hinj sz hk) (cwV 2 hC.1.1.2.2.2.2 (uV uId u2213 u2214 u2215 u118 u2216) rfl rfl rfl (by decide +kernel) ⟨Nat.le_of_ble_eq_true rfl, Nat.le_of_ble_eq_true rfl⟩) rfl rfl (Nat.le_of_ble_eq_true rfl) hcs1 dL_law_3383 (fun w τ1 hk2 => ?_)
    obtain ⟨h4, hk2⟩ := hk2
    refine zl_tailI hC dL_law_3386 dL_law_3388 dL_law_3389 dL_law_3392 dL_law_3394 dL_law_3399 dL_law_3401 dL_law_3404 dL_law_3405 dL_law_3406 dL_law_3407 dL_law_3409 dL_law_3410 dL_law_3411 dL_law_3416 (by decide) hcs1 h4 (Or.inr hk1) ?_
    exact zn_widen (Nat.add_le_add_left (by decide) cells) (Nat.add_le_add_left (by decide) slots) (g _ σ1 τ1 hk2)
theorem lb_62 (hC : zLC p m c s args meth D dA (zXX aL aG aI aK aV) b L xs) {n : Nat} {μ : Int} (hst : l.stackTraces = false) (hT : TW σ τ μ) (hm : μ < 99999) (hn : 6 * n + 5 < L) (hcs : cells + 3 ≤ room_1.cells ∧ slots + 18 ≤ room_1.slots) (g : ∀ (o1 : Int64) (σ1 τ1 : zSt), TW σ1 τ1 (μ + 1) → zL p l e room_1 s m args below meth c (cells + 3) (slots + 18) Q 7 D (fun q => s.heap.size ≤ q) (3543) (zLV b ad bd od n) ([]) (zLW dA ad bd od o1 σ1 τ1)) : zL p l e room_1 s m args below meth c (cells) (slots) Q 7 D (fun q => s.heap.size ≤ q) (3419) (zLV b ad bd od n) ([]) (zLW dA ad bd od o σ τ) := by
  have hcs0 : cells ≤ room_1.cells ∧ slots ≤ room_1.slots := ⟨Nat.le_trans (Nat.le_add_right _ _) hcs.1, Nat.le_trans (Nat.le_add_right _ _) hcs.2⟩
  refine zn_aload_n hC.1 dL_law_3419 1 rfl rfl ?_
  refine zl_arg hC (n := n) 1 (by omega) 0 4 rfl rfl rfl dL_law_3420 dL_law_3421 dL_law_3423 dL_law_3424 dL_law_3425 ?_
  refine zn_aload_n hC.1 dL_law_3426 3 rfl rfl ?_
  refine zl_H hC (G := fun z o1 σ1 => (∃ v : Int, z = 0 ∧ o1 = (Int32.ofInt v).toInt64 ∧ cE (μ + 1) (fun K => fX12_direction K τ (sc xs (6 * n + 1))) v σ1) ∨ ∃ k : Int, z = k ∧ (k = 1 ∨ k = 2) ∧ fX12_direction (fun _ τ1 => τ1 0 4 = k ∧ TW σ1 τ1 (μ + 1)) τ (sc xs (6 * n + 1))) [vI (sc xs (6 * n + 1)), .ref od] (fun sz => cH_direction l hst D dA aL aG aI aK aV ad od sz σ o (cmd_direction hT (sc_rg xs (6 * n + 1))) (fun v σ1 hk => Or.inl ⟨v, rfl, rfl, hk⟩) (fun E σ1 hk => ⟨hk.1, Or.inr ⟨1, rfl, Or.inl rfl, hk.2⟩⟩)) (vx_cwSW 3 hC.1.1.2.2.2.2 (uSW uId u1518 u1519 u104 uh_direction) rfl rfl rfl (by decide +kernel) ⟨Nat.le_of_ble_eq_true rfl, Nat.le_of_ble_eq_true rfl⟩) rfl rfl (Nat.le_of_ble_eq_true rfl) ⟨Nat.le_trans (Nat.add_le_add_left (by decide) cells) hcs.1, Nat.le_trans (Nat.add_le_add_left (by decide) slots) hcs.2⟩ dL_law_3427 (fun z o1 σ1 hk => ?_)
  have hcs1 : cells + 1 ≤ room_1.cells ∧ slots + 6 ≤ room_1.slots := ⟨Nat.le_trans (Nat.add_le_add_left (by decide) cells) hcs.1, Nat.le_trans (Nat.add_le_add_left (by decide) slots) hcs.2⟩
  refine zn_istore hC.1 ((5, vI z) :: zLV b ad bd od n) dL_law_3430 (by decide) rfl ?_
  refine zn_aload_n hC.1 dL_law_3432 3 rfl rfl ?_
  refine zl_arg hC (n := n) 1 (by omega) 1 5 rfl rfl rfl dL_law_3433 dL_law_3434 dL_law_3436 dL_law_3437 dL_law_3438 ?_
  rcases hk with ⟨v, rfl, rfl, hk⟩ | ⟨k, rfl, hk1, hk⟩
  · refine zl_M hC [vI (sc xs (6 * n + 1))] (fun hinj sz => mX12_direction l hinj sz hk) (cwV 1 hC.1.1.2.2.2.2 (uV uId u2221 u2222 u2223 u118 u2224) rfl rfl rfl (by decide +kernel) ⟨Nat.le_of_ble_eq_true rfl, Nat.le_of_ble_eq_true rfl⟩) rfl rfl (Nat.le_of_ble_eq_true rfl) hcs1 dL_law_3439 (fun w τ1 hk2 => ?_)
    obtain ⟨h4, rfl, hk2⟩ := hk2
    refine zl_tailI hC dL_law_3442 dL_law_3444 dL_law_3445 dL_law_3448 dL_law_3450 dL_law_3455 dL_law_3457 dL_law_3460 dL_law_3461 dL_law_3462 dL_law_3463 dL_law_3465 dL_law_3466 dL_law_3467 dL_law_3472 (by decide) hcs1 h4 (Or.inl ⟨rfl, rfl⟩) ?_
    exact zn_widen (Nat.add_le_add_left (by decide) cells) (Nat.add_le_add_left (by decide) slots) (g _ σ1 τ1 hk2)
  · refine zl_M hC [vI (sc xs (6 * n + 1))] (fun hinj sz => mX12_direction l hinj sz hk) (cwV 1 hC.1.1.2.2.2.2 (uV uId u2221 u2222 u2223 u118 u2224) rfl rfl rfl (by decide +kernel) ⟨Nat.le_of_ble_eq_true rfl, Nat.le_of_ble_eq_true rfl⟩) rfl rfl (Nat.le_of_ble_eq_true rfl) hcs1 dL_law_3439 (fun w τ1 hk2 => ?_)
    obtain ⟨h4, hk2⟩ := hk2
    refine zl_tailI hC dL_law_3442 dL_law_3444 dL_law_3445 dL_law_3448 dL_law_3450 dL_law_3455 dL_law_3457 dL_law_3460 dL_law_3461 dL_law_3462 dL_law_3463 dL_law_3465 dL_law_3466 dL_law_3467 dL_law_3472 (by decide) hcs1 h4 (Or.inr hk1) ?_
    exact zn_widen (Nat.add_le_add_left (by decide) cells) (Nat.add_le_add_left (by decide) slots) (g _ σ1 τ1 hk2)
theorem lb_63 (hC : zLC p m c s args meth D dA (zXX aL aG aI aK aV) b L xs) {n : Nat} {μ : Int} (hst : l.stackTraces = false) (hT : TW σ τ μ) (hm : μ < 99999) (hn : 6 * n + 5 < L) (hcs : cells + 3 ≤ room_1.cells ∧ slots + 18 ≤ room_1.slots) (g : ∀ (o1 : Int64) (σ1 τ1 : zSt), TW σ1 τ1 (μ + 1) → zL p l e room_1 s m args below meth c (cells + 3) (slots + 18) Q 7 D (fun q => s.heap.size ≤ q) (3543) (zLV b ad bd od n) ([]) (zLW dA ad bd od o1 σ1 τ1)) : zL p l e room_1 s m args below meth c (cells) (slots) Q 7 D (fun q => s.heap.size ≤ q) (3475) (zLV b ad bd od n) ([]) (zLW dA ad bd od o σ τ) := by
  have hcs0 : cells ≤ room_1.cells ∧ slots ≤ room_1.slots := ⟨Nat.le_trans (Nat.le_add_right _ _) hcs.1, Nat.le_trans (Nat.le_add_right _ _) hcs.2⟩
  refine zn_aload_n hC.1 dL_law_3475 1 rfl rfl ?_
  refine zl_arg hC (n := n) 1 (by omega) 0 4 rfl rfl rfl dL_law_3476 dL_law_3477 dL_law_3479 dL_law_3480 dL_law_3481 ?_
  refine zl_arg hC (n := n) 2 (by omega) 0 4 rfl rfl rfl dL_law_3482 dL_law_3483 dL_law_3485 dL_law_3486 dL_law_3487 ?_
  refine zn_aload_n hC.1 dL_law_3488 3 rfl rfl ?_
  refine zl_H hC (G := fun z o1 σ1 => (∃ v : Int, z = 0 ∧ o1 = (Int32.ofInt v).toInt64 ∧ cE (μ + 1) (fun K => fX12_meltInSegment K τ (sc xs (6 * n + 1)) (sc xs (6 * n + 2))) v σ1) ∨ ∃ k : Int, z = k ∧ (k = 1 ∨ k = 2) ∧ fX12_meltInSegment (fun _ τ1 => τ1 0 4 = k ∧ TW σ1 τ1 (μ + 1)) τ (sc xs (6 * n + 1)) (sc xs (6 * n + 2))) [vI (sc xs (6 * n + 1)), vI (sc xs (6 * n + 2)), .ref od] (fun sz => cH_meltInSegment l hst D dA aL aG aI aK aV ad od sz σ o (cmd_meltInSegment hT (sc_rg xs (6 * n + 1)) (sc_rg xs (6 * n + 2))) (fun v σ1 hk => Or.inl ⟨v, rfl, rfl, hk⟩) (fun E σ1 hk => ⟨hk.1, Or.inr ⟨1, rfl, Or.inl rfl, hk.2⟩⟩)) (vx_cwSW 4 hC.1.1.2.2.2.2 (uSW uId u1529 u1530 u104 uh_meltInSegment) rfl rfl rfl (by decide +kernel) ⟨Nat.le_of_ble_eq_true rfl, Nat.le_of_ble_eq_true rfl⟩) rfl rfl (Nat.le_of_ble_eq_true rfl) ⟨Nat.le_trans (Nat.add_le_add_left (by decide) cells) hcs.1, Nat.le_trans (Nat.add_le_add_left (by decide) slots) hcs.2⟩ dL_law_3489 (fun z o1 σ1 hk => ?_)
  have hcs1 : cells + 2 ≤ room_1.cells ∧ slots + 12 ≤ room_1.slots := ⟨Nat.le_trans (Nat.add_le_add_left (by decide) cells) hcs.1, Nat.le_trans (Nat.add_le_add_left (by decide) slots) hcs.2⟩
  refine zn_istore hC.1 ((5, vI z) :: zLV b ad bd od n) dL_law_3492 (by decide) rfl ?_
  refine zn_aload_n hC.1 dL_law_3494 3 rfl rfl ?_
  refine zl_arg hC (n := n) 1 (by omega) 1 5 rfl rfl rfl dL_law_3495 dL_law_3496 dL_law_3498 dL_law_3499 dL_law_3500 ?_
  refine zl_arg hC (n := n) 2 (by omega) 1 5 rfl rfl rfl dL_law_3501 dL_law_3502 dL_law_3504 dL_law_3505 dL_law_3506 ?_
  rcases hk with ⟨v, rfl, rfl, hk⟩ | ⟨k, rfl, hk1, hk⟩
  · refine zl_M hC [vI (sc xs (6 * n + 1)), vI (sc xs (6 * n + 2))] (fun hinj sz => mX12_meltInSegment l hinj sz hk) (cwV 2 hC.1.1.2.2.2.2 (uV uId u2225 u2226 u2227 u118 u2228) rfl rfl rfl (by decide +kernel) ⟨Nat.le_of_ble_eq_true rfl, Nat.le_of_ble_eq_true rfl⟩) rfl rfl (Nat.le_of_ble_eq_true rfl) hcs1 dL_law_3507 (fun w τ1 hk2 => ?_)
    obtain ⟨h4, rfl, hk2⟩ := hk2
    refine zl_tailI hC dL_law_3510 dL_law_3512 dL_law_3513 dL_law_3516 dL_law_3518 dL_law_3523 dL_law_3525 dL_law_3528 dL_law_3529 dL_law_3530 dL_law_3531 dL_law_3533 dL_law_3534 dL_law_3535 dL_law_3540 (by decide) hcs1 h4 (Or.inl ⟨rfl, rfl⟩) ?_
    exact zn_widen (Nat.add_le_add_left (by decide) cells) (Nat.add_le_add_left (by decide) slots) (g _ σ1 τ1 hk2)
  · refine zl_M hC [vI (sc xs (6 * n + 1)), vI (sc xs (6 * n + 2))] (fun hinj sz => mX12_meltInSegment l hinj sz hk) (cwV 2 hC.1.1.2.2.2.2 (uV uId u2225 u2226 u2227 u118 u2228) rfl rfl rfl (by decide +kernel) ⟨Nat.le_of_ble_eq_true rfl, Nat.le_of_ble_eq_true rfl⟩) rfl rfl (Nat.le_of_ble_eq_true rfl) hcs1 dL_law_3507 (fun w τ1 hk2 => ?_)
    obtain ⟨h4, hk2⟩ := hk2
    refine zl_tailI hC dL_law_3510 dL_law_3512 dL_law_3513 dL_law_3516 dL_law_3518 dL_law_3523 dL_law_3525 dL_law_3528 dL_law_3529 dL_law_3530 dL_law_3531 dL_law_3533 dL_law_3534 dL_law_3535 dL_law_3540 (by decide) hcs1 h4 (Or.inr hk1) ?_
    exact zn_widen (Nat.add_le_add_left (by decide) cells) (Nat.add_le_add_left (by decide) slots) (g _ σ1 τ1 hk2)
end ZLD3
