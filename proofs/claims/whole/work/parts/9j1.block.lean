/-! the law: its blocks 16 to 31 -/
section ZLD1
variable {p : Program} {l : Launch} {e : Env} {s : State} {m : MethodId} {args : Array Value} {below : List Frame} {meth : Method} {c : Code} {cells slots : Nat} {Q : State → Prop}
variable {D : va_G} {dA : Nat → ClassId} {aL aG aI : Nat} {aK aV : Nat → Nat} {b L : Nat} {xs : Nat → Int32} {ad bd : Nat → Nat} {od : Nat} {o : Int64} {σ τ : zSt}
variable {pc : Nat} {lv : List (Nat × Value)} {stk : List Value} {ws : va_W}
theorem lb_16 (hC : zLC p m c s args meth D dA (zXX aL aG aI aK aV) b L xs) {n : Nat} {μ : Int} (hst : l.stackTraces = false) (hT : TW σ τ μ) (hm : μ < 99999) (hn : 6 * n + 5 < L) (hcs : cells + 3 ≤ room_1.cells ∧ slots + 18 ≤ room_1.slots) (g : ∀ (o1 : Int64) (σ1 τ1 : zSt), TW σ1 τ1 (μ + 1) → zL p l e room_1 s m args below meth c (cells + 3) (slots + 18) Q 7 D (fun q => s.heap.size ≤ q) (3543) (zLV b ad bd od n) ([]) (zLW dA ad bd od o1 σ1 τ1)) : zL p l e room_1 s m args below meth c (cells) (slots) Q 7 D (fun q => s.heap.size ≤ q) (841) (zLV b ad bd od n) ([]) (zLW dA ad bd od o σ τ) := by
  have hcs0 : cells ≤ room_1.cells ∧ slots ≤ room_1.slots := ⟨Nat.le_trans (Nat.le_add_right _ _) hcs.1, Nat.le_trans (Nat.le_add_right _ _) hcs.2⟩
  refine zn_aload_n hC.1 dL_law_841 1 rfl rfl ?_
  refine zl_arg hC (n := n) 1 (by omega) 0 4 rfl rfl rfl dL_law_842 dL_law_843 dL_law_845 dL_law_846 dL_law_847 ?_
  refine zn_aload_n hC.1 dL_law_848 3 rfl rfl ?_
  refine zl_H hC (G := fun z o1 σ1 => (∃ v : Int, z = 0 ∧ o1 = (if Int32.ofInt v = 0 then 0 else 1 : Int64) ∧ cE (μ + 1) (fun K => fX12_isUsable K τ (sc xs (6 * n + 1))) v σ1) ∨ ∃ k : Int, z = k ∧ (k = 1 ∨ k = 2) ∧ fX12_isUsable (fun _ τ1 => τ1 0 4 = k ∧ TW σ1 τ1 (μ + 1)) τ (sc xs (6 * n + 1))) [vI (sc xs (6 * n + 1)), .ref od] (fun sz => cH_isUsable l hst D dA aL aG aI aK aV ad od sz σ o (cmd_isUsable hT (sc_rg xs (6 * n + 1))) (fun v σ1 hk => Or.inl ⟨v, rfl, rfl, hk⟩) (fun E σ1 hk => ⟨hk.1, Or.inr ⟨1, rfl, Or.inl rfl, hk.2⟩⟩)) (vx_cwSW 3 hC.1.1.2.2.2.2 (uSW uId u1151 u1152 u104 uh_isUsable) rfl rfl rfl (by decide +kernel) ⟨Nat.le_of_ble_eq_true rfl, Nat.le_of_ble_eq_true rfl⟩) rfl rfl (Nat.le_of_ble_eq_true rfl) ⟨Nat.le_trans (Nat.add_le_add_left (by decide) cells) hcs.1, Nat.le_trans (Nat.add_le_add_left (by decide) slots) hcs.2⟩ dL_law_849 (fun z o1 σ1 hk => ?_)
  have hcs1 : cells + 1 ≤ room_1.cells ∧ slots + 6 ≤ room_1.slots := ⟨Nat.le_trans (Nat.add_le_add_left (by decide) cells) hcs.1, Nat.le_trans (Nat.add_le_add_left (by decide) slots) hcs.2⟩
  refine zn_istore hC.1 ((5, vI z) :: zLV b ad bd od n) dL_law_852 (by decide) rfl ?_
  refine zn_aload_n hC.1 dL_law_854 3 rfl rfl ?_
  refine zl_arg hC (n := n) 1 (by omega) 1 5 rfl rfl rfl dL_law_855 dL_law_856 dL_law_858 dL_law_859 dL_law_860 ?_
  rcases hk with ⟨v, rfl, rfl, hk⟩ | ⟨k, rfl, hk1, hk⟩
  · refine zl_M hC [vI (sc xs (6 * n + 1))] (fun hinj sz => mX12_isUsable l hinj sz hk) (cwV 1 hC.1.1.2.2.2.2 (uV uId u1877 u1878 u1879 u118 u1880) rfl rfl rfl (by decide +kernel) ⟨Nat.le_of_ble_eq_true rfl, Nat.le_of_ble_eq_true rfl⟩) rfl rfl (Nat.le_of_ble_eq_true rfl) hcs1 dL_law_861 (fun w τ1 hk2 => ?_)
    obtain ⟨h4, rfl, hk2⟩ := hk2
    refine zl_tailB hC dL_law_864 dL_law_866 dL_law_867 dL_law_870 dL_law_872 dL_law_877 dL_law_879 dL_law_882 dL_law_883 dL_law_884 dL_law_885 dL_law_887 dL_law_890 dL_law_891 dL_law_894 dL_law_895 dL_law_896 dL_law_901 (by decide) hcs1 h4 (Or.inl ⟨rfl, rfl⟩) ?_
    exact zn_widen (Nat.add_le_add_left (by decide) cells) (Nat.add_le_add_left (by decide) slots) (g _ σ1 τ1 hk2)
  · refine zl_M hC [vI (sc xs (6 * n + 1))] (fun hinj sz => mX12_isUsable l hinj sz hk) (cwV 1 hC.1.1.2.2.2.2 (uV uId u1877 u1878 u1879 u118 u1880) rfl rfl rfl (by decide +kernel) ⟨Nat.le_of_ble_eq_true rfl, Nat.le_of_ble_eq_true rfl⟩) rfl rfl (Nat.le_of_ble_eq_true rfl) hcs1 dL_law_861 (fun w τ1 hk2 => ?_)
    obtain ⟨h4, hk2⟩ := hk2
    refine zl_tailB hC dL_law_864 dL_law_866 dL_law_867 dL_law_870 dL_law_872 dL_law_877 dL_law_879 dL_law_882 dL_law_883 dL_law_884 dL_law_885 dL_law_887 dL_law_890 dL_law_891 dL_law_894 dL_law_895 dL_law_896 dL_law_901 (by decide) hcs1 h4 (Or.inr hk1) ?_
    exact zn_widen (Nat.add_le_add_left (by decide) cells) (Nat.add_le_add_left (by decide) slots) (g _ σ1 τ1 hk2)
theorem lb_17 (hC : zLC p m c s args meth D dA (zXX aL aG aI aK aV) b L xs) {n : Nat} {μ : Int} (hst : l.stackTraces = false) (hT : TW σ τ μ) (hm : μ < 99999) (hn : 6 * n + 5 < L) (hcs : cells + 3 ≤ room_1.cells ∧ slots + 18 ≤ room_1.slots) (g : ∀ (o1 : Int64) (σ1 τ1 : zSt), TW σ1 τ1 (μ + 1) → zL p l e room_1 s m args below meth c (cells + 3) (slots + 18) Q 7 D (fun q => s.heap.size ≤ q) (3543) (zLV b ad bd od n) ([]) (zLW dA ad bd od o1 σ1 τ1)) : zL p l e room_1 s m args below meth c (cells) (slots) Q 7 D (fun q => s.heap.size ≤ q) (904) (zLV b ad bd od n) ([]) (zLW dA ad bd od o σ τ) := by
  have hcs0 : cells ≤ room_1.cells ∧ slots ≤ room_1.slots := ⟨Nat.le_trans (Nat.le_add_right _ _) hcs.1, Nat.le_trans (Nat.le_add_right _ _) hcs.2⟩
  refine zn_aload_n hC.1 dL_law_904 1 rfl rfl ?_
  refine zl_X hC [] (fun hinj sz => mX11_referenceFrame l hinj sz (cmd_referenceFrame hT )) (cwV 0 hC.1.1.2.2.2.2 (uV uId u787 u788 u789 u105 u790) rfl rfl rfl (by decide +kernel) ⟨Nat.le_of_ble_eq_true rfl, Nat.le_of_ble_eq_true rfl⟩) rfl rfl (Nat.le_of_ble_eq_true rfl) hcs0 dL_law_905 (fun z σ1 hk => ?_)
  refine zn_aload_n hC.1 dL_law_908 2 rfl rfl ?_
  refine zl_M hC [] (fun hinj sz => mX12_referenceFrame l hinj sz hk) (cwV 0 hC.1.1.2.2.2.2 (uV uId u1885 u1886 u1887 u118 u1888) rfl rfl rfl (by decide +kernel) ⟨Nat.le_of_ble_eq_true rfl, Nat.le_of_ble_eq_true rfl⟩) rfl rfl (Nat.le_of_ble_eq_true rfl) hcs0 dL_law_909 (fun w τ1 hk2 => ?_)
  obtain ⟨rfl, hk2⟩ := hk2
  refine zn_eq_t (tgt := 3543) hC.1 dL_law_912 (by decide) ?_
  exact zn_widen (Nat.le_add_right _ _) (Nat.le_add_right _ _) (g o σ1 τ1 hk2)
theorem lb_18 (hC : zLC p m c s args meth D dA (zXX aL aG aI aK aV) b L xs) {n : Nat} {μ : Int} (hst : l.stackTraces = false) (hT : TW σ τ μ) (hm : μ < 99999) (hn : 6 * n + 5 < L) (hcs : cells + 3 ≤ room_1.cells ∧ slots + 18 ≤ room_1.slots) (g : ∀ (o1 : Int64) (σ1 τ1 : zSt), TW σ1 τ1 (μ + 1) → zL p l e room_1 s m args below meth c (cells + 3) (slots + 18) Q 7 D (fun q => s.heap.size ≤ q) (3543) (zLV b ad bd od n) ([]) (zLW dA ad bd od o1 σ1 τ1)) : zL p l e room_1 s m args below meth c (cells) (slots) Q 7 D (fun q => s.heap.size ≤ q) (917) (zLV b ad bd od n) ([]) (zLW dA ad bd od o σ τ) := by
  have hcs0 : cells ≤ room_1.cells ∧ slots ≤ room_1.slots := ⟨Nat.le_trans (Nat.le_add_right _ _) hcs.1, Nat.le_trans (Nat.le_add_right _ _) hcs.2⟩
  refine zn_aload_n hC.1 dL_law_917 1 rfl rfl ?_
  refine zl_arg hC (n := n) 1 (by omega) 0 4 rfl rfl rfl dL_law_918 dL_law_919 dL_law_921 dL_law_922 dL_law_923 ?_
  refine zn_aload_n hC.1 dL_law_924 3 rfl rfl ?_
  refine zl_H hC (G := fun z o1 σ1 => (∃ v : Int, z = 0 ∧ o1 = (if Int32.ofInt v = 0 then 0 else 1 : Int64) ∧ cE (μ + 1) (fun K => fX12_isOriented K τ (sc xs (6 * n + 1))) v σ1) ∨ ∃ k : Int, z = k ∧ (k = 1 ∨ k = 2) ∧ fX12_isOriented (fun _ τ1 => τ1 0 4 = k ∧ TW σ1 τ1 (μ + 1)) τ (sc xs (6 * n + 1))) [vI (sc xs (6 * n + 1)), .ref od] (fun sz => cH_isOriented l hst D dA aL aG aI aK aV ad od sz σ o (cmd_isOriented hT (sc_rg xs (6 * n + 1))) (fun v σ1 hk => Or.inl ⟨v, rfl, rfl, hk⟩) (fun E σ1 hk => ⟨hk.1, Or.inr ⟨1, rfl, Or.inl rfl, hk.2⟩⟩)) (vx_cwSW 3 hC.1.1.2.2.2.2 (uSW uId u1158 u1159 u104 uh_isOriented) rfl rfl rfl (by decide +kernel) ⟨Nat.le_of_ble_eq_true rfl, Nat.le_of_ble_eq_true rfl⟩) rfl rfl (Nat.le_of_ble_eq_true rfl) ⟨Nat.le_trans (Nat.add_le_add_left (by decide) cells) hcs.1, Nat.le_trans (Nat.add_le_add_left (by decide) slots) hcs.2⟩ dL_law_925 (fun z o1 σ1 hk => ?_)
  have hcs1 : cells + 1 ≤ room_1.cells ∧ slots + 6 ≤ room_1.slots := ⟨Nat.le_trans (Nat.add_le_add_left (by decide) cells) hcs.1, Nat.le_trans (Nat.add_le_add_left (by decide) slots) hcs.2⟩
  refine zn_istore hC.1 ((5, vI z) :: zLV b ad bd od n) dL_law_928 (by decide) rfl ?_
  refine zn_aload_n hC.1 dL_law_930 3 rfl rfl ?_
  refine zl_arg hC (n := n) 1 (by omega) 1 5 rfl rfl rfl dL_law_931 dL_law_932 dL_law_934 dL_law_935 dL_law_936 ?_
  rcases hk with ⟨v, rfl, rfl, hk⟩ | ⟨k, rfl, hk1, hk⟩
  · refine zl_M hC [vI (sc xs (6 * n + 1))] (fun hinj sz => mX12_isOriented l hinj sz hk) (cwV 1 hC.1.1.2.2.2.2 (uV uId u1893 u1894 u1895 u118 u1896) rfl rfl rfl (by decide +kernel) ⟨Nat.le_of_ble_eq_true rfl, Nat.le_of_ble_eq_true rfl⟩) rfl rfl (Nat.le_of_ble_eq_true rfl) hcs1 dL_law_937 (fun w τ1 hk2 => ?_)
    obtain ⟨h4, rfl, hk2⟩ := hk2
    refine zl_tailB hC dL_law_940 dL_law_942 dL_law_943 dL_law_946 dL_law_948 dL_law_953 dL_law_955 dL_law_958 dL_law_959 dL_law_960 dL_law_961 dL_law_963 dL_law_966 dL_law_967 dL_law_970 dL_law_971 dL_law_972 dL_law_977 (by decide) hcs1 h4 (Or.inl ⟨rfl, rfl⟩) ?_
    exact zn_widen (Nat.add_le_add_left (by decide) cells) (Nat.add_le_add_left (by decide) slots) (g _ σ1 τ1 hk2)
  · refine zl_M hC [vI (sc xs (6 * n + 1))] (fun hinj sz => mX12_isOriented l hinj sz hk) (cwV 1 hC.1.1.2.2.2.2 (uV uId u1893 u1894 u1895 u118 u1896) rfl rfl rfl (by decide +kernel) ⟨Nat.le_of_ble_eq_true rfl, Nat.le_of_ble_eq_true rfl⟩) rfl rfl (Nat.le_of_ble_eq_true rfl) hcs1 dL_law_937 (fun w τ1 hk2 => ?_)
    obtain ⟨h4, hk2⟩ := hk2
    refine zl_tailB hC dL_law_940 dL_law_942 dL_law_943 dL_law_946 dL_law_948 dL_law_953 dL_law_955 dL_law_958 dL_law_959 dL_law_960 dL_law_961 dL_law_963 dL_law_966 dL_law_967 dL_law_970 dL_law_971 dL_law_972 dL_law_977 (by decide) hcs1 h4 (Or.inr hk1) ?_
    exact zn_widen (Nat.add_le_add_left (by decide) cells) (Nat.add_le_add_left (by decide) slots) (g _ σ1 τ1 hk2)
theorem lb_19 (hC : zLC p m c s args meth D dA (zXX aL aG aI aK aV) b L xs) {n : Nat} {μ : Int} (hst : l.stackTraces = false) (hT : TW σ τ μ) (hm : μ < 99999) (hn : 6 * n + 5 < L) (hcs : cells + 3 ≤ room_1.cells ∧ slots + 18 ≤ room_1.slots) (g : ∀ (o1 : Int64) (σ1 τ1 : zSt), TW σ1 τ1 (μ + 1) → zL p l e room_1 s m args below meth c (cells + 3) (slots + 18) Q 7 D (fun q => s.heap.size ≤ q) (3543) (zLV b ad bd od n) ([]) (zLW dA ad bd od o1 σ1 τ1)) : zL p l e room_1 s m args below meth c (cells) (slots) Q 7 D (fun q => s.heap.size ≤ q) (980) (zLV b ad bd od n) ([]) (zLW dA ad bd od o σ τ) := by
  have hcs0 : cells ≤ room_1.cells ∧ slots ≤ room_1.slots := ⟨Nat.le_trans (Nat.le_add_right _ _) hcs.1, Nat.le_trans (Nat.le_add_right _ _) hcs.2⟩
  refine zn_aload_n hC.1 dL_law_980 1 rfl rfl ?_
  refine zl_arg hC (n := n) 1 (by omega) 0 4 rfl rfl rfl dL_law_981 dL_law_982 dL_law_984 dL_law_985 dL_law_986 ?_
  refine zn_aload_n hC.1 dL_law_987 3 rfl rfl ?_
  refine zl_H hC (G := fun z o1 σ1 => (∃ v : Int, z = 0 ∧ o1 = (Int32.ofInt v).toInt64 ∧ cE (μ + 1) (fun K => fX12_shiftX K τ (sc xs (6 * n + 1))) v σ1) ∨ ∃ k : Int, z = k ∧ (k = 1 ∨ k = 2) ∧ fX12_shiftX (fun _ τ1 => τ1 0 4 = k ∧ TW σ1 τ1 (μ + 1)) τ (sc xs (6 * n + 1))) [vI (sc xs (6 * n + 1)), .ref od] (fun sz => cH_shiftX l hst D dA aL aG aI aK aV ad od sz σ o (cmd_shiftX hT (sc_rg xs (6 * n + 1))) (fun v σ1 hk => Or.inl ⟨v, rfl, rfl, hk⟩) (fun E σ1 hk => hk.imp (fun hk => ⟨hk.1, Or.inr ⟨1, rfl, Or.inl rfl, hk.2⟩⟩) (fun hk => ⟨hk.1, Or.inr ⟨2, rfl, Or.inr rfl, hk.2⟩⟩))) (vx_cwSW 3 hC.1.1.2.2.2.2 (uSW uId u1166 u1167 u104 uh_shiftX) rfl rfl rfl (by decide +kernel) ⟨Nat.le_of_ble_eq_true rfl, Nat.le_of_ble_eq_true rfl⟩) rfl rfl (Nat.le_of_ble_eq_true rfl) ⟨Nat.le_trans (Nat.add_le_add_left (by decide) cells) hcs.1, Nat.le_trans (Nat.add_le_add_left (by decide) slots) hcs.2⟩ dL_law_988 (fun z o1 σ1 hk => ?_)
  have hcs1 : cells + 2 ≤ room_1.cells ∧ slots + 12 ≤ room_1.slots := ⟨Nat.le_trans (Nat.add_le_add_left (by decide) cells) hcs.1, Nat.le_trans (Nat.add_le_add_left (by decide) slots) hcs.2⟩
  refine zn_istore hC.1 ((5, vI z) :: zLV b ad bd od n) dL_law_991 (by decide) rfl ?_
  refine zn_aload_n hC.1 dL_law_993 3 rfl rfl ?_
  refine zl_arg hC (n := n) 1 (by omega) 1 5 rfl rfl rfl dL_law_994 dL_law_995 dL_law_997 dL_law_998 dL_law_999 ?_
  rcases hk with ⟨v, rfl, rfl, hk⟩ | ⟨k, rfl, hk1, hk⟩
  · refine zl_M hC [vI (sc xs (6 * n + 1))] (fun hinj sz => mX12_shiftX l hinj sz hk) (cwV 1 hC.1.1.2.2.2.2 (uV uId u1924 u1925 u1926 u118 u1927) rfl rfl rfl (by decide +kernel) ⟨Nat.le_of_ble_eq_true rfl, Nat.le_of_ble_eq_true rfl⟩) rfl rfl (Nat.le_of_ble_eq_true rfl) hcs1 dL_law_1000 (fun w τ1 hk2 => ?_)
    obtain ⟨h4, rfl, hk2⟩ := hk2
    refine zl_tailI hC dL_law_1003 dL_law_1005 dL_law_1006 dL_law_1009 dL_law_1011 dL_law_1016 dL_law_1018 dL_law_1021 dL_law_1022 dL_law_1023 dL_law_1024 dL_law_1026 dL_law_1027 dL_law_1028 dL_law_1033 (by decide) hcs1 h4 (Or.inl ⟨rfl, rfl⟩) ?_
    exact zn_widen (Nat.add_le_add_left (by decide) cells) (Nat.add_le_add_left (by decide) slots) (g _ σ1 τ1 hk2)
  · refine zl_M hC [vI (sc xs (6 * n + 1))] (fun hinj sz => mX12_shiftX l hinj sz hk) (cwV 1 hC.1.1.2.2.2.2 (uV uId u1924 u1925 u1926 u118 u1927) rfl rfl rfl (by decide +kernel) ⟨Nat.le_of_ble_eq_true rfl, Nat.le_of_ble_eq_true rfl⟩) rfl rfl (Nat.le_of_ble_eq_true rfl) hcs1 dL_law_1000 (fun w τ1 hk2 => ?_)
    obtain ⟨h4, hk2⟩ := hk2
    refine zl_tailI hC dL_law_1003 dL_law_1005 dL_law_1006 dL_law_1009 dL_law_1011 dL_law_1016 dL_law_1018 dL_law_1021 dL_law_1022 dL_law_1023 dL_law_1024 dL_law_1026 dL_law_1027 dL_law_1028 dL_law_1033 (by decide) hcs1 h4 (Or.inr hk1) ?_
    exact zn_widen (Nat.add_le_add_left (by decide) cells) (Nat.add_le_add_left (by decide) slots) (g _ σ1 τ1 hk2)
theorem lb_20 (hC : zLC p m c s args meth D dA (zXX aL aG aI aK aV) b L xs) {n : Nat} {μ : Int} (hst : l.stackTraces = false) (hT : TW σ τ μ) (hm : μ < 99999) (hn : 6 * n + 5 < L) (hcs : cells + 3 ≤ room_1.cells ∧ slots + 18 ≤ room_1.slots) (g : ∀ (o1 : Int64) (σ1 τ1 : zSt), TW σ1 τ1 (μ + 1) → zL p l e room_1 s m args below meth c (cells + 3) (slots + 18) Q 7 D (fun q => s.heap.size ≤ q) (3543) (zLV b ad bd od n) ([]) (zLW dA ad bd od o1 σ1 τ1)) : zL p l e room_1 s m args below meth c (cells) (slots) Q 7 D (fun q => s.heap.size ≤ q) (1036) (zLV b ad bd od n) ([]) (zLW dA ad bd od o σ τ) := by
  have hcs0 : cells ≤ room_1.cells ∧ slots ≤ room_1.slots := ⟨Nat.le_trans (Nat.le_add_right _ _) hcs.1, Nat.le_trans (Nat.le_add_right _ _) hcs.2⟩
  refine zn_aload_n hC.1 dL_law_1036 1 rfl rfl ?_
  refine zl_arg hC (n := n) 1 (by omega) 0 4 rfl rfl rfl dL_law_1037 dL_law_1038 dL_law_1040 dL_law_1041 dL_law_1042 ?_
  refine zn_aload_n hC.1 dL_law_1043 3 rfl rfl ?_
  refine zl_H hC (G := fun z o1 σ1 => (∃ v : Int, z = 0 ∧ o1 = (Int32.ofInt v).toInt64 ∧ cE (μ + 1) (fun K => fX12_shiftY K τ (sc xs (6 * n + 1))) v σ1) ∨ ∃ k : Int, z = k ∧ (k = 1 ∨ k = 2) ∧ fX12_shiftY (fun _ τ1 => τ1 0 4 = k ∧ TW σ1 τ1 (μ + 1)) τ (sc xs (6 * n + 1))) [vI (sc xs (6 * n + 1)), .ref od] (fun sz => cH_shiftY l hst D dA aL aG aI aK aV ad od sz σ o (cmd_shiftY hT (sc_rg xs (6 * n + 1))) (fun v σ1 hk => Or.inl ⟨v, rfl, rfl, hk⟩) (fun E σ1 hk => hk.imp (fun hk => ⟨hk.1, Or.inr ⟨1, rfl, Or.inl rfl, hk.2⟩⟩) (fun hk => ⟨hk.1, Or.inr ⟨2, rfl, Or.inr rfl, hk.2⟩⟩))) (vx_cwSW 3 hC.1.1.2.2.2.2 (uSW uId u1195 u1196 u104 uh_shiftY) rfl rfl rfl (by decide +kernel) ⟨Nat.le_of_ble_eq_true rfl, Nat.le_of_ble_eq_true rfl⟩) rfl rfl (Nat.le_of_ble_eq_true rfl) ⟨Nat.le_trans (Nat.add_le_add_left (by decide) cells) hcs.1, Nat.le_trans (Nat.add_le_add_left (by decide) slots) hcs.2⟩ dL_law_1044 (fun z o1 σ1 hk => ?_)
  have hcs1 : cells + 2 ≤ room_1.cells ∧ slots + 12 ≤ room_1.slots := ⟨Nat.le_trans (Nat.add_le_add_left (by decide) cells) hcs.1, Nat.le_trans (Nat.add_le_add_left (by decide) slots) hcs.2⟩
  refine zn_istore hC.1 ((5, vI z) :: zLV b ad bd od n) dL_law_1047 (by decide) rfl ?_
  refine zn_aload_n hC.1 dL_law_1049 3 rfl rfl ?_
  refine zl_arg hC (n := n) 1 (by omega) 1 5 rfl rfl rfl dL_law_1050 dL_law_1051 dL_law_1053 dL_law_1054 dL_law_1055 ?_
  rcases hk with ⟨v, rfl, rfl, hk⟩ | ⟨k, rfl, hk1, hk⟩
  · refine zl_M hC [vI (sc xs (6 * n + 1))] (fun hinj sz => mX12_shiftY l hinj sz hk) (cwV 1 hC.1.1.2.2.2.2 (uV uId u1932 u1933 u1934 u118 u1935) rfl rfl rfl (by decide +kernel) ⟨Nat.le_of_ble_eq_true rfl, Nat.le_of_ble_eq_true rfl⟩) rfl rfl (Nat.le_of_ble_eq_true rfl) hcs1 dL_law_1056 (fun w τ1 hk2 => ?_)
    obtain ⟨h4, rfl, hk2⟩ := hk2
    refine zl_tailI hC dL_law_1059 dL_law_1061 dL_law_1062 dL_law_1065 dL_law_1067 dL_law_1072 dL_law_1074 dL_law_1077 dL_law_1078 dL_law_1079 dL_law_1080 dL_law_1082 dL_law_1083 dL_law_1084 dL_law_1089 (by decide) hcs1 h4 (Or.inl ⟨rfl, rfl⟩) ?_
    exact zn_widen (Nat.add_le_add_left (by decide) cells) (Nat.add_le_add_left (by decide) slots) (g _ σ1 τ1 hk2)
  · refine zl_M hC [vI (sc xs (6 * n + 1))] (fun hinj sz => mX12_shiftY l hinj sz hk) (cwV 1 hC.1.1.2.2.2.2 (uV uId u1932 u1933 u1934 u118 u1935) rfl rfl rfl (by decide +kernel) ⟨Nat.le_of_ble_eq_true rfl, Nat.le_of_ble_eq_true rfl⟩) rfl rfl (Nat.le_of_ble_eq_true rfl) hcs1 dL_law_1056 (fun w τ1 hk2 => ?_)
    obtain ⟨h4, hk2⟩ := hk2
    refine zl_tailI hC dL_law_1059 dL_law_1061 dL_law_1062 dL_law_1065 dL_law_1067 dL_law_1072 dL_law_1074 dL_law_1077 dL_law_1078 dL_law_1079 dL_law_1080 dL_law_1082 dL_law_1083 dL_law_1084 dL_law_1089 (by decide) hcs1 h4 (Or.inr hk1) ?_
    exact zn_widen (Nat.add_le_add_left (by decide) cells) (Nat.add_le_add_left (by decide) slots) (g _ σ1 τ1 hk2)
theorem lb_21 (hC : zLC p m c s args meth D dA (zXX aL aG aI aK aV) b L xs) {n : Nat} {μ : Int} (hst : l.stackTraces = false) (hT : TW σ τ μ) (hm : μ < 99999) (hn : 6 * n + 5 < L) (hcs : cells + 3 ≤ room_1.cells ∧ slots + 18 ≤ room_1.slots) (g : ∀ (o1 : Int64) (σ1 τ1 : zSt), TW σ1 τ1 (μ + 1) → zL p l e room_1 s m args below meth c (cells + 3) (slots + 18) Q 7 D (fun q => s.heap.size ≤ q) (3543) (zLV b ad bd od n) ([]) (zLW dA ad bd od o1 σ1 τ1)) : zL p l e room_1 s m args below meth c (cells) (slots) Q 7 D (fun q => s.heap.size ≤ q) (1092) (zLV b ad bd od n) ([]) (zLW dA ad bd od o σ τ) := by
  have hcs0 : cells ≤ room_1.cells ∧ slots ≤ room_1.slots := ⟨Nat.le_trans (Nat.le_add_right _ _) hcs.1, Nat.le_trans (Nat.le_add_right _ _) hcs.2⟩
  refine zn_aload_n hC.1 dL_law_1092 1 rfl rfl ?_
  refine zl_arg hC (n := n) 1 (by omega) 0 4 rfl rfl rfl dL_law_1093 dL_law_1094 dL_law_1096 dL_law_1097 dL_law_1098 ?_
  refine zn_aload_n hC.1 dL_law_1099 3 rfl rfl ?_
  refine zl_H hC (G := fun z o1 σ1 => (∃ v : Int, z = 0 ∧ o1 = (Int32.ofInt v).toInt64 ∧ cE (μ + 1) (fun K => fX12_shiftError K τ (sc xs (6 * n + 1))) v σ1) ∨ ∃ k : Int, z = k ∧ (k = 1 ∨ k = 2) ∧ fX12_shiftError (fun _ τ1 => τ1 0 4 = k ∧ TW σ1 τ1 (μ + 1)) τ (sc xs (6 * n + 1))) [vI (sc xs (6 * n + 1)), .ref od] (fun sz => cH_shiftError l hst D dA aL aG aI aK aV ad od sz σ o (cmd_shiftError hT (sc_rg xs (6 * n + 1))) (fun v σ1 hk => Or.inl ⟨v, rfl, rfl, hk⟩) (fun E σ1 hk => ⟨hk.1, Or.inr ⟨1, rfl, Or.inl rfl, hk.2⟩⟩)) (vx_cwSW 3 hC.1.1.2.2.2.2 (uSW uId u1203 u1204 u104 uh_shiftError) rfl rfl rfl (by decide +kernel) ⟨Nat.le_of_ble_eq_true rfl, Nat.le_of_ble_eq_true rfl⟩) rfl rfl (Nat.le_of_ble_eq_true rfl) ⟨Nat.le_trans (Nat.add_le_add_left (by decide) cells) hcs.1, Nat.le_trans (Nat.add_le_add_left (by decide) slots) hcs.2⟩ dL_law_1100 (fun z o1 σ1 hk => ?_)
  have hcs1 : cells + 1 ≤ room_1.cells ∧ slots + 6 ≤ room_1.slots := ⟨Nat.le_trans (Nat.add_le_add_left (by decide) cells) hcs.1, Nat.le_trans (Nat.add_le_add_left (by decide) slots) hcs.2⟩
  refine zn_istore hC.1 ((5, vI z) :: zLV b ad bd od n) dL_law_1103 (by decide) rfl ?_
  refine zn_aload_n hC.1 dL_law_1105 3 rfl rfl ?_
  refine zl_arg hC (n := n) 1 (by omega) 1 5 rfl rfl rfl dL_law_1106 dL_law_1107 dL_law_1109 dL_law_1110 dL_law_1111 ?_
  rcases hk with ⟨v, rfl, rfl, hk⟩ | ⟨k, rfl, hk1, hk⟩
  · refine zl_M hC [vI (sc xs (6 * n + 1))] (fun hinj sz => mX12_shiftError l hinj sz hk) (cwV 1 hC.1.1.2.2.2.2 (uV uId u1936 u1937 u1938 u118 u1939) rfl rfl rfl (by decide +kernel) ⟨Nat.le_of_ble_eq_true rfl, Nat.le_of_ble_eq_true rfl⟩) rfl rfl (Nat.le_of_ble_eq_true rfl) hcs1 dL_law_1112 (fun w τ1 hk2 => ?_)
    obtain ⟨h4, rfl, hk2⟩ := hk2
    refine zl_tailI hC dL_law_1115 dL_law_1117 dL_law_1118 dL_law_1121 dL_law_1123 dL_law_1128 dL_law_1130 dL_law_1133 dL_law_1134 dL_law_1135 dL_law_1136 dL_law_1138 dL_law_1139 dL_law_1140 dL_law_1145 (by decide) hcs1 h4 (Or.inl ⟨rfl, rfl⟩) ?_
    exact zn_widen (Nat.add_le_add_left (by decide) cells) (Nat.add_le_add_left (by decide) slots) (g _ σ1 τ1 hk2)
  · refine zl_M hC [vI (sc xs (6 * n + 1))] (fun hinj sz => mX12_shiftError l hinj sz hk) (cwV 1 hC.1.1.2.2.2.2 (uV uId u1936 u1937 u1938 u118 u1939) rfl rfl rfl (by decide +kernel) ⟨Nat.le_of_ble_eq_true rfl, Nat.le_of_ble_eq_true rfl⟩) rfl rfl (Nat.le_of_ble_eq_true rfl) hcs1 dL_law_1112 (fun w τ1 hk2 => ?_)
    obtain ⟨h4, hk2⟩ := hk2
    refine zl_tailI hC dL_law_1115 dL_law_1117 dL_law_1118 dL_law_1121 dL_law_1123 dL_law_1128 dL_law_1130 dL_law_1133 dL_law_1134 dL_law_1135 dL_law_1136 dL_law_1138 dL_law_1139 dL_law_1140 dL_law_1145 (by decide) hcs1 h4 (Or.inr hk1) ?_
    exact zn_widen (Nat.add_le_add_left (by decide) cells) (Nat.add_le_add_left (by decide) slots) (g _ σ1 τ1 hk2)
theorem lb_22 (hC : zLC p m c s args meth D dA (zXX aL aG aI aK aV) b L xs) {n : Nat} {μ : Int} (hst : l.stackTraces = false) (hT : TW σ τ μ) (hm : μ < 99999) (hn : 6 * n + 5 < L) (hcs : cells + 3 ≤ room_1.cells ∧ slots + 18 ≤ room_1.slots) (g : ∀ (o1 : Int64) (σ1 τ1 : zSt), TW σ1 τ1 (μ + 1) → zL p l e room_1 s m args below meth c (cells + 3) (slots + 18) Q 7 D (fun q => s.heap.size ≤ q) (3543) (zLV b ad bd od n) ([]) (zLW dA ad bd od o1 σ1 τ1)) : zL p l e room_1 s m args below meth c (cells) (slots) Q 7 D (fun q => s.heap.size ≤ q) (1148) (zLV b ad bd od n) ([]) (zLW dA ad bd od o σ τ) := by
  have hcs0 : cells ≤ room_1.cells ∧ slots ≤ room_1.slots := ⟨Nat.le_trans (Nat.le_add_right _ _) hcs.1, Nat.le_trans (Nat.le_add_right _ _) hcs.2⟩
  refine zn_aload_n hC.1 dL_law_1148 1 rfl rfl ?_
  refine zl_arg hC (n := n) 1 (by omega) 0 4 rfl rfl rfl dL_law_1149 dL_law_1150 dL_law_1152 dL_law_1153 dL_law_1154 ?_
  refine zl_arg hC (n := n) 2 (by omega) 0 4 rfl rfl rfl dL_law_1155 dL_law_1156 dL_law_1158 dL_law_1159 dL_law_1160 ?_
  refine zl_arg hC (n := n) 3 (by omega) 0 4 rfl rfl rfl dL_law_1161 dL_law_1162 dL_law_1164 dL_law_1165 dL_law_1166 ?_
  refine zl_arg hC (n := n) 4 (by omega) 0 4 rfl rfl rfl dL_law_1167 dL_law_1168 dL_law_1170 dL_law_1171 dL_law_1172 ?_
  refine zn_aload_n hC.1 dL_law_1173 3 rfl rfl ?_
  refine zl_H hC (G := fun z o1 σ1 => (∃ v : Int, z = 0 ∧ o1 = (Int32.ofInt v).toInt64 ∧ cE (μ + 1) (fun K => fX12_match K τ (sc xs (6 * n + 1)) (sc xs (6 * n + 2)) (sc xs (6 * n + 3)) (sc xs (6 * n + 4))) v σ1) ∨ ∃ k : Int, z = k ∧ (k = 1 ∨ k = 2) ∧ fX12_match (fun _ τ1 => τ1 0 4 = k ∧ TW σ1 τ1 (μ + 1)) τ (sc xs (6 * n + 1)) (sc xs (6 * n + 2)) (sc xs (6 * n + 3)) (sc xs (6 * n + 4))) [vI (sc xs (6 * n + 1)), vI (sc xs (6 * n + 2)), vI (sc xs (6 * n + 3)), vI (sc xs (6 * n + 4)), .ref od] (fun sz => cH_match l hst D dA aL aG aI aK aV ad od sz σ o (cmd_match hT (sc_rg xs (6 * n + 1)) (sc_rg xs (6 * n + 2)) (sc_rg xs (6 * n + 3)) (sc_rg xs (6 * n + 4))) (fun v σ1 hk => Or.inl ⟨v, rfl, rfl, hk⟩) (fun E σ1 hk => ⟨hk.1, Or.inr ⟨1, rfl, Or.inl rfl, hk.2⟩⟩)) (vx_cwSW 6 hC.1.1.2.2.2.2 (uSW uId u1214 u1215 u104 uh_match) rfl rfl rfl (by decide +kernel) ⟨Nat.le_of_ble_eq_true rfl, Nat.le_of_ble_eq_true rfl⟩) rfl rfl (Nat.le_of_ble_eq_true rfl) ⟨Nat.le_trans (Nat.add_le_add_left (by decide) cells) hcs.1, Nat.le_trans (Nat.add_le_add_left (by decide) slots) hcs.2⟩ dL_law_1174 (fun z o1 σ1 hk => ?_)
  have hcs1 : cells + 3 ≤ room_1.cells ∧ slots + 18 ≤ room_1.slots := ⟨Nat.le_trans (Nat.add_le_add_left (by decide) cells) hcs.1, Nat.le_trans (Nat.add_le_add_left (by decide) slots) hcs.2⟩
  refine zn_istore hC.1 ((5, vI z) :: zLV b ad bd od n) dL_law_1177 (by decide) rfl ?_
  refine zn_aload_n hC.1 dL_law_1179 3 rfl rfl ?_
  refine zl_arg hC (n := n) 1 (by omega) 1 5 rfl rfl rfl dL_law_1180 dL_law_1181 dL_law_1183 dL_law_1184 dL_law_1185 ?_
  refine zl_arg hC (n := n) 2 (by omega) 1 5 rfl rfl rfl dL_law_1186 dL_law_1187 dL_law_1189 dL_law_1190 dL_law_1191 ?_
  refine zl_arg hC (n := n) 3 (by omega) 1 5 rfl rfl rfl dL_law_1192 dL_law_1193 dL_law_1195 dL_law_1196 dL_law_1197 ?_
  refine zl_arg hC (n := n) 4 (by omega) 1 5 rfl rfl rfl dL_law_1198 dL_law_1199 dL_law_1201 dL_law_1202 dL_law_1203 ?_
  rcases hk with ⟨v, rfl, rfl, hk⟩ | ⟨k, rfl, hk1, hk⟩
  · refine zl_M hC [vI (sc xs (6 * n + 1)), vI (sc xs (6 * n + 2)), vI (sc xs (6 * n + 3)), vI (sc xs (6 * n + 4))] (fun hinj sz => mX12_match l hinj sz hk) (cwV 4 hC.1.1.2.2.2.2 (uV uId u1940 u1941 u1942 u118 u1943) rfl rfl rfl (by decide +kernel) ⟨Nat.le_of_ble_eq_true rfl, Nat.le_of_ble_eq_true rfl⟩) rfl rfl (Nat.le_of_ble_eq_true rfl) hcs1 dL_law_1204 (fun w τ1 hk2 => ?_)
    obtain ⟨h4, rfl, hk2⟩ := hk2
    refine zl_tailI hC dL_law_1207 dL_law_1209 dL_law_1210 dL_law_1213 dL_law_1215 dL_law_1220 dL_law_1222 dL_law_1225 dL_law_1226 dL_law_1227 dL_law_1228 dL_law_1230 dL_law_1231 dL_law_1232 dL_law_1237 (by decide) hcs1 h4 (Or.inl ⟨rfl, rfl⟩) ?_
    exact zn_widen (Nat.add_le_add_left (by decide) cells) (Nat.add_le_add_left (by decide) slots) (g _ σ1 τ1 hk2)
  · refine zl_M hC [vI (sc xs (6 * n + 1)), vI (sc xs (6 * n + 2)), vI (sc xs (6 * n + 3)), vI (sc xs (6 * n + 4))] (fun hinj sz => mX12_match l hinj sz hk) (cwV 4 hC.1.1.2.2.2.2 (uV uId u1940 u1941 u1942 u118 u1943) rfl rfl rfl (by decide +kernel) ⟨Nat.le_of_ble_eq_true rfl, Nat.le_of_ble_eq_true rfl⟩) rfl rfl (Nat.le_of_ble_eq_true rfl) hcs1 dL_law_1204 (fun w τ1 hk2 => ?_)
    obtain ⟨h4, hk2⟩ := hk2
    refine zl_tailI hC dL_law_1207 dL_law_1209 dL_law_1210 dL_law_1213 dL_law_1215 dL_law_1220 dL_law_1222 dL_law_1225 dL_law_1226 dL_law_1227 dL_law_1228 dL_law_1230 dL_law_1231 dL_law_1232 dL_law_1237 (by decide) hcs1 h4 (Or.inr hk1) ?_
    exact zn_widen (Nat.add_le_add_left (by decide) cells) (Nat.add_le_add_left (by decide) slots) (g _ σ1 τ1 hk2)
theorem lb_23 (hC : zLC p m c s args meth D dA (zXX aL aG aI aK aV) b L xs) {n : Nat} {μ : Int} (hst : l.stackTraces = false) (hT : TW σ τ μ) (hm : μ < 99999) (hn : 6 * n + 5 < L) (hcs : cells + 3 ≤ room_1.cells ∧ slots + 18 ≤ room_1.slots) (g : ∀ (o1 : Int64) (σ1 τ1 : zSt), TW σ1 τ1 (μ + 1) → zL p l e room_1 s m args below meth c (cells + 3) (slots + 18) Q 7 D (fun q => s.heap.size ≤ q) (3543) (zLV b ad bd od n) ([]) (zLW dA ad bd od o1 σ1 τ1)) : zL p l e room_1 s m args below meth c (cells) (slots) Q 7 D (fun q => s.heap.size ≤ q) (1240) (zLV b ad bd od n) ([]) (zLW dA ad bd od o σ τ) := by
  have hcs0 : cells ≤ room_1.cells ∧ slots ≤ room_1.slots := ⟨Nat.le_trans (Nat.le_add_right _ _) hcs.1, Nat.le_trans (Nat.le_add_right _ _) hcs.2⟩
  refine zn_aload_n hC.1 dL_law_1240 1 rfl rfl ?_
  refine zl_arg hC (n := n) 1 (by omega) 0 4 rfl rfl rfl dL_law_1241 dL_law_1242 dL_law_1244 dL_law_1245 dL_law_1246 ?_
  refine zl_arg hC (n := n) 2 (by omega) 0 4 rfl rfl rfl dL_law_1247 dL_law_1248 dL_law_1250 dL_law_1251 dL_law_1252 ?_
  refine zl_arg hC (n := n) 3 (by omega) 0 4 rfl rfl rfl dL_law_1253 dL_law_1254 dL_law_1256 dL_law_1257 dL_law_1258 ?_
  refine zl_arg hC (n := n) 4 (by omega) 0 4 rfl rfl rfl dL_law_1259 dL_law_1260 dL_law_1262 dL_law_1263 dL_law_1264 ?_
  refine zn_aload_n hC.1 dL_law_1265 3 rfl rfl ?_
  refine zl_H hC (G := fun z o1 σ1 => (∃ v : Int, z = 0 ∧ o1 = (Int32.ofInt v).toInt64 ∧ cE (μ + 1) (fun K => fX12_matchError K τ (sc xs (6 * n + 1)) (sc xs (6 * n + 2)) (sc xs (6 * n + 3)) (sc xs (6 * n + 4))) v σ1) ∨ ∃ k : Int, z = k ∧ (k = 1 ∨ k = 2) ∧ fX12_matchError (fun _ τ1 => τ1 0 4 = k ∧ TW σ1 τ1 (μ + 1)) τ (sc xs (6 * n + 1)) (sc xs (6 * n + 2)) (sc xs (6 * n + 3)) (sc xs (6 * n + 4))) [vI (sc xs (6 * n + 1)), vI (sc xs (6 * n + 2)), vI (sc xs (6 * n + 3)), vI (sc xs (6 * n + 4)), .ref od] (fun sz => cH_matchError l hst D dA aL aG aI aK aV ad od sz σ o (cmd_matchError hT (sc_rg xs (6 * n + 1)) (sc_rg xs (6 * n + 2)) (sc_rg xs (6 * n + 3)) (sc_rg xs (6 * n + 4))) (fun v σ1 hk => Or.inl ⟨v, rfl, rfl, hk⟩) (fun E σ1 hk => ⟨hk.1, Or.inr ⟨1, rfl, Or.inl rfl, hk.2⟩⟩)) (vx_cwSW 6 hC.1.1.2.2.2.2 (uSW uId u1227 u1228 u104 uh_matchError) rfl rfl rfl (by decide +kernel) ⟨Nat.le_of_ble_eq_true rfl, Nat.le_of_ble_eq_true rfl⟩) rfl rfl (Nat.le_of_ble_eq_true rfl) ⟨Nat.le_trans (Nat.add_le_add_left (by decide) cells) hcs.1, Nat.le_trans (Nat.add_le_add_left (by decide) slots) hcs.2⟩ dL_law_1266 (fun z o1 σ1 hk => ?_)
  have hcs1 : cells + 3 ≤ room_1.cells ∧ slots + 18 ≤ room_1.slots := ⟨Nat.le_trans (Nat.add_le_add_left (by decide) cells) hcs.1, Nat.le_trans (Nat.add_le_add_left (by decide) slots) hcs.2⟩
  refine zn_istore hC.1 ((5, vI z) :: zLV b ad bd od n) dL_law_1269 (by decide) rfl ?_
  refine zn_aload_n hC.1 dL_law_1271 3 rfl rfl ?_
  refine zl_arg hC (n := n) 1 (by omega) 1 5 rfl rfl rfl dL_law_1272 dL_law_1273 dL_law_1275 dL_law_1276 dL_law_1277 ?_
  refine zl_arg hC (n := n) 2 (by omega) 1 5 rfl rfl rfl dL_law_1278 dL_law_1279 dL_law_1281 dL_law_1282 dL_law_1283 ?_
  refine zl_arg hC (n := n) 3 (by omega) 1 5 rfl rfl rfl dL_law_1284 dL_law_1285 dL_law_1287 dL_law_1288 dL_law_1289 ?_
  refine zl_arg hC (n := n) 4 (by omega) 1 5 rfl rfl rfl dL_law_1290 dL_law_1291 dL_law_1293 dL_law_1294 dL_law_1295 ?_
  rcases hk with ⟨v, rfl, rfl, hk⟩ | ⟨k, rfl, hk1, hk⟩
  · refine zl_M hC [vI (sc xs (6 * n + 1)), vI (sc xs (6 * n + 2)), vI (sc xs (6 * n + 3)), vI (sc xs (6 * n + 4))] (fun hinj sz => mX12_matchError l hinj sz hk) (cwV 4 hC.1.1.2.2.2.2 (uV uId u1956 u1957 u1958 u118 u1959) rfl rfl rfl (by decide +kernel) ⟨Nat.le_of_ble_eq_true rfl, Nat.le_of_ble_eq_true rfl⟩) rfl rfl (Nat.le_of_ble_eq_true rfl) hcs1 dL_law_1296 (fun w τ1 hk2 => ?_)
    obtain ⟨h4, rfl, hk2⟩ := hk2
    refine zl_tailI hC dL_law_1299 dL_law_1301 dL_law_1302 dL_law_1305 dL_law_1307 dL_law_1312 dL_law_1314 dL_law_1317 dL_law_1318 dL_law_1319 dL_law_1320 dL_law_1322 dL_law_1323 dL_law_1324 dL_law_1329 (by decide) hcs1 h4 (Or.inl ⟨rfl, rfl⟩) ?_
    exact zn_widen (Nat.add_le_add_left (by decide) cells) (Nat.add_le_add_left (by decide) slots) (g _ σ1 τ1 hk2)
  · refine zl_M hC [vI (sc xs (6 * n + 1)), vI (sc xs (6 * n + 2)), vI (sc xs (6 * n + 3)), vI (sc xs (6 * n + 4))] (fun hinj sz => mX12_matchError l hinj sz hk) (cwV 4 hC.1.1.2.2.2.2 (uV uId u1956 u1957 u1958 u118 u1959) rfl rfl rfl (by decide +kernel) ⟨Nat.le_of_ble_eq_true rfl, Nat.le_of_ble_eq_true rfl⟩) rfl rfl (Nat.le_of_ble_eq_true rfl) hcs1 dL_law_1296 (fun w τ1 hk2 => ?_)
    obtain ⟨h4, hk2⟩ := hk2
    refine zl_tailI hC dL_law_1299 dL_law_1301 dL_law_1302 dL_law_1305 dL_law_1307 dL_law_1312 dL_law_1314 dL_law_1317 dL_law_1318 dL_law_1319 dL_law_1320 dL_law_1322 dL_law_1323 dL_law_1324 dL_law_1329 (by decide) hcs1 h4 (Or.inr hk1) ?_
    exact zn_widen (Nat.add_le_add_left (by decide) cells) (Nat.add_le_add_left (by decide) slots) (g _ σ1 τ1 hk2)
theorem lb_24 (hC : zLC p m c s args meth D dA (zXX aL aG aI aK aV) b L xs) {n : Nat} {μ : Int} (hst : l.stackTraces = false) (hT : TW σ τ μ) (hm : μ < 99999) (hn : 6 * n + 5 < L) (hcs : cells + 3 ≤ room_1.cells ∧ slots + 18 ≤ room_1.slots) (g : ∀ (o1 : Int64) (σ1 τ1 : zSt), TW σ1 τ1 (μ + 1) → zL p l e room_1 s m args below meth c (cells + 3) (slots + 18) Q 7 D (fun q => s.heap.size ≤ q) (3543) (zLV b ad bd od n) ([]) (zLW dA ad bd od o1 σ1 τ1)) : zL p l e room_1 s m args below meth c (cells) (slots) Q 7 D (fun q => s.heap.size ≤ q) (1332) (zLV b ad bd od n) ([]) (zLW dA ad bd od o σ τ) := by
  have hcs0 : cells ≤ room_1.cells ∧ slots ≤ room_1.slots := ⟨Nat.le_trans (Nat.le_add_right _ _) hcs.1, Nat.le_trans (Nat.le_add_right _ _) hcs.2⟩
  refine zn_aload_n hC.1 dL_law_1332 1 rfl rfl ?_
  refine zl_arg hC (n := n) 1 (by omega) 0 4 rfl rfl rfl dL_law_1333 dL_law_1334 dL_law_1336 dL_law_1337 dL_law_1338 ?_
  refine zl_arg hC (n := n) 2 (by omega) 0 4 rfl rfl rfl dL_law_1339 dL_law_1340 dL_law_1342 dL_law_1343 dL_law_1344 ?_
  refine zl_arg hC (n := n) 3 (by omega) 0 4 rfl rfl rfl dL_law_1345 dL_law_1346 dL_law_1348 dL_law_1349 dL_law_1350 ?_
  refine zl_arg hC (n := n) 4 (by omega) 0 4 rfl rfl rfl dL_law_1351 dL_law_1352 dL_law_1354 dL_law_1355 dL_law_1356 ?_
  refine zn_aload_n hC.1 dL_law_1357 3 rfl rfl ?_
  refine zl_H hC (G := fun z o1 σ1 => (∃ v : Int, z = 0 ∧ o1 = (Int32.ofInt v).toInt64 ∧ cE (μ + 1) (fun K => fX12_matchMargin K τ (sc xs (6 * n + 1)) (sc xs (6 * n + 2)) (sc xs (6 * n + 3)) (sc xs (6 * n + 4))) v σ1) ∨ ∃ k : Int, z = k ∧ (k = 1 ∨ k = 2) ∧ fX12_matchMargin (fun _ τ1 => τ1 0 4 = k ∧ TW σ1 τ1 (μ + 1)) τ (sc xs (6 * n + 1)) (sc xs (6 * n + 2)) (sc xs (6 * n + 3)) (sc xs (6 * n + 4))) [vI (sc xs (6 * n + 1)), vI (sc xs (6 * n + 2)), vI (sc xs (6 * n + 3)), vI (sc xs (6 * n + 4)), .ref od] (fun sz => cH_matchMargin l hst D dA aL aG aI aK aV ad od sz σ o (cmd_matchMargin hT (sc_rg xs (6 * n + 1)) (sc_rg xs (6 * n + 2)) (sc_rg xs (6 * n + 3)) (sc_rg xs (6 * n + 4))) (fun v σ1 hk => Or.inl ⟨v, rfl, rfl, hk⟩) (fun E σ1 hk => ⟨hk.1, Or.inr ⟨1, rfl, Or.inl rfl, hk.2⟩⟩)) (vx_cwSW 6 hC.1.1.2.2.2.2 (uSW uId u1234 u1235 u104 uh_matchMargin) rfl rfl rfl (by decide +kernel) ⟨Nat.le_of_ble_eq_true rfl, Nat.le_of_ble_eq_true rfl⟩) rfl rfl (Nat.le_of_ble_eq_true rfl) ⟨Nat.le_trans (Nat.add_le_add_left (by decide) cells) hcs.1, Nat.le_trans (Nat.add_le_add_left (by decide) slots) hcs.2⟩ dL_law_1358 (fun z o1 σ1 hk => ?_)
  have hcs1 : cells + 3 ≤ room_1.cells ∧ slots + 18 ≤ room_1.slots := ⟨Nat.le_trans (Nat.add_le_add_left (by decide) cells) hcs.1, Nat.le_trans (Nat.add_le_add_left (by decide) slots) hcs.2⟩
  refine zn_istore hC.1 ((5, vI z) :: zLV b ad bd od n) dL_law_1361 (by decide) rfl ?_
  refine zn_aload_n hC.1 dL_law_1363 3 rfl rfl ?_
  refine zl_arg hC (n := n) 1 (by omega) 1 5 rfl rfl rfl dL_law_1364 dL_law_1365 dL_law_1367 dL_law_1368 dL_law_1369 ?_
  refine zl_arg hC (n := n) 2 (by omega) 1 5 rfl rfl rfl dL_law_1370 dL_law_1371 dL_law_1373 dL_law_1374 dL_law_1375 ?_
  refine zl_arg hC (n := n) 3 (by omega) 1 5 rfl rfl rfl dL_law_1376 dL_law_1377 dL_law_1379 dL_law_1380 dL_law_1381 ?_
  refine zl_arg hC (n := n) 4 (by omega) 1 5 rfl rfl rfl dL_law_1382 dL_law_1383 dL_law_1385 dL_law_1386 dL_law_1387 ?_
  rcases hk with ⟨v, rfl, rfl, hk⟩ | ⟨k, rfl, hk1, hk⟩
  · refine zl_M hC [vI (sc xs (6 * n + 1)), vI (sc xs (6 * n + 2)), vI (sc xs (6 * n + 3)), vI (sc xs (6 * n + 4))] (fun hinj sz => mX12_matchMargin l hinj sz hk) (cwV 4 hC.1.1.2.2.2.2 (uV uId u1960 u1961 u1962 u118 u1963) rfl rfl rfl (by decide +kernel) ⟨Nat.le_of_ble_eq_true rfl, Nat.le_of_ble_eq_true rfl⟩) rfl rfl (Nat.le_of_ble_eq_true rfl) hcs1 dL_law_1388 (fun w τ1 hk2 => ?_)
    obtain ⟨h4, rfl, hk2⟩ := hk2
    refine zl_tailI hC dL_law_1391 dL_law_1393 dL_law_1394 dL_law_1397 dL_law_1399 dL_law_1404 dL_law_1406 dL_law_1409 dL_law_1410 dL_law_1411 dL_law_1412 dL_law_1414 dL_law_1415 dL_law_1416 dL_law_1421 (by decide) hcs1 h4 (Or.inl ⟨rfl, rfl⟩) ?_
    exact zn_widen (Nat.add_le_add_left (by decide) cells) (Nat.add_le_add_left (by decide) slots) (g _ σ1 τ1 hk2)
  · refine zl_M hC [vI (sc xs (6 * n + 1)), vI (sc xs (6 * n + 2)), vI (sc xs (6 * n + 3)), vI (sc xs (6 * n + 4))] (fun hinj sz => mX12_matchMargin l hinj sz hk) (cwV 4 hC.1.1.2.2.2.2 (uV uId u1960 u1961 u1962 u118 u1963) rfl rfl rfl (by decide +kernel) ⟨Nat.le_of_ble_eq_true rfl, Nat.le_of_ble_eq_true rfl⟩) rfl rfl (Nat.le_of_ble_eq_true rfl) hcs1 dL_law_1388 (fun w τ1 hk2 => ?_)
    obtain ⟨h4, hk2⟩ := hk2
    refine zl_tailI hC dL_law_1391 dL_law_1393 dL_law_1394 dL_law_1397 dL_law_1399 dL_law_1404 dL_law_1406 dL_law_1409 dL_law_1410 dL_law_1411 dL_law_1412 dL_law_1414 dL_law_1415 dL_law_1416 dL_law_1421 (by decide) hcs1 h4 (Or.inr hk1) ?_
    exact zn_widen (Nat.add_le_add_left (by decide) cells) (Nat.add_le_add_left (by decide) slots) (g _ σ1 τ1 hk2)
theorem lb_25 (hC : zLC p m c s args meth D dA (zXX aL aG aI aK aV) b L xs) {n : Nat} {μ : Int} (hst : l.stackTraces = false) (hT : TW σ τ μ) (hm : μ < 99999) (hn : 6 * n + 5 < L) (hcs : cells + 3 ≤ room_1.cells ∧ slots + 18 ≤ room_1.slots) (g : ∀ (o1 : Int64) (σ1 τ1 : zSt), TW σ1 τ1 (μ + 1) → zL p l e room_1 s m args below meth c (cells + 3) (slots + 18) Q 7 D (fun q => s.heap.size ≤ q) (3543) (zLV b ad bd od n) ([]) (zLW dA ad bd od o1 σ1 τ1)) : zL p l e room_1 s m args below meth c (cells) (slots) Q 7 D (fun q => s.heap.size ≤ q) (1424) (zLV b ad bd od n) ([]) (zLW dA ad bd od o σ τ) := by
  have hcs0 : cells ≤ room_1.cells ∧ slots ≤ room_1.slots := ⟨Nat.le_trans (Nat.le_add_right _ _) hcs.1, Nat.le_trans (Nat.le_add_right _ _) hcs.2⟩
  refine zn_aload_n hC.1 dL_law_1424 1 rfl rfl ?_
  refine zl_arg hC (n := n) 1 (by omega) 0 4 rfl rfl rfl dL_law_1425 dL_law_1426 dL_law_1428 dL_law_1429 dL_law_1430 ?_
  refine zl_arg hC (n := n) 2 (by omega) 0 4 rfl rfl rfl dL_law_1431 dL_law_1432 dL_law_1434 dL_law_1435 dL_law_1436 ?_
  refine zn_aload_n hC.1 dL_law_1437 3 rfl rfl ?_
  refine zl_H hC (G := fun z o1 σ1 => (∃ v : Int, z = 0 ∧ o1 = (Int32.ofInt v).toInt64 ∧ cE (μ + 1) (fun K => fX12_trackX K τ (sc xs (6 * n + 1)) (sc xs (6 * n + 2))) v σ1) ∨ ∃ k : Int, z = k ∧ (k = 1 ∨ k = 2) ∧ fX12_trackX (fun _ τ1 => τ1 0 4 = k ∧ TW σ1 τ1 (μ + 1)) τ (sc xs (6 * n + 1)) (sc xs (6 * n + 2))) [vI (sc xs (6 * n + 1)), vI (sc xs (6 * n + 2)), .ref od] (fun sz => cH_trackX l hst D dA aL aG aI aK aV ad od sz σ o (cmd_trackX hT (sc_rg xs (6 * n + 1)) (sc_rg xs (6 * n + 2))) (fun v σ1 hk => Or.inl ⟨v, rfl, rfl, hk⟩) (fun E σ1 hk => ⟨hk.1, Or.inr ⟨1, rfl, Or.inl rfl, hk.2⟩⟩)) (vx_cwSW 4 hC.1.1.2.2.2.2 (uSW uId u1241 u1242 u104 uh_trackX) rfl rfl rfl (by decide +kernel) ⟨Nat.le_of_ble_eq_true rfl, Nat.le_of_ble_eq_true rfl⟩) rfl rfl (Nat.le_of_ble_eq_true rfl) ⟨Nat.le_trans (Nat.add_le_add_left (by decide) cells) hcs.1, Nat.le_trans (Nat.add_le_add_left (by decide) slots) hcs.2⟩ dL_law_1438 (fun z o1 σ1 hk => ?_)
  have hcs1 : cells + 2 ≤ room_1.cells ∧ slots + 12 ≤ room_1.slots := ⟨Nat.le_trans (Nat.add_le_add_left (by decide) cells) hcs.1, Nat.le_trans (Nat.add_le_add_left (by decide) slots) hcs.2⟩
  refine zn_istore hC.1 ((5, vI z) :: zLV b ad bd od n) dL_law_1441 (by decide) rfl ?_
  refine zn_aload_n hC.1 dL_law_1443 3 rfl rfl ?_
  refine zl_arg hC (n := n) 1 (by omega) 1 5 rfl rfl rfl dL_law_1444 dL_law_1445 dL_law_1447 dL_law_1448 dL_law_1449 ?_
  refine zl_arg hC (n := n) 2 (by omega) 1 5 rfl rfl rfl dL_law_1450 dL_law_1451 dL_law_1453 dL_law_1454 dL_law_1455 ?_
  rcases hk with ⟨v, rfl, rfl, hk⟩ | ⟨k, rfl, hk1, hk⟩
  · refine zl_M hC [vI (sc xs (6 * n + 1)), vI (sc xs (6 * n + 2))] (fun hinj sz => mX12_trackX l hinj sz hk) (cwV 2 hC.1.1.2.2.2.2 (uV uId u1964 u1965 u1966 u118 u1967) rfl rfl rfl (by decide +kernel) ⟨Nat.le_of_ble_eq_true rfl, Nat.le_of_ble_eq_true rfl⟩) rfl rfl (Nat.le_of_ble_eq_true rfl) hcs1 dL_law_1456 (fun w τ1 hk2 => ?_)
    obtain ⟨h4, rfl, hk2⟩ := hk2
    refine zl_tailI hC dL_law_1459 dL_law_1461 dL_law_1462 dL_law_1465 dL_law_1467 dL_law_1472 dL_law_1474 dL_law_1477 dL_law_1478 dL_law_1479 dL_law_1480 dL_law_1482 dL_law_1483 dL_law_1484 dL_law_1489 (by decide) hcs1 h4 (Or.inl ⟨rfl, rfl⟩) ?_
    exact zn_widen (Nat.add_le_add_left (by decide) cells) (Nat.add_le_add_left (by decide) slots) (g _ σ1 τ1 hk2)
  · refine zl_M hC [vI (sc xs (6 * n + 1)), vI (sc xs (6 * n + 2))] (fun hinj sz => mX12_trackX l hinj sz hk) (cwV 2 hC.1.1.2.2.2.2 (uV uId u1964 u1965 u1966 u118 u1967) rfl rfl rfl (by decide +kernel) ⟨Nat.le_of_ble_eq_true rfl, Nat.le_of_ble_eq_true rfl⟩) rfl rfl (Nat.le_of_ble_eq_true rfl) hcs1 dL_law_1456 (fun w τ1 hk2 => ?_)
    obtain ⟨h4, hk2⟩ := hk2
    refine zl_tailI hC dL_law_1459 dL_law_1461 dL_law_1462 dL_law_1465 dL_law_1467 dL_law_1472 dL_law_1474 dL_law_1477 dL_law_1478 dL_law_1479 dL_law_1480 dL_law_1482 dL_law_1483 dL_law_1484 dL_law_1489 (by decide) hcs1 h4 (Or.inr hk1) ?_
    exact zn_widen (Nat.add_le_add_left (by decide) cells) (Nat.add_le_add_left (by decide) slots) (g _ σ1 τ1 hk2)
theorem lb_26 (hC : zLC p m c s args meth D dA (zXX aL aG aI aK aV) b L xs) {n : Nat} {μ : Int} (hst : l.stackTraces = false) (hT : TW σ τ μ) (hm : μ < 99999) (hn : 6 * n + 5 < L) (hcs : cells + 3 ≤ room_1.cells ∧ slots + 18 ≤ room_1.slots) (g : ∀ (o1 : Int64) (σ1 τ1 : zSt), TW σ1 τ1 (μ + 1) → zL p l e room_1 s m args below meth c (cells + 3) (slots + 18) Q 7 D (fun q => s.heap.size ≤ q) (3543) (zLV b ad bd od n) ([]) (zLW dA ad bd od o1 σ1 τ1)) : zL p l e room_1 s m args below meth c (cells) (slots) Q 7 D (fun q => s.heap.size ≤ q) (1492) (zLV b ad bd od n) ([]) (zLW dA ad bd od o σ τ) := by
  have hcs0 : cells ≤ room_1.cells ∧ slots ≤ room_1.slots := ⟨Nat.le_trans (Nat.le_add_right _ _) hcs.1, Nat.le_trans (Nat.le_add_right _ _) hcs.2⟩
  refine zn_aload_n hC.1 dL_law_1492 1 rfl rfl ?_
  refine zl_arg hC (n := n) 1 (by omega) 0 4 rfl rfl rfl dL_law_1493 dL_law_1494 dL_law_1496 dL_law_1497 dL_law_1498 ?_
  refine zl_arg hC (n := n) 2 (by omega) 0 4 rfl rfl rfl dL_law_1499 dL_law_1500 dL_law_1502 dL_law_1503 dL_law_1504 ?_
  refine zn_aload_n hC.1 dL_law_1505 3 rfl rfl ?_
  refine zl_H hC (G := fun z o1 σ1 => (∃ v : Int, z = 0 ∧ o1 = (Int32.ofInt v).toInt64 ∧ cE (μ + 1) (fun K => fX12_trackY K τ (sc xs (6 * n + 1)) (sc xs (6 * n + 2))) v σ1) ∨ ∃ k : Int, z = k ∧ (k = 1 ∨ k = 2) ∧ fX12_trackY (fun _ τ1 => τ1 0 4 = k ∧ TW σ1 τ1 (μ + 1)) τ (sc xs (6 * n + 1)) (sc xs (6 * n + 2))) [vI (sc xs (6 * n + 1)), vI (sc xs (6 * n + 2)), .ref od] (fun sz => cH_trackY l hst D dA aL aG aI aK aV ad od sz σ o (cmd_trackY hT (sc_rg xs (6 * n + 1)) (sc_rg xs (6 * n + 2))) (fun v σ1 hk => Or.inl ⟨v, rfl, rfl, hk⟩) (fun E σ1 hk => ⟨hk.1, Or.inr ⟨1, rfl, Or.inl rfl, hk.2⟩⟩)) (vx_cwSW 4 hC.1.1.2.2.2.2 (uSW uId u1261 u1262 u104 uh_trackY) rfl rfl rfl (by decide +kernel) ⟨Nat.le_of_ble_eq_true rfl, Nat.le_of_ble_eq_true rfl⟩) rfl rfl (Nat.le_of_ble_eq_true rfl) ⟨Nat.le_trans (Nat.add_le_add_left (by decide) cells) hcs.1, Nat.le_trans (Nat.add_le_add_left (by decide) slots) hcs.2⟩ dL_law_1506 (fun z o1 σ1 hk => ?_)
  have hcs1 : cells + 2 ≤ room_1.cells ∧ slots + 12 ≤ room_1.slots := ⟨Nat.le_trans (Nat.add_le_add_left (by decide) cells) hcs.1, Nat.le_trans (Nat.add_le_add_left (by decide) slots) hcs.2⟩
  refine zn_istore hC.1 ((5, vI z) :: zLV b ad bd od n) dL_law_1509 (by decide) rfl ?_
  refine zn_aload_n hC.1 dL_law_1511 3 rfl rfl ?_
  refine zl_arg hC (n := n) 1 (by omega) 1 5 rfl rfl rfl dL_law_1512 dL_law_1513 dL_law_1515 dL_law_1516 dL_law_1517 ?_
  refine zl_arg hC (n := n) 2 (by omega) 1 5 rfl rfl rfl dL_law_1518 dL_law_1519 dL_law_1521 dL_law_1522 dL_law_1523 ?_
  rcases hk with ⟨v, rfl, rfl, hk⟩ | ⟨k, rfl, hk1, hk⟩
  · refine zl_M hC [vI (sc xs (6 * n + 1)), vI (sc xs (6 * n + 2))] (fun hinj sz => mX12_trackY l hinj sz hk) (cwV 2 hC.1.1.2.2.2.2 (uV uId u1980 u1981 u1982 u118 u1983) rfl rfl rfl (by decide +kernel) ⟨Nat.le_of_ble_eq_true rfl, Nat.le_of_ble_eq_true rfl⟩) rfl rfl (Nat.le_of_ble_eq_true rfl) hcs1 dL_law_1524 (fun w τ1 hk2 => ?_)
    obtain ⟨h4, rfl, hk2⟩ := hk2
    refine zl_tailI hC dL_law_1527 dL_law_1529 dL_law_1530 dL_law_1533 dL_law_1535 dL_law_1540 dL_law_1542 dL_law_1545 dL_law_1546 dL_law_1547 dL_law_1548 dL_law_1550 dL_law_1551 dL_law_1552 dL_law_1557 (by decide) hcs1 h4 (Or.inl ⟨rfl, rfl⟩) ?_
    exact zn_widen (Nat.add_le_add_left (by decide) cells) (Nat.add_le_add_left (by decide) slots) (g _ σ1 τ1 hk2)
  · refine zl_M hC [vI (sc xs (6 * n + 1)), vI (sc xs (6 * n + 2))] (fun hinj sz => mX12_trackY l hinj sz hk) (cwV 2 hC.1.1.2.2.2.2 (uV uId u1980 u1981 u1982 u118 u1983) rfl rfl rfl (by decide +kernel) ⟨Nat.le_of_ble_eq_true rfl, Nat.le_of_ble_eq_true rfl⟩) rfl rfl (Nat.le_of_ble_eq_true rfl) hcs1 dL_law_1524 (fun w τ1 hk2 => ?_)
    obtain ⟨h4, hk2⟩ := hk2
    refine zl_tailI hC dL_law_1527 dL_law_1529 dL_law_1530 dL_law_1533 dL_law_1535 dL_law_1540 dL_law_1542 dL_law_1545 dL_law_1546 dL_law_1547 dL_law_1548 dL_law_1550 dL_law_1551 dL_law_1552 dL_law_1557 (by decide) hcs1 h4 (Or.inr hk1) ?_
    exact zn_widen (Nat.add_le_add_left (by decide) cells) (Nat.add_le_add_left (by decide) slots) (g _ σ1 τ1 hk2)
theorem lb_27 (hC : zLC p m c s args meth D dA (zXX aL aG aI aK aV) b L xs) {n : Nat} {μ : Int} (hst : l.stackTraces = false) (hT : TW σ τ μ) (hm : μ < 99999) (hn : 6 * n + 5 < L) (hcs : cells + 3 ≤ room_1.cells ∧ slots + 18 ≤ room_1.slots) (g : ∀ (o1 : Int64) (σ1 τ1 : zSt), TW σ1 τ1 (μ + 1) → zL p l e room_1 s m args below meth c (cells + 3) (slots + 18) Q 7 D (fun q => s.heap.size ≤ q) (3543) (zLV b ad bd od n) ([]) (zLW dA ad bd od o1 σ1 τ1)) : zL p l e room_1 s m args below meth c (cells) (slots) Q 7 D (fun q => s.heap.size ≤ q) (1560) (zLV b ad bd od n) ([]) (zLW dA ad bd od o σ τ) := by
  have hcs0 : cells ≤ room_1.cells ∧ slots ≤ room_1.slots := ⟨Nat.le_trans (Nat.le_add_right _ _) hcs.1, Nat.le_trans (Nat.le_add_right _ _) hcs.2⟩
  refine zn_aload_n hC.1 dL_law_1560 1 rfl rfl ?_
  refine zl_arg hC (n := n) 1 (by omega) 0 4 rfl rfl rfl dL_law_1561 dL_law_1562 dL_law_1564 dL_law_1565 dL_law_1566 ?_
  refine zn_aload_n hC.1 dL_law_1567 3 rfl rfl ?_
  refine zl_H hC (G := fun z o1 σ1 => (∃ v : Int, z = 0 ∧ o1 = (Int32.ofInt v).toInt64 ∧ cE (μ + 1) (fun K => fX12_lostCount K τ (sc xs (6 * n + 1))) v σ1) ∨ ∃ k : Int, z = k ∧ (k = 1 ∨ k = 2) ∧ fX12_lostCount (fun _ τ1 => τ1 0 4 = k ∧ TW σ1 τ1 (μ + 1)) τ (sc xs (6 * n + 1))) [vI (sc xs (6 * n + 1)), .ref od] (fun sz => cH_lostCount l hst D dA aL aG aI aK aV ad od sz σ o (cmd_lostCount hT (sc_rg xs (6 * n + 1))) (fun v σ1 hk => Or.inl ⟨v, rfl, rfl, hk⟩) (fun E σ1 hk => ⟨hk.1, Or.inr ⟨1, rfl, Or.inl rfl, hk.2⟩⟩)) (vx_cwSW 3 hC.1.1.2.2.2.2 (uSW uId u1272 u1273 u104 uh_lostCount) rfl rfl rfl (by decide +kernel) ⟨Nat.le_of_ble_eq_true rfl, Nat.le_of_ble_eq_true rfl⟩) rfl rfl (Nat.le_of_ble_eq_true rfl) ⟨Nat.le_trans (Nat.add_le_add_left (by decide) cells) hcs.1, Nat.le_trans (Nat.add_le_add_left (by decide) slots) hcs.2⟩ dL_law_1568 (fun z o1 σ1 hk => ?_)
  have hcs1 : cells + 1 ≤ room_1.cells ∧ slots + 6 ≤ room_1.slots := ⟨Nat.le_trans (Nat.add_le_add_left (by decide) cells) hcs.1, Nat.le_trans (Nat.add_le_add_left (by decide) slots) hcs.2⟩
  refine zn_istore hC.1 ((5, vI z) :: zLV b ad bd od n) dL_law_1571 (by decide) rfl ?_
  refine zn_aload_n hC.1 dL_law_1573 3 rfl rfl ?_
  refine zl_arg hC (n := n) 1 (by omega) 1 5 rfl rfl rfl dL_law_1574 dL_law_1575 dL_law_1577 dL_law_1578 dL_law_1579 ?_
  rcases hk with ⟨v, rfl, rfl, hk⟩ | ⟨k, rfl, hk1, hk⟩
  · refine zl_M hC [vI (sc xs (6 * n + 1))] (fun hinj sz => mX12_lostCount l hinj sz hk) (cwV 1 hC.1.1.2.2.2.2 (uV uId u1984 u1985 u1986 u118 u1987) rfl rfl rfl (by decide +kernel) ⟨Nat.le_of_ble_eq_true rfl, Nat.le_of_ble_eq_true rfl⟩) rfl rfl (Nat.le_of_ble_eq_true rfl) hcs1 dL_law_1580 (fun w τ1 hk2 => ?_)
    obtain ⟨h4, rfl, hk2⟩ := hk2
    refine zl_tailI hC dL_law_1583 dL_law_1585 dL_law_1586 dL_law_1589 dL_law_1591 dL_law_1596 dL_law_1598 dL_law_1601 dL_law_1602 dL_law_1603 dL_law_1604 dL_law_1606 dL_law_1607 dL_law_1608 dL_law_1613 (by decide) hcs1 h4 (Or.inl ⟨rfl, rfl⟩) ?_
    exact zn_widen (Nat.add_le_add_left (by decide) cells) (Nat.add_le_add_left (by decide) slots) (g _ σ1 τ1 hk2)
  · refine zl_M hC [vI (sc xs (6 * n + 1))] (fun hinj sz => mX12_lostCount l hinj sz hk) (cwV 1 hC.1.1.2.2.2.2 (uV uId u1984 u1985 u1986 u118 u1987) rfl rfl rfl (by decide +kernel) ⟨Nat.le_of_ble_eq_true rfl, Nat.le_of_ble_eq_true rfl⟩) rfl rfl (Nat.le_of_ble_eq_true rfl) hcs1 dL_law_1580 (fun w τ1 hk2 => ?_)
    obtain ⟨h4, hk2⟩ := hk2
    refine zl_tailI hC dL_law_1583 dL_law_1585 dL_law_1586 dL_law_1589 dL_law_1591 dL_law_1596 dL_law_1598 dL_law_1601 dL_law_1602 dL_law_1603 dL_law_1604 dL_law_1606 dL_law_1607 dL_law_1608 dL_law_1613 (by decide) hcs1 h4 (Or.inr hk1) ?_
    exact zn_widen (Nat.add_le_add_left (by decide) cells) (Nat.add_le_add_left (by decide) slots) (g _ σ1 τ1 hk2)
theorem lb_28 (hC : zLC p m c s args meth D dA (zXX aL aG aI aK aV) b L xs) {n : Nat} {μ : Int} (hst : l.stackTraces = false) (hT : TW σ τ μ) (hm : μ < 99999) (hn : 6 * n + 5 < L) (hcs : cells + 3 ≤ room_1.cells ∧ slots + 18 ≤ room_1.slots) (g : ∀ (o1 : Int64) (σ1 τ1 : zSt), TW σ1 τ1 (μ + 1) → zL p l e room_1 s m args below meth c (cells + 3) (slots + 18) Q 7 D (fun q => s.heap.size ≤ q) (3543) (zLV b ad bd od n) ([]) (zLW dA ad bd od o1 σ1 τ1)) : zL p l e room_1 s m args below meth c (cells) (slots) Q 7 D (fun q => s.heap.size ≤ q) (1616) (zLV b ad bd od n) ([]) (zLW dA ad bd od o σ τ) := by
  have hcs0 : cells ≤ room_1.cells ∧ slots ≤ room_1.slots := ⟨Nat.le_trans (Nat.le_add_right _ _) hcs.1, Nat.le_trans (Nat.le_add_right _ _) hcs.2⟩
  refine zn_aload_n hC.1 dL_law_1616 1 rfl rfl ?_
  refine zl_arg hC (n := n) 1 (by omega) 0 4 rfl rfl rfl dL_law_1617 dL_law_1618 dL_law_1620 dL_law_1621 dL_law_1622 ?_
  refine zl_arg hC (n := n) 2 (by omega) 0 4 rfl rfl rfl dL_law_1623 dL_law_1624 dL_law_1626 dL_law_1627 dL_law_1628 ?_
  refine zl_arg hC (n := n) 3 (by omega) 0 4 rfl rfl rfl dL_law_1629 dL_law_1630 dL_law_1632 dL_law_1633 dL_law_1634 ?_
  refine zn_aload_n hC.1 dL_law_1635 3 rfl rfl ?_
  refine zl_H hC (G := fun z o1 σ1 => (∃ v : Int, z = 0 ∧ o1 = (Int32.ofInt v).toInt64 ∧ cE (μ + 1) (fun K => fX12_loopError K τ (sc xs (6 * n + 1)) (sc xs (6 * n + 2)) (sc xs (6 * n + 3))) v σ1) ∨ ∃ k : Int, z = k ∧ (k = 1 ∨ k = 2) ∧ fX12_loopError (fun _ τ1 => τ1 0 4 = k ∧ TW σ1 τ1 (μ + 1)) τ (sc xs (6 * n + 1)) (sc xs (6 * n + 2)) (sc xs (6 * n + 3))) [vI (sc xs (6 * n + 1)), vI (sc xs (6 * n + 2)), vI (sc xs (6 * n + 3)), .ref od] (fun sz => cH_loopError l hst D dA aL aG aI aK aV ad od sz σ o (cmd_loopError hT (sc_rg xs (6 * n + 1)) (sc_rg xs (6 * n + 2)) (sc_rg xs (6 * n + 3))) (fun v σ1 hk => Or.inl ⟨v, rfl, rfl, hk⟩) (fun E σ1 hk => ⟨hk.1, Or.inr ⟨1, rfl, Or.inl rfl, hk.2⟩⟩)) (vx_cwSW 5 hC.1.1.2.2.2.2 (uSW uId u1279 u1280 u104 uh_loopError) rfl rfl rfl (by decide +kernel) ⟨Nat.le_of_ble_eq_true rfl, Nat.le_of_ble_eq_true rfl⟩) rfl rfl (Nat.le_of_ble_eq_true rfl) ⟨Nat.le_trans (Nat.add_le_add_left (by decide) cells) hcs.1, Nat.le_trans (Nat.add_le_add_left (by decide) slots) hcs.2⟩ dL_law_1636 (fun z o1 σ1 hk => ?_)
  have hcs1 : cells + 3 ≤ room_1.cells ∧ slots + 18 ≤ room_1.slots := ⟨Nat.le_trans (Nat.add_le_add_left (by decide) cells) hcs.1, Nat.le_trans (Nat.add_le_add_left (by decide) slots) hcs.2⟩
  refine zn_istore hC.1 ((5, vI z) :: zLV b ad bd od n) dL_law_1639 (by decide) rfl ?_
  refine zn_aload_n hC.1 dL_law_1641 3 rfl rfl ?_
  refine zl_arg hC (n := n) 1 (by omega) 1 5 rfl rfl rfl dL_law_1642 dL_law_1643 dL_law_1645 dL_law_1646 dL_law_1647 ?_
  refine zl_arg hC (n := n) 2 (by omega) 1 5 rfl rfl rfl dL_law_1648 dL_law_1649 dL_law_1651 dL_law_1652 dL_law_1653 ?_
  refine zl_arg hC (n := n) 3 (by omega) 1 5 rfl rfl rfl dL_law_1654 dL_law_1655 dL_law_1657 dL_law_1658 dL_law_1659 ?_
  rcases hk with ⟨v, rfl, rfl, hk⟩ | ⟨k, rfl, hk1, hk⟩
  · refine zl_M hC [vI (sc xs (6 * n + 1)), vI (sc xs (6 * n + 2)), vI (sc xs (6 * n + 3))] (fun hinj sz => mX12_loopError l hinj sz hk) (cwV 3 hC.1.1.2.2.2.2 (uV uId u1996 u1997 u1998 u118 u1999) rfl rfl rfl (by decide +kernel) ⟨Nat.le_of_ble_eq_true rfl, Nat.le_of_ble_eq_true rfl⟩) rfl rfl (Nat.le_of_ble_eq_true rfl) hcs1 dL_law_1660 (fun w τ1 hk2 => ?_)
    obtain ⟨h4, rfl, hk2⟩ := hk2
    refine zl_tailI hC dL_law_1663 dL_law_1665 dL_law_1666 dL_law_1669 dL_law_1671 dL_law_1676 dL_law_1678 dL_law_1681 dL_law_1682 dL_law_1683 dL_law_1684 dL_law_1686 dL_law_1687 dL_law_1688 dL_law_1693 (by decide) hcs1 h4 (Or.inl ⟨rfl, rfl⟩) ?_
    exact zn_widen (Nat.add_le_add_left (by decide) cells) (Nat.add_le_add_left (by decide) slots) (g _ σ1 τ1 hk2)
  · refine zl_M hC [vI (sc xs (6 * n + 1)), vI (sc xs (6 * n + 2)), vI (sc xs (6 * n + 3))] (fun hinj sz => mX12_loopError l hinj sz hk) (cwV 3 hC.1.1.2.2.2.2 (uV uId u1996 u1997 u1998 u118 u1999) rfl rfl rfl (by decide +kernel) ⟨Nat.le_of_ble_eq_true rfl, Nat.le_of_ble_eq_true rfl⟩) rfl rfl (Nat.le_of_ble_eq_true rfl) hcs1 dL_law_1660 (fun w τ1 hk2 => ?_)
    obtain ⟨h4, hk2⟩ := hk2
    refine zl_tailI hC dL_law_1663 dL_law_1665 dL_law_1666 dL_law_1669 dL_law_1671 dL_law_1676 dL_law_1678 dL_law_1681 dL_law_1682 dL_law_1683 dL_law_1684 dL_law_1686 dL_law_1687 dL_law_1688 dL_law_1693 (by decide) hcs1 h4 (Or.inr hk1) ?_
    exact zn_widen (Nat.add_le_add_left (by decide) cells) (Nat.add_le_add_left (by decide) slots) (g _ σ1 τ1 hk2)
theorem lb_29 (hC : zLC p m c s args meth D dA (zXX aL aG aI aK aV) b L xs) {n : Nat} {μ : Int} (hst : l.stackTraces = false) (hT : TW σ τ μ) (hm : μ < 99999) (hn : 6 * n + 5 < L) (hcs : cells + 3 ≤ room_1.cells ∧ slots + 18 ≤ room_1.slots) (g : ∀ (o1 : Int64) (σ1 τ1 : zSt), TW σ1 τ1 (μ + 1) → zL p l e room_1 s m args below meth c (cells + 3) (slots + 18) Q 7 D (fun q => s.heap.size ≤ q) (3543) (zLV b ad bd od n) ([]) (zLW dA ad bd od o1 σ1 τ1)) : zL p l e room_1 s m args below meth c (cells) (slots) Q 7 D (fun q => s.heap.size ≤ q) (1696) (zLV b ad bd od n) ([]) (zLW dA ad bd od o σ τ) := by
  have hcs0 : cells ≤ room_1.cells ∧ slots ≤ room_1.slots := ⟨Nat.le_trans (Nat.le_add_right _ _) hcs.1, Nat.le_trans (Nat.le_add_right _ _) hcs.2⟩
  refine zn_aload_n hC.1 dL_law_1696 1 rfl rfl ?_
  refine zl_arg hC (n := n) 1 (by omega) 0 4 rfl rfl rfl dL_law_1697 dL_law_1698 dL_law_1700 dL_law_1701 dL_law_1702 ?_
  refine zn_aload_n hC.1 dL_law_1703 3 rfl rfl ?_
  refine zl_H hC (G := fun z o1 σ1 => (∃ v : Int, z = 0 ∧ o1 = (Int32.ofInt v).toInt64 ∧ cE (μ + 1) (fun K => fX12_closedLoops K τ (sc xs (6 * n + 1))) v σ1) ∨ ∃ k : Int, z = k ∧ (k = 1 ∨ k = 2) ∧ fX12_closedLoops (fun _ τ1 => τ1 0 4 = k ∧ TW σ1 τ1 (μ + 1)) τ (sc xs (6 * n + 1))) [vI (sc xs (6 * n + 1)), .ref od] (fun sz => cH_closedLoops l hst D dA aL aG aI aK aV ad od sz σ o (cmd_closedLoops hT (sc_rg xs (6 * n + 1))) (fun v σ1 hk => Or.inl ⟨v, rfl, rfl, hk⟩) (fun E σ1 hk => ⟨hk.1, Or.inr ⟨1, rfl, Or.inl rfl, hk.2⟩⟩)) (vx_cwSW 3 hC.1.1.2.2.2.2 (uSW uId u1291 u1292 u104 uh_closedLoops) rfl rfl rfl (by decide +kernel) ⟨Nat.le_of_ble_eq_true rfl, Nat.le_of_ble_eq_true rfl⟩) rfl rfl (Nat.le_of_ble_eq_true rfl) ⟨Nat.le_trans (Nat.add_le_add_left (by decide) cells) hcs.1, Nat.le_trans (Nat.add_le_add_left (by decide) slots) hcs.2⟩ dL_law_1704 (fun z o1 σ1 hk => ?_)
  have hcs1 : cells + 1 ≤ room_1.cells ∧ slots + 6 ≤ room_1.slots := ⟨Nat.le_trans (Nat.add_le_add_left (by decide) cells) hcs.1, Nat.le_trans (Nat.add_le_add_left (by decide) slots) hcs.2⟩
  refine zn_istore hC.1 ((5, vI z) :: zLV b ad bd od n) dL_law_1707 (by decide) rfl ?_
  refine zn_aload_n hC.1 dL_law_1709 3 rfl rfl ?_
  refine zl_arg hC (n := n) 1 (by omega) 1 5 rfl rfl rfl dL_law_1710 dL_law_1711 dL_law_1713 dL_law_1714 dL_law_1715 ?_
  rcases hk with ⟨v, rfl, rfl, hk⟩ | ⟨k, rfl, hk1, hk⟩
  · refine zl_M hC [vI (sc xs (6 * n + 1))] (fun hinj sz => mX12_closedLoops l hinj sz hk) (cwV 1 hC.1.1.2.2.2.2 (uV uId u2004 u2005 u2006 u118 u2007) rfl rfl rfl (by decide +kernel) ⟨Nat.le_of_ble_eq_true rfl, Nat.le_of_ble_eq_true rfl⟩) rfl rfl (Nat.le_of_ble_eq_true rfl) hcs1 dL_law_1716 (fun w τ1 hk2 => ?_)
    obtain ⟨h4, rfl, hk2⟩ := hk2
    refine zl_tailI hC dL_law_1719 dL_law_1721 dL_law_1722 dL_law_1725 dL_law_1727 dL_law_1732 dL_law_1734 dL_law_1737 dL_law_1738 dL_law_1739 dL_law_1740 dL_law_1742 dL_law_1743 dL_law_1744 dL_law_1749 (by decide) hcs1 h4 (Or.inl ⟨rfl, rfl⟩) ?_
    exact zn_widen (Nat.add_le_add_left (by decide) cells) (Nat.add_le_add_left (by decide) slots) (g _ σ1 τ1 hk2)
  · refine zl_M hC [vI (sc xs (6 * n + 1))] (fun hinj sz => mX12_closedLoops l hinj sz hk) (cwV 1 hC.1.1.2.2.2.2 (uV uId u2004 u2005 u2006 u118 u2007) rfl rfl rfl (by decide +kernel) ⟨Nat.le_of_ble_eq_true rfl, Nat.le_of_ble_eq_true rfl⟩) rfl rfl (Nat.le_of_ble_eq_true rfl) hcs1 dL_law_1716 (fun w τ1 hk2 => ?_)
    obtain ⟨h4, hk2⟩ := hk2
    refine zl_tailI hC dL_law_1719 dL_law_1721 dL_law_1722 dL_law_1725 dL_law_1727 dL_law_1732 dL_law_1734 dL_law_1737 dL_law_1738 dL_law_1739 dL_law_1740 dL_law_1742 dL_law_1743 dL_law_1744 dL_law_1749 (by decide) hcs1 h4 (Or.inr hk1) ?_
    exact zn_widen (Nat.add_le_add_left (by decide) cells) (Nat.add_le_add_left (by decide) slots) (g _ σ1 τ1 hk2)
theorem lb_30 (hC : zLC p m c s args meth D dA (zXX aL aG aI aK aV) b L xs) {n : Nat} {μ : Int} (hst : l.stackTraces = false) (hT : TW σ τ μ) (hm : μ < 99999) (hn : 6 * n + 5 < L) (hcs : cells + 3 ≤ room_1.cells ∧ slots + 18 ≤ room_1.slots) (g : ∀ (o1 : Int64) (σ1 τ1 : zSt), TW σ1 τ1 (μ + 1) → zL p l e room_1 s m args below meth c (cells + 3) (slots + 18) Q 7 D (fun q => s.heap.size ≤ q) (3543) (zLV b ad bd od n) ([]) (zLW dA ad bd od o1 σ1 τ1)) : zL p l e room_1 s m args below meth c (cells) (slots) Q 7 D (fun q => s.heap.size ≤ q) (1752) (zLV b ad bd od n) ([]) (zLW dA ad bd od o σ τ) := by
  have hcs0 : cells ≤ room_1.cells ∧ slots ≤ room_1.slots := ⟨Nat.le_trans (Nat.le_add_right _ _) hcs.1, Nat.le_trans (Nat.le_add_right _ _) hcs.2⟩
  refine zn_aload_n hC.1 dL_law_1752 1 rfl rfl ?_
  refine zl_arg hC (n := n) 1 (by omega) 0 4 rfl rfl rfl dL_law_1753 dL_law_1754 dL_law_1756 dL_law_1757 dL_law_1758 ?_
  refine zn_aload_n hC.1 dL_law_1759 3 rfl rfl ?_
  refine zl_H hC (G := fun z o1 σ1 => (∃ v : Int, z = 0 ∧ o1 = (Int32.ofInt v).toInt64 ∧ cE (μ + 1) (fun K => fX12_leastTolerance K τ (sc xs (6 * n + 1))) v σ1) ∨ ∃ k : Int, z = k ∧ (k = 1 ∨ k = 2) ∧ fX12_leastTolerance (fun _ τ1 => τ1 0 4 = k ∧ TW σ1 τ1 (μ + 1)) τ (sc xs (6 * n + 1))) [vI (sc xs (6 * n + 1)), .ref od] (fun sz => cH_leastTolerance l hst D dA aL aG aI aK aV ad od sz σ o (cmd_leastTolerance hT (sc_rg xs (6 * n + 1))) (fun v σ1 hk => Or.inl ⟨v, rfl, rfl, hk⟩) (fun E σ1 hk => ⟨hk.1, Or.inr ⟨1, rfl, Or.inl rfl, hk.2⟩⟩)) (vx_cwSW 3 hC.1.1.2.2.2.2 (uSW uId u1298 u1299 u104 uh_leastTolerance) rfl rfl rfl (by decide +kernel) ⟨Nat.le_of_ble_eq_true rfl, Nat.le_of_ble_eq_true rfl⟩) rfl rfl (Nat.le_of_ble_eq_true rfl) ⟨Nat.le_trans (Nat.add_le_add_left (by decide) cells) hcs.1, Nat.le_trans (Nat.add_le_add_left (by decide) slots) hcs.2⟩ dL_law_1760 (fun z o1 σ1 hk => ?_)
  have hcs1 : cells + 1 ≤ room_1.cells ∧ slots + 6 ≤ room_1.slots := ⟨Nat.le_trans (Nat.add_le_add_left (by decide) cells) hcs.1, Nat.le_trans (Nat.add_le_add_left (by decide) slots) hcs.2⟩
  refine zn_istore hC.1 ((5, vI z) :: zLV b ad bd od n) dL_law_1763 (by decide) rfl ?_
  refine zn_aload_n hC.1 dL_law_1765 3 rfl rfl ?_
  refine zl_arg hC (n := n) 1 (by omega) 1 5 rfl rfl rfl dL_law_1766 dL_law_1767 dL_law_1769 dL_law_1770 dL_law_1771 ?_
  rcases hk with ⟨v, rfl, rfl, hk⟩ | ⟨k, rfl, hk1, hk⟩
  · refine zl_M hC [vI (sc xs (6 * n + 1))] (fun hinj sz => mX12_leastTolerance l hinj sz hk) (cwV 1 hC.1.1.2.2.2.2 (uV uId u2008 u2009 u2010 u118 u2011) rfl rfl rfl (by decide +kernel) ⟨Nat.le_of_ble_eq_true rfl, Nat.le_of_ble_eq_true rfl⟩) rfl rfl (Nat.le_of_ble_eq_true rfl) hcs1 dL_law_1772 (fun w τ1 hk2 => ?_)
    obtain ⟨h4, rfl, hk2⟩ := hk2
    refine zl_tailI hC dL_law_1775 dL_law_1777 dL_law_1778 dL_law_1781 dL_law_1783 dL_law_1788 dL_law_1790 dL_law_1793 dL_law_1794 dL_law_1795 dL_law_1796 dL_law_1798 dL_law_1799 dL_law_1800 dL_law_1805 (by decide) hcs1 h4 (Or.inl ⟨rfl, rfl⟩) ?_
    exact zn_widen (Nat.add_le_add_left (by decide) cells) (Nat.add_le_add_left (by decide) slots) (g _ σ1 τ1 hk2)
  · refine zl_M hC [vI (sc xs (6 * n + 1))] (fun hinj sz => mX12_leastTolerance l hinj sz hk) (cwV 1 hC.1.1.2.2.2.2 (uV uId u2008 u2009 u2010 u118 u2011) rfl rfl rfl (by decide +kernel) ⟨Nat.le_of_ble_eq_true rfl, Nat.le_of_ble_eq_true rfl⟩) rfl rfl (Nat.le_of_ble_eq_true rfl) hcs1 dL_law_1772 (fun w τ1 hk2 => ?_)
    obtain ⟨h4, hk2⟩ := hk2
    refine zl_tailI hC dL_law_1775 dL_law_1777 dL_law_1778 dL_law_1781 dL_law_1783 dL_law_1788 dL_law_1790 dL_law_1793 dL_law_1794 dL_law_1795 dL_law_1796 dL_law_1798 dL_law_1799 dL_law_1800 dL_law_1805 (by decide) hcs1 h4 (Or.inr hk1) ?_
    exact zn_widen (Nat.add_le_add_left (by decide) cells) (Nat.add_le_add_left (by decide) slots) (g _ σ1 τ1 hk2)
theorem lb_31 (hC : zLC p m c s args meth D dA (zXX aL aG aI aK aV) b L xs) {n : Nat} {μ : Int} (hst : l.stackTraces = false) (hT : TW σ τ μ) (hm : μ < 99999) (hn : 6 * n + 5 < L) (hcs : cells + 3 ≤ room_1.cells ∧ slots + 18 ≤ room_1.slots) (g : ∀ (o1 : Int64) (σ1 τ1 : zSt), TW σ1 τ1 (μ + 1) → zL p l e room_1 s m args below meth c (cells + 3) (slots + 18) Q 7 D (fun q => s.heap.size ≤ q) (3543) (zLV b ad bd od n) ([]) (zLW dA ad bd od o1 σ1 τ1)) : zL p l e room_1 s m args below meth c (cells) (slots) Q 7 D (fun q => s.heap.size ≤ q) (1808) (zLV b ad bd od n) ([]) (zLW dA ad bd od o σ τ) := by
  have hcs0 : cells ≤ room_1.cells ∧ slots ≤ room_1.slots := ⟨Nat.le_trans (Nat.le_add_right _ _) hcs.1, Nat.le_trans (Nat.le_add_right _ _) hcs.2⟩
  refine zn_aload_n hC.1 dL_law_1808 1 rfl rfl ?_
  refine zl_arg hC (n := n) 1 (by omega) 0 4 rfl rfl rfl dL_law_1809 dL_law_1810 dL_law_1812 dL_law_1813 dL_law_1814 ?_
  refine zn_aload_n hC.1 dL_law_1815 3 rfl rfl ?_
  refine zl_H hC (G := fun z o1 σ1 => (∃ v : Int, z = 0 ∧ o1 = (Int32.ofInt v).toInt64 ∧ cE (μ + 1) (fun K => fX12_segmentCount K τ (sc xs (6 * n + 1))) v σ1) ∨ ∃ k : Int, z = k ∧ (k = 1 ∨ k = 2) ∧ fX12_segmentCount (fun _ τ1 => τ1 0 4 = k ∧ TW σ1 τ1 (μ + 1)) τ (sc xs (6 * n + 1))) [vI (sc xs (6 * n + 1)), .ref od] (fun sz => cH_segmentCount l hst D dA aL aG aI aK aV ad od sz σ o (cmd_segmentCount hT (sc_rg xs (6 * n + 1))) (fun v σ1 hk => Or.inl ⟨v, rfl, rfl, hk⟩) (fun E σ1 hk => ⟨hk.1, Or.inr ⟨1, rfl, Or.inl rfl, hk.2⟩⟩)) (vx_cwSW 3 hC.1.1.2.2.2.2 (uSW uId u1306 u1307 u104 uh_segmentCount) rfl rfl rfl (by decide +kernel) ⟨Nat.le_of_ble_eq_true rfl, Nat.le_of_ble_eq_true rfl⟩) rfl rfl (Nat.le_of_ble_eq_true rfl) ⟨Nat.le_trans (Nat.add_le_add_left (by decide) cells) hcs.1, Nat.le_trans (Nat.add_le_add_left (by decide) slots) hcs.2⟩ dL_law_1816 (fun z o1 σ1 hk => ?_)
  have hcs1 : cells + 1 ≤ room_1.cells ∧ slots + 6 ≤ room_1.slots := ⟨Nat.le_trans (Nat.add_le_add_left (by decide) cells) hcs.1, Nat.le_trans (Nat.add_le_add_left (by decide) slots) hcs.2⟩
  refine zn_istore hC.1 ((5, vI z) :: zLV b ad bd od n) dL_law_1819 (by decide) rfl ?_
  refine zn_aload_n hC.1 dL_law_1821 3 rfl rfl ?_
  refine zl_arg hC (n := n) 1 (by omega) 1 5 rfl rfl rfl dL_law_1822 dL_law_1823 dL_law_1825 dL_law_1826 dL_law_1827 ?_
  rcases hk with ⟨v, rfl, rfl, hk⟩ | ⟨k, rfl, hk1, hk⟩
  · refine zl_M hC [vI (sc xs (6 * n + 1))] (fun hinj sz => mX12_segmentCount l hinj sz hk) (cwV 1 hC.1.1.2.2.2.2 (uV uId u2012 u2013 u2014 u118 u2015) rfl rfl rfl (by decide +kernel) ⟨Nat.le_of_ble_eq_true rfl, Nat.le_of_ble_eq_true rfl⟩) rfl rfl (Nat.le_of_ble_eq_true rfl) hcs1 dL_law_1828 (fun w τ1 hk2 => ?_)
    obtain ⟨h4, rfl, hk2⟩ := hk2
    refine zl_tailI hC dL_law_1831 dL_law_1833 dL_law_1834 dL_law_1837 dL_law_1839 dL_law_1844 dL_law_1846 dL_law_1849 dL_law_1850 dL_law_1851 dL_law_1852 dL_law_1854 dL_law_1855 dL_law_1856 dL_law_1861 (by decide) hcs1 h4 (Or.inl ⟨rfl, rfl⟩) ?_
    exact zn_widen (Nat.add_le_add_left (by decide) cells) (Nat.add_le_add_left (by decide) slots) (g _ σ1 τ1 hk2)
  · refine zl_M hC [vI (sc xs (6 * n + 1))] (fun hinj sz => mX12_segmentCount l hinj sz hk) (cwV 1 hC.1.1.2.2.2.2 (uV uId u2012 u2013 u2014 u118 u2015) rfl rfl rfl (by decide +kernel) ⟨Nat.le_of_ble_eq_true rfl, Nat.le_of_ble_eq_true rfl⟩) rfl rfl (Nat.le_of_ble_eq_true rfl) hcs1 dL_law_1828 (fun w τ1 hk2 => ?_)
    obtain ⟨h4, hk2⟩ := hk2
    refine zl_tailI hC dL_law_1831 dL_law_1833 dL_law_1834 dL_law_1837 dL_law_1839 dL_law_1844 dL_law_1846 dL_law_1849 dL_law_1850 dL_law_1851 dL_law_1852 dL_law_1854 dL_law_1855 dL_law_1856 dL_law_1861 (by decide) hcs1 h4 (Or.inr hk1) ?_
    exact zn_widen (Nat.add_le_add_left (by decide) cells) (Nat.add_le_add_left (by decide) slots) (g _ σ1 τ1 hk2)
end ZLD1
