/-! the law: its blocks 32 to 47 -/
section ZLD2
variable {p : Program} {l : Launch} {e : Env} {s : State} {m : MethodId} {args : Array Value} {below : List Frame} {meth : Method} {c : Code} {cells slots : Nat} {Q : State → Prop}
variable {D : va_G} {dA : Nat → ClassId} {aL aG aI : Nat} {aK aV : Nat → Nat} {b L : Nat} {xs : Nat → Int32} {ad bd : Nat → Nat} {od : Nat} {o : Int64} {σ τ : zSt}
variable {pc : Nat} {lv : List (Nat × Value)} {stk : List Value} {ws : va_W}
theorem lb_32 (hC : zLC p m c s args meth D dA (zXX aL aG aI aK aV) b L xs) {n : Nat} {μ : Int} (hst : l.stackTraces = false) (hT : TW σ τ μ) (hm : μ < 99999) (hn : 6 * n + 5 < L) (hcs : cells + 3 ≤ room_1.cells ∧ slots + 18 ≤ room_1.slots) (g : ∀ (o1 : Int64) (σ1 τ1 : zSt), TW σ1 τ1 (μ + 1) → zL p l e room_1 s m args below meth c (cells + 3) (slots + 18) Q 7 D (fun q => s.heap.size ≤ q) (3543) (zLV b ad bd od n) ([]) (zLW dA ad bd od o1 σ1 τ1)) : zL p l e room_1 s m args below meth c (cells) (slots) Q 7 D (fun q => s.heap.size ≤ q) (1864) (zLV b ad bd od n) ([]) (zLW dA ad bd od o σ τ) := by
  have hcs0 : cells ≤ room_1.cells ∧ slots ≤ room_1.slots := ⟨Nat.le_trans (Nat.le_add_right _ _) hcs.1, Nat.le_trans (Nat.le_add_right _ _) hcs.2⟩
  refine zn_aload_n hC.1 dL_law_1864 1 rfl rfl ?_
  refine zl_arg hC (n := n) 1 (by omega) 0 4 rfl rfl rfl dL_law_1865 dL_law_1866 dL_law_1868 dL_law_1869 dL_law_1870 ?_
  refine zl_arg hC (n := n) 2 (by omega) 0 4 rfl rfl rfl dL_law_1871 dL_law_1872 dL_law_1874 dL_law_1875 dL_law_1876 ?_
  refine zn_aload_n hC.1 dL_law_1877 3 rfl rfl ?_
  refine zl_H hC (G := fun z o1 σ1 => (∃ v : Int, z = 0 ∧ o1 = (Int32.ofInt v).toInt64 ∧ cE (μ + 1) (fun K => fX12_speed K τ (sc xs (6 * n + 1)) (sc xs (6 * n + 2))) v σ1) ∨ ∃ k : Int, z = k ∧ (k = 1 ∨ k = 2) ∧ fX12_speed (fun _ τ1 => τ1 0 4 = k ∧ TW σ1 τ1 (μ + 1)) τ (sc xs (6 * n + 1)) (sc xs (6 * n + 2))) [vI (sc xs (6 * n + 1)), vI (sc xs (6 * n + 2)), .ref od] (fun sz => cH_speed l hst D dA aL aG aI aK aV ad od sz σ o (cmd_speed hT (sc_rg xs (6 * n + 1)) (sc_rg xs (6 * n + 2))) (fun v σ1 hk => Or.inl ⟨v, rfl, rfl, hk⟩) (fun E σ1 hk => ⟨hk.1, Or.inr ⟨1, rfl, Or.inl rfl, hk.2⟩⟩)) (vx_cwSW 4 hC.1.1.2.2.2.2 (uSW uId u1313 u1314 u104 uh_speed) rfl rfl rfl (by decide +kernel) ⟨Nat.le_of_ble_eq_true rfl, Nat.le_of_ble_eq_true rfl⟩) rfl rfl (Nat.le_of_ble_eq_true rfl) ⟨Nat.le_trans (Nat.add_le_add_left (by decide) cells) hcs.1, Nat.le_trans (Nat.add_le_add_left (by decide) slots) hcs.2⟩ dL_law_1878 (fun z o1 σ1 hk => ?_)
  have hcs1 : cells + 2 ≤ room_1.cells ∧ slots + 12 ≤ room_1.slots := ⟨Nat.le_trans (Nat.add_le_add_left (by decide) cells) hcs.1, Nat.le_trans (Nat.add_le_add_left (by decide) slots) hcs.2⟩
  refine zn_istore hC.1 ((5, vI z) :: zLV b ad bd od n) dL_law_1881 (by decide) rfl ?_
  refine zn_aload_n hC.1 dL_law_1883 3 rfl rfl ?_
  refine zl_arg hC (n := n) 1 (by omega) 1 5 rfl rfl rfl dL_law_1884 dL_law_1885 dL_law_1887 dL_law_1888 dL_law_1889 ?_
  refine zl_arg hC (n := n) 2 (by omega) 1 5 rfl rfl rfl dL_law_1890 dL_law_1891 dL_law_1893 dL_law_1894 dL_law_1895 ?_
  rcases hk with ⟨v, rfl, rfl, hk⟩ | ⟨k, rfl, hk1, hk⟩
  · refine zl_M hC [vI (sc xs (6 * n + 1)), vI (sc xs (6 * n + 2))] (fun hinj sz => mX12_speed l hinj sz hk) (cwV 2 hC.1.1.2.2.2.2 (uV uId u2036 u2037 u2038 u118 u2039) rfl rfl rfl (by decide +kernel) ⟨Nat.le_of_ble_eq_true rfl, Nat.le_of_ble_eq_true rfl⟩) rfl rfl (Nat.le_of_ble_eq_true rfl) hcs1 dL_law_1896 (fun w τ1 hk2 => ?_)
    obtain ⟨h4, rfl, hk2⟩ := hk2
    refine zl_tailI hC dL_law_1899 dL_law_1901 dL_law_1902 dL_law_1905 dL_law_1907 dL_law_1912 dL_law_1914 dL_law_1917 dL_law_1918 dL_law_1919 dL_law_1920 dL_law_1922 dL_law_1923 dL_law_1924 dL_law_1929 (by decide) hcs1 h4 (Or.inl ⟨rfl, rfl⟩) ?_
    exact zn_widen (Nat.add_le_add_left (by decide) cells) (Nat.add_le_add_left (by decide) slots) (g _ σ1 τ1 hk2)
  · refine zl_M hC [vI (sc xs (6 * n + 1)), vI (sc xs (6 * n + 2))] (fun hinj sz => mX12_speed l hinj sz hk) (cwV 2 hC.1.1.2.2.2.2 (uV uId u2036 u2037 u2038 u118 u2039) rfl rfl rfl (by decide +kernel) ⟨Nat.le_of_ble_eq_true rfl, Nat.le_of_ble_eq_true rfl⟩) rfl rfl (Nat.le_of_ble_eq_true rfl) hcs1 dL_law_1896 (fun w τ1 hk2 => ?_)
    obtain ⟨h4, hk2⟩ := hk2
    refine zl_tailI hC dL_law_1899 dL_law_1901 dL_law_1902 dL_law_1905 dL_law_1907 dL_law_1912 dL_law_1914 dL_law_1917 dL_law_1918 dL_law_1919 dL_law_1920 dL_law_1922 dL_law_1923 dL_law_1924 dL_law_1929 (by decide) hcs1 h4 (Or.inr hk1) ?_
    exact zn_widen (Nat.add_le_add_left (by decide) cells) (Nat.add_le_add_left (by decide) slots) (g _ σ1 τ1 hk2)
theorem lb_33 (hC : zLC p m c s args meth D dA (zXX aL aG aI aK aV) b L xs) {n : Nat} {μ : Int} (hst : l.stackTraces = false) (hT : TW σ τ μ) (hm : μ < 99999) (hn : 6 * n + 5 < L) (hcs : cells + 3 ≤ room_1.cells ∧ slots + 18 ≤ room_1.slots) (g : ∀ (o1 : Int64) (σ1 τ1 : zSt), TW σ1 τ1 (μ + 1) → zL p l e room_1 s m args below meth c (cells + 3) (slots + 18) Q 7 D (fun q => s.heap.size ≤ q) (3543) (zLV b ad bd od n) ([]) (zLW dA ad bd od o1 σ1 τ1)) : zL p l e room_1 s m args below meth c (cells) (slots) Q 7 D (fun q => s.heap.size ≤ q) (1932) (zLV b ad bd od n) ([]) (zLW dA ad bd od o σ τ) := by
  have hcs0 : cells ≤ room_1.cells ∧ slots ≤ room_1.slots := ⟨Nat.le_trans (Nat.le_add_right _ _) hcs.1, Nat.le_trans (Nat.le_add_right _ _) hcs.2⟩
  refine zn_aload_n hC.1 dL_law_1932 1 rfl rfl ?_
  refine zl_arg hC (n := n) 1 (by omega) 0 4 rfl rfl rfl dL_law_1933 dL_law_1934 dL_law_1936 dL_law_1937 dL_law_1938 ?_
  refine zn_aload_n hC.1 dL_law_1939 3 rfl rfl ?_
  refine zl_H hC (G := fun z o1 σ1 => (∃ v : Int, z = 0 ∧ o1 = (Int32.ofInt v).toInt64 ∧ cE (μ + 1) (fun K => fX12_meanSpeed K τ (sc xs (6 * n + 1))) v σ1) ∨ ∃ k : Int, z = k ∧ (k = 1 ∨ k = 2) ∧ fX12_meanSpeed (fun _ τ1 => τ1 0 4 = k ∧ TW σ1 τ1 (μ + 1)) τ (sc xs (6 * n + 1))) [vI (sc xs (6 * n + 1)), .ref od] (fun sz => cH_meanSpeed l hst D dA aL aG aI aK aV ad od sz σ o (cmd_meanSpeed hT (sc_rg xs (6 * n + 1))) (fun v σ1 hk => Or.inl ⟨v, rfl, rfl, hk⟩) (fun E σ1 hk => ⟨hk.1, Or.inr ⟨1, rfl, Or.inl rfl, hk.2⟩⟩)) (vx_cwSW 3 hC.1.1.2.2.2.2 (uSW uId u1329 u1330 u104 uh_meanSpeed) rfl rfl rfl (by decide +kernel) ⟨Nat.le_of_ble_eq_true rfl, Nat.le_of_ble_eq_true rfl⟩) rfl rfl (Nat.le_of_ble_eq_true rfl) ⟨Nat.le_trans (Nat.add_le_add_left (by decide) cells) hcs.1, Nat.le_trans (Nat.add_le_add_left (by decide) slots) hcs.2⟩ dL_law_1940 (fun z o1 σ1 hk => ?_)
  have hcs1 : cells + 1 ≤ room_1.cells ∧ slots + 6 ≤ room_1.slots := ⟨Nat.le_trans (Nat.add_le_add_left (by decide) cells) hcs.1, Nat.le_trans (Nat.add_le_add_left (by decide) slots) hcs.2⟩
  refine zn_istore hC.1 ((5, vI z) :: zLV b ad bd od n) dL_law_1943 (by decide) rfl ?_
  refine zn_aload_n hC.1 dL_law_1945 3 rfl rfl ?_
  refine zl_arg hC (n := n) 1 (by omega) 1 5 rfl rfl rfl dL_law_1946 dL_law_1947 dL_law_1949 dL_law_1950 dL_law_1951 ?_
  rcases hk with ⟨v, rfl, rfl, hk⟩ | ⟨k, rfl, hk1, hk⟩
  · refine zl_M hC [vI (sc xs (6 * n + 1))] (fun hinj sz => mX12_meanSpeed l hinj sz hk) (cwV 1 hC.1.1.2.2.2.2 (uV uId u2044 u2045 u2046 u118 u2047) rfl rfl rfl (by decide +kernel) ⟨Nat.le_of_ble_eq_true rfl, Nat.le_of_ble_eq_true rfl⟩) rfl rfl (Nat.le_of_ble_eq_true rfl) hcs1 dL_law_1952 (fun w τ1 hk2 => ?_)
    obtain ⟨h4, rfl, hk2⟩ := hk2
    refine zl_tailI hC dL_law_1955 dL_law_1957 dL_law_1958 dL_law_1961 dL_law_1963 dL_law_1968 dL_law_1970 dL_law_1973 dL_law_1974 dL_law_1975 dL_law_1976 dL_law_1978 dL_law_1979 dL_law_1980 dL_law_1985 (by decide) hcs1 h4 (Or.inl ⟨rfl, rfl⟩) ?_
    exact zn_widen (Nat.add_le_add_left (by decide) cells) (Nat.add_le_add_left (by decide) slots) (g _ σ1 τ1 hk2)
  · refine zl_M hC [vI (sc xs (6 * n + 1))] (fun hinj sz => mX12_meanSpeed l hinj sz hk) (cwV 1 hC.1.1.2.2.2.2 (uV uId u2044 u2045 u2046 u118 u2047) rfl rfl rfl (by decide +kernel) ⟨Nat.le_of_ble_eq_true rfl, Nat.le_of_ble_eq_true rfl⟩) rfl rfl (Nat.le_of_ble_eq_true rfl) hcs1 dL_law_1952 (fun w τ1 hk2 => ?_)
    obtain ⟨h4, hk2⟩ := hk2
    refine zl_tailI hC dL_law_1955 dL_law_1957 dL_law_1958 dL_law_1961 dL_law_1963 dL_law_1968 dL_law_1970 dL_law_1973 dL_law_1974 dL_law_1975 dL_law_1976 dL_law_1978 dL_law_1979 dL_law_1980 dL_law_1985 (by decide) hcs1 h4 (Or.inr hk1) ?_
    exact zn_widen (Nat.add_le_add_left (by decide) cells) (Nat.add_le_add_left (by decide) slots) (g _ σ1 τ1 hk2)
theorem lb_34 (hC : zLC p m c s args meth D dA (zXX aL aG aI aK aV) b L xs) {n : Nat} {μ : Int} (hst : l.stackTraces = false) (hT : TW σ τ μ) (hm : μ < 99999) (hn : 6 * n + 5 < L) (hcs : cells + 3 ≤ room_1.cells ∧ slots + 18 ≤ room_1.slots) (g : ∀ (o1 : Int64) (σ1 τ1 : zSt), TW σ1 τ1 (μ + 1) → zL p l e room_1 s m args below meth c (cells + 3) (slots + 18) Q 7 D (fun q => s.heap.size ≤ q) (3543) (zLV b ad bd od n) ([]) (zLW dA ad bd od o1 σ1 τ1)) : zL p l e room_1 s m args below meth c (cells) (slots) Q 7 D (fun q => s.heap.size ≤ q) (1988) (zLV b ad bd od n) ([]) (zLW dA ad bd od o σ τ) := by
  have hcs0 : cells ≤ room_1.cells ∧ slots ≤ room_1.slots := ⟨Nat.le_trans (Nat.le_add_right _ _) hcs.1, Nat.le_trans (Nat.le_add_right _ _) hcs.2⟩
  refine zn_aload_n hC.1 dL_law_1988 1 rfl rfl ?_
  refine zl_arg hC (n := n) 1 (by omega) 0 4 rfl rfl rfl dL_law_1989 dL_law_1990 dL_law_1992 dL_law_1993 dL_law_1994 ?_
  refine zl_arg hC (n := n) 2 (by omega) 0 4 rfl rfl rfl dL_law_1995 dL_law_1996 dL_law_1998 dL_law_1999 dL_law_2000 ?_
  refine zn_aload_n hC.1 dL_law_2001 3 rfl rfl ?_
  refine zl_H hC (G := fun z o1 σ1 => (∃ v : Int, z = 0 ∧ o1 = (Int32.ofInt v).toInt64 ∧ cE (μ + 1) (fun K => fX12_meanSpeedWithScale K τ (sc xs (6 * n + 1)) (sc xs (6 * n + 2))) v σ1) ∨ ∃ k : Int, z = k ∧ (k = 1 ∨ k = 2) ∧ fX12_meanSpeedWithScale (fun _ τ1 => τ1 0 4 = k ∧ TW σ1 τ1 (μ + 1)) τ (sc xs (6 * n + 1)) (sc xs (6 * n + 2))) [vI (sc xs (6 * n + 1)), vI (sc xs (6 * n + 2)), .ref od] (fun sz => cH_meanSpeedWithScale l hst D dA aL aG aI aK aV ad od sz σ o (cmd_meanSpeedWithScale hT (sc_rg xs (6 * n + 1)) (sc_rg xs (6 * n + 2))) (fun v σ1 hk => Or.inl ⟨v, rfl, rfl, hk⟩) (fun E σ1 hk => ⟨hk.1, Or.inr ⟨1, rfl, Or.inl rfl, hk.2⟩⟩)) (vx_cwSW 4 hC.1.1.2.2.2.2 (uSW uId u1336 u1337 u104 uh_meanSpeedWithScale) rfl rfl rfl (by decide +kernel) ⟨Nat.le_of_ble_eq_true rfl, Nat.le_of_ble_eq_true rfl⟩) rfl rfl (Nat.le_of_ble_eq_true rfl) ⟨Nat.le_trans (Nat.add_le_add_left (by decide) cells) hcs.1, Nat.le_trans (Nat.add_le_add_left (by decide) slots) hcs.2⟩ dL_law_2002 (fun z o1 σ1 hk => ?_)
  have hcs1 : cells + 1 ≤ room_1.cells ∧ slots + 6 ≤ room_1.slots := ⟨Nat.le_trans (Nat.add_le_add_left (by decide) cells) hcs.1, Nat.le_trans (Nat.add_le_add_left (by decide) slots) hcs.2⟩
  refine zn_istore hC.1 ((5, vI z) :: zLV b ad bd od n) dL_law_2005 (by decide) rfl ?_
  refine zn_aload_n hC.1 dL_law_2007 3 rfl rfl ?_
  refine zl_arg hC (n := n) 1 (by omega) 1 5 rfl rfl rfl dL_law_2008 dL_law_2009 dL_law_2011 dL_law_2012 dL_law_2013 ?_
  refine zl_arg hC (n := n) 2 (by omega) 1 5 rfl rfl rfl dL_law_2014 dL_law_2015 dL_law_2017 dL_law_2018 dL_law_2019 ?_
  rcases hk with ⟨v, rfl, rfl, hk⟩ | ⟨k, rfl, hk1, hk⟩
  · refine zl_M hC [vI (sc xs (6 * n + 1)), vI (sc xs (6 * n + 2))] (fun hinj sz => mX12_meanSpeedWithScale l hinj sz hk) (cwV 2 hC.1.1.2.2.2.2 (uV uId u2052 u2053 u2054 u118 u2055) rfl rfl rfl (by decide +kernel) ⟨Nat.le_of_ble_eq_true rfl, Nat.le_of_ble_eq_true rfl⟩) rfl rfl (Nat.le_of_ble_eq_true rfl) hcs1 dL_law_2020 (fun w τ1 hk2 => ?_)
    obtain ⟨h4, rfl, hk2⟩ := hk2
    refine zl_tailI hC dL_law_2023 dL_law_2025 dL_law_2026 dL_law_2029 dL_law_2031 dL_law_2036 dL_law_2038 dL_law_2041 dL_law_2042 dL_law_2043 dL_law_2044 dL_law_2046 dL_law_2047 dL_law_2048 dL_law_2053 (by decide) hcs1 h4 (Or.inl ⟨rfl, rfl⟩) ?_
    exact zn_widen (Nat.add_le_add_left (by decide) cells) (Nat.add_le_add_left (by decide) slots) (g _ σ1 τ1 hk2)
  · refine zl_M hC [vI (sc xs (6 * n + 1)), vI (sc xs (6 * n + 2))] (fun hinj sz => mX12_meanSpeedWithScale l hinj sz hk) (cwV 2 hC.1.1.2.2.2.2 (uV uId u2052 u2053 u2054 u118 u2055) rfl rfl rfl (by decide +kernel) ⟨Nat.le_of_ble_eq_true rfl, Nat.le_of_ble_eq_true rfl⟩) rfl rfl (Nat.le_of_ble_eq_true rfl) hcs1 dL_law_2020 (fun w τ1 hk2 => ?_)
    obtain ⟨h4, hk2⟩ := hk2
    refine zl_tailI hC dL_law_2023 dL_law_2025 dL_law_2026 dL_law_2029 dL_law_2031 dL_law_2036 dL_law_2038 dL_law_2041 dL_law_2042 dL_law_2043 dL_law_2044 dL_law_2046 dL_law_2047 dL_law_2048 dL_law_2053 (by decide) hcs1 h4 (Or.inr hk1) ?_
    exact zn_widen (Nat.add_le_add_left (by decide) cells) (Nat.add_le_add_left (by decide) slots) (g _ σ1 τ1 hk2)
theorem lb_35 (hC : zLC p m c s args meth D dA (zXX aL aG aI aK aV) b L xs) {n : Nat} {μ : Int} (hst : l.stackTraces = false) (hT : TW σ τ μ) (hm : μ < 99999) (hn : 6 * n + 5 < L) (hcs : cells + 3 ≤ room_1.cells ∧ slots + 18 ≤ room_1.slots) (g : ∀ (o1 : Int64) (σ1 τ1 : zSt), TW σ1 τ1 (μ + 1) → zL p l e room_1 s m args below meth c (cells + 3) (slots + 18) Q 7 D (fun q => s.heap.size ≤ q) (3543) (zLV b ad bd od n) ([]) (zLW dA ad bd od o1 σ1 τ1)) : zL p l e room_1 s m args below meth c (cells) (slots) Q 7 D (fun q => s.heap.size ≤ q) (2056) (zLV b ad bd od n) ([]) (zLW dA ad bd od o σ τ) := by
  have hcs0 : cells ≤ room_1.cells ∧ slots ≤ room_1.slots := ⟨Nat.le_trans (Nat.le_add_right _ _) hcs.1, Nat.le_trans (Nat.le_add_right _ _) hcs.2⟩
  refine zn_aload_n hC.1 dL_law_2056 1 rfl rfl ?_
  refine zl_X hC [] (fun hinj sz => mX11_fastestFeature l hinj sz (cmd_fastestFeature hT )) (cwV 0 hC.1.1.2.2.2.2 (uV uId u807 u808 u809 u105 u810) rfl rfl rfl (by decide +kernel) ⟨Nat.le_of_ble_eq_true rfl, Nat.le_of_ble_eq_true rfl⟩) rfl rfl (Nat.le_of_ble_eq_true rfl) hcs0 dL_law_2057 (fun z σ1 hk => ?_)
  refine zn_aload_n hC.1 dL_law_2060 2 rfl rfl ?_
  refine zl_M hC [] (fun hinj sz => mX12_fastestFeature l hinj sz hk) (cwV 0 hC.1.1.2.2.2.2 (uV uId u2056 u2057 u2058 u118 u2059) rfl rfl rfl (by decide +kernel) ⟨Nat.le_of_ble_eq_true rfl, Nat.le_of_ble_eq_true rfl⟩) rfl rfl (Nat.le_of_ble_eq_true rfl) hcs0 dL_law_2061 (fun w τ1 hk2 => ?_)
  obtain ⟨rfl, hk2⟩ := hk2
  refine zn_eq_t (tgt := 3543) hC.1 dL_law_2064 (by decide) ?_
  exact zn_widen (Nat.le_add_right _ _) (Nat.le_add_right _ _) (g o σ1 τ1 hk2)
theorem lb_36 (hC : zLC p m c s args meth D dA (zXX aL aG aI aK aV) b L xs) {n : Nat} {μ : Int} (hst : l.stackTraces = false) (hT : TW σ τ μ) (hm : μ < 99999) (hn : 6 * n + 5 < L) (hcs : cells + 3 ≤ room_1.cells ∧ slots + 18 ≤ room_1.slots) (g : ∀ (o1 : Int64) (σ1 τ1 : zSt), TW σ1 τ1 (μ + 1) → zL p l e room_1 s m args below meth c (cells + 3) (slots + 18) Q 7 D (fun q => s.heap.size ≤ q) (3543) (zLV b ad bd od n) ([]) (zLW dA ad bd od o1 σ1 τ1)) : zL p l e room_1 s m args below meth c (cells) (slots) Q 7 D (fun q => s.heap.size ≤ q) (2069) (zLV b ad bd od n) ([]) (zLW dA ad bd od o σ τ) := by
  have hcs0 : cells ≤ room_1.cells ∧ slots ≤ room_1.slots := ⟨Nat.le_trans (Nat.le_add_right _ _) hcs.1, Nat.le_trans (Nat.le_add_right _ _) hcs.2⟩
  refine zn_aload_n hC.1 dL_law_2069 1 rfl rfl ?_
  refine zl_arg hC (n := n) 1 (by omega) 0 4 rfl rfl rfl dL_law_2070 dL_law_2071 dL_law_2073 dL_law_2074 dL_law_2075 ?_
  refine zn_aload_n hC.1 dL_law_2076 3 rfl rfl ?_
  refine zl_H hC (G := fun z o1 σ1 => (∃ v : Int, z = 0 ∧ o1 = (Int32.ofInt v).toInt64 ∧ cE (μ + 1) (fun K => fX12_surgeCount K τ (sc xs (6 * n + 1))) v σ1) ∨ ∃ k : Int, z = k ∧ (k = 1 ∨ k = 2) ∧ fX12_surgeCount (fun _ τ1 => τ1 0 4 = k ∧ TW σ1 τ1 (μ + 1)) τ (sc xs (6 * n + 1))) [vI (sc xs (6 * n + 1)), .ref od] (fun sz => cH_surgeCount l hst D dA aL aG aI aK aV ad od sz σ o (cmd_surgeCount hT (sc_rg xs (6 * n + 1))) (fun v σ1 hk => Or.inl ⟨v, rfl, rfl, hk⟩) (fun E σ1 hk => ⟨hk.1, Or.inr ⟨1, rfl, Or.inl rfl, hk.2⟩⟩)) (vx_cwSW 3 hC.1.1.2.2.2.2 (uSW uId u1343 u1344 u104 uh_surgeCount) rfl rfl rfl (by decide +kernel) ⟨Nat.le_of_ble_eq_true rfl, Nat.le_of_ble_eq_true rfl⟩) rfl rfl (Nat.le_of_ble_eq_true rfl) ⟨Nat.le_trans (Nat.add_le_add_left (by decide) cells) hcs.1, Nat.le_trans (Nat.add_le_add_left (by decide) slots) hcs.2⟩ dL_law_2077 (fun z o1 σ1 hk => ?_)
  have hcs1 : cells + 1 ≤ room_1.cells ∧ slots + 6 ≤ room_1.slots := ⟨Nat.le_trans (Nat.add_le_add_left (by decide) cells) hcs.1, Nat.le_trans (Nat.add_le_add_left (by decide) slots) hcs.2⟩
  refine zn_istore hC.1 ((5, vI z) :: zLV b ad bd od n) dL_law_2080 (by decide) rfl ?_
  refine zn_aload_n hC.1 dL_law_2082 3 rfl rfl ?_
  refine zl_arg hC (n := n) 1 (by omega) 1 5 rfl rfl rfl dL_law_2083 dL_law_2084 dL_law_2086 dL_law_2087 dL_law_2088 ?_
  rcases hk with ⟨v, rfl, rfl, hk⟩ | ⟨k, rfl, hk1, hk⟩
  · refine zl_M hC [vI (sc xs (6 * n + 1))] (fun hinj sz => mX12_surgeCount l hinj sz hk) (cwV 1 hC.1.1.2.2.2.2 (uV uId u2060 u2061 u2062 u118 u2063) rfl rfl rfl (by decide +kernel) ⟨Nat.le_of_ble_eq_true rfl, Nat.le_of_ble_eq_true rfl⟩) rfl rfl (Nat.le_of_ble_eq_true rfl) hcs1 dL_law_2089 (fun w τ1 hk2 => ?_)
    obtain ⟨h4, rfl, hk2⟩ := hk2
    refine zl_tailI hC dL_law_2092 dL_law_2094 dL_law_2095 dL_law_2098 dL_law_2100 dL_law_2105 dL_law_2107 dL_law_2110 dL_law_2111 dL_law_2112 dL_law_2113 dL_law_2115 dL_law_2116 dL_law_2117 dL_law_2122 (by decide) hcs1 h4 (Or.inl ⟨rfl, rfl⟩) ?_
    exact zn_widen (Nat.add_le_add_left (by decide) cells) (Nat.add_le_add_left (by decide) slots) (g _ σ1 τ1 hk2)
  · refine zl_M hC [vI (sc xs (6 * n + 1))] (fun hinj sz => mX12_surgeCount l hinj sz hk) (cwV 1 hC.1.1.2.2.2.2 (uV uId u2060 u2061 u2062 u118 u2063) rfl rfl rfl (by decide +kernel) ⟨Nat.le_of_ble_eq_true rfl, Nat.le_of_ble_eq_true rfl⟩) rfl rfl (Nat.le_of_ble_eq_true rfl) hcs1 dL_law_2089 (fun w τ1 hk2 => ?_)
    obtain ⟨h4, hk2⟩ := hk2
    refine zl_tailI hC dL_law_2092 dL_law_2094 dL_law_2095 dL_law_2098 dL_law_2100 dL_law_2105 dL_law_2107 dL_law_2110 dL_law_2111 dL_law_2112 dL_law_2113 dL_law_2115 dL_law_2116 dL_law_2117 dL_law_2122 (by decide) hcs1 h4 (Or.inr hk1) ?_
    exact zn_widen (Nat.add_le_add_left (by decide) cells) (Nat.add_le_add_left (by decide) slots) (g _ σ1 τ1 hk2)
theorem lb_37 (hC : zLC p m c s args meth D dA (zXX aL aG aI aK aV) b L xs) {n : Nat} {μ : Int} (hst : l.stackTraces = false) (hT : TW σ τ μ) (hm : μ < 99999) (hn : 6 * n + 5 < L) (hcs : cells + 3 ≤ room_1.cells ∧ slots + 18 ≤ room_1.slots) (g : ∀ (o1 : Int64) (σ1 τ1 : zSt), TW σ1 τ1 (μ + 1) → zL p l e room_1 s m args below meth c (cells + 3) (slots + 18) Q 7 D (fun q => s.heap.size ≤ q) (3543) (zLV b ad bd od n) ([]) (zLW dA ad bd od o1 σ1 τ1)) : zL p l e room_1 s m args below meth c (cells) (slots) Q 7 D (fun q => s.heap.size ≤ q) (2125) (zLV b ad bd od n) ([]) (zLW dA ad bd od o σ τ) := by
  have hcs0 : cells ≤ room_1.cells ∧ slots ≤ room_1.slots := ⟨Nat.le_trans (Nat.le_add_right _ _) hcs.1, Nat.le_trans (Nat.le_add_right _ _) hcs.2⟩
  refine zn_aload_n hC.1 dL_law_2125 1 rfl rfl ?_
  refine zl_arg hC (n := n) 1 (by omega) 0 4 rfl rfl rfl dL_law_2126 dL_law_2127 dL_law_2129 dL_law_2130 dL_law_2131 ?_
  refine zl_arg hC (n := n) 2 (by omega) 0 4 rfl rfl rfl dL_law_2132 dL_law_2133 dL_law_2135 dL_law_2136 dL_law_2137 ?_
  refine zn_aload_n hC.1 dL_law_2138 3 rfl rfl ?_
  refine zl_H hC (G := fun z o1 σ1 => (∃ v : Int, z = 0 ∧ o1 = (Int32.ofInt v).toInt64 ∧ cE (μ + 1) (fun K => fX12_surgeStart K τ (sc xs (6 * n + 1)) (sc xs (6 * n + 2))) v σ1) ∨ ∃ k : Int, z = k ∧ (k = 1 ∨ k = 2) ∧ fX12_surgeStart (fun _ τ1 => τ1 0 4 = k ∧ TW σ1 τ1 (μ + 1)) τ (sc xs (6 * n + 1)) (sc xs (6 * n + 2))) [vI (sc xs (6 * n + 1)), vI (sc xs (6 * n + 2)), .ref od] (fun sz => cH_surgeStart l hst D dA aL aG aI aK aV ad od sz σ o (cmd_surgeStart hT (sc_rg xs (6 * n + 1)) (sc_rg xs (6 * n + 2))) (fun v σ1 hk => Or.inl ⟨v, rfl, rfl, hk⟩) (fun E σ1 hk => ⟨hk.1, Or.inr ⟨1, rfl, Or.inl rfl, hk.2⟩⟩)) (vx_cwSW 4 hC.1.1.2.2.2.2 (uSW uId u1363 u1364 u104 uh_surgeStart) rfl rfl rfl (by decide +kernel) ⟨Nat.le_of_ble_eq_true rfl, Nat.le_of_ble_eq_true rfl⟩) rfl rfl (Nat.le_of_ble_eq_true rfl) ⟨Nat.le_trans (Nat.add_le_add_left (by decide) cells) hcs.1, Nat.le_trans (Nat.add_le_add_left (by decide) slots) hcs.2⟩ dL_law_2139 (fun z o1 σ1 hk => ?_)
  have hcs1 : cells + 1 ≤ room_1.cells ∧ slots + 6 ≤ room_1.slots := ⟨Nat.le_trans (Nat.add_le_add_left (by decide) cells) hcs.1, Nat.le_trans (Nat.add_le_add_left (by decide) slots) hcs.2⟩
  refine zn_istore hC.1 ((5, vI z) :: zLV b ad bd od n) dL_law_2142 (by decide) rfl ?_
  refine zn_aload_n hC.1 dL_law_2144 3 rfl rfl ?_
  refine zl_arg hC (n := n) 1 (by omega) 1 5 rfl rfl rfl dL_law_2145 dL_law_2146 dL_law_2148 dL_law_2149 dL_law_2150 ?_
  refine zl_arg hC (n := n) 2 (by omega) 1 5 rfl rfl rfl dL_law_2151 dL_law_2152 dL_law_2154 dL_law_2155 dL_law_2156 ?_
  rcases hk with ⟨v, rfl, rfl, hk⟩ | ⟨k, rfl, hk1, hk⟩
  · refine zl_M hC [vI (sc xs (6 * n + 1)), vI (sc xs (6 * n + 2))] (fun hinj sz => mX12_surgeStart l hinj sz hk) (cwV 2 hC.1.1.2.2.2.2 (uV uId u2068 u2069 u2070 u118 u2071) rfl rfl rfl (by decide +kernel) ⟨Nat.le_of_ble_eq_true rfl, Nat.le_of_ble_eq_true rfl⟩) rfl rfl (Nat.le_of_ble_eq_true rfl) hcs1 dL_law_2157 (fun w τ1 hk2 => ?_)
    obtain ⟨h4, rfl, hk2⟩ := hk2
    refine zl_tailI hC dL_law_2160 dL_law_2162 dL_law_2163 dL_law_2166 dL_law_2168 dL_law_2173 dL_law_2175 dL_law_2178 dL_law_2179 dL_law_2180 dL_law_2181 dL_law_2183 dL_law_2184 dL_law_2185 dL_law_2190 (by decide) hcs1 h4 (Or.inl ⟨rfl, rfl⟩) ?_
    exact zn_widen (Nat.add_le_add_left (by decide) cells) (Nat.add_le_add_left (by decide) slots) (g _ σ1 τ1 hk2)
  · refine zl_M hC [vI (sc xs (6 * n + 1)), vI (sc xs (6 * n + 2))] (fun hinj sz => mX12_surgeStart l hinj sz hk) (cwV 2 hC.1.1.2.2.2.2 (uV uId u2068 u2069 u2070 u118 u2071) rfl rfl rfl (by decide +kernel) ⟨Nat.le_of_ble_eq_true rfl, Nat.le_of_ble_eq_true rfl⟩) rfl rfl (Nat.le_of_ble_eq_true rfl) hcs1 dL_law_2157 (fun w τ1 hk2 => ?_)
    obtain ⟨h4, hk2⟩ := hk2
    refine zl_tailI hC dL_law_2160 dL_law_2162 dL_law_2163 dL_law_2166 dL_law_2168 dL_law_2173 dL_law_2175 dL_law_2178 dL_law_2179 dL_law_2180 dL_law_2181 dL_law_2183 dL_law_2184 dL_law_2185 dL_law_2190 (by decide) hcs1 h4 (Or.inr hk1) ?_
    exact zn_widen (Nat.add_le_add_left (by decide) cells) (Nat.add_le_add_left (by decide) slots) (g _ σ1 τ1 hk2)
theorem lb_38 (hC : zLC p m c s args meth D dA (zXX aL aG aI aK aV) b L xs) {n : Nat} {μ : Int} (hst : l.stackTraces = false) (hT : TW σ τ μ) (hm : μ < 99999) (hn : 6 * n + 5 < L) (hcs : cells + 3 ≤ room_1.cells ∧ slots + 18 ≤ room_1.slots) (g : ∀ (o1 : Int64) (σ1 τ1 : zSt), TW σ1 τ1 (μ + 1) → zL p l e room_1 s m args below meth c (cells + 3) (slots + 18) Q 7 D (fun q => s.heap.size ≤ q) (3543) (zLV b ad bd od n) ([]) (zLW dA ad bd od o1 σ1 τ1)) : zL p l e room_1 s m args below meth c (cells) (slots) Q 7 D (fun q => s.heap.size ≤ q) (2193) (zLV b ad bd od n) ([]) (zLW dA ad bd od o σ τ) := by
  have hcs0 : cells ≤ room_1.cells ∧ slots ≤ room_1.slots := ⟨Nat.le_trans (Nat.le_add_right _ _) hcs.1, Nat.le_trans (Nat.le_add_right _ _) hcs.2⟩
  refine zn_aload_n hC.1 dL_law_2193 1 rfl rfl ?_
  refine zl_arg hC (n := n) 1 (by omega) 0 4 rfl rfl rfl dL_law_2194 dL_law_2195 dL_law_2197 dL_law_2198 dL_law_2199 ?_
  refine zl_arg hC (n := n) 2 (by omega) 0 4 rfl rfl rfl dL_law_2200 dL_law_2201 dL_law_2203 dL_law_2204 dL_law_2205 ?_
  refine zn_aload_n hC.1 dL_law_2206 3 rfl rfl ?_
  refine zl_H hC (G := fun z o1 σ1 => (∃ v : Int, z = 0 ∧ o1 = (Int32.ofInt v).toInt64 ∧ cE (μ + 1) (fun K => fX12_surgeDays K τ (sc xs (6 * n + 1)) (sc xs (6 * n + 2))) v σ1) ∨ ∃ k : Int, z = k ∧ (k = 1 ∨ k = 2) ∧ fX12_surgeDays (fun _ τ1 => τ1 0 4 = k ∧ TW σ1 τ1 (μ + 1)) τ (sc xs (6 * n + 1)) (sc xs (6 * n + 2))) [vI (sc xs (6 * n + 1)), vI (sc xs (6 * n + 2)), .ref od] (fun sz => cH_surgeDays l hst D dA aL aG aI aK aV ad od sz σ o (cmd_surgeDays hT (sc_rg xs (6 * n + 1)) (sc_rg xs (6 * n + 2))) (fun v σ1 hk => Or.inl ⟨v, rfl, rfl, hk⟩) (fun E σ1 hk => ⟨hk.1, Or.inr ⟨1, rfl, Or.inl rfl, hk.2⟩⟩)) (vx_cwSW 4 hC.1.1.2.2.2.2 (uSW uId u1375 u1376 u104 uh_surgeDays) rfl rfl rfl (by decide +kernel) ⟨Nat.le_of_ble_eq_true rfl, Nat.le_of_ble_eq_true rfl⟩) rfl rfl (Nat.le_of_ble_eq_true rfl) ⟨Nat.le_trans (Nat.add_le_add_left (by decide) cells) hcs.1, Nat.le_trans (Nat.add_le_add_left (by decide) slots) hcs.2⟩ dL_law_2207 (fun z o1 σ1 hk => ?_)
  have hcs1 : cells + 1 ≤ room_1.cells ∧ slots + 6 ≤ room_1.slots := ⟨Nat.le_trans (Nat.add_le_add_left (by decide) cells) hcs.1, Nat.le_trans (Nat.add_le_add_left (by decide) slots) hcs.2⟩
  refine zn_istore hC.1 ((5, vI z) :: zLV b ad bd od n) dL_law_2210 (by decide) rfl ?_
  refine zn_aload_n hC.1 dL_law_2212 3 rfl rfl ?_
  refine zl_arg hC (n := n) 1 (by omega) 1 5 rfl rfl rfl dL_law_2213 dL_law_2214 dL_law_2216 dL_law_2217 dL_law_2218 ?_
  refine zl_arg hC (n := n) 2 (by omega) 1 5 rfl rfl rfl dL_law_2219 dL_law_2220 dL_law_2222 dL_law_2223 dL_law_2224 ?_
  rcases hk with ⟨v, rfl, rfl, hk⟩ | ⟨k, rfl, hk1, hk⟩
  · refine zl_M hC [vI (sc xs (6 * n + 1)), vI (sc xs (6 * n + 2))] (fun hinj sz => mX12_surgeDays l hinj sz hk) (cwV 2 hC.1.1.2.2.2.2 (uV uId u2072 u2073 u2074 u118 u2075) rfl rfl rfl (by decide +kernel) ⟨Nat.le_of_ble_eq_true rfl, Nat.le_of_ble_eq_true rfl⟩) rfl rfl (Nat.le_of_ble_eq_true rfl) hcs1 dL_law_2225 (fun w τ1 hk2 => ?_)
    obtain ⟨h4, rfl, hk2⟩ := hk2
    refine zl_tailI hC dL_law_2228 dL_law_2230 dL_law_2231 dL_law_2234 dL_law_2236 dL_law_2241 dL_law_2243 dL_law_2246 dL_law_2247 dL_law_2248 dL_law_2249 dL_law_2251 dL_law_2252 dL_law_2253 dL_law_2258 (by decide) hcs1 h4 (Or.inl ⟨rfl, rfl⟩) ?_
    exact zn_widen (Nat.add_le_add_left (by decide) cells) (Nat.add_le_add_left (by decide) slots) (g _ σ1 τ1 hk2)
  · refine zl_M hC [vI (sc xs (6 * n + 1)), vI (sc xs (6 * n + 2))] (fun hinj sz => mX12_surgeDays l hinj sz hk) (cwV 2 hC.1.1.2.2.2.2 (uV uId u2072 u2073 u2074 u118 u2075) rfl rfl rfl (by decide +kernel) ⟨Nat.le_of_ble_eq_true rfl, Nat.le_of_ble_eq_true rfl⟩) rfl rfl (Nat.le_of_ble_eq_true rfl) hcs1 dL_law_2225 (fun w τ1 hk2 => ?_)
    obtain ⟨h4, hk2⟩ := hk2
    refine zl_tailI hC dL_law_2228 dL_law_2230 dL_law_2231 dL_law_2234 dL_law_2236 dL_law_2241 dL_law_2243 dL_law_2246 dL_law_2247 dL_law_2248 dL_law_2249 dL_law_2251 dL_law_2252 dL_law_2253 dL_law_2258 (by decide) hcs1 h4 (Or.inr hk1) ?_
    exact zn_widen (Nat.add_le_add_left (by decide) cells) (Nat.add_le_add_left (by decide) slots) (g _ σ1 τ1 hk2)
theorem lb_39 (hC : zLC p m c s args meth D dA (zXX aL aG aI aK aV) b L xs) {n : Nat} {μ : Int} (hst : l.stackTraces = false) (hT : TW σ τ μ) (hm : μ < 99999) (hn : 6 * n + 5 < L) (hcs : cells + 3 ≤ room_1.cells ∧ slots + 18 ≤ room_1.slots) (g : ∀ (o1 : Int64) (σ1 τ1 : zSt), TW σ1 τ1 (μ + 1) → zL p l e room_1 s m args below meth c (cells + 3) (slots + 18) Q 7 D (fun q => s.heap.size ≤ q) (3543) (zLV b ad bd od n) ([]) (zLW dA ad bd od o1 σ1 τ1)) : zL p l e room_1 s m args below meth c (cells) (slots) Q 7 D (fun q => s.heap.size ≤ q) (2261) (zLV b ad bd od n) ([]) (zLW dA ad bd od o σ τ) := by
  have hcs0 : cells ≤ room_1.cells ∧ slots ≤ room_1.slots := ⟨Nat.le_trans (Nat.le_add_right _ _) hcs.1, Nat.le_trans (Nat.le_add_right _ _) hcs.2⟩
  refine zn_aload_n hC.1 dL_law_2261 1 rfl rfl ?_
  refine zl_arg hC (n := n) 1 (by omega) 0 4 rfl rfl rfl dL_law_2262 dL_law_2263 dL_law_2265 dL_law_2266 dL_law_2267 ?_
  refine zl_arg hC (n := n) 2 (by omega) 0 4 rfl rfl rfl dL_law_2268 dL_law_2269 dL_law_2271 dL_law_2272 dL_law_2273 ?_
  refine zn_aload_n hC.1 dL_law_2274 3 rfl rfl ?_
  refine zl_H hC (G := fun z o1 σ1 => (∃ v : Int, z = 0 ∧ o1 = (Int32.ofInt v).toInt64 ∧ cE (μ + 1) (fun K => fX12_positionX K τ (sc xs (6 * n + 1)) (sc xs (6 * n + 2))) v σ1) ∨ ∃ k : Int, z = k ∧ (k = 1 ∨ k = 2) ∧ fX12_positionX (fun _ τ1 => τ1 0 4 = k ∧ TW σ1 τ1 (μ + 1)) τ (sc xs (6 * n + 1)) (sc xs (6 * n + 2))) [vI (sc xs (6 * n + 1)), vI (sc xs (6 * n + 2)), .ref od] (fun sz => cH_positionX l hst D dA aL aG aI aK aV ad od sz σ o (cmd_positionX hT (sc_rg xs (6 * n + 1)) (sc_rg xs (6 * n + 2))) (fun v σ1 hk => Or.inl ⟨v, rfl, rfl, hk⟩) (fun E σ1 hk => ⟨hk.1, Or.inr ⟨1, rfl, Or.inl rfl, hk.2⟩⟩)) (vx_cwSW 4 hC.1.1.2.2.2.2 (uSW uId u1386 u1387 u104 uh_positionX) rfl rfl rfl (by decide +kernel) ⟨Nat.le_of_ble_eq_true rfl, Nat.le_of_ble_eq_true rfl⟩) rfl rfl (Nat.le_of_ble_eq_true rfl) ⟨Nat.le_trans (Nat.add_le_add_left (by decide) cells) hcs.1, Nat.le_trans (Nat.add_le_add_left (by decide) slots) hcs.2⟩ dL_law_2275 (fun z o1 σ1 hk => ?_)
  have hcs1 : cells + 1 ≤ room_1.cells ∧ slots + 6 ≤ room_1.slots := ⟨Nat.le_trans (Nat.add_le_add_left (by decide) cells) hcs.1, Nat.le_trans (Nat.add_le_add_left (by decide) slots) hcs.2⟩
  refine zn_istore hC.1 ((5, vI z) :: zLV b ad bd od n) dL_law_2278 (by decide) rfl ?_
  refine zn_aload_n hC.1 dL_law_2280 3 rfl rfl ?_
  refine zl_arg hC (n := n) 1 (by omega) 1 5 rfl rfl rfl dL_law_2281 dL_law_2282 dL_law_2284 dL_law_2285 dL_law_2286 ?_
  refine zl_arg hC (n := n) 2 (by omega) 1 5 rfl rfl rfl dL_law_2287 dL_law_2288 dL_law_2290 dL_law_2291 dL_law_2292 ?_
  rcases hk with ⟨v, rfl, rfl, hk⟩ | ⟨k, rfl, hk1, hk⟩
  · refine zl_M hC [vI (sc xs (6 * n + 1)), vI (sc xs (6 * n + 2))] (fun hinj sz => mX12_positionX l hinj sz hk) (cwV 2 hC.1.1.2.2.2.2 (uV uId u2076 u2077 u2078 u118 u2079) rfl rfl rfl (by decide +kernel) ⟨Nat.le_of_ble_eq_true rfl, Nat.le_of_ble_eq_true rfl⟩) rfl rfl (Nat.le_of_ble_eq_true rfl) hcs1 dL_law_2293 (fun w τ1 hk2 => ?_)
    obtain ⟨h4, rfl, hk2⟩ := hk2
    refine zl_tailI hC dL_law_2296 dL_law_2298 dL_law_2299 dL_law_2302 dL_law_2304 dL_law_2309 dL_law_2311 dL_law_2314 dL_law_2315 dL_law_2316 dL_law_2317 dL_law_2319 dL_law_2320 dL_law_2321 dL_law_2326 (by decide) hcs1 h4 (Or.inl ⟨rfl, rfl⟩) ?_
    exact zn_widen (Nat.add_le_add_left (by decide) cells) (Nat.add_le_add_left (by decide) slots) (g _ σ1 τ1 hk2)
  · refine zl_M hC [vI (sc xs (6 * n + 1)), vI (sc xs (6 * n + 2))] (fun hinj sz => mX12_positionX l hinj sz hk) (cwV 2 hC.1.1.2.2.2.2 (uV uId u2076 u2077 u2078 u118 u2079) rfl rfl rfl (by decide +kernel) ⟨Nat.le_of_ble_eq_true rfl, Nat.le_of_ble_eq_true rfl⟩) rfl rfl (Nat.le_of_ble_eq_true rfl) hcs1 dL_law_2293 (fun w τ1 hk2 => ?_)
    obtain ⟨h4, hk2⟩ := hk2
    refine zl_tailI hC dL_law_2296 dL_law_2298 dL_law_2299 dL_law_2302 dL_law_2304 dL_law_2309 dL_law_2311 dL_law_2314 dL_law_2315 dL_law_2316 dL_law_2317 dL_law_2319 dL_law_2320 dL_law_2321 dL_law_2326 (by decide) hcs1 h4 (Or.inr hk1) ?_
    exact zn_widen (Nat.add_le_add_left (by decide) cells) (Nat.add_le_add_left (by decide) slots) (g _ σ1 τ1 hk2)
theorem lb_40 (hC : zLC p m c s args meth D dA (zXX aL aG aI aK aV) b L xs) {n : Nat} {μ : Int} (hst : l.stackTraces = false) (hT : TW σ τ μ) (hm : μ < 99999) (hn : 6 * n + 5 < L) (hcs : cells + 3 ≤ room_1.cells ∧ slots + 18 ≤ room_1.slots) (g : ∀ (o1 : Int64) (σ1 τ1 : zSt), TW σ1 τ1 (μ + 1) → zL p l e room_1 s m args below meth c (cells + 3) (slots + 18) Q 7 D (fun q => s.heap.size ≤ q) (3543) (zLV b ad bd od n) ([]) (zLW dA ad bd od o1 σ1 τ1)) : zL p l e room_1 s m args below meth c (cells) (slots) Q 7 D (fun q => s.heap.size ≤ q) (2329) (zLV b ad bd od n) ([]) (zLW dA ad bd od o σ τ) := by
  have hcs0 : cells ≤ room_1.cells ∧ slots ≤ room_1.slots := ⟨Nat.le_trans (Nat.le_add_right _ _) hcs.1, Nat.le_trans (Nat.le_add_right _ _) hcs.2⟩
  refine zn_aload_n hC.1 dL_law_2329 1 rfl rfl ?_
  refine zl_arg hC (n := n) 1 (by omega) 0 4 rfl rfl rfl dL_law_2330 dL_law_2331 dL_law_2333 dL_law_2334 dL_law_2335 ?_
  refine zl_arg hC (n := n) 2 (by omega) 0 4 rfl rfl rfl dL_law_2336 dL_law_2337 dL_law_2339 dL_law_2340 dL_law_2341 ?_
  refine zn_aload_n hC.1 dL_law_2342 3 rfl rfl ?_
  refine zl_H hC (G := fun z o1 σ1 => (∃ v : Int, z = 0 ∧ o1 = (Int32.ofInt v).toInt64 ∧ cE (μ + 1) (fun K => fX12_positionY K τ (sc xs (6 * n + 1)) (sc xs (6 * n + 2))) v σ1) ∨ ∃ k : Int, z = k ∧ (k = 1 ∨ k = 2) ∧ fX12_positionY (fun _ τ1 => τ1 0 4 = k ∧ TW σ1 τ1 (μ + 1)) τ (sc xs (6 * n + 1)) (sc xs (6 * n + 2))) [vI (sc xs (6 * n + 1)), vI (sc xs (6 * n + 2)), .ref od] (fun sz => cH_positionY l hst D dA aL aG aI aK aV ad od sz σ o (cmd_positionY hT (sc_rg xs (6 * n + 1)) (sc_rg xs (6 * n + 2))) (fun v σ1 hk => Or.inl ⟨v, rfl, rfl, hk⟩) (fun E σ1 hk => ⟨hk.1, Or.inr ⟨1, rfl, Or.inl rfl, hk.2⟩⟩)) (vx_cwSW 4 hC.1.1.2.2.2.2 (uSW uId u1401 u1402 u104 uh_positionY) rfl rfl rfl (by decide +kernel) ⟨Nat.le_of_ble_eq_true rfl, Nat.le_of_ble_eq_true rfl⟩) rfl rfl (Nat.le_of_ble_eq_true rfl) ⟨Nat.le_trans (Nat.add_le_add_left (by decide) cells) hcs.1, Nat.le_trans (Nat.add_le_add_left (by decide) slots) hcs.2⟩ dL_law_2343 (fun z o1 σ1 hk => ?_)
  have hcs1 : cells + 1 ≤ room_1.cells ∧ slots + 6 ≤ room_1.slots := ⟨Nat.le_trans (Nat.add_le_add_left (by decide) cells) hcs.1, Nat.le_trans (Nat.add_le_add_left (by decide) slots) hcs.2⟩
  refine zn_istore hC.1 ((5, vI z) :: zLV b ad bd od n) dL_law_2346 (by decide) rfl ?_
  refine zn_aload_n hC.1 dL_law_2348 3 rfl rfl ?_
  refine zl_arg hC (n := n) 1 (by omega) 1 5 rfl rfl rfl dL_law_2349 dL_law_2350 dL_law_2352 dL_law_2353 dL_law_2354 ?_
  refine zl_arg hC (n := n) 2 (by omega) 1 5 rfl rfl rfl dL_law_2355 dL_law_2356 dL_law_2358 dL_law_2359 dL_law_2360 ?_
  rcases hk with ⟨v, rfl, rfl, hk⟩ | ⟨k, rfl, hk1, hk⟩
  · refine zl_M hC [vI (sc xs (6 * n + 1)), vI (sc xs (6 * n + 2))] (fun hinj sz => mX12_positionY l hinj sz hk) (cwV 2 hC.1.1.2.2.2.2 (uV uId u2088 u2089 u2090 u118 u2091) rfl rfl rfl (by decide +kernel) ⟨Nat.le_of_ble_eq_true rfl, Nat.le_of_ble_eq_true rfl⟩) rfl rfl (Nat.le_of_ble_eq_true rfl) hcs1 dL_law_2361 (fun w τ1 hk2 => ?_)
    obtain ⟨h4, rfl, hk2⟩ := hk2
    refine zl_tailI hC dL_law_2364 dL_law_2366 dL_law_2367 dL_law_2370 dL_law_2372 dL_law_2377 dL_law_2379 dL_law_2382 dL_law_2383 dL_law_2384 dL_law_2385 dL_law_2387 dL_law_2388 dL_law_2389 dL_law_2394 (by decide) hcs1 h4 (Or.inl ⟨rfl, rfl⟩) ?_
    exact zn_widen (Nat.add_le_add_left (by decide) cells) (Nat.add_le_add_left (by decide) slots) (g _ σ1 τ1 hk2)
  · refine zl_M hC [vI (sc xs (6 * n + 1)), vI (sc xs (6 * n + 2))] (fun hinj sz => mX12_positionY l hinj sz hk) (cwV 2 hC.1.1.2.2.2.2 (uV uId u2088 u2089 u2090 u118 u2091) rfl rfl rfl (by decide +kernel) ⟨Nat.le_of_ble_eq_true rfl, Nat.le_of_ble_eq_true rfl⟩) rfl rfl (Nat.le_of_ble_eq_true rfl) hcs1 dL_law_2361 (fun w τ1 hk2 => ?_)
    obtain ⟨h4, hk2⟩ := hk2
    refine zl_tailI hC dL_law_2364 dL_law_2366 dL_law_2367 dL_law_2370 dL_law_2372 dL_law_2377 dL_law_2379 dL_law_2382 dL_law_2383 dL_law_2384 dL_law_2385 dL_law_2387 dL_law_2388 dL_law_2389 dL_law_2394 (by decide) hcs1 h4 (Or.inr hk1) ?_
    exact zn_widen (Nat.add_le_add_left (by decide) cells) (Nat.add_le_add_left (by decide) slots) (g _ σ1 τ1 hk2)
theorem lb_41 (hC : zLC p m c s args meth D dA (zXX aL aG aI aK aV) b L xs) {n : Nat} {μ : Int} (hst : l.stackTraces = false) (hT : TW σ τ μ) (hm : μ < 99999) (hn : 6 * n + 5 < L) (hcs : cells + 3 ≤ room_1.cells ∧ slots + 18 ≤ room_1.slots) (g : ∀ (o1 : Int64) (σ1 τ1 : zSt), TW σ1 τ1 (μ + 1) → zL p l e room_1 s m args below meth c (cells + 3) (slots + 18) Q 7 D (fun q => s.heap.size ≤ q) (3543) (zLV b ad bd od n) ([]) (zLW dA ad bd od o1 σ1 τ1)) : zL p l e room_1 s m args below meth c (cells) (slots) Q 7 D (fun q => s.heap.size ≤ q) (2397) (zLV b ad bd od n) ([]) (zLW dA ad bd od o σ τ) := by
  have hcs0 : cells ≤ room_1.cells ∧ slots ≤ room_1.slots := ⟨Nat.le_trans (Nat.le_add_right _ _) hcs.1, Nat.le_trans (Nat.le_add_right _ _) hcs.2⟩
  refine zn_aload_n hC.1 dL_law_2397 1 rfl rfl ?_
  refine zl_arg hC (n := n) 1 (by omega) 0 4 rfl rfl rfl dL_law_2398 dL_law_2399 dL_law_2401 dL_law_2402 dL_law_2403 ?_
  refine zl_arg hC (n := n) 2 (by omega) 0 4 rfl rfl rfl dL_law_2404 dL_law_2405 dL_law_2407 dL_law_2408 dL_law_2409 ?_
  refine zl_arg hC (n := n) 3 (by omega) 0 4 rfl rfl rfl dL_law_2410 dL_law_2411 dL_law_2413 dL_law_2414 dL_law_2415 ?_
  refine zl_X hC [vI (sc xs (6 * n + 1)), vI (sc xs (6 * n + 2)), vI (sc xs (6 * n + 3))] (fun hinj sz => mX11_moveFeature l hinj sz (cmd_moveFeature hT hm (sc_rg xs (6 * n + 1)) (sc_rg xs (6 * n + 2)) (sc_rg xs (6 * n + 3)))) (cwV 3 hC.1.1.2.2.2.2 (uV uId u935 u936 u937 u105 u938) rfl rfl rfl (by decide +kernel) ⟨Nat.le_of_ble_eq_true rfl, Nat.le_of_ble_eq_true rfl⟩) rfl rfl (Nat.le_of_ble_eq_true rfl) hcs0 dL_law_2416 (fun z σ1 hk => ?_)
  refine zn_aload_n hC.1 dL_law_2419 2 rfl rfl ?_
  refine zl_arg hC (n := n) 1 (by omega) 0 4 rfl rfl rfl dL_law_2420 dL_law_2421 dL_law_2423 dL_law_2424 dL_law_2425 ?_
  refine zl_arg hC (n := n) 2 (by omega) 0 4 rfl rfl rfl dL_law_2426 dL_law_2427 dL_law_2429 dL_law_2430 dL_law_2431 ?_
  refine zl_arg hC (n := n) 3 (by omega) 0 4 rfl rfl rfl dL_law_2432 dL_law_2433 dL_law_2435 dL_law_2436 dL_law_2437 ?_
  refine zl_M hC [vI (sc xs (6 * n + 1)), vI (sc xs (6 * n + 2)), vI (sc xs (6 * n + 3))] (fun hinj sz => mX12_moveFeature l hinj sz hk) (cwV 3 hC.1.1.2.2.2.2 (uV uId u1861 u1862 u1863 u118 u1864) rfl rfl rfl (by decide +kernel) ⟨Nat.le_of_ble_eq_true rfl, Nat.le_of_ble_eq_true rfl⟩) rfl rfl (Nat.le_of_ble_eq_true rfl) hcs0 dL_law_2438 (fun w τ1 hk2 => ?_)
  obtain ⟨rfl, hk2⟩ := hk2
  refine zn_eq_t (tgt := 3543) hC.1 dL_law_2441 (by decide) ?_
  exact zn_widen (Nat.le_add_right _ _) (Nat.le_add_right _ _) (g o σ1 τ1 hk2)
theorem lb_42 (hC : zLC p m c s args meth D dA (zXX aL aG aI aK aV) b L xs) {n : Nat} {μ : Int} (hst : l.stackTraces = false) (hT : TW σ τ μ) (hm : μ < 99999) (hn : 6 * n + 5 < L) (hcs : cells + 3 ≤ room_1.cells ∧ slots + 18 ≤ room_1.slots) (g : ∀ (o1 : Int64) (σ1 τ1 : zSt), TW σ1 τ1 (μ + 1) → zL p l e room_1 s m args below meth c (cells + 3) (slots + 18) Q 7 D (fun q => s.heap.size ≤ q) (3543) (zLV b ad bd od n) ([]) (zLW dA ad bd od o1 σ1 τ1)) : zL p l e room_1 s m args below meth c (cells) (slots) Q 7 D (fun q => s.heap.size ≤ q) (2446) (zLV b ad bd od n) ([]) (zLW dA ad bd od o σ τ) := by
  have hcs0 : cells ≤ room_1.cells ∧ slots ≤ room_1.slots := ⟨Nat.le_trans (Nat.le_add_right _ _) hcs.1, Nat.le_trans (Nat.le_add_right _ _) hcs.2⟩
  refine zn_aload_n hC.1 dL_law_2446 1 rfl rfl ?_
  refine zl_X hC [] (fun hinj sz => mX11_gapCount l hinj sz (cmd_gapCount hT )) (cwV 0 hC.1.1.2.2.2.2 (uV uId u941 u942 u943 u105 u944) rfl rfl rfl (by decide +kernel) ⟨Nat.le_of_ble_eq_true rfl, Nat.le_of_ble_eq_true rfl⟩) rfl rfl (Nat.le_of_ble_eq_true rfl) hcs0 dL_law_2447 (fun z σ1 hk => ?_)
  refine zn_aload_n hC.1 dL_law_2450 2 rfl rfl ?_
  refine zl_M hC [] (fun hinj sz => mX12_gapCount l hinj sz hk) (cwV 0 hC.1.1.2.2.2.2 (uV uId u2092 u2093 u2094 u118 u2095) rfl rfl rfl (by decide +kernel) ⟨Nat.le_of_ble_eq_true rfl, Nat.le_of_ble_eq_true rfl⟩) rfl rfl (Nat.le_of_ble_eq_true rfl) hcs0 dL_law_2451 (fun w τ1 hk2 => ?_)
  obtain ⟨rfl, hk2⟩ := hk2
  refine zn_eq_t (tgt := 3543) hC.1 dL_law_2454 (by decide) ?_
  exact zn_widen (Nat.le_add_right _ _) (Nat.le_add_right _ _) (g o σ1 τ1 hk2)
theorem lb_43 (hC : zLC p m c s args meth D dA (zXX aL aG aI aK aV) b L xs) {n : Nat} {μ : Int} (hst : l.stackTraces = false) (hT : TW σ τ μ) (hm : μ < 99999) (hn : 6 * n + 5 < L) (hcs : cells + 3 ≤ room_1.cells ∧ slots + 18 ≤ room_1.slots) (g : ∀ (o1 : Int64) (σ1 τ1 : zSt), TW σ1 τ1 (μ + 1) → zL p l e room_1 s m args below meth c (cells + 3) (slots + 18) Q 7 D (fun q => s.heap.size ≤ q) (3543) (zLV b ad bd od n) ([]) (zLW dA ad bd od o1 σ1 τ1)) : zL p l e room_1 s m args below meth c (cells) (slots) Q 7 D (fun q => s.heap.size ≤ q) (2459) (zLV b ad bd od n) ([]) (zLW dA ad bd od o σ τ) := by
  have hcs0 : cells ≤ room_1.cells ∧ slots ≤ room_1.slots := ⟨Nat.le_trans (Nat.le_add_right _ _) hcs.1, Nat.le_trans (Nat.le_add_right _ _) hcs.2⟩
  refine zn_aload_n hC.1 dL_law_2459 1 rfl rfl ?_
  refine zl_arg hC (n := n) 1 (by omega) 0 4 rfl rfl rfl dL_law_2460 dL_law_2461 dL_law_2463 dL_law_2464 dL_law_2465 ?_
  refine zl_X hC [vI (sc xs (6 * n + 1))] (fun hinj sz => mX11_gapStart l hinj sz (cmd_gapStart hT (sc_rg xs (6 * n + 1)))) (cwV 1 hC.1.1.2.2.2.2 (uV uId u951 u952 u953 u105 u954) rfl rfl rfl (by decide +kernel) ⟨Nat.le_of_ble_eq_true rfl, Nat.le_of_ble_eq_true rfl⟩) rfl rfl (Nat.le_of_ble_eq_true rfl) hcs0 dL_law_2466 (fun z σ1 hk => ?_)
  refine zn_aload_n hC.1 dL_law_2469 2 rfl rfl ?_
  refine zl_arg hC (n := n) 1 (by omega) 0 4 rfl rfl rfl dL_law_2470 dL_law_2471 dL_law_2473 dL_law_2474 dL_law_2475 ?_
  refine zl_M hC [vI (sc xs (6 * n + 1))] (fun hinj sz => mX12_gapStart l hinj sz hk) (cwV 1 hC.1.1.2.2.2.2 (uV uId u2100 u2101 u2102 u118 u2103) rfl rfl rfl (by decide +kernel) ⟨Nat.le_of_ble_eq_true rfl, Nat.le_of_ble_eq_true rfl⟩) rfl rfl (Nat.le_of_ble_eq_true rfl) hcs0 dL_law_2476 (fun w τ1 hk2 => ?_)
  obtain ⟨rfl, hk2⟩ := hk2
  refine zn_eq_t (tgt := 3543) hC.1 dL_law_2479 (by decide) ?_
  exact zn_widen (Nat.le_add_right _ _) (Nat.le_add_right _ _) (g o σ1 τ1 hk2)
theorem lb_44 (hC : zLC p m c s args meth D dA (zXX aL aG aI aK aV) b L xs) {n : Nat} {μ : Int} (hst : l.stackTraces = false) (hT : TW σ τ μ) (hm : μ < 99999) (hn : 6 * n + 5 < L) (hcs : cells + 3 ≤ room_1.cells ∧ slots + 18 ≤ room_1.slots) (g : ∀ (o1 : Int64) (σ1 τ1 : zSt), TW σ1 τ1 (μ + 1) → zL p l e room_1 s m args below meth c (cells + 3) (slots + 18) Q 7 D (fun q => s.heap.size ≤ q) (3543) (zLV b ad bd od n) ([]) (zLW dA ad bd od o1 σ1 τ1)) : zL p l e room_1 s m args below meth c (cells) (slots) Q 7 D (fun q => s.heap.size ≤ q) (2484) (zLV b ad bd od n) ([]) (zLW dA ad bd od o σ τ) := by
  have hcs0 : cells ≤ room_1.cells ∧ slots ≤ room_1.slots := ⟨Nat.le_trans (Nat.le_add_right _ _) hcs.1, Nat.le_trans (Nat.le_add_right _ _) hcs.2⟩
  refine zn_aload_n hC.1 dL_law_2484 1 rfl rfl ?_
  refine zl_arg hC (n := n) 1 (by omega) 0 4 rfl rfl rfl dL_law_2485 dL_law_2486 dL_law_2488 dL_law_2489 dL_law_2490 ?_
  refine zl_X hC [vI (sc xs (6 * n + 1))] (fun hinj sz => mX11_gapDays l hinj sz (cmd_gapDays hT (sc_rg xs (6 * n + 1)))) (cwV 1 hC.1.1.2.2.2.2 (uV uId u960 u961 u962 u105 u963) rfl rfl rfl (by decide +kernel) ⟨Nat.le_of_ble_eq_true rfl, Nat.le_of_ble_eq_true rfl⟩) rfl rfl (Nat.le_of_ble_eq_true rfl) hcs0 dL_law_2491 (fun z σ1 hk => ?_)
  refine zn_aload_n hC.1 dL_law_2494 2 rfl rfl ?_
  refine zl_arg hC (n := n) 1 (by omega) 0 4 rfl rfl rfl dL_law_2495 dL_law_2496 dL_law_2498 dL_law_2499 dL_law_2500 ?_
  refine zl_M hC [vI (sc xs (6 * n + 1))] (fun hinj sz => mX12_gapDays l hinj sz hk) (cwV 1 hC.1.1.2.2.2.2 (uV uId u2104 u2105 u2106 u118 u2107) rfl rfl rfl (by decide +kernel) ⟨Nat.le_of_ble_eq_true rfl, Nat.le_of_ble_eq_true rfl⟩) rfl rfl (Nat.le_of_ble_eq_true rfl) hcs0 dL_law_2501 (fun w τ1 hk2 => ?_)
  obtain ⟨rfl, hk2⟩ := hk2
  refine zn_eq_t (tgt := 3543) hC.1 dL_law_2504 (by decide) ?_
  exact zn_widen (Nat.le_add_right _ _) (Nat.le_add_right _ _) (g o σ1 τ1 hk2)
theorem lb_45 (hC : zLC p m c s args meth D dA (zXX aL aG aI aK aV) b L xs) {n : Nat} {μ : Int} (hst : l.stackTraces = false) (hT : TW σ τ μ) (hm : μ < 99999) (hn : 6 * n + 5 < L) (hcs : cells + 3 ≤ room_1.cells ∧ slots + 18 ≤ room_1.slots) (g : ∀ (o1 : Int64) (σ1 τ1 : zSt), TW σ1 τ1 (μ + 1) → zL p l e room_1 s m args below meth c (cells + 3) (slots + 18) Q 7 D (fun q => s.heap.size ≤ q) (3543) (zLV b ad bd od n) ([]) (zLW dA ad bd od o1 σ1 τ1)) : zL p l e room_1 s m args below meth c (cells) (slots) Q 7 D (fun q => s.heap.size ≤ q) (2509) (zLV b ad bd od n) ([]) (zLW dA ad bd od o σ τ) := by
  have hcs0 : cells ≤ room_1.cells ∧ slots ≤ room_1.slots := ⟨Nat.le_trans (Nat.le_add_right _ _) hcs.1, Nat.le_trans (Nat.le_add_right _ _) hcs.2⟩
  refine zn_aload_n hC.1 dL_law_2509 1 rfl rfl ?_
  refine zl_X hC [] (fun hinj sz => mX11_longestGap l hinj sz (cmd_longestGap hT )) (cwV 0 hC.1.1.2.2.2.2 (uV uId u964 u965 u966 u105 u967) rfl rfl rfl (by decide +kernel) ⟨Nat.le_of_ble_eq_true rfl, Nat.le_of_ble_eq_true rfl⟩) rfl rfl (Nat.le_of_ble_eq_true rfl) hcs0 dL_law_2510 (fun z σ1 hk => ?_)
  refine zn_aload_n hC.1 dL_law_2513 2 rfl rfl ?_
  refine zl_M hC [] (fun hinj sz => mX12_longestGap l hinj sz hk) (cwV 0 hC.1.1.2.2.2.2 (uV uId u2108 u2109 u2110 u118 u2111) rfl rfl rfl (by decide +kernel) ⟨Nat.le_of_ble_eq_true rfl, Nat.le_of_ble_eq_true rfl⟩) rfl rfl (Nat.le_of_ble_eq_true rfl) hcs0 dL_law_2514 (fun w τ1 hk2 => ?_)
  obtain ⟨rfl, hk2⟩ := hk2
  refine zn_eq_t (tgt := 3543) hC.1 dL_law_2517 (by decide) ?_
  exact zn_widen (Nat.le_add_right _ _) (Nat.le_add_right _ _) (g o σ1 τ1 hk2)
theorem lb_46 (hC : zLC p m c s args meth D dA (zXX aL aG aI aK aV) b L xs) {n : Nat} {μ : Int} (hst : l.stackTraces = false) (hT : TW σ τ μ) (hm : μ < 99999) (hn : 6 * n + 5 < L) (hcs : cells + 3 ≤ room_1.cells ∧ slots + 18 ≤ room_1.slots) (g : ∀ (o1 : Int64) (σ1 τ1 : zSt), TW σ1 τ1 (μ + 1) → zL p l e room_1 s m args below meth c (cells + 3) (slots + 18) Q 7 D (fun q => s.heap.size ≤ q) (3543) (zLV b ad bd od n) ([]) (zLW dA ad bd od o1 σ1 τ1)) : zL p l e room_1 s m args below meth c (cells) (slots) Q 7 D (fun q => s.heap.size ≤ q) (2522) (zLV b ad bd od n) ([]) (zLW dA ad bd od o σ τ) := by
  have hcs0 : cells ≤ room_1.cells ∧ slots ≤ room_1.slots := ⟨Nat.le_trans (Nat.le_add_right _ _) hcs.1, Nat.le_trans (Nat.le_add_right _ _) hcs.2⟩
  refine zn_aload_n hC.1 dL_law_2522 1 rfl rfl ?_
  refine zl_arg hC (n := n) 1 (by omega) 0 4 rfl rfl rfl dL_law_2523 dL_law_2524 dL_law_2526 dL_law_2527 dL_law_2528 ?_
  refine zn_aload_n hC.1 dL_law_2529 3 rfl rfl ?_
  refine zl_H hC (G := fun z o1 σ1 => (∃ v : Int, z = 0 ∧ o1 = (Int32.ofInt v).toInt64 ∧ cE (μ + 1) (fun K => fX12_readingCount K τ (sc xs (6 * n + 1))) v σ1) ∨ ∃ k : Int, z = k ∧ (k = 1 ∨ k = 2) ∧ fX12_readingCount (fun _ τ1 => τ1 0 4 = k ∧ TW σ1 τ1 (μ + 1)) τ (sc xs (6 * n + 1))) [vI (sc xs (6 * n + 1)), .ref od] (fun sz => cH_readingCount l hst D dA aL aG aI aK aV ad od sz σ o (cmd_readingCount hT (sc_rg xs (6 * n + 1))) (fun v σ1 hk => Or.inl ⟨v, rfl, rfl, hk⟩) (fun E σ1 hk => ⟨hk.1, Or.inr ⟨1, rfl, Or.inl rfl, hk.2⟩⟩)) (vx_cwSW 3 hC.1.1.2.2.2.2 (uSW uId u1408 u1409 u104 uh_readingCount) rfl rfl rfl (by decide +kernel) ⟨Nat.le_of_ble_eq_true rfl, Nat.le_of_ble_eq_true rfl⟩) rfl rfl (Nat.le_of_ble_eq_true rfl) ⟨Nat.le_trans (Nat.add_le_add_left (by decide) cells) hcs.1, Nat.le_trans (Nat.add_le_add_left (by decide) slots) hcs.2⟩ dL_law_2530 (fun z o1 σ1 hk => ?_)
  have hcs1 : cells + 1 ≤ room_1.cells ∧ slots + 6 ≤ room_1.slots := ⟨Nat.le_trans (Nat.add_le_add_left (by decide) cells) hcs.1, Nat.le_trans (Nat.add_le_add_left (by decide) slots) hcs.2⟩
  refine zn_istore hC.1 ((5, vI z) :: zLV b ad bd od n) dL_law_2533 (by decide) rfl ?_
  refine zn_aload_n hC.1 dL_law_2535 3 rfl rfl ?_
  refine zl_arg hC (n := n) 1 (by omega) 1 5 rfl rfl rfl dL_law_2536 dL_law_2537 dL_law_2539 dL_law_2540 dL_law_2541 ?_
  rcases hk with ⟨v, rfl, rfl, hk⟩ | ⟨k, rfl, hk1, hk⟩
  · refine zl_M hC [vI (sc xs (6 * n + 1))] (fun hinj sz => mX12_readingCount l hinj sz hk) (cwV 1 hC.1.1.2.2.2.2 (uV uId u2112 u2113 u2114 u118 u2115) rfl rfl rfl (by decide +kernel) ⟨Nat.le_of_ble_eq_true rfl, Nat.le_of_ble_eq_true rfl⟩) rfl rfl (Nat.le_of_ble_eq_true rfl) hcs1 dL_law_2542 (fun w τ1 hk2 => ?_)
    obtain ⟨h4, rfl, hk2⟩ := hk2
    refine zl_tailI hC dL_law_2545 dL_law_2547 dL_law_2548 dL_law_2551 dL_law_2553 dL_law_2558 dL_law_2560 dL_law_2563 dL_law_2564 dL_law_2565 dL_law_2566 dL_law_2568 dL_law_2569 dL_law_2570 dL_law_2575 (by decide) hcs1 h4 (Or.inl ⟨rfl, rfl⟩) ?_
    exact zn_widen (Nat.add_le_add_left (by decide) cells) (Nat.add_le_add_left (by decide) slots) (g _ σ1 τ1 hk2)
  · refine zl_M hC [vI (sc xs (6 * n + 1))] (fun hinj sz => mX12_readingCount l hinj sz hk) (cwV 1 hC.1.1.2.2.2.2 (uV uId u2112 u2113 u2114 u118 u2115) rfl rfl rfl (by decide +kernel) ⟨Nat.le_of_ble_eq_true rfl, Nat.le_of_ble_eq_true rfl⟩) rfl rfl (Nat.le_of_ble_eq_true rfl) hcs1 dL_law_2542 (fun w τ1 hk2 => ?_)
    obtain ⟨h4, hk2⟩ := hk2
    refine zl_tailI hC dL_law_2545 dL_law_2547 dL_law_2548 dL_law_2551 dL_law_2553 dL_law_2558 dL_law_2560 dL_law_2563 dL_law_2564 dL_law_2565 dL_law_2566 dL_law_2568 dL_law_2569 dL_law_2570 dL_law_2575 (by decide) hcs1 h4 (Or.inr hk1) ?_
    exact zn_widen (Nat.add_le_add_left (by decide) cells) (Nat.add_le_add_left (by decide) slots) (g _ σ1 τ1 hk2)
theorem lb_47 (hC : zLC p m c s args meth D dA (zXX aL aG aI aK aV) b L xs) {n : Nat} {μ : Int} (hst : l.stackTraces = false) (hT : TW σ τ μ) (hm : μ < 99999) (hn : 6 * n + 5 < L) (hcs : cells + 3 ≤ room_1.cells ∧ slots + 18 ≤ room_1.slots) (g : ∀ (o1 : Int64) (σ1 τ1 : zSt), TW σ1 τ1 (μ + 1) → zL p l e room_1 s m args below meth c (cells + 3) (slots + 18) Q 7 D (fun q => s.heap.size ≤ q) (3543) (zLV b ad bd od n) ([]) (zLW dA ad bd od o1 σ1 τ1)) : zL p l e room_1 s m args below meth c (cells) (slots) Q 7 D (fun q => s.heap.size ≤ q) (2578) (zLV b ad bd od n) ([]) (zLW dA ad bd od o σ τ) := by
  have hcs0 : cells ≤ room_1.cells ∧ slots ≤ room_1.slots := ⟨Nat.le_trans (Nat.le_add_right _ _) hcs.1, Nat.le_trans (Nat.le_add_right _ _) hcs.2⟩
  refine zn_aload_n hC.1 dL_law_2578 1 rfl rfl ?_
  refine zl_arg hC (n := n) 1 (by omega) 0 4 rfl rfl rfl dL_law_2579 dL_law_2580 dL_law_2582 dL_law_2583 dL_law_2584 ?_
  refine zl_arg hC (n := n) 2 (by omega) 0 4 rfl rfl rfl dL_law_2585 dL_law_2586 dL_law_2588 dL_law_2589 dL_law_2590 ?_
  refine zn_aload_n hC.1 dL_law_2591 3 rfl rfl ?_
  refine zl_H hC (G := fun z o1 σ1 => (∃ v : Int, z = 0 ∧ o1 = (Int32.ofInt v).toInt64 ∧ cE (μ + 1) (fun K => fX12_readingDay K τ (sc xs (6 * n + 1)) (sc xs (6 * n + 2))) v σ1) ∨ ∃ k : Int, z = k ∧ (k = 1 ∨ k = 2) ∧ fX12_readingDay (fun _ τ1 => τ1 0 4 = k ∧ TW σ1 τ1 (μ + 1)) τ (sc xs (6 * n + 1)) (sc xs (6 * n + 2))) [vI (sc xs (6 * n + 1)), vI (sc xs (6 * n + 2)), .ref od] (fun sz => cH_readingDay l hst D dA aL aG aI aK aV ad od sz σ o (cmd_readingDay hT (sc_rg xs (6 * n + 1)) (sc_rg xs (6 * n + 2))) (fun v σ1 hk => Or.inl ⟨v, rfl, rfl, hk⟩) (fun E σ1 hk => ⟨hk.1, Or.inr ⟨1, rfl, Or.inl rfl, hk.2⟩⟩)) (vx_cwSW 4 hC.1.1.2.2.2.2 (uSW uId u1420 u1421 u104 uh_readingDay) rfl rfl rfl (by decide +kernel) ⟨Nat.le_of_ble_eq_true rfl, Nat.le_of_ble_eq_true rfl⟩) rfl rfl (Nat.le_of_ble_eq_true rfl) ⟨Nat.le_trans (Nat.add_le_add_left (by decide) cells) hcs.1, Nat.le_trans (Nat.add_le_add_left (by decide) slots) hcs.2⟩ dL_law_2592 (fun z o1 σ1 hk => ?_)
  have hcs1 : cells + 2 ≤ room_1.cells ∧ slots + 12 ≤ room_1.slots := ⟨Nat.le_trans (Nat.add_le_add_left (by decide) cells) hcs.1, Nat.le_trans (Nat.add_le_add_left (by decide) slots) hcs.2⟩
  refine zn_istore hC.1 ((5, vI z) :: zLV b ad bd od n) dL_law_2595 (by decide) rfl ?_
  refine zn_aload_n hC.1 dL_law_2597 3 rfl rfl ?_
  refine zl_arg hC (n := n) 1 (by omega) 1 5 rfl rfl rfl dL_law_2598 dL_law_2599 dL_law_2601 dL_law_2602 dL_law_2603 ?_
  refine zl_arg hC (n := n) 2 (by omega) 1 5 rfl rfl rfl dL_law_2604 dL_law_2605 dL_law_2607 dL_law_2608 dL_law_2609 ?_
  rcases hk with ⟨v, rfl, rfl, hk⟩ | ⟨k, rfl, hk1, hk⟩
  · refine zl_M hC [vI (sc xs (6 * n + 1)), vI (sc xs (6 * n + 2))] (fun hinj sz => mX12_readingDay l hinj sz hk) (cwV 2 hC.1.1.2.2.2.2 (uV uId u2124 u2125 u2126 u118 u2127) rfl rfl rfl (by decide +kernel) ⟨Nat.le_of_ble_eq_true rfl, Nat.le_of_ble_eq_true rfl⟩) rfl rfl (Nat.le_of_ble_eq_true rfl) hcs1 dL_law_2610 (fun w τ1 hk2 => ?_)
    obtain ⟨h4, rfl, hk2⟩ := hk2
    refine zl_tailI hC dL_law_2613 dL_law_2615 dL_law_2616 dL_law_2619 dL_law_2621 dL_law_2626 dL_law_2628 dL_law_2631 dL_law_2632 dL_law_2633 dL_law_2634 dL_law_2636 dL_law_2637 dL_law_2638 dL_law_2643 (by decide) hcs1 h4 (Or.inl ⟨rfl, rfl⟩) ?_
    exact zn_widen (Nat.add_le_add_left (by decide) cells) (Nat.add_le_add_left (by decide) slots) (g _ σ1 τ1 hk2)
  · refine zl_M hC [vI (sc xs (6 * n + 1)), vI (sc xs (6 * n + 2))] (fun hinj sz => mX12_readingDay l hinj sz hk) (cwV 2 hC.1.1.2.2.2.2 (uV uId u2124 u2125 u2126 u118 u2127) rfl rfl rfl (by decide +kernel) ⟨Nat.le_of_ble_eq_true rfl, Nat.le_of_ble_eq_true rfl⟩) rfl rfl (Nat.le_of_ble_eq_true rfl) hcs1 dL_law_2610 (fun w τ1 hk2 => ?_)
    obtain ⟨h4, hk2⟩ := hk2
    refine zl_tailI hC dL_law_2613 dL_law_2615 dL_law_2616 dL_law_2619 dL_law_2621 dL_law_2626 dL_law_2628 dL_law_2631 dL_law_2632 dL_law_2633 dL_law_2634 dL_law_2636 dL_law_2637 dL_law_2638 dL_law_2643 (by decide) hcs1 h4 (Or.inr hk1) ?_
    exact zn_widen (Nat.add_le_add_left (by decide) cells) (Nat.add_le_add_left (by decide) slots) (g _ σ1 τ1 hk2)
end ZLD2
