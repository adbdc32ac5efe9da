/-! bits: what the machine's masks and shifts are of integers -/
theorem zi_and (x : Int) (q : Nat) (h0 : 0 < q) (hq : q ≤ 2147483648) (hd : (q : Int) ∣ 4294967296) (hm : ∀ n : Nat, n &&& (q - 1) = n % q) : Int32.ofInt x &&& Int32.ofInt ((q : Int) - 1) = Int32.ofInt (x % q) := by
  apply Int32.toBitVec_inj.mp
  rw [Int32.toBitVec_and, Int32.toBitVec_ofInt, Int32.toBitVec_ofInt, Int32.toBitVec_ofInt]
  have e : BitVec.ofInt 32 ((q : Int) - 1) = BitVec.ofNat 32 (q - 1) := by
    have : ((q : Int) - 1) = (((q - 1 : Nat)) : Int) := by omega
    rw [this, BitVec.ofInt_natCast]
  rw [e]
  apply BitVec.eq_of_toNat_eq
  rw [BitVec.toNat_and, BitVec.toNat_ofInt, BitVec.toNat_ofInt, BitVec.toNat_ofNat, Nat.mod_eq_of_lt (by omega), hm]
  have h1 : 0 ≤ x % q := Int.emod_nonneg _ (by omega)
  have h2 : x % q < q := Int.emod_lt_of_pos _ (by omega)
  have e32 : ((2 ^ 32 : Nat) : Int) = 4294967296 := by decide +kernel
  rw [e32]
  rw [Int.emod_eq_of_lt h1 (by omega)]
  have h5 : 0 ≤ x % 4294967296 := Int.emod_nonneg _ (by decide)
  have h4 : (((x % 4294967296).toNat % q : Nat) : Int) = x % q := by
    rw [Int.natCast_emod, Int.toNat_of_nonneg h5]
    exact Int.emod_emod_of_dvd x hd
  omega
theorem zi_and255 (x : Int) : Int32.ofInt x &&& Int32.ofInt 255 = Int32.ofInt (x % 256) := zi_and x 256 (by decide) (by decide) (by decide) (fun n => Nat.and_two_pow_sub_one_eq_mod n 8)
theorem zi_and63 (x : Int) : Int32.ofInt x &&& Int32.ofInt 63 = Int32.ofInt (x % 64) := zi_and x 64 (by decide) (by decide) (by decide) (fun n => Nat.and_two_pow_sub_one_eq_mod n 6)
theorem zi_and1 (x : Int) : Int32.ofInt x &&& Int32.ofInt 1 = Int32.ofInt (x % 2) := zi_and x 2 (by decide) (by decide) (by decide) (fun n => Nat.and_two_pow_sub_one_eq_mod n 1)
theorem zi_b (x : Int) : (Int32.ofInt x).toInt8.toInt32 = Int32.ofInt (x.bmod 256) := by
  rw [← Int32.toInt_inj, Int8.toInt_toInt32, Int32.toInt_toInt8, Int32.toInt_ofInt, Int32.toInt_ofInt]
  have h1 : -128 ≤ x.bmod 256 := Int.le_bmod (by decide)
  have h2 : x.bmod 256 < 128 := Int.bmod_lt (by decide)
  rw [Int.bmod_bmod_of_dvd (by decide)]
  have e32 : (Int32.size : Int) = 4294967296 := by decide +kernel
  rw [Int.bmod_eq_of_le (n := x.bmod 256) (by rw [e32]; omega) (by rw [e32]; omega)]
theorem zi_sm {y : Int} (h0 : 0 ≤ y) (h1 : y < 32) : Int32.ofInt y &&& 31 = nI y.toNat := by
  obtain ⟨n, rfl⟩ : ∃ n : Nat, y = n := ⟨y.toNat, by omega⟩
  have hn : n < 32 := by omega
  have : ∀ n : Nat, n < 32 → Int32.ofInt (n : Int) &&& 31 = nI n := by decide +kernel
  exact this n hn
theorem zi_shr {x y : Int} (hx : zrg x) (h0 : 0 ≤ y) (h1 : y < 32) : Int32.ofInt x >>> Int32.ofInt y = Int32.ofInt (x / 2 ^ y.toNat) := by
  obtain ⟨n, rfl⟩ : ∃ n : Nat, y = n := ⟨y.toNat, by omega⟩
  have hn : n < 32 := by omega
  have hs : ((Int32.ofInt (n : Int)).toBitVec.smod 32).toNat = n := by
    have : ∀ n : Nat, n < 32 → ((Int32.ofInt (n : Int)).toBitVec.smod 32).toNat = n := by decide +kernel
    exact this n hn
  have h := pk_shr (Int32.ofInt x) (Int32.ofInt (n : Int)) n hs
  rw [← Int32.toInt_inj, h, zi_t hx, Int.shiftRight_eq_div_pow]
  have hp : (1 : Int) ≤ 2 ^ n := Int.pow_pos (by decide)
  have hb : zrg (x / 2 ^ n) := by
    have g1 : -2147483648 ≤ x / 2 ^ n := by
      rw [Int.le_ediv_iff_mul_le (by omega)]
      have := hx.1
      have : (-2147483648 : Int) * 2 ^ n ≤ -2147483648 * 1 := Int.mul_le_mul_of_nonpos_left (by decide) hp
      omega
    have g2 : x / 2 ^ n < 2147483648 := by
      rw [Int.ediv_lt_iff_lt_mul (by omega)]
      have := hx.2
      have : (2147483648 : Int) * 1 ≤ 2147483648 * 2 ^ n := Int.mul_le_mul_of_nonneg_left hp (by decide)
      omega
    exact ⟨g1, g2⟩
  rw [zi_t (by simpa using hb)]
  simp
theorem zi_s31 {y : Int} (h0 : 0 ≤ y) (h1 : y < 32) : Int32.ofInt y &&& 31 = Int32.ofInt y := by
  obtain ⟨n, rfl⟩ : ∃ n : Nat, y = n := ⟨y.toNat, by omega⟩
  have : ∀ n : Nat, n < 32 → Int32.ofInt (n : Int) &&& 31 = Int32.ofInt (n : Int) := by decide +kernel
  exact this n (by omega)
theorem zi_shl (x : Int) {y : Int} (h0 : 0 ≤ y) (h1 : y < 32) : Int32.ofInt x <<< (Int32.ofInt y &&& 31) = Int32.ofInt (x * 2 ^ y.toNat) := by
  rw [zi_s31 h0 h1]
  obtain ⟨n, rfl⟩ : ∃ n : Nat, y = n := ⟨y.toNat, by omega⟩
  have hn : n < 32 := by omega
  have hs : ((Int32.ofInt (n : Int)).toBitVec.smod 32).toNat = n := by
    have : ∀ n : Nat, n < 32 → ((Int32.ofInt (n : Int)).toBitVec.smod 32).toNat = n := by decide +kernel
    exact this n hn
  apply Int32.toBitVec_inj.mp
  show (Int32.ofInt x).toBitVec <<< ((Int32.ofInt (n : Int)).toBitVec.smod 32) = _
  rw [BitVec.shiftLeft_eq', hs, Int32.toBitVec_ofInt, Int32.toBitVec_ofInt, BitVec.shiftLeft_eq_mul_twoPow, BitVec.ofInt_mul]
  congr 1
  rw [BitVec.twoPow_eq, show ((2 : Int) ^ ((n : Int)).toNat) = ((2 ^ n : Nat) : Int) by simp, BitVec.ofInt_natCast]
  apply BitVec.eq_of_toNat_eq
  simp [Nat.shiftLeft_eq]
theorem zl_s63 : ∀ n : Nat, n < 32 → (Int32.ofInt (n : Int)).toInt64 &&& 63 = Int64.ofInt (n : Int) := by decide +kernel
theorem zl_sm : ∀ n : Nat, n < 32 → ((Int64.ofInt (n : Int)).toBitVec.smod 64).toNat = n := by decide +kernel
theorem zl_shl (x : Int) {y : Int} (h0 : 0 ≤ y) (h1 : y < 32) : Int64.ofInt x <<< ((Int32.ofInt y).toInt64 &&& 63) = Int64.ofInt (x * 2 ^ y.toNat) := by
  obtain ⟨n, rfl⟩ : ∃ n : Nat, y = n := ⟨y.toNat, by omega⟩
  have hn : n < 32 := by omega
  rw [zl_s63 n hn]
  apply Int64.toBitVec_inj.mp
  show (Int64.ofInt x).toBitVec <<< ((Int64.ofInt (n : Int)).toBitVec.smod 64) = _
  rw [BitVec.shiftLeft_eq', zl_sm n hn, Int64.toBitVec_ofInt, Int64.toBitVec_ofInt, BitVec.shiftLeft_eq_mul_twoPow, BitVec.ofInt_mul]
  congr 1
  rw [BitVec.twoPow_eq, show ((2 : Int) ^ ((n : Int)).toNat) = ((2 ^ n : Nat) : Int) by simp, BitVec.ofInt_natCast]
  apply BitVec.eq_of_toNat_eq
  simp [Nat.shiftLeft_eq]
theorem zl_shr {x y : Int} (hx : zrl x) (h0 : 0 ≤ y) (h1 : y < 32) : Int64.ofInt x >>> ((Int32.ofInt y).toInt64 &&& 63) = Int64.ofInt (x / 2 ^ y.toNat) := by
  obtain ⟨n, rfl⟩ : ∃ n : Nat, y = n := ⟨y.toNat, by omega⟩
  have hn : n < 32 := by omega
  rw [zl_s63 n hn]
  have h : (Int64.ofInt x >>> Int64.ofInt (n : Int)).toInt = (Int64.ofInt x).toInt >>> n := by
    show ((Int64.ofInt x).toBitVec.sshiftRight ((Int64.ofInt (n : Int)).toBitVec.smod 64).toNat).toInt = _
    rw [zl_sm n hn, BitVec.toInt_sshiftRight]
    rfl
  rw [← Int64.toInt_inj, h, zl_t hx, Int.shiftRight_eq_div_pow]
  have hp : (1 : Int) ≤ 2 ^ n := Int.pow_pos (by decide)
  have hb : zrl (x / 2 ^ n) := by
    have g1 : -9223372036854775808 ≤ x / 2 ^ n := by
      rw [Int.le_ediv_iff_mul_le (by omega)]
      have := hx.1
      have : (-9223372036854775808 : Int) * 2 ^ n ≤ -9223372036854775808 * 1 := Int.mul_le_mul_of_nonpos_left (by decide) hp
      omega
    have g2 : x / 2 ^ n < 9223372036854775808 := by
      rw [Int.ediv_lt_iff_lt_mul (by omega)]
      have := hx.2
      have : (9223372036854775808 : Int) * 1 ≤ 9223372036854775808 * 2 ^ n := Int.mul_le_mul_of_nonneg_left hp (by decide)
      omega
    exact ⟨g1, g2⟩
  rw [zl_t (by simpa using hb)]
  simp
theorem zi_or {x y : Int} (hx : 0 ≤ x) (hy : 0 ≤ y) : Int32.ofInt x ||| Int32.ofInt y = Int32.ofInt ((x.toNat ||| y.toNat : Nat) : Int) := by
  obtain ⟨a, rfl⟩ : ∃ n : Nat, x = n := ⟨x.toNat, by omega⟩
  obtain ⟨b, rfl⟩ : ∃ n : Nat, y = n := ⟨y.toNat, by omega⟩
  apply Int32.toBitVec_inj.mp
  rw [Int32.toBitVec_or, Int32.toBitVec_ofInt, Int32.toBitVec_ofInt, Int32.toBitVec_ofInt, BitVec.ofInt_natCast, BitVec.ofInt_natCast, BitVec.ofInt_natCast, Int.toNat_natCast, Int.toNat_natCast]
  apply BitVec.eq_of_toNat_eq
  rw [BitVec.toNat_or, BitVec.toNat_ofNat, BitVec.toNat_ofNat, BitVec.toNat_ofNat, Nat.or_mod_two_pow]
theorem zl_or {x y : Int} (hx : 0 ≤ x) (hy : 0 ≤ y) : Int64.ofInt x ||| Int64.ofInt y = Int64.ofInt ((x.toNat ||| y.toNat : Nat) : Int) := by
  obtain ⟨a, rfl⟩ : ∃ n : Nat, x = n := ⟨x.toNat, by omega⟩
  obtain ⟨b, rfl⟩ : ∃ n : Nat, y = n := ⟨y.toNat, by omega⟩
  apply Int64.toBitVec_inj.mp
  rw [Int64.toBitVec_or, Int64.toBitVec_ofInt, Int64.toBitVec_ofInt, Int64.toBitVec_ofInt, BitVec.ofInt_natCast, BitVec.ofInt_natCast, BitVec.ofInt_natCast, Int.toNat_natCast, Int.toNat_natCast]
  apply BitVec.eq_of_toNat_eq
  rw [BitVec.toNat_or, BitVec.toNat_ofNat, BitVec.toNat_ofNat, BitVec.toNat_ofNat, Nat.or_mod_two_pow]
def zcmp (x y : Int) : Int := if y < x then 1 else if x = y then 0 else -1
theorem zcmp_rg (x y : Int) : zrg (zcmp x y) := by unfold zcmp zrg; split <;> (try split) <;> omega
theorem zcmp_eq {x y : Int} : zcmp x y = 0 ↔ x = y := by unfold zcmp; split <;> (try split) <;> omega
theorem zcmp_le {x y : Int} : zcmp x y ≤ 0 ↔ x ≤ y := by unfold zcmp; split <;> (try split) <;> omega
theorem zcmp_gt {x y : Int} : 0 < zcmp x y ↔ y < x := by unfold zcmp; split <;> (try split) <;> omega
theorem zcmp_ge {x y : Int} : 0 ≤ zcmp x y ↔ y ≤ x := by unfold zcmp; split <;> (try split) <;> omega
theorem zcmp_lt {x y : Int} : zcmp x y < 0 ↔ x < y := by unfold zcmp; split <;> (try split) <;> omega
theorem zl_cmp {x y : Int} (hx : zrl x) (hy : zrl y) : lg_cmp (Int64.ofInt x) (Int64.ofInt y) = Int32.ofInt (zcmp x y) := by
  have h1 := zl_lt hy hx
  have h2 := zl_eq hx hy
  unfold lg_cmp zcmp
  by_cases a : y < x
  · rw [if_pos (h1.mpr a), if_pos a]; rfl
  · rw [if_neg (fun z => a (h1.mp z)), if_neg a]
    by_cases b : x = y
    · rw [if_pos (h2.mpr b), if_pos b]; rfl
    · rw [if_neg (fun z => b (h2.mp z)), if_neg b]; rfl

section ZR4
variable {p : Program} {l : Launch} {e : Env} {R : Room} {s : State} {m : MethodId} {args : Array Value} {below : List Frame} {meth : Method} {c : Code} {cells slots : Nat} {Q : State → Prop}
variable {cc : ByteArray} {nL : Nat} {Ts : List Cond} {own : String} {D : va_G} {cl : List vw_C} {tys : List (ClassId × FieldType)} {A : Nat → Prop} {N : Nat} {ad : Nat → Nat} {cel : zSt → Nat → va_E}
variable {pc : Nat} {lv : List (Nat × Value)} {stk : List Value} {σ : zSt}
theorem z_iand255 (hC : zC p m c cc nL s args Ts own meth D cl tys A N ad cel) {x : Int} (hdg : decode cc pc = .ok (.iand, 1)) (g : zAt p l e R s m args below meth c cells slots Q nL D cl A N ad cel (pc + 1) (lv) (vI (x % 256) :: stk) (σ)) : zAt p l e R s m args below meth c cells slots Q nL D cl A N ad cel (pc) lv (vI 255 :: vI x :: stk) σ :=
  fun H locs ls hP hS hl => lv_iand hC.1.1 hC.1.2.1 hdg (zi_and255 x ▸ g H locs ls hP hS hl)
theorem z_iand63 (hC : zC p m c cc nL s args Ts own meth D cl tys A N ad cel) {x : Int} (hdg : decode cc pc = .ok (.iand, 1)) (g : zAt p l e R s m args below meth c cells slots Q nL D cl A N ad cel (pc + 1) (lv) (vI (x % 64) :: stk) (σ)) : zAt p l e R s m args below meth c cells slots Q nL D cl A N ad cel (pc) lv (vI 63 :: vI x :: stk) σ :=
  fun H locs ls hP hS hl => lv_iand hC.1.1 hC.1.2.1 hdg (zi_and63 x ▸ g H locs ls hP hS hl)
theorem z_iand1 (hC : zC p m c cc nL s args Ts own meth D cl tys A N ad cel) {x : Int} (hdg : decode cc pc = .ok (.iand, 1)) (g : zAt p l e R s m args below meth c cells slots Q nL D cl A N ad cel (pc + 1) (lv) (vI (x % 2) :: stk) (σ)) : zAt p l e R s m args below meth c cells slots Q nL D cl A N ad cel (pc) lv (vI 1 :: vI x :: stk) σ :=
  fun H locs ls hP hS hl => lv_iand hC.1.1 hC.1.2.1 hdg (zi_and1 x ▸ g H locs ls hP hS hl)
theorem z_ior (hC : zC p m c cc nL s args Ts own meth D cl tys A N ad cel) {x y : Int} (hx : 0 ≤ x) (hy : 0 ≤ y) (hdg : decode cc pc = .ok (.ior, 1)) (g : zAt p l e R s m args below meth c cells slots Q nL D cl A N ad cel (pc + 1) (lv) (vI ((x.toNat ||| y.toNat : Nat) : Int) :: stk) (σ)) : zAt p l e R s m args below meth c cells slots Q nL D cl A N ad cel (pc) lv (vI y :: vI x :: stk) σ :=
  fun H locs ls hP hS hl => lv_ior hC.1.1 hC.1.2.1 hdg (zi_or hx hy ▸ g H locs ls hP hS hl)
theorem z_lor (hC : zC p m c cc nL s args Ts own meth D cl tys A N ad cel) {x y : Int} (hx : 0 ≤ x) (hy : 0 ≤ y) (hdg : decode cc pc = .ok (.lor, 1)) (g : zAt p l e R s m args below meth c cells slots Q nL D cl A N ad cel (pc + 1) (lv) (vL ((x.toNat ||| y.toNat : Nat) : Int) :: stk) (σ)) : zAt p l e R s m args below meth c cells slots Q nL D cl A N ad cel (pc) lv (vL y :: vL x :: stk) σ :=
  fun H locs ls hP hS hl => lv_lor hC.1.1 hC.1.2.1 hdg (zl_or hx hy ▸ g H locs ls hP hS hl)
theorem z_ishl (hC : zC p m c cc nL s args Ts own meth D cl tys A N ad cel) {x y : Int} (hy : 0 ≤ y ∧ y < 32) (hdg : decode cc pc = .ok (.ishl, 1)) (g : zAt p l e R s m args below meth c cells slots Q nL D cl A N ad cel (pc + 1) (lv) (vI (x * 2 ^ y.toNat) :: stk) (σ)) : zAt p l e R s m args below meth c cells slots Q nL D cl A N ad cel (pc) lv (vI y :: vI x :: stk) σ :=
  fun H locs ls hP hS hl => lv_ishl hC.1.1 hC.1.2.1 hdg (zi_shl x hy.1 hy.2 ▸ g H locs ls hP hS hl)
theorem z_ishr (hC : zC p m c cc nL s args Ts own meth D cl tys A N ad cel) {x y : Int} (hx : zrg x) (hy : 0 ≤ y ∧ y < 32) (hdg : decode cc pc = .ok (.ishr, 1)) (g : zAt p l e R s m args below meth c cells slots Q nL D cl A N ad cel (pc + 1) (lv) (vI (x / 2 ^ y.toNat) :: stk) (σ)) : zAt p l e R s m args below meth c cells slots Q nL D cl A N ad cel (pc) lv (vI y :: vI x :: stk) σ :=
  fun H locs ls hP hS hl => lv_ishr hC.1.1 hC.1.2.1 hdg ((zi_s31 hy.1 hy.2).symm ▸ zi_shr hx hy.1 hy.2 ▸ g H locs ls hP hS hl)
theorem z_lshl (hC : zC p m c cc nL s args Ts own meth D cl tys A N ad cel) {x y : Int} (hy : 0 ≤ y ∧ y < 32) (hdg : decode cc pc = .ok (.lshl, 1)) (g : zAt p l e R s m args below meth c cells slots Q nL D cl A N ad cel (pc + 1) (lv) (vL (x * 2 ^ y.toNat) :: stk) (σ)) : zAt p l e R s m args below meth c cells slots Q nL D cl A N ad cel (pc) lv (vI y :: vL x :: stk) σ :=
  fun H locs ls hP hS hl => lv_lshl hC.1.1 hC.1.2.1 hdg (zl_shl x hy.1 hy.2) (g H locs ls hP hS hl)
theorem z_lshr (hC : zC p m c cc nL s args Ts own meth D cl tys A N ad cel) {x y : Int} (hx : zrl x) (hy : 0 ≤ y ∧ y < 32) (hdg : decode cc pc = .ok (.lshr, 1)) (g : zAt p l e R s m args below meth c cells slots Q nL D cl A N ad cel (pc + 1) (lv) (vL (x / 2 ^ y.toNat) :: stk) (σ)) : zAt p l e R s m args below meth c cells slots Q nL D cl A N ad cel (pc) lv (vI y :: vL x :: stk) σ :=
  fun H locs ls hP hS hl => lv_lshr hC.1.1 hC.1.2.1 hdg (zl_shr hx hy.1 hy.2) (g H locs ls hP hS hl)
theorem z_i2b (hC : zC p m c cc nL s args Ts own meth D cl tys A N ad cel) {x : Int} (hdg : decode cc pc = .ok (.i2b, 1)) (g : zAt p l e R s m args below meth c cells slots Q nL D cl A N ad cel (pc + 1) (lv) (vI (x.bmod 256) :: stk) (σ)) : zAt p l e R s m args below meth c cells slots Q nL D cl A N ad cel (pc) lv (vI x :: stk) σ :=
  fun H locs ls hP hS hl => lv_i2b hC.1.1 hC.1.2.1 hdg (zi_b x) (g H locs ls hP hS hl)
theorem z_lcmp (hC : zC p m c cc nL s args Ts own meth D cl tys A N ad cel) {x y : Int} (hx : zrl x) (hy : zrl y) (hdg : decode cc pc = .ok (.lcmp, 1)) (g : zAt p l e R s m args below meth c cells slots Q nL D cl A N ad cel (pc + 1) (lv) (vI (zcmp x y) :: stk) (σ)) : zAt p l e R s m args below meth c cells slots Q nL D cl A N ad cel (pc) lv (vL y :: vL x :: stk) σ :=
  fun H locs ls hP hS hl => W.lcmp hC.1.1 hC.1.2.1 hdg (zl_cmp hx hy ▸ g H locs ls hP hS hl)
theorem zi_max {x y : Int} (hx : zrg x) (hy : zrg y) : (if Int32.ofInt x < Int32.ofInt y then Int32.ofInt y else Int32.ofInt x) = Int32.ofInt (max x y) := by
  by_cases h : x < y
  · rw [if_pos ((zi_lt hx hy).mpr h), Int.max_eq_right (by omega)]
  · rw [if_neg (fun z => h ((zi_lt hx hy).mp z)), Int.max_eq_left (by omega)]
theorem zi_min {x y : Int} (hx : zrg x) (hy : zrg y) : (if Int32.ofInt y < Int32.ofInt x then Int32.ofInt y else Int32.ofInt x) = Int32.ofInt (min x y) := by
  by_cases h : y < x
  · rw [if_pos ((zi_lt hy hx).mpr h), Int.min_eq_right (by omega)]
  · rw [if_neg (fun z => h ((zi_lt hy hx).mp z)), Int.min_eq_left (by omega)]
theorem zi_abs {x : Int} (hx : zrg x) : (if 0 ≤ Int32.ofInt x then Int32.ofInt x else 0 - Int32.ofInt x) = Int32.ofInt (x.natAbs : Int) := by
  show (if Int32.ofInt 0 ≤ Int32.ofInt x then _ else _) = _
  by_cases h : 0 ≤ x
  · rw [if_pos ((zi_le z_0 hx).mpr h)]; congr 1; omega
  · rw [if_neg (fun z => h ((zi_le z_0 hx).mp z))]
    show Int32.ofInt 0 - _ = _
    rw [← Int32.ofInt_sub]; congr 1; omega
theorem z_mmax (hC : zC p m c cc nL s args Ts own meth D cl tys A N ad cel) {index : Nat} {x y : Int} (hx : zrg x) (hy : zrg y) (hin : ∀ w ∈ ([Cond.methodLink own index Lib.Math.max.name, Cond.static Lib.Math.max.name, Cond.initialized "java/lang/Math", Cond.code Lib.Math.max.name Lib.Math.max.code 2 (some .int)] : List Cond), w ∈ Ts) (hfr : 1 ≤ R.frames) (hlo : (stk.map fun v => v.category).sum + 13 ≤ R.locals) (hcs : cells ≤ R.cells ∧ slots ≤ R.slots) (hdg : decode cc pc = .ok (.invokestatic index, 3)) (g : zAt p l e R s m args below meth c cells slots Q nL D cl A N ad cel (pc + 3) (lv) (vI (max x y) :: stk) (σ)) : zAt p l e R s m args below meth c cells slots Q nL D cl A N ad cel (pc) lv (vI y :: vI x :: stk) σ :=
  fun H locs ls hP hS hl => va_mmax hC.1.1 hC.1.2.1 (by rw [hC.1.2.2.1]; exact hl.1.symm) hC.1.2.2.2.1 (hC.1.2.2.2.2 _ (hin _ (List.mem_of_getElem? (i := 0) rfl))) (hC.1.2.2.2.2 _ (hin _ (List.mem_of_getElem? (i := 1) rfl))) (hC.1.2.2.2.2 _ (hin _ (List.mem_of_getElem? (i := 2) rfl))) (hC.1.2.2.2.2 _ (hin _ (List.mem_of_getElem? (i := 3) rfl))) hfr hlo hcs.1 hcs.2 hdg (zi_max hx hy ▸ g H locs ls hP hS hl)
theorem z_mmin (hC : zC p m c cc nL s args Ts own meth D cl tys A N ad cel) {index : Nat} {x y : Int} (hx : zrg x) (hy : zrg y) (hin : ∀ w ∈ ([Cond.methodLink own index Lib.Math.min.name, Cond.static Lib.Math.min.name, Cond.initialized "java/lang/Math", Cond.code Lib.Math.min.name Lib.Math.min.code 2 (some .int)] : List Cond), w ∈ Ts) (hfr : 1 ≤ R.frames) (hlo : (stk.map fun v => v.category).sum + 13 ≤ R.locals) (hcs : cells ≤ R.cells ∧ slots ≤ R.slots) (hdg : decode cc pc = .ok (.invokestatic index, 3)) (g : zAt p l e R s m args below meth c cells slots Q nL D cl A N ad cel (pc + 3) (lv) (vI (min x y) :: stk) (σ)) : zAt p l e R s m args below meth c cells slots Q nL D cl A N ad cel (pc) lv (vI y :: vI x :: stk) σ :=
  fun H locs ls hP hS hl => va_mmin hC.1.1 hC.1.2.1 (by rw [hC.1.2.2.1]; exact hl.1.symm) hC.1.2.2.2.1 (hC.1.2.2.2.2 _ (hin _ (List.mem_of_getElem? (i := 0) rfl))) (hC.1.2.2.2.2 _ (hin _ (List.mem_of_getElem? (i := 1) rfl))) (hC.1.2.2.2.2 _ (hin _ (List.mem_of_getElem? (i := 2) rfl))) (hC.1.2.2.2.2 _ (hin _ (List.mem_of_getElem? (i := 3) rfl))) hfr hlo hcs.1 hcs.2 hdg (zi_min hx hy ▸ g H locs ls hP hS hl)
theorem z_mabs (hC : zC p m c cc nL s args Ts own meth D cl tys A N ad cel) {index : Nat} {x : Int} (hx : zrg x) (hin : ∀ w ∈ ([Cond.methodLink own index Lib.Math.abs.name, Cond.static Lib.Math.abs.name, Cond.initialized "java/lang/Math", Cond.code Lib.Math.abs.name Lib.Math.abs.code 1 (some .int)] : List Cond), w ∈ Ts) (hfr : 1 ≤ R.frames) (hlo : (stk.map fun v => v.category).sum + 13 ≤ R.locals) (hcs : cells ≤ R.cells ∧ slots ≤ R.slots) (hdg : decode cc pc = .ok (.invokestatic index, 3)) (g : zAt p l e R s m args below meth c cells slots Q nL D cl A N ad cel (pc + 3) (lv) (vI ((x.natAbs : Int)) :: stk) (σ)) : zAt p l e R s m args below meth c cells slots Q nL D cl A N ad cel (pc) lv (vI x :: stk) σ :=
  fun H locs ls hP hS hl => va_mabs hC.1.1 hC.1.2.1 (by rw [hC.1.2.2.1]; exact hl.1.symm) hC.1.2.2.2.1 (hC.1.2.2.2.2 _ (hin _ (List.mem_of_getElem? (i := 0) rfl))) (hC.1.2.2.2.2 _ (hin _ (List.mem_of_getElem? (i := 1) rfl))) (hC.1.2.2.2.2 _ (hin _ (List.mem_of_getElem? (i := 2) rfl))) (hC.1.2.2.2.2 _ (hin _ (List.mem_of_getElem? (i := 3) rfl))) hfr hlo hcs.1 hcs.2 hdg (zi_abs hx ▸ g H locs ls hP hS hl)
end ZR4
