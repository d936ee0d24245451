/-! ints and longs of the machine by their integers -/
def zI (z : Int) : Int32 := Int32.ofInt z
def zL (z : Int) : Int64 := Int64.ofInt z
abbrev zR (z : Int) : Prop := -2147483648 ≤ z ∧ z < 2147483648
abbrev zRL (z : Int) : Prop := -9223372036854775808 ≤ z ∧ z < 9223372036854775808
theorem zI_toInt {z : Int} (h : zR z) : (zI z).toInt = z := Int32.toInt_ofInt_of_le (by have := h.1; omega) (by have := h.2; omega)
theorem zL_toInt {z : Int} (h : zRL z) : (zL z).toInt = z := Int64.toInt_ofInt_of_le (by have := h.1; omega) (by have := h.2; omega)
theorem zI_self (x : Int32) : zI x.toInt = x := Int32.ofInt_toInt x
theorem zL_self (x : Int64) : zL x.toInt = x := Int64.ofInt_toInt x
theorem zR_self (x : Int32) : zR x.toInt := ⟨by have := x.le_toInt; omega, by have := x.toInt_lt; omega⟩
theorem zRL_self (x : Int64) : zRL x.toInt := ⟨by have := x.le_toInt; omega, by have := x.toInt_lt; omega⟩
theorem zI_add (a b : Int) : zI a + zI b = zI (a + b) := (Int32.ofInt_add a b).symm
theorem zI_sub (a b : Int) : zI a - zI b = zI (a - b) := (Int32.ofInt_sub a b).symm
theorem zI_mul (a b : Int) : zI a * zI b = zI (a * b) := (Int32.ofInt_mul a b).symm
theorem zI_neg (a : Int) : -zI a = zI (-a) := (Int32.ofInt_neg a).symm
theorem zL_add (a b : Int) : zL a + zL b = zL (a + b) := (Int64.ofInt_add a b).symm
theorem zL_sub (a b : Int) : zL a - zL b = zL (a - b) := (Int64.ofInt_sub a b).symm
theorem zL_mul (a b : Int) : zL a * zL b = zL (a * b) := (Int64.ofInt_mul a b).symm
theorem zI_lt {a b : Int} (ha : zR a) (hb : zR b) : zI a < zI b ↔ a < b := by rw [Int32.lt_iff_toInt_lt, zI_toInt ha, zI_toInt hb]
theorem zI_le {a b : Int} (ha : zR a) (hb : zR b) : zI a ≤ zI b ↔ a ≤ b := by rw [Int32.le_iff_toInt_le, zI_toInt ha, zI_toInt hb]
theorem zI_eq {a b : Int} (ha : zR a) (hb : zR b) : zI a = zI b ↔ a = b := by rw [← Int32.toInt_inj, zI_toInt ha, zI_toInt hb]
theorem zL_lt {a b : Int} (ha : zRL a) (hb : zRL b) : zL a < zL b ↔ a < b := by rw [Int64.lt_iff_toInt_lt, zL_toInt ha, zL_toInt hb]
theorem zL_eq {a b : Int} (ha : zRL a) (hb : zRL b) : zL a = zL b ↔ a = b := by rw [← Int64.toInt_inj, zL_toInt ha, zL_toInt hb]
theorem zI_0 : zI 0 = 0 := rfl
theorem zR_0 : zR 0 := by unfold zR; omega
theorem zI_clamp {a : Int} (h : zR a) : (zI a).toNatClampNeg = a.toNat := by
  rw [← Int32.toNat_toInt, zI_toInt h]
theorem zI_in {a : Int} {n : Nat} (h0 : 0 ≤ a) (hn : a < n) (hb : n < 2147483648) : vp_in (zI a) n := by
  have hr : zR a := ⟨by omega, by omega⟩
  rw [vp_in_iff, zI_toInt hr]
  exact ⟨h0, hn⟩
theorem zI_div {a b : Int} (ha : 0 ≤ a) (ha2 : zR a) (hb : 0 < b) (hb2 : zR b) : zI a / zI b = zI (a / b) := by
  rw [← Int32.toInt_inj]
  have hq : zR (a / b) := ⟨by have := Int.ediv_nonneg ha (Int.le_of_lt hb); omega, by have := Int.ediv_le_self b ha; have := ha2.2; omega⟩
  rw [Int32.toInt_div_of_ne_left, zI_toInt ha2, zI_toInt hb2, zI_toInt hq, Int.tdiv_eq_ediv_of_nonneg ha]
  intro h
  have := congrArg Int32.toInt h
  rw [zI_toInt ha2, Int32.toInt_minValue] at this
  omega
theorem zI_rem {a b : Int} (ha : 0 ≤ a) (ha2 : zR a) (hb : 0 < b) (hb2 : zR b) : zI a - zI a / zI b * zI b = zI (a % b) := by
  rw [zI_div ha ha2 hb hb2, zI_mul, zI_sub]
  congr 1
  have := Int.emod_add_mul_ediv a b
  rw [Int.mul_comm b] at this
  omega
theorem zI_i2l {a : Int} (h : zR a) : (zI a).toInt64 = zL a := by
  rw [← Int64.toInt_inj, Int32.toInt_toInt64, zI_toInt h, zL_toInt ⟨by have := h.1; omega, by have := h.2; omega⟩]
theorem zL_l2i (a : Int) : (zL a).toInt32 = zI a := by unfold zL zI; exact Int64.toInt32_ofInt
def zC (a b : Int) : Int := if a < b then -1 else if a = b then 0 else 1
theorem zC_R (a b : Int) : zR (zC a b) := by unfold zC zR; split <;> (try split) <;> omega
/-- shifts to the left -/
theorem zI_sh {k : Nat} (hk : k < 32) : ((zI k &&& 31).toBitVec.smod 32).toNat = k := by
  have : ∀ k : Fin 32, ((zI (k.val : Nat) &&& 31).toBitVec.smod 32).toNat = k.val := by decide +kernel
  exact this ⟨k, hk⟩
theorem zI_nat (z : Int) : ((zI z).toBitVec.toNat : Int) = z % 4294967296 := by
  unfold zI
  rw [Int32.toBitVec_ofInt, BitVec.toNat_ofInt]
  omega
theorem zL_nat (z : Int) : ((zL z).toBitVec.toNat : Int) = z % 18446744073709551616 := by
  unfold zL
  rw [Int64.toBitVec_ofInt, BitVec.toNat_ofInt]
  omega
theorem zI_of {x : Int32} {z : Int} (h : (x.toBitVec.toNat : Int) = z % 4294967296) : x = zI z := by
  apply Int32.toBitVec.inj
  apply BitVec.eq_of_toNat_eq
  have := zI_nat z
  omega
theorem zL_of {x : Int64} {z : Int} (h : (x.toBitVec.toNat : Int) = z % 18446744073709551616) : x = zL z := by
  apply Int64.toBitVec.inj
  apply BitVec.eq_of_toNat_eq
  have := zL_nat z
  omega
theorem zI_shl (a : Int) {k : Nat} (hk : k < 32) : zI a <<< (zI k &&& 31) = zI (a * 2 ^ k) := by
  apply zI_of
  rw [pk_shl (zI a) (zI k &&& 31) k (zI_sh hk)]
  have e := zI_nat a
  have e2 : (((zI a).toBitVec.toNat * 2 ^ k % 2 ^ 32 : Nat) : Int) = ((zI a).toBitVec.toNat : Int) * 2 ^ k % 4294967296 := by first | (rw [Int.natCast_emod, Int.natCast_mul, Int.natCast_pow]; rfl) | (rw [Int.natCast_mod, Int.natCast_mul, Int.natCast_pow]; rfl) | (rw [Int.ofNat_emod, Int.natCast_mul, Int.natCast_pow]; rfl)
  rw [e2, e, Int.mul_emod, Int.emod_emod, ← Int.mul_emod]
theorem zdiv_R {a P : Int} (ha : zR a) (hP : 1 ≤ P) : zR (a / P) := by
  obtain ⟨h1, h2⟩ := ha
  refine ⟨Int.le_ediv_of_mul_le (by omega) (by omega), Int.ediv_lt_of_lt_mul (by omega) (by omega)⟩
theorem two_pow_pos (k : Nat) : (1 : Int) ≤ 2 ^ k := by
  have : (0 : Int) < 2 ^ k := Int.pow_pos (by omega)
  omega
theorem zI_shr {a : Int} (ha : zR a) {k : Nat} (hk : k < 32) : zI a >>> (zI k &&& 31) = zI (a / 2 ^ k) := by
  rw [← Int32.toInt_inj, pk_shr _ _ k (zI_sh hk), zI_toInt ha, Int.shiftRight_eq_div_pow]
  have h1 : ((2 ^ k : Nat) : Int) = 2 ^ k := by rw [Int.natCast_pow]; rfl
  rw [h1, zI_toInt (zdiv_R ha (two_pow_pos k))]
theorem zI_and1 (a : Int) : zI a &&& zI 1 = zI (a % 2) := by
  have h := pk_and (zI a) (m := zI 1) 1 (by decide +kernel)
  rw [h]
  apply zI_of
  have e := zI_nat a
  rw [pk_tn (by omega)]
  omega
theorem zI_and255 (a : Int) : zI a &&& zI 255 = zI (a % 256) := by
  have h := pk_and (zI a) (m := zI 255) 8 (by decide +kernel)
  rw [h]
  apply zI_of
  have e := zI_nat a
  rw [pk_tn (by omega)]
  omega
theorem zI_and15 (a : Int) : zI a &&& zI 15 = zI (a % 16) := by
  have h := pk_and (zI a) (m := zI 15) 4 (by decide +kernel)
  rw [h]
  apply zI_of
  have e := zI_nat a
  rw [pk_tn (by omega)]
  omega
def zor (a b : Int) : Int := ((a.toNat ||| b.toNat : Nat) : Int)
theorem zI_or {a b : Int} (ha : 0 ≤ a) (ha2 : a < 2147483648) (hb : 0 ≤ b) (hb2 : b < 2147483648) : zI a ||| zI b = zI (zor a b) := by
  apply zI_of
  have h1 : (zI a ||| zI b).toBitVec.toNat = (zI a).toBitVec.toNat ||| (zI b).toBitVec.toNat := by
    show ((zI a).toBitVec ||| (zI b).toBitVec).toNat = _
    rw [BitVec.toNat_or]
  have e := zI_nat a
  have e2 := zI_nat b
  have e3 : (zI a).toBitVec.toNat = a.toNat := by omega
  have e4 : (zI b).toBitVec.toNat = b.toNat := by omega
  rw [h1, e3, e4]
  have : a.toNat ||| b.toNat < 2 ^ 31 := Nat.or_lt_two_pow (by omega) (by omega)
  unfold zor
  omega
theorem zL_or {a b : Int} (ha : 0 ≤ a) (ha2 : a < 4611686018427387904) (hb : 0 ≤ b) (hb2 : b < 4611686018427387904) : zL a ||| zL b = zL (zor a b) := by
  apply zL_of
  have h1 : (zL a ||| zL b).toBitVec.toNat = (zL a).toBitVec.toNat ||| (zL b).toBitVec.toNat := by
    show ((zL a).toBitVec ||| (zL b).toBitVec).toNat = _
    rw [BitVec.toNat_or]
  have e := zL_nat a
  have e2 := zL_nat b
  have e3 : (zL a).toBitVec.toNat = a.toNat := by omega
  have e4 : (zL b).toBitVec.toNat = b.toNat := by omega
  rw [h1, e3, e4]
  have : a.toNat ||| b.toNat < 2 ^ 62 := Nat.or_lt_two_pow (by omega) (by omega)
  unfold zor
  omega
theorem zL_shl (a : Int) {k : Nat} (hk : k < 64) : zL a <<< ((zI k).toInt64 &&& 63) = zL (a * 2 ^ k) := by
  apply zL_of
  have hs : ∀ k : Fin 64, (((zI (k.val : Nat)).toInt64 &&& 63).toBitVec.smod 64).toNat = k.val := by decide +kernel
  have h1 : (zL a <<< ((zI k).toInt64 &&& 63)).toBitVec.toNat = (zL a).toBitVec.toNat * 2 ^ k % 2 ^ 64 := by
    show ((zL a).toBitVec <<< (((zI k).toInt64 &&& 63).toBitVec.smod 64)).toNat = _
    rw [BitVec.shiftLeft_eq', BitVec.toNat_shiftLeft, hs ⟨k, hk⟩, Nat.shiftLeft_eq]
  rw [h1]
  have e := zL_nat a
  have e2 : (((zL a).toBitVec.toNat * 2 ^ k % 2 ^ 64 : Nat) : Int) = ((zL a).toBitVec.toNat : Int) * 2 ^ k % 18446744073709551616 := by first | (rw [Int.natCast_emod, Int.natCast_mul, Int.natCast_pow]; rfl) | (rw [Int.natCast_mod, Int.natCast_mul, Int.natCast_pow]; rfl) | (rw [Int.ofNat_emod, Int.natCast_mul, Int.natCast_pow]; rfl)
  rw [e2, e, Int.mul_emod, Int.emod_emod, ← Int.mul_emod]
theorem zL_cmp {a b : Int} (ha : zRL a) (hb : zRL b) : lg_cmp (zL a) (zL b) = zI (zC a b) := by
  unfold lg_cmp zC
  by_cases h1 : b < a
  · rw [if_pos (show zL a > zL b from (zL_lt hb ha).mpr h1), if_neg (by omega), if_neg (by omega)]; rfl
  · rw [if_neg (fun z => h1 ((zL_lt hb ha).mp z))]
    by_cases h2 : a = b
    · rw [if_pos ((zL_eq ha hb).mpr h2), if_neg (by omega), if_pos h2]; rfl
    · rw [if_neg (fun z => h2 ((zL_eq ha hb).mp z)), if_pos (by omega)]; rfl
