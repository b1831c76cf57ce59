/-! numbers: what a wrapped number is on the machine -/
theorem bm32 (x : Int) : x.bmod 4294967296 = w32 x := by
  simp only [Int.bmod, w32]
  split <;> omega
theorem bm64 (x : Int) : x.bmod 18446744073709551616 = w64 x := by
  simp only [Int.bmod, w64]
  split <;> omega
theorem bm8 (x : Int) : x.bmod 256 = w8 x := by
  simp only [Int.bmod, w8]
  split <;> omega
theorem bm16 (x : Int) : x.bmod 65536 = w16 x := by
  simp only [Int.bmod, w16]
  split <;> omega
theorem o32_i (x : Int) : (Int32.ofInt x).toInt = w32 x := (Int32.toInt_ofInt).trans (bm32 x)
theorem o64_i (x : Int) : (Int64.ofInt x).toInt = w64 x := (Int64.toInt_ofInt).trans (bm64 x)
theorem w32_w (x : Int) : w32 (w32 x) = w32 x := by simp only [w32]; omega
theorem w64_w (x : Int) : w64 (w64 x) = w64 x := by simp only [w64]; omega
theorem w64_w32 (x : Int) : w64 (w32 x) = w32 x := by simp only [w32, w64]; omega
theorem w32_w8 (x : Int) : w32 (w8 x) = w8 x := by simp only [w32, w8]; omega
theorem w32_w16 (x : Int) : w32 (w16 x) = w16 x := by simp only [w32, w16]; omega
theorem w32_lo (x : Int) : -2147483648 ≤ w32 x := by simp only [w32]; omega
theorem w32_hi (x : Int) : w32 x < 2147483648 := by simp only [w32]; omega
theorem o32_w (x : Int) : Int32.ofInt (w32 x) = Int32.ofInt x := Int32.toInt_inj.mp (by rw [o32_i, o32_i, w32_w])
theorem o64_w (x : Int) : Int64.ofInt (w64 x) = Int64.ofInt x := Int64.toInt_inj.mp (by rw [o64_i, o64_i, w64_w])
theorem o32_lt {a b : Int} : Int32.ofInt a < Int32.ofInt b ↔ w32 a < w32 b := by rw [Int32.lt_iff_toInt_lt, o32_i, o32_i]
theorem o32_le {a b : Int} : Int32.ofInt a ≤ Int32.ofInt b ↔ w32 a ≤ w32 b := by rw [Int32.le_iff_toInt_le, o32_i, o32_i]
theorem o32_eq {a b : Int} : Int32.ofInt a = Int32.ofInt b ↔ w32 a = w32 b := by rw [← Int32.toInt_inj, o32_i, o32_i]
theorem o64_lt {a b : Int} : Int64.ofInt a < Int64.ofInt b ↔ w64 a < w64 b := by rw [Int64.lt_iff_toInt_lt, o64_i, o64_i]
theorem o64_eq {a b : Int} : Int64.ofInt a = Int64.ofInt b ↔ w64 a = w64 b := by rw [← Int64.toInt_inj, o64_i, o64_i]
theorem o32_0 : Int32.ofInt 0 = 0 := rfl
theorem o64_0 : Int64.ofInt 0 = 0 := rfl
theorem w32_0 : w32 0 = 0 := by decide
theorem w64_0 : w64 0 = 0 := by decide
theorem o32_lt0 {a : Int} : Int32.ofInt a < 0 ↔ w32 a < 0 := by rw [← o32_0, o32_lt, w32_0]
theorem o32_0lt {a : Int} : 0 < Int32.ofInt a ↔ 0 < w32 a := by rw [← o32_0, o32_lt, w32_0]
theorem o32_0le {a : Int} : 0 ≤ Int32.ofInt a ↔ 0 ≤ w32 a := by rw [← o32_0, o32_le, w32_0]
theorem o32_le0 {a : Int} : Int32.ofInt a ≤ 0 ↔ w32 a ≤ 0 := by rw [← o32_0, o32_le, w32_0]
theorem o32_eq0 {a : Int} : Int32.ofInt a = 0 ↔ w32 a = 0 := by rw [← o32_0, o32_eq, w32_0]
theorem o64_eq0 {a : Int} : Int64.ofInt a = 0 ↔ w64 a = 0 := by rw [← o64_0, o64_eq, w64_0]
theorem o64_0lt {a : Int} : 0 < Int64.ofInt a ↔ 0 < w64 a := by rw [← o64_0, o64_lt, w64_0]
theorem o32_cl (i : Int) : (Int32.ofInt i).toNatClampNeg = (w32 i).toNat := by rw [← o32_i]; rfl
theorem o32_in {i : Int} {n : Nat} (h : 0 ≤ w32 i ∧ w32 i < n) : vp_in (Int32.ofInt i) n := vp_in_iff.mpr (by rw [o32_i]; exact h)
theorem o32_div (a b : Int) : Int32.ofInt (jdiv a b) = Int32.ofInt a / Int32.ofInt b := Int32.toInt_inj.mp (by
  rw [Int32.toInt_div, o32_i, o32_i, o32_i]; exact (bm32 _).symm)
theorem o64_div (a b : Int) : Int64.ofInt (jldiv a b) = Int64.ofInt a / Int64.ofInt b := Int64.toInt_inj.mp (by
  rw [Int64.toInt_div, o64_i, o64_i, o64_i]; exact (bm64 _).symm)
theorem o32_rem (a b : Int) : Int32.ofInt (jrem a b) = Int32.ofInt a - Int32.ofInt a / Int32.ofInt b * Int32.ofInt b := by
  rw [← o32_div]
  show Int32.ofInt (Int.tmod (w32 a) (w32 b)) = _
  rw [Int.tmod_def, Int32.ofInt_sub, Int32.ofInt_mul, o32_w, o32_w, Int32.mul_comm]
  rfl
theorem o64_rem (a b : Int) : Int64.ofInt (jlrem a b) = Int64.ofInt a - Int64.ofInt a / Int64.ofInt b * Int64.ofInt b := by
  rw [← o64_div]
  show Int64.ofInt (Int.tmod (w64 a) (w64 b)) = _
  rw [Int.tmod_def, Int64.ofInt_sub, Int64.ofInt_mul, o64_w, o64_w, Int64.mul_comm]
  rfl
theorem o32_l (a : Int) : (Int32.ofInt a).toInt64 = Int64.ofInt (w32 a) := Int64.toInt_inj.mp (by rw [Int32.toInt_toInt64, o32_i, o64_i, w64_w32])
theorem o8_i (x : Int) : (Int8.ofInt x).toInt32 = Int32.ofInt (w8 x) := Int32.toInt_inj.mp (by rw [Int8.toInt_toInt32, Int8.toInt_ofInt, o32_i, w32_w8]; exact bm8 x)
theorem o16_i (x : Int) : (Int16.ofInt x).toInt32 = Int32.ofInt (w16 x) := Int32.toInt_inj.mp (by rw [Int16.toInt_toInt32, Int16.toInt_ofInt, o32_i, w32_w16]; exact bm16 x)
theorem o32_b (x : Int) : (Int32.ofInt x).toInt8.toInt32 = Int32.ofInt (w8 x) := by rw [Int32.toInt8_ofInt, o8_i]
theorem o32_s (x : Int) : (Int32.ofInt x).toInt16.toInt32 = Int32.ofInt (w16 x) := by rw [Int32.toInt16_ofInt, o16_i]
theorem o32_max (a b : Int) : Int32.ofInt (jmax a b) = if Int32.ofInt a < Int32.ofInt b then Int32.ofInt b else Int32.ofInt a := by
  simp only [jmax, o32_lt]; split <;> rw [o32_w]
theorem o32_min (a b : Int) : Int32.ofInt (jmin a b) = if Int32.ofInt b < Int32.ofInt a then Int32.ofInt b else Int32.ofInt a := by
  simp only [jmin, o32_lt]; split <;> rw [o32_w]
theorem o64_abs (a : Int) : Int64.ofInt (jlabs a) = if 0 < Int64.ofInt a then Int64.ofInt a else - Int64.ofInt a := by
  simp only [jlabs, o64_0lt]
  split
  · rw [o64_w]
  · rw [Int64.ofInt_neg, o64_w]
theorem o32_cmp (a b : Int) : Int32.ofInt (jlcmp a b) = lg_cmp (Int64.ofInt a) (Int64.ofInt b) := by
  simp only [jlcmp, lg_cmp, gt_iff_lt, o64_lt, o64_eq]
  by_cases h1 : w64 a < w64 b
  · rw [if_pos h1, if_neg (by omega), if_neg (by omega)]; rfl
  · by_cases h2 : w64 a = w64 b
    · rw [if_neg h1, if_pos h2, if_neg (by omega), if_pos h2]; rfl
    · rw [if_neg h1, if_neg h2, if_pos (by omega)]; rfl
