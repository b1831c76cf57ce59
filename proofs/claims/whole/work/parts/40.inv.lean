/-! WHAT HOLDS BETWEEN THE CLASS AND THE REFERENCE, over the pure machine's cells -/
theorem w32_id {x : Int} (h1 : -2147483648 ≤ x) (h2 : x < 2147483648) : w32 x = x := by simp only [w32]; omega
theorem w64_id {x : Int} (h1 : -9223372036854775808 ≤ x) (h2 : x < 9223372036854775808) : w64 x = x := by simp only [w64]; omega
theorem jb_s (v : Int) (s : jM) (f : Int → jM → Option (Int × jM)) : jb (some (v, s)) f = f v s := rfl
theorem jb_m (x : Option (Int × jM)) (f : Int → jM → Option (Int × jM)) : jb x f = (match x with | some r => f r.1 r.2 | none => none) := rfl
theorem jm_s (s : jM) (f : jM → Option (Int × jM)) : jm s f = f s := rfl
theorem jup_at (s : jM) (k j v a b : Int) : jup s k j v a b = if a = k ∧ b = j then v else s a b := rfl
theorem jcp_at (s : jM) (k sp k2 dp n a b : Int) : jcp s k sp k2 dp n a b = if a = k2 ∧ dp ≤ b ∧ b < dp + n then s k (sp + (b - dp)) else s a b := rfl
/-- a row of places gets one number -/
def jfill (s : jM) (k lo hi v : Int) : jM := fun a b => if a = k ∧ lo ≤ b ∧ b < hi then v else s a b
theorem jfill_at (s : jM) (k lo hi v a b : Int) : jfill s k lo hi v a b = if a = k ∧ lo ≤ b ∧ b < hi then v else s a b := rfl
theorem jfill_0 (s : jM) (k lo hi v : Int) (h : hi ≤ lo) : jfill s k lo hi v = s := by
  funext a b
  rw [jfill_at, if_neg (by omega)]
theorem jfill_s {s : jM} {k lo hi v : Int} (h : lo < hi) : jfill (jup s k lo v) k (lo + 1) hi v = jfill s k lo hi v := by
  funext a b
  simp only [jfill_at, jup_at]
  by_cases h1 : a = k ∧ lo + 1 ≤ b ∧ b < hi
  · rw [if_pos h1, if_pos (by omega)]
  · rw [if_neg h1]
    by_cases h2 : a = k ∧ b = lo
    · rw [if_pos h2, if_pos (by omega)]
    · rw [if_neg h2, if_neg (by omega)]
theorem jFU_ge {n : Nat} (h : n ≤ 2000000) : n ≤ jFU := h
/-! what a reader of the cells wants -/
theorem u_ne {s : jM} {k j v a b : Int} (h : ¬ (a = k ∧ b = j)) : jup s k j v a b = s a b := if_neg h
theorem u_eq {s : jM} {k j v a b : Int} (h : a = k ∧ b = j) : jup s k j v a b = v := if_pos h
theorem u_u {s : jM} {k j v w : Int} : jup (jup s k j v) k j w = jup s k j w := by
  funext a b
  simp only [jup_at]
  split <;> rfl
theorem f_out {s : jM} {k lo hi v a b : Int} (h : ¬ (a = k ∧ lo ≤ b ∧ b < hi)) : jfill s k lo hi v a b = s a b := if_neg h
theorem f_in {s : jM} {k lo hi v a b : Int} (h : a = k ∧ lo ≤ b ∧ b < hi) : jfill s k lo hi v a b = v := if_pos h
theorem c_out {s : jM} {k sp k2 dp n a b : Int} (h : ¬ (a = k2 ∧ dp ≤ b ∧ b < dp + n)) : jcp s k sp k2 dp n a b = s a b := if_neg h
theorem c_in {s : jM} {k sp k2 dp n a b : Int} (h : a = k2 ∧ dp ≤ b ∧ b < dp + n) : jcp s k sp k2 dp n a b = s k (sp + (b - dp)) := if_pos h
theorem t_lt {a b : Int} (h : a < b) : (a < b) = True := eq_true h
theorem t_nlt {a b : Int} (h : ¬ a < b) : (a < b) = False := eq_false h
theorem t_le {a b : Int} (h : a ≤ b) : (a ≤ b) = True := eq_true h
theorem t_nle {a b : Int} (h : ¬ a ≤ b) : (a ≤ b) = False := eq_false h
theorem t_eq {a b : Int} (h : a = b) : (a = b) = True := eq_true h
theorem t_neq {a b : Int} (h : ¬ a = b) : (a = b) = False := eq_false h
theorem n15 (x y : Int) : x + 4 + 11 + 2 * y = x + (15 + 2 * y) := by omega
theorem n16 (x y : Int) : x + (15 + 2 * y) + 1 = x + (16 + 2 * y) := by omega
theorem q10 (x : Int) : x + 9 + 1 = x + 10 := by omega
theorem q11 (x : Int) : x + 9 + 2 = x + 11 := by omega
theorem q12 (x : Int) : x + 9 + 3 = x + 12 := by omega
theorem q13 (x : Int) : x + 9 + 4 = x + 13 := by omega
theorem q14 (x : Int) : x + 9 + 5 = x + 14 := by omega
/-- an int; a long -/
def i32 (x : Int) : Prop := -2147483648 ≤ x ∧ x < 2147483648
def i64 (x : Int) : Prop := -9223372036854775808 ≤ x ∧ x < 9223372036854775808
theorem i32_w {x : Int} (h : i32 x) : w32 x = x := w32_id h.1 h.2
theorem i64_w {x : Int} (h : i64 x) : w64 x = x := w64_id h.1 h.2
theorem w32_i (x : Int) : i32 (w32 x) := ⟨w32_lo x, w32_hi x⟩
theorem lcmp_lt (a b : Int) : w32 (jlcmp a b) < 0 ↔ w64 a < w64 b := by
  simp only [jlcmp]
  split
  · simp [w32]; assumption
  · split
    · simp [w32]; omega
    · simp [w32]; omega
theorem lcmp_gt (a b : Int) : 0 < w32 (jlcmp a b) ↔ w64 b < w64 a := by
  simp only [jlcmp]
  split
  · simp [w32]; omega
  · split
    · simp [w32]; omega
    · simp [w32]; omega
theorem lcmp_eq (a b : Int) : w32 (jlcmp a b) = 0 ↔ w64 a = w64 b := by
  simp only [jlcmp]
  split
  · simp [w32]; omega
  · split
    · simp [w32]; assumption
    · simp [w32]; assumption
theorem Md_isIn_eq {x lo hi : Int} {s : jM} (hx : i64 x) (hl : i64 lo) (hh : i64 hi) : Md_isIn x lo hi s = some (if lo ≤ x ∧ x ≤ hi then 1 else 0, s) := by
  simp only [Md_isIn, lcmp_lt, lcmp_gt, i64_w hx, i64_w hl, i64_w hh]
  by_cases h1 : x < lo
  · rw [if_pos h1, if_neg (by omega)]
  · rw [if_neg h1]
    by_cases h2 : hi < x
    · rw [if_pos h2, if_neg (by omega)]
    · rw [if_neg h2, if_pos (by omega)]
theorem Md_isIn_1 {x lo hi : Int} {s : jM} (h : lo ≤ x ∧ x ≤ hi) (h1 : -2147483648 ≤ lo) (h2 : hi < 2147483648) : Md_isIn x lo hi s = some (1, s) := by
  rw [Md_isIn_eq ⟨by omega, by omega⟩ ⟨by omega, by omega⟩ ⟨by omega, by omega⟩, if_pos h]
theorem Md_isIn_0 {x lo hi : Int} {s : jM} (h : ¬ (lo ≤ x ∧ x ≤ hi)) (h0 : -2147483648 ≤ x ∧ x < 2147483648) (h1 : -2147483648 ≤ lo ∧ lo < 2147483648) (h2 : -2147483648 ≤ hi ∧ hi < 2147483648) : Md_isIn x lo hi s = some (0, s) := by
  rw [Md_isIn_eq ⟨by omega, by omega⟩ ⟨by omega, by omega⟩ ⟨by omega, by omega⟩, if_neg h]
/-- the sum of the first n -/
def psum (f : Int → Int) : Nat → Int
  | 0 => 0
  | n + 1 => psum f n + f n
theorem psum_s (f : Int → Int) {x : Int} (h : 0 ≤ x) : psum f (x + 1).toNat = psum f x.toNat + f x := by
  rw [show (x + 1).toNat = x.toNat + 1 by omega]
  show psum f x.toNat + f (x.toNat : Int) = _
  rw [Int.toNat_of_nonneg h]
theorem psum_congr {f g : Int → Int} : ∀ (n : Nat), (∀ j : Int, 0 ≤ j → j < n → f j = g j) → psum f n = psum g n := by
  intro n
  induction n with
  | zero => intro _; rfl
  | succ n ih =>
    intro h
    show psum f n + f n = psum g n + g n
    rw [ih (fun j h1 h2 => h j h1 (by omega)), h n (by omega) (by omega)]
def sum5 (f : Int → Int) : Int := f 0 + f 1 + f 2 + f 3 + f 4
theorem psum_5 {f : Int → Int} {x : Int} (h1 : 0 ≤ x) (h2 : x ≤ 5) (h : ∀ j, x ≤ j → j < 5 → f j = 0) : psum f x.toNat = sum5 f := by
  have hx : x = 0 ∨ x = 1 ∨ x = 2 ∨ x = 3 ∨ x = 4 ∨ x = 5 := by omega
  have a0 := h 0
  have a1 := h 1
  have a2 := h 2
  have a3 := h 3
  have a4 := h 4
  rcases hx with rfl | rfl | rfl | rfl | rfl | rfl <;> simp only [sum5, Int.toNat, psum] <;> (try simp only [Int.natCast_zero, Int.natCast_one, Int.cast_ofNat_Int]) <;> omega
theorem sum5_congr {f g : Int → Int} (h : ∀ j, 0 ≤ j → j < 5 → f j = g j) : sum5 f = sum5 g := by
  simp only [sum5]
  rw [h 0 (by decide) (by decide), h 1 (by decide) (by decide), h 2 (by decide) (by decide), h 3 (by decide) (by decide), h 4 (by decide) (by decide)]
theorem sum5_nn {f : Int → Int} (h : ∀ j, 0 ≤ j → j < 5 → 0 ≤ f j) : 0 ≤ sum5 f := by
  simp only [sum5]
  have := h 0 (by decide) (by decide)
  have := h 1 (by decide) (by decide)
  have := h 2 (by decide) (by decide)
  have := h 3 (by decide) (by decide)
  have := h 4 (by decide) (by decide)
  omega
theorem sum5_le {f : Int → Int} (h : ∀ j, 0 ≤ j → j < 5 → 0 ≤ f j) {k : Int} (h1 : 0 ≤ k) (h2 : k < 5) : f k ≤ sum5 f := by
  simp only [sum5]
  have := h 0 (by decide) (by decide)
  have := h 1 (by decide) (by decide)
  have := h 2 (by decide) (by decide)
  have := h 3 (by decide) (by decide)
  have := h 4 (by decide) (by decide)
  have hx : k = 0 ∨ k = 1 ∨ k = 2 ∨ k = 3 ∨ k = 4 := by omega
  rcases hx with rfl | rfl | rfl | rfl | rfl <;> omega
/-- one of the five is v more -/
theorem sum5_add {f g : Int → Int} {k v : Int} (h1 : 0 ≤ k) (h2 : k < 5) (hk : g k = f k + v) (h : ∀ j, 0 ≤ j → j < 5 → j ≠ k → g j = f j) : sum5 g = sum5 f + v := by
  simp only [sum5]
  have := h 0 (by decide) (by decide)
  have := h 1 (by decide) (by decide)
  have := h 2 (by decide) (by decide)
  have := h 3 (by decide) (by decide)
  have := h 4 (by decide) (by decide)
  have hx : k = 0 ∨ k = 1 ∨ k = 2 ∨ k = 3 ∨ k = 4 := by omega
  rcases hx with rfl | rfl | rfl | rfl | rfl <;> omega
theorem sum5_0 {f : Int → Int} (h : ∀ j, 0 ≤ j → j < 5 → f j = 0) : sum5 f = 0 := by
  simp only [sum5]
  rw [h 0 (by decide) (by decide), h 1 (by decide) (by decide), h 2 (by decide) (by decide), h 3 (by decide) (by decide), h 4 (by decide) (by decide)]
  rfl
/-- a See from its cell on, a block of the reference's, its names -/
def vw (s : jM) (b : Int) : jM := fun i j => if 0 ≤ i ∧ i < 25 then s (b + i) j else 0
def cw (s : jM) (q : Int) : Int → Int := fun o => if 0 ≤ o ∧ o < 381 then s 160 (381 * q + o) else 0
def ww (s : jM) (q : Int) : Int → Int := fun o => if 0 ≤ o ∧ o < 16 then s 163 (16 * q + o) else 0
theorem vw_at {s : jM} {b i j : Int} (h : 0 ≤ i ∧ i < 25) : vw s b i j = s (b + i) j := if_pos h
theorem cw_at {s : jM} {o : Int} (h : 0 ≤ o ∧ o < 381) : cw s 0 o = s 160 o := by
  show (if 0 ≤ o ∧ o < 381 then s 160 (381 * 0 + o) else 0) = _
  rw [if_pos h, Int.mul_zero, Int.zero_add]
theorem cq_at {s : jM} {q o : Int} (h : 0 ≤ o ∧ o < 381) : cw s q o = s 160 (381 * q + o) := if_pos h
theorem ww_at {s : jM} {o : Int} (h : 0 ≤ o ∧ o < 16) : ww s 0 o = s 163 o := by
  show (if 0 ≤ o ∧ o < 16 then s 163 (16 * 0 + o) else 0) = _
  rw [if_pos h, Int.mul_zero, Int.zero_add]
theorem wq_at {s : jM} {q o : Int} (h : 0 ≤ o ∧ o < 16) : ww s q o = s 163 (16 * q + o) := if_pos h
/-- parts in mould i; their strength -/
def mcnt (c : Int → Int) (i : Int) : Int := sum5 (fun j => c (84 + 5 * i + j))
def mstr (c : Int → Int) (i : Int) : Int := sum5 (fun j => c (84 + 5 * i + j) * c (9 + j))
/-- a mould's fields o, its parts p, and mould i of the block c -/
def iMo (o p c : Int → Int) (i : Int) : Prop :=
  (o 0 = c (54 + i) ∧ o 1 = c (59 + i) ∧ o 2 = c (64 + i) ∧ o 3 = c (69 + i) ∧ o 4 = c (74 + i) ∧ o 5 = mstr c i ∧ o 6 = mcnt c i ∧ o 7 = c (79 + i)) ∧
  (∀ j, 0 ≤ j → j < 5 → p j = c (84 + 5 * i + j) ∧ 0 ≤ c (84 + 5 * i + j)) ∧ (∀ j, 0 ≤ j → c 0 ≤ j → j < 5 → c (84 + 5 * i + j) = 0) ∧
  (1 ≤ c (54 + i) ∧ c (54 + i) ≤ 30 ∧ 1 ≤ c (59 + i) ∧ c (59 + i) ≤ 9 ∧ 0 ≤ c (64 + i) ∧ c (64 + i) < c 1 ∧ 0 ≤ c (69 + i) ∧ c (69 + i) ≤ 2 ∧ 0 ≤ mcnt c i ∧ mcnt c i ≤ c (59 + i) ∧ 0 ≤ c (74 + i) ∧ c (74 + i) ≤ mstr c i ∧ mstr c i ≤ 9 * mcnt c i) ∧
  (c (69 + i) = 0 → mcnt c i = 0 ∧ c (74 + i) = 0) ∧ (c (69 + i) ≠ 0 → 1 ≤ mcnt c i) ∧ (c (69 + i) = 2 → mcnt c i = c (59 + i) ∧ c (54 + i) ≤ c (74 + i))
def iSt (V : jM) (c : Int → Int) (j : Int) : Prop := V 1 j = c (9 + j) ∧ V 2 j = c (14 + j) ∧ V 3 j = c (19 + j) ∧ 0 ≤ c (9 + j) ∧ c (9 + j) ≤ 9 ∧ 0 ≤ c (14 + j) ∧ c (14 + j) ≤ 99 ∧ 0 ≤ c (19 + j) ∧ c (19 + j) ≤ 999
def iHd (V : jM) (c : Int → Int) : Prop := (V 0 0 = c 3 ∧ V 0 1 = c 4 ∧ V 0 2 = c 5 ∧ V 0 3 = c 6 ∧ V 0 4 = c 0 ∧ V 0 5 = c 1 ∧ V 0 6 = c 2 ∧ V 0 7 = c 8) ∧
  (0 ≤ c 0 ∧ c 0 ≤ 5 ∧ 0 ≤ c 1 ∧ c 1 ≤ 6 ∧ 0 ≤ c 2 ∧ c 2 ≤ 5 ∧ 0 ≤ c 3 ∧ c 3 ≤ 9 ∧ 0 ≤ c 4 ∧ c 4 ≤ 16 ∧ 0 ≤ c 5 ∧ 0 ≤ c 8 ∧ c 8 ≤ 10)
def iSe (V : jM) (c : Int → Int) : Prop :=
  iHd V c ∧ (∀ j, 0 ≤ j → j < c 0 → iSt V c j) ∧ (∀ i, 0 ≤ i → i < c 2 → iMo (V (15 + 2 * i)) (V (16 + 2 * i)) c i) ∧
  (∀ i, c 2 ≤ i → i < 5 → c (79 + i) = 0) ∧ c 7 = sum5 (fun i => c (79 + i))
/-- what of a See and a block the names, the walks and the feasts hang on -/
def xV (V : jM) : jM := fun i j => if (5 ≤ i ∧ i < 15) ∨ (i = 0 ∧ j = 8) then V i j else 0
def xc (c : Int → Int) : Int → Int := fun o => if (0 ≤ o ∧ o ≤ 2) ∨ o = 8 ∨ (24 ≤ o ∧ o < 54) ∨ 109 ≤ o then c o else 0
def iX (V : jM) (c w : Int → Int) : Prop := iY (xV V) (xc c) w
theorem iX_congr {V V' : jM} {c c' w w' : Int → Int} (h : iX V c w) (h1 : ∀ i j, (5 ≤ i ∧ i < 15) ∨ (i = 0 ∧ j = 8) → V' i j = V i j) (h2 : ∀ o, (0 ≤ o ∧ o ≤ 2) ∨ o = 8 ∨ (24 ≤ o ∧ o < 54) ∨ 109 ≤ o → c' o = c o) (h3 : w' = w) : iX V' c' w' := by
  have e1 : xV V' = xV V := by
    funext i j
    simp only [xV]
    by_cases hh : (5 ≤ i ∧ i < 15) ∨ (i = 0 ∧ j = 8)
    · rw [if_pos hh, if_pos hh, h1 i j hh]
    · rw [if_neg hh, if_neg hh]
  have e2 : xc c' = xc c := by
    funext o
    simp only [xc]
    by_cases hh : (0 ≤ o ∧ o ≤ 2) ∨ o = 8 ∨ (24 ≤ o ∧ o < 54) ∨ 109 ≤ o
    · rw [if_pos hh, if_pos hh, h2 o hh]
    · rw [if_neg hh, if_neg hh]
  unfold iX
  rw [e1, e2, h3]
  exact h
def iB (V : jM) (c w : Int → Int) : Prop := iSe V c ∧ c 5 ≤ 9999 ∧ iX V c w
def iTr (s : jM) (t : Int) : Prop := (s (2 + 2 * t) 0 = 0 ∧ s 157 t = -1) ∨ (s (2 + 2 * t) 0 = 1 ∧ s (2 + 2 * t) 2 = s 157 t ∧ 0 ≤ s 157 t ∧ s 157 t ≤ 60 ∧ s (2 + 2 * t) 1 = s 156 t ∧ 0 ≤ s 156 t ∧ s 156 t ≤ 3 ∧ ∀ k, 0 ≤ k → k < s 157 t → s (3 + 2 * t) k = s 158 (60 * t + k) ∧ i64 (s 158 (60 * t + k)))
def iTp (s : jM) : Prop := s 11 0 = s 155 8 ∧ 0 ≤ s 11 0 ∧ s 11 0 ≤ 900 ∧ ∀ i, 0 ≤ i → i < s 11 0 → s 12 i = s 159 i ∧ -128 ≤ s 12 i ∧ s 12 i ≤ 127
def iLv (s : jM) : Prop := s 0 8 = s 155 37 ∧ (s 0 8 = 0 ∨ s 0 8 = 1) ∧ ∀ j, 0 ≤ j → j < 5 → s 29 j = s 170 j
def iBs (s : jM) : Prop := ((s 0 5 = 30 ∧ s 0 6 = 55) ∨ (s 0 5 = 55 ∧ s 0 6 = 30)) ∧ 0 ≤ s 0 7 ∧ s 0 7 ≤ 3 ∧ s 155 24 = s 0 7
def iMk (s : jM) : Prop := ∀ q, 0 ≤ q → q < s 0 7 → iB (vw s (80 + 25 * q)) (cw s (q + 1)) (ww s (q + 1))
def iMi (s : jM) : Prop := s 0 0 = s 155 0 ∧ s 0 1 = s 155 2 ∧ s 0 2 = s 155 3 ∧ s 0 3 = s 155 10 ∧ s 0 4 = s 155 11
def INV (s : jM) : Prop := iMi s ∧ (∀ t, 0 ≤ t → t < 4 → iTr s t) ∧ iTp s ∧ iLv s ∧ iBs s ∧ iB (vw s (s 0 5)) (cw s 0) (ww s 0) ∧ iMk s
theorem vw_congr {s t : jM} {b b2 : Int} (h : ∀ i j, 0 ≤ i → i < 25 → t (b2 + i) j = s (b + i) j) : vw t b2 = vw s b := by
  funext i j
  simp only [vw]
  by_cases hi : 0 ≤ i ∧ i < 25
  · rw [if_pos hi, if_pos hi, h i j hi.1 hi.2]
  · rw [if_neg hi, if_neg hi]
theorem cw_congr {s t : jM} {q q2 : Int} (h : ∀ o, 0 ≤ o → o < 381 → t 160 (381 * q2 + o) = s 160 (381 * q + o)) : cw t q2 = cw s q := by
  funext o
  simp only [cw]
  by_cases hi : 0 ≤ o ∧ o < 381
  · rw [if_pos hi, if_pos hi, h o hi.1 hi.2]
  · rw [if_neg hi, if_neg hi]
theorem ww_congr {s t : jM} {q q2 : Int} (h : ∀ o, 0 ≤ o → o < 16 → t 163 (16 * q2 + o) = s 163 (16 * q + o)) : ww t q2 = ww s q := by
  funext o
  simp only [ww]
  by_cases hi : 0 ≤ o ∧ o < 16
  · rw [if_pos hi, if_pos hi, h o hi.1 hi.2]
  · rw [if_neg hi, if_neg hi]
/-- the cells that count, by parts: the object's and the reference's own numbers; trays; the tape; what was lived; the See that is now; the marks -/
def rMi (a b : Int) : Prop := (a = 0 ∧ (b = 1 ∨ b = 2 ∨ b = 3 ∨ b = 4)) ∨ (a = 155 ∧ (b = 2 ∨ b = 3 ∨ b = 10 ∨ b = 11))
def rTr (a b : Int) : Prop := (2 ≤ a ∧ a ≤ 9) ∨ (156 ≤ a ∧ a ≤ 158)
def rTp (a b : Int) : Prop := (a = 11 ∧ b = 0) ∨ a = 12 ∨ (a = 155 ∧ b = 8) ∨ a = 159
def rLv (a b : Int) : Prop := (a = 0 ∧ b = 8) ∨ (a = 155 ∧ b = 37) ∨ a = 29 ∨ a = 170
def rBs (a b : Int) : Prop := (a = 0 ∧ (b = 5 ∨ b = 6 ∨ b = 7)) ∨ (a = 155 ∧ b = 24)
def rMk (a b : Int) : Prop := (80 ≤ a ∧ a ≤ 154) ∨ (a = 160 ∧ 381 ≤ b ∧ b < 1524) ∨ (a = 163 ∧ 16 ≤ b ∧ b < 64)
def rNo (n a b : Int) : Prop := (n ≤ a ∧ a < n + 25) ∨ (a = 160 ∧ 0 ≤ b ∧ b < 381) ∨ (a = 163 ∧ 0 ≤ b ∧ b < 16)
theorem iTr_congr {s t : jM} {x : Int} (h : iTr s x) (h1 : ∀ b, t (2 + 2 * x) b = s (2 + 2 * x) b) (h2 : ∀ b, t (3 + 2 * x) b = s (3 + 2 * x) b) (h3 : t 157 x = s 157 x) (h4 : t 156 x = s 156 x) (h5 : ∀ k, 0 ≤ k → k < 60 → t 158 (60 * x + k) = s 158 (60 * x + k)) : iTr t x := by
  rcases h with h | ⟨a1, a2, a3, a4, a5, a6, a7, a8⟩
  · exact Or.inl ⟨by rw [h1]; exact h.1, by rw [h3]; exact h.2⟩
  · refine Or.inr ⟨by rw [h1]; exact a1, by rw [h1, h3]; exact a2, by rw [h3]; exact a3, by rw [h3]; exact a4, by rw [h1, h4]; exact a5, by rw [h4]; exact a6, by rw [h4]; exact a7, fun k hk1 hk2 => ?_⟩
    rw [h3] at hk2
    rw [h2, h5 k hk1 (by omega)]
    exact a8 k hk1 hk2
theorem iMi_fr {s t : jM} (h : iMi s) (hs : t 0 0 = t 155 0) (hr : ∀ a b, rMi a b → t a b = s a b) : iMi t := by
  obtain ⟨-, m1, m2, m3, m4⟩ := h
  refine ⟨hs, ?_, ?_, ?_, ?_⟩
  · rw [hr 0 1 (by unfold rMi; omega), hr 155 2 (by unfold rMi; omega)]; exact m1
  · rw [hr 0 2 (by unfold rMi; omega), hr 155 3 (by unfold rMi; omega)]; exact m2
  · rw [hr 0 3 (by unfold rMi; omega), hr 155 10 (by unfold rMi; omega)]; exact m3
  · rw [hr 0 4 (by unfold rMi; omega), hr 155 11 (by unfold rMi; omega)]; exact m4
theorem iTrs_fr {s t : jM} (h : ∀ x, 0 ≤ x → x < 4 → iTr s x) (hr : ∀ a b, rTr a b → t a b = s a b) : ∀ x, 0 ≤ x → x < 4 → iTr t x := by
  intro x h1 h2
  exact iTr_congr (h x h1 h2) (fun b => hr _ _ (by unfold rTr; omega)) (fun b => hr _ _ (by unfold rTr; omega)) (hr _ _ (by unfold rTr; omega)) (hr _ _ (by unfold rTr; omega)) (fun k _ _ => hr _ _ (by unfold rTr; omega))
theorem iTp_fr {s t : jM} (h : iTp s) (hr : ∀ a b, rTp a b → t a b = s a b) : iTp t := by
  obtain ⟨p1, p2, p3, p4⟩ := h
  have e11 : t 11 0 = s 11 0 := hr 11 0 (by unfold rTp; omega)
  refine ⟨?_, ?_, ?_, ?_⟩
  · rw [e11, hr 155 8 (by unfold rTp; omega)]; exact p1
  · rw [e11]; exact p2
  · rw [e11]; exact p3
  · intro i h1 h2
    rw [e11] at h2
    rw [hr 12 i (by unfold rTp; omega), hr 159 i (by unfold rTp; omega)]
    exact p4 i h1 h2
theorem iLv_fr {s t : jM} (h : iLv s) (hr : ∀ a b, rLv a b → t a b = s a b) : iLv t := by
  obtain ⟨l1, l2, l3⟩ := h
  refine ⟨?_, ?_, ?_⟩
  · rw [hr 0 8 (by unfold rLv; omega), hr 155 37 (by unfold rLv; omega)]; exact l1
  · rw [hr 0 8 (by unfold rLv; omega)]; exact l2
  · intro j h1 h2
    rw [hr 29 j (by unfold rLv; omega), hr 170 j (by unfold rLv; omega)]
    exact l3 j h1 h2
theorem iBs_fr {s t : jM} (h : iBs s) (hr : ∀ a b, rBs a b → t a b = s a b) : iBs t := by
  unfold iBs at h ⊢
  rw [hr 0 5 (by unfold rBs; omega), hr 0 6 (by unfold rBs; omega), hr 0 7 (by unfold rBs; omega), hr 155 24 (by unfold rBs; omega)]
  exact h
theorem iNo_fr {s t : jM} {n : Int} (h : iB (vw s n) (cw s 0) (ww s 0)) (hr : ∀ a b, rNo n a b → t a b = s a b) : iB (vw t n) (cw t 0) (ww t 0) := by
  rw [vw_congr (s := s) (b := n) (fun i j h1 h2 => hr _ _ (by unfold rNo; omega)), cw_congr (s := s) (q := 0) (fun o h1 h2 => hr _ _ (by unfold rNo; omega)), ww_congr (s := s) (q := 0) (fun o h1 h2 => hr _ _ (by unfold rNo; omega))]
  exact h
theorem iMk_fr {s t : jM} (h : iMk s) (h7 : t 0 7 = s 0 7) (h8 : s 0 7 ≤ 3) (hr : ∀ a b, rMk a b → t a b = s a b) : iMk t := by
  intro q h1 h2
  rw [h7] at h2
  rw [vw_congr (s := s) (b := 80 + 25 * q) (fun i j h3 h4 => hr _ _ (by unfold rMk; omega)), cw_congr (s := s) (q := q + 1) (fun o h3 h4 => hr _ _ (by unfold rMk; omega)), ww_congr (s := s) (q := q + 1) (fun o h3 h4 => hr _ _ (by unfold rMk; omega))]
  exact h q h1 h2
/-- what counts, but the See that is now and STATUS -/
def cnt (a b : Int) : Prop := (a = 0 ∧ 1 ≤ b ∧ b ≤ 8) ∨ (2 ≤ a ∧ a ≤ 9) ∨ (a = 11 ∧ b = 0) ∨ a = 12 ∨ a = 29 ∨ (80 ≤ a ∧ a ≤ 154) ∨ (a = 155 ∧ (b = 2 ∨ b = 3 ∨ b = 8 ∨ b = 10 ∨ b = 11 ∨ b = 24 ∨ b = 37)) ∨ (156 ≤ a ∧ a ≤ 159) ∨ (a = 160 ∧ 381 ≤ b ∧ b < 1524) ∨ (a = 163 ∧ 0 ≤ b ∧ b < 64) ∨ a = 170 ∨ a = -1 ∨ a = -2
def KEEP (s t : jM) : Prop := ∀ a b, cnt a b → t a b = s a b
theorem KEEP.rf (s : jM) : KEEP s s := fun _ _ _ => rfl
theorem KEEP.tr {s t u : jM} (h : KEEP s t) (h2 : KEEP t u) : KEEP s u := fun a b q => (h2 a b q).trans (h a b q)
theorem KEEP.up {s t : jM} (h : KEEP s t) {k j v : Int} (hn : ¬ cnt k j) : KEEP s (jup t k j v) := fun a b q => by
  rw [u_ne (fun z => hn (by rw [← z.1, ← z.2]; exact q))]
  exact h a b q
theorem KEEP.fill {s t : jM} (h : KEEP s t) {k lo hi v : Int} (hn : ∀ j, lo ≤ j → j < hi → ¬ cnt k j) : KEEP s (jfill t k lo hi v) := fun a b q => by
  rw [f_out (fun z => hn b z.2.1 z.2.2 (by rw [← z.1]; exact q))]
  exact h a b q
theorem KEEP.neg {s t : jM} (h : KEEP s t) : t (-1) = s (-1) ∧ t (-2) = s (-2) := ⟨funext fun b => h _ _ (by unfold cnt; omega), funext fun b => h _ _ (by unfold cnt; omega)⟩
theorem INV_now {s t : jM} (h : INV s) (hk : KEEP s t) (hs : t 0 0 = t 155 0) (hb : iB (vw t (s 0 5)) (cw t 0) (ww t 0)) : INV t := by
  obtain ⟨h1, h2, h3, h4, h5, h6, h7⟩ := h
  have e : ∀ b, (b = 5 ∨ b = 6 ∨ b = 7) → t 0 b = s 0 b := fun b hb => hk 0 b (by unfold cnt; omega)
  refine ⟨iMi_fr h1 hs (fun a b q => hk a b (by unfold rMi at q; unfold cnt; omega)), iTrs_fr h2 (fun a b q => hk a b (by unfold rTr at q; unfold cnt; omega)), iTp_fr h3 (fun a b q => hk a b (by unfold rTp at q; unfold cnt; omega)), iLv_fr h4 (fun a b q => hk a b (by unfold rLv at q; unfold cnt; omega)), iBs_fr h5 (fun a b q => hk a b (by unfold rBs at q; unfold cnt; omega)), ?_, iMk_fr h7 (e 7 (by omega)) h5.2.2.1 (fun a b q => hk a b (by unfold rMk at q; unfold cnt; omega))⟩
  rw [e 5 (by omega)]
  exact hb
/-- nothing that counts has changed but STATUS -/
theorem INV_same {s t : jM} (h : INV s) (hk : KEEP s t) (hs : t 0 0 = t 155 0) (hn : ∀ a b, rNo (s 0 5) a b → t a b = s a b) : INV t :=
  INV_now h hk hs (iNo_fr h.2.2.2.2.2.1 hn)
/-- a call on both sides: the same answer, and what holds goes on holding -/
def OKc (s : jM) (f g : jM → Option (Int × jM)) : Prop := ∃ r s1 s2, f s = some (r, s1) ∧ g s1 = some (r, s2) ∧ INV s2 ∧ s2 (-1) = s (-1) ∧ s2 (-2) = s (-2)
theorem OKc.of {s s1 s2 : jM} {r : Int} {f g : jM → Option (Int × jM)} (hf : f s = some (r, s1)) (hg : g s1 = some (r, s2)) (hi : INV s2) (hk : KEEP s s2) : OKc s f g := ⟨r, s1, s2, hf, hg, hi, hk.neg.1, hk.neg.2⟩
theorem INV.b {s : jM} (h : INV s) : (s 0 5 = 30 ∨ s 0 5 = 55) ∧ jok 3 (s 0 5) = true ∧ jok 3 (s 0 6) = true ∧ (s 0 6 = 30 ∨ s 0 6 = 55) ∧ 0 ≤ s 0 7 ∧ s 0 7 ≤ 3 := by
  obtain ⟨-, -, -, -, ⟨h1, h2, h3, -⟩, -⟩ := h
  rcases h1 with ⟨a, b⟩ | ⟨a, b⟩
  · rw [a, b]
    exact ⟨Or.inl rfl, by decide +kernel, by decide +kernel, Or.inr rfl, h2, h3⟩
  · rw [a, b]
    exact ⟨Or.inr rfl, by decide +kernel, by decide +kernel, Or.inl rfl, h2, h3⟩
/-- STATUS w on both sides -/
theorem KEEP_q (s : jM) (w : Int) : KEEP s (jup (jup (jup (jup s 0 0 w) 155 1 0) 155 0 0) 155 0 w) := ((((KEEP.rf s).up (by unfold cnt; omega)).up (by unfold cnt; omega)).up (by unfold cnt; omega)).up (by unfold cnt; omega)
theorem INV_q {s : jM} (h : INV s) (w : Int) : INV (jup (jup (jup (jup s 0 0 w) 155 1 0) 155 0 0) 155 0 w) := by
  refine INV_same h (KEEP_q s w) (by simp (disch := omega) only [↓jb_m, ↓jm_s, ↓reduceIte, t_lt, t_nlt, t_le, t_nle, t_eq, t_neq, w32_id, w64_id, jb_s, and_true, true_and, and_self, and_false, false_and, or_true, true_or, or_false, false_or, or_self, not_false_eq_true, not_true_eq_false, u_ne, u_eq, u_u, Int.reduceAdd, Int.reduceSub, Int.reduceMul, Int.reduceNeg, Int.zero_add, Int.add_zero, n15, n16, q10, q11, q12, q13, q14]) (fun a b q => ?_)
  have := h.b.1
  unfold rNo at q
  simp (disch := omega) only [↓jb_m, ↓jm_s, ↓reduceIte, t_lt, t_nlt, t_le, t_nle, t_eq, t_neq, w32_id, w64_id, jb_s, and_true, true_and, and_self, and_false, false_and, or_true, true_or, or_false, false_or, or_self, not_false_eq_true, not_true_eq_false, u_ne, u_eq, u_u, Int.reduceAdd, Int.reduceSub, Int.reduceMul, Int.reduceNeg, Int.zero_add, Int.add_zero, n15, n16, q10, q11, q12, q13, q14]
/-- all but the cells P is the same -/
def EX (P : Int → Int → Prop) (s t : jM) : Prop := ∀ a b, ¬ P a b → t a b = s a b
theorem EX.rf (P : Int → Int → Prop) (s : jM) : EX P s s := fun _ _ _ => rfl
theorem EX.tr {P : Int → Int → Prop} {s t u : jM} (h : EX P s t) (h2 : EX P t u) : EX P s u := fun a b q => (h2 a b q).trans (h a b q)
theorem EX.wk {P Q : Int → Int → Prop} {s t : jM} (h : EX P s t) (hq : ∀ a b, P a b → Q a b) : EX Q s t := fun a b q => h a b (fun z => q (hq a b z))
theorem EX.up {P : Int → Int → Prop} {s t : jM} (h : EX P s t) {k j v : Int} (hn : P k j) : EX P s (jup t k j v) := fun a b q => by
  rw [u_ne (fun z => q (by rw [z.1, z.2]; exact hn))]
  exact h a b q
theorem EX.fill {P : Int → Int → Prop} {s t : jM} (h : EX P s t) {k lo hi v : Int} (hn : ∀ j, lo ≤ j → j < hi → P k j) : EX P s (jfill t k lo hi v) := fun a b q => by
  rw [f_out (fun z => q (by rw [z.1]; exact hn b z.2.1 z.2.2))]
  exact h a b q
theorem EX.cp {P : Int → Int → Prop} {s t : jM} (h : EX P s t) {k sp k2 dp n : Int} (hn : ∀ j, dp ≤ j → j < dp + n → P k2 j) : EX P s (jcp t k sp k2 dp n) := fun a b q => by
  rw [c_out (fun z => q (by rw [z.1]; exact hn b z.2.1 z.2.2))]
  exact h a b q
theorem EX.keep {P : Int → Int → Prop} {s t : jM} (h : EX P s t) (hn : ∀ a b, P a b → ¬ cnt a b) : KEEP s t := fun a b q => h a b (fun z => hn a b z q)
theorem OKc.no {s : jM} {w r : Int} {f g : jM → Option (Int × jM)} (h : INV s) (hf : f s = some (r, jup s 0 0 w)) (hg : g (jup s 0 0 w) = some (r, jup (jup (jup s 0 0 w) 155 1 0) 155 0 w)) : OKc s f g := by
  refine OKc.of hf hg ?_ ?_
  · have := INV_q h w
    rw [u_u] at this
    exact this
  · have := KEEP_q s w
    rw [u_u] at this
    exact this
