/-! WHAT HOLDS BETWEEN THE CLASS AND THE REFERENCE, over the pure machine's cells -/
theorem w32_id {x : Int} (h1 : -2147483648 ≤ x) (h2 : x < 2147483648) : w32 x = x := by simp only [w32]; omega
theorem w64_id {x : Int} (h1 : -9223372036854775808 ≤ x) (h2 : x < 9223372036854775808) : w64 x = x := by simp only [w64]; omega
theorem jb_s (v : Int) (s : jM) (f : Int → jM → Option (Int × jM)) : jb (some (v, s)) f = f v s := rfl
theorem jm_s (s : jM) (f : jM → Option (Int × jM)) : jm s f = f s := rfl
theorem jup_at (s : jM) (k j v a b : Int) : jup s k j v a b = if a = k ∧ b = j then v else s a b := rfl
theorem jcp_at (s : jM) (k sp k2 dp n a b : Int) : jcp s k sp k2 dp n a b = if a = k2 ∧ dp ≤ b ∧ b < dp + n then s k (sp + (b - dp)) else s a b := rfl
/-- a row of places gets one number -/
def jfill (s : jM) (k lo hi v : Int) : jM := fun a b => if a = k ∧ lo ≤ b ∧ b < hi then v else s a b
theorem jfill_at (s : jM) (k lo hi v a b : Int) : jfill s k lo hi v a b = if a = k ∧ lo ≤ b ∧ b < hi then v else s a b := rfl
theorem jfill_0 (s : jM) (k lo hi v : Int) (h : hi ≤ lo) : jfill s k lo hi v = s := by
  funext a b
  rw [jfill_at, if_neg (by omega)]
theorem jfill_s {s : jM} {k lo hi v : Int} (h : lo < hi) : jfill (jup s k lo v) k (lo + 1) hi v = jfill s k lo hi v := by
  funext a b
  simp only [jfill_at, jup_at]
  by_cases h1 : a = k ∧ lo + 1 ≤ b ∧ b < hi
  · rw [if_pos h1, if_pos (by omega)]
  · rw [if_neg h1]
    by_cases h2 : a = k ∧ b = lo
    · rw [if_pos h2, if_pos (by omega)]
    · rw [if_neg h2, if_neg (by omega)]
theorem jFU_ge {n : Nat} (h : n ≤ 2000000) : n ≤ jFU := h
/-- an int; a long -/
def i32 (x : Int) : Prop := -2147483648 ≤ x ∧ x < 2147483648
def i64 (x : Int) : Prop := -9223372036854775808 ≤ x ∧ x < 9223372036854775808
theorem i32_w {x : Int} (h : i32 x) : w32 x = x := w32_id h.1 h.2
theorem i64_w {x : Int} (h : i64 x) : w64 x = x := w64_id h.1 h.2
theorem w32_i (x : Int) : i32 (w32 x) := ⟨w32_lo x, w32_hi x⟩
/-- a See from its cell on, a block of the reference's, its names -/
def vw (s : jM) (b : Int) : jM := fun i j => if 0 ≤ i ∧ i < 25 then s (b + i) j else 0
def cw (s : jM) (q : Int) : Int → Int := fun o => if 0 ≤ o ∧ o < 381 then s 160 (381 * q + o) else 0
def ww (s : jM) (q : Int) : Int → Int := fun o => if 0 ≤ o ∧ o < 16 then s 163 (16 * q + o) else 0
theorem vw_at {s : jM} {b i j : Int} (h1 : 0 ≤ i) (h2 : i < 25) : vw s b i j = s (b + i) j := if_pos ⟨h1, h2⟩
theorem cw_at {s : jM} {q o : Int} (h1 : 0 ≤ o) (h2 : o < 381) : cw s q o = s 160 (381 * q + o) := if_pos ⟨h1, h2⟩
theorem ww_at {s : jM} {q o : Int} (h1 : 0 ≤ o) (h2 : o < 16) : ww s q o = s 163 (16 * q + o) := if_pos ⟨h1, h2⟩
/-- parts in mould i; their strength -/
def mcnt (c : Int → Int) (i : Int) : Int := c (84 + 5 * i) + c (85 + 5 * i) + c (86 + 5 * i) + c (87 + 5 * i) + c (88 + 5 * i)
def mstr (c : Int → Int) (i : Int) : Int := c (84 + 5 * i) * c 9 + c (85 + 5 * i) * c 10 + c (86 + 5 * i) * c 11 + c (87 + 5 * i) * c 12 + c (88 + 5 * i) * c 13
/-- a mould's fields o, its parts p, and mould i of the block c -/
def iMo (o p c : Int → Int) (i : Int) : Prop :=
  (o 0 = c (54 + i) ∧ o 1 = c (59 + i) ∧ o 2 = c (64 + i) ∧ o 3 = c (69 + i) ∧ o 4 = c (74 + i) ∧ o 5 = mstr c i ∧ o 6 = mcnt c i ∧ o 7 = c (79 + i)) ∧
  (∀ j, 0 ≤ j → j < 5 → p j = c (84 + 5 * i + j) ∧ 0 ≤ c (84 + 5 * i + j)) ∧ (∀ j, c 0 ≤ j → j < 5 → c (84 + 5 * i + j) = 0) ∧
  (1 ≤ c (54 + i) ∧ c (54 + i) ≤ 30 ∧ 1 ≤ c (59 + i) ∧ c (59 + i) ≤ 9 ∧ 0 ≤ c (64 + i) ∧ c (64 + i) < c 1 ∧ 0 ≤ c (69 + i) ∧ c (69 + i) ≤ 2 ∧ mcnt c i ≤ c (59 + i) ∧ 0 ≤ c (74 + i) ∧ c (74 + i) ≤ mstr c i) ∧
  (c (69 + i) = 0 → mcnt c i = 0 ∧ c (74 + i) = 0) ∧ (c (69 + i) ≠ 0 → 1 ≤ mcnt c i) ∧ (c (69 + i) = 2 → mcnt c i = c (59 + i) ∧ c (54 + i) ≤ c (74 + i))
def iSt (V : jM) (c : Int → Int) (j : Int) : Prop := V 1 j = c (9 + j) ∧ V 2 j = c (14 + j) ∧ V 3 j = c (19 + j) ∧ 0 ≤ c (9 + j) ∧ c (9 + j) ≤ 9 ∧ 0 ≤ c (14 + j) ∧ c (14 + j) ≤ 99 ∧ 0 ≤ c (19 + j) ∧ c (19 + j) ≤ 999
def iSe (V : jM) (c : Int → Int) : Prop :=
  (V 0 0 = c 3 ∧ V 0 1 = c 4 ∧ V 0 2 = c 5 ∧ V 0 3 = c 6 ∧ V 0 4 = c 0 ∧ V 0 5 = c 1 ∧ V 0 6 = c 2 ∧ V 0 7 = c 8) ∧
  (0 ≤ c 0 ∧ c 0 ≤ 5 ∧ 0 ≤ c 1 ∧ c 1 ≤ 6 ∧ 0 ≤ c 2 ∧ c 2 ≤ 5 ∧ 0 ≤ c 3 ∧ c 3 ≤ 9 ∧ 0 ≤ c 4 ∧ c 4 ≤ 16 ∧ 0 ≤ c 5 ∧ c 5 ≤ 9999 ∧ 0 ≤ c 8 ∧ c 8 ≤ 10) ∧
  (∀ j, 0 ≤ j → j < c 0 → iSt V c j) ∧ (∀ i, 0 ≤ i → i < c 2 → iMo (V (15 + 2 * i)) (V (16 + 2 * i)) c i) ∧
  (∀ i, c 2 ≤ i → i < 5 → c (79 + i) = 0) ∧ c 7 = c 79 + c 80 + c 81 + c 82 + c 83
/-- what of a See and a block the names, the walks and the feasts hang on -/
def xV (V : jM) : jM := fun i j => if (5 ≤ i ∧ i < 15) ∨ (i = 0 ∧ j = 8) then V i j else 0
def xc (c : Int → Int) : Int → Int := fun o => if (0 ≤ o ∧ o ≤ 2) ∨ o = 8 ∨ (24 ≤ o ∧ o < 54) ∨ 109 ≤ o then c o else 0
def iX (V : jM) (c w : Int → Int) : Prop := True
def iB (V : jM) (c w : Int → Int) : Prop := iSe V c ∧ iX (xV V) (xc c) w
def iTr (s : jM) (t : Int) : Prop := (s (2 + 2 * t) 0 = 0 ∧ s 157 t = -1) ∨ (s (2 + 2 * t) 0 = 1 ∧ s (2 + 2 * t) 2 = s 157 t ∧ 0 ≤ s 157 t ∧ s 157 t ≤ 60 ∧ s (2 + 2 * t) 1 = s 156 t ∧ 0 ≤ s 156 t ∧ s 156 t ≤ 3 ∧ ∀ k, 0 ≤ k → k < s 157 t → s (3 + 2 * t) k = s 158 (60 * t + k))
def iTp (s : jM) : Prop := s 11 0 = s 155 8 ∧ 0 ≤ s 11 0 ∧ s 11 0 ≤ 900 ∧ ∀ i, 0 ≤ i → i < s 11 0 → s 12 i = s 159 i ∧ -128 ≤ s 12 i ∧ s 12 i ≤ 127
def iLv (s : jM) : Prop := s 0 8 = s 155 37 ∧ (s 0 8 = 0 ∨ s 0 8 = 1) ∧ ∀ j, 0 ≤ j → j < 5 → s 29 j = s 170 j
def iBk (s : jM) : Prop := ((s 0 5 = 30 ∧ s 0 6 = 55) ∨ (s 0 5 = 55 ∧ s 0 6 = 30)) ∧ 0 ≤ s 0 7 ∧ s 0 7 ≤ 3 ∧ s 155 24 = s 0 7 ∧ iB (vw s (s 0 5)) (cw s 0) (ww s 0) ∧ ∀ q, 0 ≤ q → q < s 0 7 → iB (vw s (80 + 25 * q)) (cw s (q + 1)) (ww s (q + 1))
def iMi (s : jM) : Prop := s 0 0 = s 155 0 ∧ s 0 1 = s 155 2 ∧ s 0 2 = s 155 3 ∧ s 0 3 = s 155 10 ∧ s 0 4 = s 155 11
def INV (s : jM) : Prop := iMi s ∧ (∀ t, 0 ≤ t → t < 4 → iTr s t) ∧ iTp s ∧ iLv s ∧ iBk s
/-- the cells that count -/
def REL (s : jM) (a b : Int) : Prop := a = 0 ∨ (2 ≤ a ∧ a ≤ 9) ∨ (a = 11 ∧ b = 0) ∨ a = 12 ∨ a = 29 ∨ (s 0 5 ≤ a ∧ a < s 0 5 + 25) ∨ (80 ≤ a ∧ a ≤ 154) ∨ (a = 155 ∧ (b = 0 ∨ b = 2 ∨ b = 3 ∨ b = 8 ∨ b = 10 ∨ b = 11 ∨ b = 24 ∨ b = 37)) ∨ (156 ≤ a ∧ a ≤ 159) ∨ (a = 160 ∧ 0 ≤ b ∧ b < 1524) ∨ (a = 163 ∧ 0 ≤ b ∧ b < 64) ∨ a = 170
theorem vw_congr {s t : jM} {b b2 : Int} (h : ∀ i j, 0 ≤ i → i < 25 → t (b2 + i) j = s (b + i) j) : vw t b2 = vw s b := by
  funext i j
  simp only [vw]
  by_cases hi : 0 ≤ i ∧ i < 25
  · rw [if_pos hi, if_pos hi, h i j hi.1 hi.2]
  · rw [if_neg hi, if_neg hi]
theorem cw_congr {s t : jM} {q q2 : Int} (h : ∀ o, 0 ≤ o → o < 381 → t 160 (381 * q2 + o) = s 160 (381 * q + o)) : cw t q2 = cw s q := by
  funext o
  simp only [cw]
  by_cases hi : 0 ≤ o ∧ o < 381
  · rw [if_pos hi, if_pos hi, h o hi.1 hi.2]
  · rw [if_neg hi, if_neg hi]
theorem ww_congr {s t : jM} {q q2 : Int} (h : ∀ o, 0 ≤ o → o < 16 → t 163 (16 * q2 + o) = s 163 (16 * q + o)) : ww t q2 = ww s q := by
  funext o
  simp only [ww]
  by_cases hi : 0 ≤ o ∧ o < 16
  · rw [if_pos hi, if_pos hi, h o hi.1 hi.2]
  · rw [if_neg hi, if_neg hi]
theorem iTr_congr {s t : jM} {x : Int} (h : iTr s x) (h1 : ∀ b, t (2 + 2 * x) b = s (2 + 2 * x) b) (h2 : ∀ b, t (3 + 2 * x) b = s (3 + 2 * x) b) (h3 : t 157 x = s 157 x) (h4 : t 156 x = s 156 x) (h5 : ∀ k, 0 ≤ k → k < 60 → t 158 (60 * x + k) = s 158 (60 * x + k)) : iTr t x := by
  rcases h with h | ⟨a1, a2, a3, a4, a5, a6, a7, a8⟩
  · exact Or.inl ⟨by rw [h1]; exact h.1, by rw [h3]; exact h.2⟩
  · refine Or.inr ⟨by rw [h1]; exact a1, by rw [h1, h3]; exact a2, by rw [h3]; exact a3, by rw [h3]; exact a4, by rw [h1, h4]; exact a5, by rw [h4]; exact a6, by rw [h4]; exact a7, fun k hk1 hk2 => ?_⟩
    rw [h3] at hk2
    rw [h2, h5 k hk1 (by omega)]
    exact a8 k hk1 hk2
/-- what does not count, and STATUS on both sides alike -/
theorem INV_frame {s t : jM} (h : INV s) (hr : ∀ a b, REL s a b → ¬ (b = 0 ∧ (a = 0 ∨ a = 155)) → t a b = s a b) (hs : t 0 0 = t 155 0) : INV t := by
  obtain ⟨⟨m0, m1, m2, m3, m4⟩, ht, ⟨p1, p2, p3, p4⟩, ⟨l1, l2, l3⟩, ⟨b1, b2, b3, b4, b5, b6⟩⟩ := h
  have e0 : ∀ b, b ≠ 0 → t 0 b = s 0 b := fun b hb => hr 0 b (Or.inl rfl) (by omega)
  have e5 : ∀ b, (b = 2 ∨ b = 3 ∨ b = 8 ∨ b = 10 ∨ b = 11 ∨ b = 24 ∨ b = 37) → t 155 b = s 155 b := fun b hb => hr 155 b (by unfold REL; omega) (by omega)
  have e11 : t 11 0 = s 11 0 := hr 11 0 (by unfold REL; omega) (by omega)
  refine ⟨⟨hs, ?_, ?_, ?_, ?_⟩, ?_, ⟨?_, ?_, ?_, ?_⟩, ⟨?_, ?_, ?_⟩, ⟨?_, ?_, ?_, ?_, ?_, ?_⟩⟩
  · rw [e0 1 (by decide), e5 2 (by decide)]; exact m1
  · rw [e0 2 (by decide), e5 3 (by decide)]; exact m2
  · rw [e0 3 (by decide), e5 10 (by decide)]; exact m3
  · rw [e0 4 (by decide), e5 11 (by decide)]; exact m4
  · intro x h1 h2
    exact iTr_congr (ht x h1 h2) (fun b => hr _ _ (by unfold REL; omega) (by omega)) (fun b => hr _ _ (by unfold REL; omega) (by omega)) (hr _ _ (by unfold REL; omega) (by omega)) (hr _ _ (by unfold REL; omega) (by omega)) (fun k _ _ => hr _ _ (by unfold REL; omega) (by omega))
  · rw [e11, e5 8 (by decide)]; exact p1
  · rw [e11]; exact p2
  · rw [e11]; exact p3
  · intro i h1 h2
    rw [e11] at h2
    rw [hr 12 i (by unfold REL; omega) (by omega), hr 159 i (by unfold REL; omega) (by omega)]
    exact p4 i h1 h2
  · rw [e0 8 (by decide), e5 37 (by decide)]; exact l1
  · rw [e0 8 (by decide)]; exact l2
  · intro j h1 h2
    rw [hr 29 j (by unfold REL; omega) (by omega), hr 170 j (by unfold REL; omega) (by omega)]
    exact l3 j h1 h2
  · rw [e0 5 (by decide), e0 6 (by decide)]; exact b1
  · rw [e0 7 (by decide)]; exact b2
  · rw [e0 7 (by decide)]; exact b3
  · rw [e0 7 (by decide), e5 24 (by decide)]; exact b4
  · rw [e0 5 (by decide), vw_congr (s := s) (b := s 0 5) (fun i j h1 h2 => hr _ _ (by unfold REL; omega) (by omega)), cw_congr (s := s) (q := 0) (fun o h1 h2 => hr _ _ (by unfold REL; omega) (by omega)), ww_congr (s := s) (q := 0) (fun o h1 h2 => hr _ _ (by unfold REL; omega) (by omega))]
    exact b5
  · intro q h1 h2
    rw [e0 7 (by decide)] at h2
    rw [vw_congr (s := s) (b := 80 + 25 * q) (fun i j h3 h4 => hr _ _ (by unfold REL; omega) (by omega)), cw_congr (s := s) (q := q + 1) (fun o h3 h4 => hr _ _ (by unfold REL; omega) (by omega)), ww_congr (s := s) (q := q + 1) (fun o h3 h4 => hr _ _ (by unfold REL; omega) (by omega))]
    exact b6 q h1 h2
/-- a call on both sides: the same answer, and what holds goes on holding -/
def OKc (s : jM) (f g : jM → Option (Int × jM)) : Prop := ∃ r s1 s2, f s = some (r, s1) ∧ g s1 = some (r, s2) ∧ INV s2 ∧ s2 (-1) = s (-1) ∧ s2 (-2) = s (-2)
theorem lcmp_lt (a b : Int) : w32 (jlcmp a b) < 0 ↔ w64 a < w64 b := by
  simp only [jlcmp]
  split
  · simp [w32]; assumption
  · split
    · simp [w32]; omega
    · simp [w32]; omega
theorem lcmp_gt (a b : Int) : 0 < w32 (jlcmp a b) ↔ w64 b < w64 a := by
  simp only [jlcmp]
  split
  · simp [w32]; omega
  · split
    · simp [w32]; omega
    · simp [w32]; omega
theorem lcmp_eq (a b : Int) : w32 (jlcmp a b) = 0 ↔ w64 a = w64 b := by
  simp only [jlcmp]
  split
  · simp [w32]; omega
  · split
    · simp [w32]; assumption
    · simp [w32]; assumption
theorem Md_isIn_eq {x lo hi : Int} {s : jM} (hx : i64 x) (hl : i64 lo) (hh : i64 hi) : Md_isIn x lo hi s = some (if lo ≤ x ∧ x ≤ hi then 1 else 0, s) := by
  simp only [Md_isIn, lcmp_lt, lcmp_gt, i64_w hx, i64_w hl, i64_w hh]
  by_cases h1 : x < lo
  · rw [if_pos h1, if_neg (by omega)]
  · rw [if_neg h1]
    by_cases h2 : hi < x
    · rw [if_pos h2, if_neg (by omega)]
    · rw [if_neg h2, if_pos (by omega)]
