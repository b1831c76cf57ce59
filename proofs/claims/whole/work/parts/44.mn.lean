/-! MINUTES: a mould's fields o, its parts, as FIRM may gain p or lose q -/
def rO (o : Int → Int) (p q : Int) : Int → Int := fun j => if o 3 = 1 then (if j = 4 then (if o 5 < o 4 + p then o 5 else o 4 + p) else o j) else if o 3 = 2 then (if o 4 - q < o 0 then (if 3 ≤ j ∧ j ≤ 6 then 0 else if j = 7 then o 7 + 1 else o j) else (if j = 4 then o 4 - q else o j)) else o j
def rP (o : Int → Int) (q : Int) (pp : Int → Int) : Int → Int := fun j => if o 3 = 2 ∧ o 4 - q < o 0 ∧ 0 ≤ j ∧ j < 5 then 0 else pp j
def RS (V : jM) (p q k : Int) : jM := fun i j => if 15 ≤ i ∧ i < 15 + 2 * k then (if i % 2 = 1 then rO (V i) p q j else rP (V (i - 1)) q (V i) j) else V i j
theorem rO_1 {o : Int → Int} {p q j : Int} (h : o 3 = 1) : rO o p q j = if j = 4 then (if o 5 < o 4 + p then o 5 else o 4 + p) else o j := if_pos h
theorem rO_2 {o : Int → Int} {p q j : Int} (h : o 3 = 2) (h2 : o 4 - q < o 0) : rO o p q j = if 3 ≤ j ∧ j ≤ 6 then 0 else if j = 7 then o 7 + 1 else o j := by
  unfold rO
  rw [if_neg (by omega), if_pos h, if_pos h2]
theorem rO_3 {o : Int → Int} {p q j : Int} (h : o 3 = 2) (h2 : ¬ o 4 - q < o 0) : rO o p q j = if j = 4 then o 4 - q else o j := by
  unfold rO
  rw [if_neg (by omega), if_pos h, if_neg h2]
theorem rO_0 {o : Int → Int} {p q j : Int} (h : ¬ o 3 = 1) (h2 : ¬ o 3 = 2) : rO o p q j = o j := by
  unfold rO
  rw [if_neg h, if_neg h2]
theorem rP_2 {o pp : Int → Int} {q j : Int} (h : o 3 = 2) (h2 : o 4 - q < o 0) (h3 : 0 ≤ j ∧ j < 5) : rP o q pp j = 0 := if_pos ⟨h, h2, h3⟩
theorem rP_0 {o pp : Int → Int} {q j : Int} (h : ¬ (o 3 = 2 ∧ o 4 - q < o 0 ∧ 0 ≤ j ∧ j < 5)) : rP o q pp j = pp j := if_neg h
theorem rO_rO {o : Int → Int} {p q p2 q2 : Int} (hp : 0 ≤ p2) (hq : 0 ≤ q2) : rO (rO o p q) p2 q2 = rO o (p + p2) (q + q2) := by
  funext j
  by_cases h1 : o 3 = 1
  · have a3 : rO o p q 3 = 1 := by rw [rO_1 h1, if_neg (by omega)]; exact h1
    have a5 : rO o p q 5 = o 5 := by rw [rO_1 h1, if_neg (by omega)]
    have a4 : rO o p q 4 = if o 5 < o 4 + p then o 5 else o 4 + p := by rw [rO_1 h1, if_pos rfl]
    rw [rO_1 a3, rO_1 (p := p + p2) (q := q + q2) h1, a5, a4]
    by_cases hj : j = 4
    · rw [if_pos hj, if_pos hj]
      by_cases c1 : o 5 < o 4 + p
      · rw [if_pos c1, if_pos (show o 5 < o 4 + (p + p2) by omega)]
        by_cases c2 : o 5 < o 5 + p2
        · rw [if_pos c2]
        · rw [if_neg c2]; omega
      · rw [if_neg c1]
        by_cases c2 : o 5 < o 4 + p + p2
        · rw [if_pos c2, if_pos (by omega)]
        · rw [if_neg c2, if_neg (by omega)]; omega
    · rw [if_neg hj, if_neg hj, rO_1 h1, if_neg hj]
  · by_cases h2 : o 3 = 2
    · by_cases h3 : o 4 - q < o 0
      · have a3 : rO o p q 3 = 0 := by rw [rO_2 h2 h3, if_pos (by omega)]
        rw [rO_0 (by omega) (by omega), rO_2 h2 h3, rO_2 h2 (by omega)]
      · have a3 : rO o p q 3 = 2 := by rw [rO_3 h2 h3, if_neg (by omega)]; exact h2
        have a4 : rO o p q 4 = o 4 - q := by rw [rO_3 h2 h3, if_pos rfl]
        have a0 : rO o p q 0 = o 0 := by rw [rO_3 h2 h3, if_neg (by omega)]
        have a7 : rO o p q 7 = o 7 := by rw [rO_3 h2 h3, if_neg (by omega)]
        by_cases h4 : o 4 - q - q2 < o 0
        · rw [rO_2 a3 (by omega), rO_2 (p := p + p2) (q := q + q2) h2 (by omega), a7]
          by_cases hj : 3 ≤ j ∧ j ≤ 6
          · rw [if_pos hj, if_pos hj]
          · rw [if_neg hj, if_neg hj, rO_3 h2 h3, if_neg (show ¬ j = 4 by omega)]
        · rw [rO_3 a3 (by omega), rO_3 (p := p + p2) (q := q + q2) h2 (by omega), a4]
          by_cases hj : j = 4
          · rw [if_pos hj, if_pos hj]; omega
          · rw [if_neg hj, if_neg hj, rO_3 h2 h3, if_neg hj]
    · have a3 : rO o p q 3 = o 3 := by rw [rO_0 h1 h2]
      rw [rO_0 (by omega) (by omega), rO_0 h1 h2, rO_0 h1 h2]
theorem rP_rP {o pp : Int → Int} {p q p2 q2 : Int} (hp : 0 ≤ p2) (hq : 0 ≤ q2) : rP (rO o p q) q2 (rP o q pp) = rP o (q + q2) pp := by
  funext j
  by_cases hj : 0 ≤ j ∧ j < 5
  · by_cases h2 : o 3 = 2
    · by_cases h3 : o 4 - q < o 0
      · have a3 : rO o p q 3 = 0 := by rw [rO_2 h2 h3, if_pos (by omega)]
        rw [rP_0 (by omega), rP_2 h2 h3 hj, rP_2 h2 (by omega) hj]
      · have a3 : rO o p q 3 = 2 := by rw [rO_3 h2 h3, if_neg (by omega)]; exact h2
        have a4 : rO o p q 4 = o 4 - q := by rw [rO_3 h2 h3, if_pos rfl]
        have a0 : rO o p q 0 = o 0 := by rw [rO_3 h2 h3, if_neg (by omega)]
        by_cases h4 : o 4 - q - q2 < o 0
        · rw [rP_2 a3 (by omega) hj, rP_2 h2 (by omega) hj]
        · rw [rP_0 (by omega), rP_0 (by omega), rP_0 (by omega)]
    · have a3 : rO o p q 3 = o 3 := by
        by_cases h1 : o 3 = 1
        · rw [rO_1 h1, if_neg (by omega)]
        · rw [rO_0 h1 h2]
      rw [rP_0 (by omega), rP_0 (by omega), rP_0 (by omega)]
  · rw [rP_0 (by omega), rP_0 (by omega), rP_0 (by omega)]
theorem RS_o {V : jM} {p q k i : Int} (h : 15 ≤ i ∧ i < 15 + 2 * k) (h2 : i % 2 = 1) : RS V p q k i = rO (V i) p q := by
  funext j
  simp only [RS]
  rw [if_pos h, if_pos h2]
theorem RS_p {V : jM} {p q k i : Int} (h : 15 ≤ i ∧ i < 15 + 2 * k) (h2 : ¬ i % 2 = 1) : RS V p q k i = rP (V (i - 1)) q (V i) := by
  funext j
  simp only [RS]
  rw [if_pos h, if_neg h2]
theorem RS_n {V : jM} {p q k i : Int} (h : ¬ (15 ≤ i ∧ i < 15 + 2 * k)) : RS V p q k i = V i := by
  funext j
  simp only [RS]
  rw [if_neg h]
theorem RS_RS {V : jM} {p q p2 q2 k : Int} (hp : 0 ≤ p2) (hq : 0 ≤ q2) : RS (RS V p q k) p2 q2 k = RS V (p + p2) (q + q2) k := by
  funext i
  by_cases h : 15 ≤ i ∧ i < 15 + 2 * k
  · by_cases h2 : i % 2 = 1
    · rw [RS_o h h2, RS_o h h2, RS_o h h2, rO_rO hp hq]
    · rw [RS_p h h2, RS_p h h2, RS_p h h2, RS_o (by omega) (by omega), rP_rP hp hq]
  · rw [RS_n h, RS_n h, RS_n h]
theorem RS_00 {V : jM} {c : Int → Int} (h : iSe V c) {k : Int} (hk : 0 ≤ k ∧ k ≤ c 2) : RS V 0 0 k = V := by
  funext i j
  simp only [RS]
  by_cases hi : 15 ≤ i ∧ i < 15 + 2 * k
  · rw [if_pos hi]
    by_cases h2 : i % 2 = 1
    · rw [if_pos h2]
      have hmo := h.2.2.1 ((i - 15) / 2) (by omega) (by omega)
      rw [show 15 + 2 * ((i - 15) / 2) = i by omega] at hmo
      unfold iMo at hmo
      obtain ⟨⟨o0, o1, o2, o3, o4, o5, o6, o7⟩, hp, hz, hb, g0, g1, g2⟩ := hmo
      by_cases h1 : V i 3 = 1
      · rw [rO_1 h1]
        by_cases hj : j = 4
        · rw [if_pos hj, hj]
          by_cases c1 : V i 5 < V i 4 + 0
          · omega
          · rw [if_neg c1]; omega
        · rw [if_neg hj]
      · by_cases h3 : V i 3 = 2
        · rw [rO_3 h3 (by omega)]
          by_cases hj : j = 4
          · rw [if_pos hj, hj]; omega
          · rw [if_neg hj]
        · rw [rO_0 h1 h3]
    · rw [if_neg h2]
      have hmo := h.2.2.1 ((i - 16) / 2) (by omega) (by omega)
      rw [show 15 + 2 * ((i - 16) / 2) = i - 1 by omega] at hmo
      unfold iMo at hmo
      obtain ⟨⟨o0, o1, o2, o3, o4, o5, o6, o7⟩, hp, hz, hb, g0, g1, g2⟩ := hmo
      rw [rP_0 (by omega)]
  · rw [if_neg hi]
/-! the class -/
theorem Mo_rest_eq {s : jM} {a h n : Int} (hh : 0 ≤ h ∧ h ≤ 9) (hn : 0 ≤ n ∧ n ≤ 300) (h3 : 0 ≤ s a 3 ∧ s a 3 ≤ 2) (h0 : 0 ≤ s a 0 ∧ s a 0 ≤ 30) (h4 : 0 ≤ s a 4 ∧ s a 4 ≤ 100) (h5 : 0 ≤ s a 5 ∧ s a 5 ≤ 100) : ∃ t, Mo_rest a h n s = some (0, t) ∧ (∀ j, t a j = rO (s a) ((9 - h) * n) (h * n) j) ∧ (∀ j, t (a + 1) j = rP (s a) (h * n) (s (a + 1)) j) ∧ ∀ x, x ≠ a → x ≠ a + 1 → t x = s x := by
  have b1 : 0 ≤ (9 - h) * n ∧ (9 - h) * n ≤ 9 * 300 := ⟨Int.mul_nonneg (by omega) hn.1, Int.mul_le_mul (by omega) hn.2 hn.1 (by omega)⟩
  have b2 : 0 ≤ h * n ∧ h * n ≤ 9 * 300 := ⟨Int.mul_nonneg hh.1 hn.1, Int.mul_le_mul hh.2 hn.2 hn.1 (by omega)⟩
  rcases (by omega : s a 3 = 1 ∨ s a 3 = 2 ∨ s a 3 = 0) with q | q | q
  · refine ⟨jup s a 4 (jmin (s a 5) (s a 4 + (9 - h) * n)), ?_, fun j => ?_, fun j => ?_, fun x x1 x2 => ?_⟩
    · simp (disch := omega) only [↓jb_m, ↓jm_s, ↓reduceIte, t_lt, t_nlt, t_le, t_nle, t_eq, t_neq, w32_id, w64_id, jb_s, and_true, true_and, and_self, and_false, false_and, or_true, true_or, or_false, false_or, or_self, not_false_eq_true, not_true_eq_false, u_ne, u_eq, u_u, Int.reduceAdd, Int.reduceSub, Int.reduceMul, Int.reduceNeg, Int.zero_add, Int.add_zero, n15, n16, q10, q11, q12, q13, q14, Mo_rest, Mo_firmAfter]
      rw [Mo_weaken_0 (by simp (disch := omega) only [↓jb_m, ↓jm_s, ↓reduceIte, t_lt, t_nlt, t_le, t_nle, t_eq, t_neq, w32_id, w64_id, jb_s, and_true, true_and, and_self, and_false, false_and, or_true, true_or, or_false, false_or, or_self, not_false_eq_true, not_true_eq_false, u_ne, u_eq, u_u, Int.reduceAdd, Int.reduceSub, Int.reduceMul, Int.reduceNeg, Int.zero_add, Int.add_zero, n15, n16, q10, q11, q12, q13, q14])]
    · rw [rO_1 q, jup_at]
      by_cases hj : j = 4
      · rw [if_pos ⟨rfl, hj⟩, if_pos hj]
        by_cases c1 : s a 5 < s a 4 + (9 - h) * n
        · simp (disch := omega) only [↓jb_m, ↓jm_s, ↓reduceIte, t_lt, t_nlt, t_le, t_nle, t_eq, t_neq, w32_id, w64_id, jb_s, and_true, true_and, and_self, and_false, false_and, or_true, true_or, or_false, false_or, or_self, not_false_eq_true, not_true_eq_false, u_ne, u_eq, u_u, Int.reduceAdd, Int.reduceSub, Int.reduceMul, Int.reduceNeg, Int.zero_add, Int.add_zero, n15, n16, q10, q11, q12, q13, q14, jmin]
        · simp (disch := omega) only [↓jb_m, ↓jm_s, ↓reduceIte, t_lt, t_nlt, t_le, t_nle, t_eq, t_neq, w32_id, w64_id, jb_s, and_true, true_and, and_self, and_false, false_and, or_true, true_or, or_false, false_or, or_self, not_false_eq_true, not_true_eq_false, u_ne, u_eq, u_u, Int.reduceAdd, Int.reduceSub, Int.reduceMul, Int.reduceNeg, Int.zero_add, Int.add_zero, n15, n16, q10, q11, q12, q13, q14, jmin]
      · rw [if_neg (by omega), if_neg hj]
    · rw [rP_0 (by omega)]
      simp (disch := omega) only [↓jb_m, ↓jm_s, ↓reduceIte, t_lt, t_nlt, t_le, t_nle, t_eq, t_neq, w32_id, w64_id, jb_s, and_true, true_and, and_self, and_false, false_and, or_true, true_or, or_false, false_or, or_self, not_false_eq_true, not_true_eq_false, u_ne, u_eq, u_u, Int.reduceAdd, Int.reduceSub, Int.reduceMul, Int.reduceNeg, Int.zero_add, Int.add_zero, n15, n16, q10, q11, q12, q13, q14]
    · exact jup_ne x1
  · by_cases hf : s a 4 - h * n < s a 0
    · refine ⟨jup (moV (jup s a 4 (s a 4 - h * n)) a) a 7 (s a 7 + 1), ?_, fun j => ?_, fun j => ?_, fun x x1 x2 => ?_⟩
      · simp (disch := omega) only [↓jb_m, ↓jm_s, ↓reduceIte, t_lt, t_nlt, t_le, t_nle, t_eq, t_neq, w32_id, w64_id, jb_s, and_true, true_and, and_self, and_false, false_and, or_true, true_or, or_false, false_or, or_self, not_false_eq_true, not_true_eq_false, u_ne, u_eq, u_u, Int.reduceAdd, Int.reduceSub, Int.reduceMul, Int.reduceNeg, Int.zero_add, Int.add_zero, n15, n16, q10, q11, q12, q13, q14, Mo_rest]
        rw [Mo_weaken_2 q (by omega) (by omega) hf]
      · rw [rO_2 q hf]
        rcases (by omega : j = 3 ∨ j = 4 ∨ j = 5 ∨ j = 6 ∨ j = 7 ∨ (j < 3 ∨ 7 < j)) with z | z | z | z | z | z
        all_goals (try subst z) <;> unfold moV <;> simp (disch := omega) only [↓jb_m, ↓jm_s, ↓reduceIte, t_lt, t_nlt, t_le, t_nle, t_eq, t_neq, w32_id, w64_id, jb_s, and_true, true_and, and_self, and_false, false_and, or_true, true_or, or_false, false_or, or_self, not_false_eq_true, not_true_eq_false, u_ne, u_eq, u_u, Int.reduceAdd, Int.reduceSub, Int.reduceMul, Int.reduceNeg, Int.zero_add, Int.add_zero, n15, n16, q10, q11, q12, q13, q14, f_out]
      · by_cases hj : 0 ≤ j ∧ j < 5
        · rw [rP_2 q hf hj]
          unfold moV
          simp (disch := omega) only [↓jb_m, ↓jm_s, ↓reduceIte, t_lt, t_nlt, t_le, t_nle, t_eq, t_neq, w32_id, w64_id, jb_s, and_true, true_and, and_self, and_false, false_and, or_true, true_or, or_false, false_or, or_self, not_false_eq_true, not_true_eq_false, u_ne, u_eq, u_u, Int.reduceAdd, Int.reduceSub, Int.reduceMul, Int.reduceNeg, Int.zero_add, Int.add_zero, n15, n16, q10, q11, q12, q13, q14, f_in]
        · rw [rP_0 (by omega)]
          unfold moV
          simp (disch := omega) only [↓jb_m, ↓jm_s, ↓reduceIte, t_lt, t_nlt, t_le, t_nle, t_eq, t_neq, w32_id, w64_id, jb_s, and_true, true_and, and_self, and_false, false_and, or_true, true_or, or_false, false_or, or_self, not_false_eq_true, not_true_eq_false, u_ne, u_eq, u_u, Int.reduceAdd, Int.reduceSub, Int.reduceMul, Int.reduceNeg, Int.zero_add, Int.add_zero, n15, n16, q10, q11, q12, q13, q14, f_out]
      · funext y
        unfold moV
        simp (disch := omega) only [↓jb_m, ↓jm_s, ↓reduceIte, t_lt, t_nlt, t_le, t_nle, t_eq, t_neq, w32_id, w64_id, jb_s, and_true, true_and, and_self, and_false, false_and, or_true, true_or, or_false, false_or, or_self, not_false_eq_true, not_true_eq_false, u_ne, u_eq, u_u, Int.reduceAdd, Int.reduceSub, Int.reduceMul, Int.reduceNeg, Int.zero_add, Int.add_zero, n15, n16, q10, q11, q12, q13, q14, f_out]
    · refine ⟨jup s a 4 (s a 4 - h * n), ?_, fun j => ?_, fun j => ?_, fun x x1 x2 => ?_⟩
      · simp (disch := omega) only [↓jb_m, ↓jm_s, ↓reduceIte, t_lt, t_nlt, t_le, t_nle, t_eq, t_neq, w32_id, w64_id, jb_s, and_true, true_and, and_self, and_false, false_and, or_true, true_or, or_false, false_or, or_self, not_false_eq_true, not_true_eq_false, u_ne, u_eq, u_u, Int.reduceAdd, Int.reduceSub, Int.reduceMul, Int.reduceNeg, Int.zero_add, Int.add_zero, n15, n16, q10, q11, q12, q13, q14, Mo_rest]
        rw [Mo_weaken_1 q (by omega) (by omega) (by omega)]
      · rw [rO_3 q hf, jup_at]
        by_cases hj : j = 4
        · rw [if_pos ⟨rfl, hj⟩, if_pos hj]
        · rw [if_neg (by omega), if_neg hj]
      · rw [rP_0 (by omega)]
        simp (disch := omega) only [↓jb_m, ↓jm_s, ↓reduceIte, t_lt, t_nlt, t_le, t_nle, t_eq, t_neq, w32_id, w64_id, jb_s, and_true, true_and, and_self, and_false, false_and, or_true, true_or, or_false, false_or, or_self, not_false_eq_true, not_true_eq_false, u_ne, u_eq, u_u, Int.reduceAdd, Int.reduceSub, Int.reduceMul, Int.reduceNeg, Int.zero_add, Int.add_zero, n15, n16, q10, q11, q12, q13, q14]
      · exact jup_ne x1
  · refine ⟨s, ?_, fun j => ?_, fun j => ?_, fun x x1 x2 => rfl⟩
    · simp (disch := omega) only [↓jb_m, ↓jm_s, ↓reduceIte, t_lt, t_nlt, t_le, t_nle, t_eq, t_neq, w32_id, w64_id, jb_s, and_true, true_and, and_self, and_false, false_and, or_true, true_or, or_false, false_or, or_self, not_false_eq_true, not_true_eq_false, u_ne, u_eq, u_u, Int.reduceAdd, Int.reduceSub, Int.reduceMul, Int.reduceNeg, Int.zero_add, Int.add_zero, n15, n16, q10, q11, q12, q13, q14, Mo_rest]
      rw [Mo_weaken_0 (by omega)]
    · rw [rO_0 (by omega) (by omega)]
    · rw [rP_0 (by omega)]
theorem cut25 {s : jM} {b i j : Int} (h : ¬ (0 ≤ i ∧ i < 25)) : vw s b i j = 0 := if_neg h
theorem hd_V {V : jM} {u : jM} (h : iSe V (cw u 0)) : (V 0 0 = u 160 3 ∧ V 0 1 = u 160 4 ∧ V 0 2 = u 160 5 ∧ V 0 3 = u 160 6 ∧ V 0 4 = u 160 0 ∧ V 0 5 = u 160 1 ∧ V 0 6 = u 160 2 ∧ V 0 7 = u 160 8) ∧ (0 ≤ u 160 0 ∧ u 160 0 ≤ 5 ∧ 0 ≤ u 160 1 ∧ u 160 1 ≤ 6 ∧ 0 ≤ u 160 2 ∧ u 160 2 ≤ 5 ∧ 0 ≤ u 160 3 ∧ u 160 3 ≤ 9 ∧ 0 ≤ u 160 4 ∧ u 160 4 ≤ 16 ∧ 0 ≤ u 160 5 ∧ 0 ≤ u 160 8 ∧ u 160 8 ≤ 10) := by
  have h1 := h.1
  unfold iHd at h1
  simp (disch := omega) only [cw_at] at h1
  exact h1
theorem mo_V {V u : jM} {m : Int} (h : iSe V (cw u 0)) (hm : 0 ≤ m ∧ m < u 160 2) : m < 5 ∧ (V (15 + 2 * m) 0 = u 160 (54 + m) ∧ V (15 + 2 * m) 1 = u 160 (59 + m) ∧ V (15 + 2 * m) 2 = u 160 (64 + m) ∧ V (15 + 2 * m) 3 = u 160 (69 + m) ∧ V (15 + 2 * m) 4 = u 160 (74 + m) ∧ V (15 + 2 * m) 5 = mstr (cw u 0) m ∧ V (15 + 2 * m) 6 = mcnt (cw u 0) m ∧ V (15 + 2 * m) 7 = u 160 (79 + m)) ∧
  (∀ j, 0 ≤ j → j < 5 → V (16 + 2 * m) j = u 160 (84 + 5 * m + j) ∧ 0 ≤ u 160 (84 + 5 * m + j)) ∧ (∀ j, 0 ≤ j → u 160 0 ≤ j → j < 5 → u 160 (84 + 5 * m + j) = 0) ∧
  (1 ≤ u 160 (54 + m) ∧ u 160 (54 + m) ≤ 30 ∧ 1 ≤ u 160 (59 + m) ∧ u 160 (59 + m) ≤ 9 ∧ 0 ≤ u 160 (64 + m) ∧ u 160 (64 + m) < u 160 1 ∧ 0 ≤ u 160 (69 + m) ∧ u 160 (69 + m) ≤ 2 ∧ 0 ≤ mcnt (cw u 0) m ∧ mcnt (cw u 0) m ≤ u 160 (59 + m) ∧ 0 ≤ u 160 (74 + m) ∧ u 160 (74 + m) ≤ mstr (cw u 0) m ∧ mstr (cw u 0) m ≤ 9 * mcnt (cw u 0) m) ∧
  (u 160 (69 + m) = 0 → mcnt (cw u 0) m = 0 ∧ u 160 (74 + m) = 0) ∧ (u 160 (69 + m) ≠ 0 → 1 ≤ mcnt (cw u 0) m) ∧ (u 160 (69 + m) = 2 → mcnt (cw u 0) m = u 160 (59 + m) ∧ u 160 (54 + m) ≤ u 160 (74 + m)) := by
  have hh := (hd_V h).2
  have h1 := h.2.2.1 m hm.1 (by rw [cw_at (by omega)]; exact hm.2)
  unfold iMo at h1
  simp (disch := omega) only [cw_at] at h1
  obtain ⟨g1, g2, g3, g4⟩ := h1
  refine ⟨by omega, g1, fun j j1 j2 => ?_, fun j j0 j1 j2 => ?_, g4⟩
  · have := g2 j j1 j2
    rw [cw_at (by omega)] at this
    exact this
  · have := g3 j j0 j1 j2
    rw [cw_at (by omega)] at this
    exact this
theorem parts_V {V u : jM} {m : Int} (h : iSe V (cw u 0)) (hm : 0 ≤ m ∧ m < u 160 2) : Md_partsIn 155 m u = some (mcnt (cw u 0) m, u) := by
  have h1 := mo_V h hm
  have hh := (hd_V h).2
  rw [Md_partsIn_eq ⟨hm.1, h1.1⟩ ⟨hh.1, hh.2.1⟩ h1.2.2.2.1, mcnt_at ⟨hm.1, h1.1⟩]
theorem str_V {V u : jM} {m : Int} (h : iSe V (cw u 0)) (hm : 0 ≤ m ∧ m < u 160 2) : Md_strengthOf 155 m u = some (mstr (cw u 0) m, u) := by
  have h1 := mo_V h hm
  have hh := (hd_V h).2
  rw [Md_strengthOf_eq ⟨hm.1, h1.1⟩ ⟨hh.1, hh.2.1⟩ h1.2.2.2.1, mstr_at ⟨hm.1, h1.1⟩]
theorem mul_b {x n : Int} (hx : 0 ≤ x ∧ x ≤ 9) (hn : 0 ≤ n ∧ n ≤ 300) : 0 ≤ x * n ∧ x * n ≤ 2700 := ⟨Int.mul_nonneg hx.1 hn.1, Int.le_trans (Int.mul_le_mul hx.2 hn.2 hn.1 (by omega)) (by omega)⟩
theorem passC {V0 : jM} {c : Int → Int} {b n : Int} (hV : iSe V0 c) (hV0 : ∀ i j, ¬ (0 ≤ i ∧ i < 25) → V0 i j = 0) (hn : 0 ≤ n ∧ n ≤ 300) : ∀ (f : Nat) (k : Int) (s : jM), vw s b = RS V0 ((9 - c 3) * n) (c 3 * n) k → 0 ≤ k → k ≤ c 2 → (c 2 - k).toNat < f → ∃ t, Se_passMinutes_16 f b n k s = some (1, t) ∧ EX (cdy b) s t ∧ vw t b = jup (RS V0 ((9 - c 3) * n) (c 3 * n) (c 2)) 0 2 (V0 0 2 + n) := by
  have hhd := hV.1
  unfold iHd at hhd
  intro f
  induction f with
  | zero => intro k s h1 h2 h3 h4; omega
  | succ f ih =>
    intro k s h1 h2 h3 h4
    have r0 : ∀ j, s b j = V0 0 j := fun j => by
      have := congrFun (congrFun h1 0) j
      rw [vw_at (by omega), RS_n (by omega), Int.add_zero] at this
      exact this
    have e6 := r0 6
    have e0 := r0 0
    have e2 := r0 2
    by_cases h : k < c 2
    · have hmo := hV.2.2.1 k h2 h
      unfold iMo at hmo
      obtain ⟨⟨o0, o1, o2, o3, o4, o5, o6, o7⟩, hp, hz, hb, g0, g1, g2⟩ := hmo
      have ra : s (b + (15 + 2 * k)) = V0 (15 + 2 * k) := funext fun j => by
        have := congrFun (congrFun h1 (15 + 2 * k)) j
        rw [vw_at (by omega), RS_n (by omega)] at this
        exact this
      have rb : s (b + (16 + 2 * k)) = V0 (16 + 2 * k) := funext fun j => by
        have := congrFun (congrFun h1 (16 + 2 * k)) j
        rw [vw_at (by omega), RS_n (by omega)] at this
        exact this
      obtain ⟨t1, w1, w2, w3, w4⟩ := Mo_rest_eq (s := s) (a := b + (15 + 2 * k)) (h := c 3) (n := n) (by omega) hn (by rw [ra]; omega) (by rw [ra]; omega) (by rw [ra]; omega) (by rw [ra]; omega)
      have hv1 : vw t1 b = RS V0 ((9 - c 3) * n) (c 3 * n) (k + 1) := by
        funext i j
        by_cases hi : 0 ≤ i ∧ i < 25
        · rw [vw_at hi]
          by_cases i1 : i = 15 + 2 * k
          · rw [i1, w2 j, RS_o (by omega) (by omega), ra]
          · by_cases i2 : i = 16 + 2 * k
            · have := w3 j
              rw [show b + (15 + 2 * k) + 1 = b + (16 + 2 * k) by omega, ra, rb] at this
              rw [i2, this, RS_p (by omega) (by omega), show 16 + 2 * k - 1 = 15 + 2 * k by omega]
            · rw [w4 _ (by omega) (by omega)]
              have := congrFun (congrFun h1 i) j
              rw [vw_at hi] at this
              rw [this]
              by_cases i3 : 15 ≤ i ∧ i < 15 + 2 * k
              · by_cases i4 : i % 2 = 1
                · rw [RS_o i3 i4, RS_o (by omega) i4]
                · rw [RS_p i3 i4, RS_p (by omega) i4]
              · rw [RS_n i3, RS_n (by omega)]
        · rw [cut25 hi, RS_n (by omega), hV0 i j hi]
      obtain ⟨t, x1, x2, x3⟩ := ih (k + 1) t1 hv1 (by omega) (by omega) (by omega)
      refine ⟨t, ?_, EX.tr (fun a j q => ?_) x2, x3⟩
      · rw [Se_passMinutes_16]
        simp (disch := omega) only [↓jb_m, ↓jm_s, ↓reduceIte, t_lt, t_nlt, t_le, t_nle, t_eq, t_neq, w32_id, w64_id, jb_s, and_true, true_and, and_self, and_false, false_and, or_true, true_or, or_false, false_or, or_self, not_false_eq_true, not_true_eq_false, u_ne, u_eq, u_u, Int.reduceAdd, Int.reduceSub, Int.reduceMul, Int.reduceNeg, Int.zero_add, Int.add_zero, n15, n16, q10, q11, q12, q13, q14, e6, e0, hhd, w1]
        exact x1
      · unfold cdy at q
        exact congrFun (w4 a (by omega) (by omega)) j
    · have hk : k = c 2 := by omega
      refine ⟨jup s b 2 (s b 2 + n), ?_, (EX.rf _ _).up (by unfold cdy; omega), ?_⟩
      · rw [Se_passMinutes_16]
        simp (disch := omega) only [↓jb_m, ↓jm_s, ↓reduceIte, t_lt, t_nlt, t_le, t_nle, t_eq, t_neq, w32_id, w64_id, jb_s, and_true, true_and, and_self, and_false, false_and, or_true, true_or, or_false, false_or, or_self, not_false_eq_true, not_true_eq_false, u_ne, u_eq, u_u, Int.reduceAdd, Int.reduceSub, Int.reduceMul, Int.reduceNeg, Int.zero_add, Int.add_zero, n15, n16, q10, q11, q12, q13, q14, e6, hhd]
      · funext i j
        by_cases hi : 0 ≤ i ∧ i < 25
        · rw [vw_at hi]
          by_cases i1 : i = 0 ∧ j = 2
          · rw [i1.1, i1.2]
            simp (disch := omega) only [↓jb_m, ↓jm_s, ↓reduceIte, t_lt, t_nlt, t_le, t_nle, t_eq, t_neq, w32_id, w64_id, jb_s, and_true, true_and, and_self, and_false, false_and, or_true, true_or, or_false, false_or, or_self, not_false_eq_true, not_true_eq_false, u_ne, u_eq, u_u, Int.reduceAdd, Int.reduceSub, Int.reduceMul, Int.reduceNeg, Int.zero_add, Int.add_zero, n15, n16, q10, q11, q12, q13, q14]
          · simp (disch := omega) only [↓jb_m, ↓jm_s, ↓reduceIte, t_lt, t_nlt, t_le, t_nle, t_eq, t_neq, w32_id, w64_id, jb_s, and_true, true_and, and_self, and_false, false_and, or_true, true_or, or_false, false_or, or_self, not_false_eq_true, not_true_eq_false, u_ne, u_eq, u_u, Int.reduceAdd, Int.reduceSub, Int.reduceMul, Int.reduceNeg, Int.zero_add, Int.add_zero, n15, n16, q10, q11, q12, q13, q14]
            have := congrFun (congrFun h1 i) j
            rw [vw_at hi, hk] at this
            exact this
        · rw [cut25 hi]
          simp (disch := omega) only [↓jb_m, ↓jm_s, ↓reduceIte, t_lt, t_nlt, t_le, t_nle, t_eq, t_neq, w32_id, w64_id, jb_s, and_true, true_and, and_self, and_false, false_and, or_true, true_or, or_false, false_or, or_self, not_false_eq_true, not_true_eq_false, u_ne, u_eq, u_u, Int.reduceAdd, Int.reduceSub, Int.reduceMul, Int.reduceNeg, Int.zero_add, Int.add_zero, n15, n16, q10, q11, q12, q13, q14]
          rw [RS_n (by omega), hV0 i j hi]
/-! the reference -/
def gdy (a o : Int) : Prop := a = 160 ∧ (o = 7 ∨ (54 ≤ o ∧ o < 109))
def gdz (a o : Int) : Prop := a = 160 ∧ (o = 5 ∨ o = 7 ∨ (54 ≤ o ∧ o < 109))
theorem gm_step {W u : jM} {m : Int} (h : iSe W (cw u 0)) (hm : 0 ≤ m ∧ m < u 160 2) : ∃ v, (∀ n, Md_goesMinute_2 (n + 1) 155 m u = Md_goesMinute_2 n 155 (m + 1) v) ∧ EX gdy u v ∧ ∀ W' : jM, W' (15 + 2 * m) = rO (W (15 + 2 * m)) (9 - u 160 3) (u 160 3) → W' (16 + 2 * m) = rP (W (15 + 2 * m)) (u 160 3) (W (16 + 2 * m)) → (∀ i, i ≠ 15 + 2 * m → i ≠ 16 + 2 * m → W' i = W i) → iSe W' (cw v 0) := by
  obtain ⟨m5, ⟨e0, e1, e2, e3, e4, e5, e6, e7⟩, hq, hz, hb, h0, h1, h2⟩ := mo_V h hm
  have hh := (hd_V h).2
  have hst := str_V h hm
  have hmc : 0 ≤ m ∧ m < cw u 0 2 := ⟨hm.1, by rw [cw_at (by omega)]; exact hm.2⟩
  rcases (by omega : u 160 (69 + m) = 1 ∨ u 160 (69 + m) = 2 ∨ u 160 (69 + m) = 0) with q | q | q
  · refine ⟨jup u 160 (74 + m) (jmin (mstr (cw u 0) m) (u 160 (74 + m) + 9 - u 160 3)), fun n => ?_, (EX.rf _ _).up (by unfold gdy; omega), fun W' w1 w2 w3 => ?_⟩
    · have hf := Md_falls_0 (s := jup u 160 (74 + m) (jmin (mstr (cw u 0) m) (u 160 (74 + m) + 9 - u 160 3))) ⟨hm.1, m5⟩ (Or.inr (by simp (disch := omega) only [↓jb_m, ↓jm_s, ↓reduceIte, t_lt, t_nlt, t_le, t_nle, t_eq, t_neq, w32_id, w64_id, jb_s, and_true, true_and, and_self, and_false, false_and, or_true, true_or, or_false, false_or, or_self, not_false_eq_true, not_true_eq_false, u_ne, u_eq, u_u, Int.reduceAdd, Int.reduceSub, Int.reduceMul, Int.reduceNeg, Int.zero_add, Int.add_zero, n15, n16, q10, q11, q12, q13, q14]))
      rw [Md_goesMinute_2]
      simp (disch := omega) only [↓jb_m, ↓jm_s, ↓reduceIte, t_lt, t_nlt, t_le, t_nle, t_eq, t_neq, w32_id, w64_id, jb_s, and_true, true_and, and_self, and_false, false_and, or_true, true_or, or_false, false_or, or_self, not_false_eq_true, not_true_eq_false, u_ne, u_eq, u_u, Int.reduceAdd, Int.reduceSub, Int.reduceMul, Int.reduceNeg, Int.zero_add, Int.add_zero, n15, n16, q10, q11, q12, q13, q14, hst, hf]
    · have em : jmin (mstr (cw u 0) m) (u 160 (74 + m) + 9 - u 160 3) = if mstr (cw u 0) m < u 160 (74 + m) + (9 - u 160 3) then mstr (cw u 0) m else u 160 (74 + m) + (9 - u 160 3) := by
        by_cases c1 : mstr (cw u 0) m < u 160 (74 + m) + (9 - u 160 3)
        · simp (disch := omega) only [↓jb_m, ↓jm_s, ↓reduceIte, t_lt, t_nlt, t_le, t_nle, t_eq, t_neq, w32_id, w64_id, jb_s, and_true, true_and, and_self, and_false, false_and, or_true, true_or, or_false, false_or, or_self, not_false_eq_true, not_true_eq_false, u_ne, u_eq, u_u, Int.reduceAdd, Int.reduceSub, Int.reduceMul, Int.reduceNeg, Int.zero_add, Int.add_zero, n15, n16, q10, q11, q12, q13, q14, jmin]
        · by_cases c2 : u 160 (74 + m) + 9 - u 160 3 < mstr (cw u 0) m
          · simp (disch := omega) only [↓jb_m, ↓jm_s, ↓reduceIte, t_lt, t_nlt, t_le, t_nle, t_eq, t_neq, w32_id, w64_id, jb_s, and_true, true_and, and_self, and_false, false_and, or_true, true_or, or_false, false_or, or_self, not_false_eq_true, not_true_eq_false, u_ne, u_eq, u_u, Int.reduceAdd, Int.reduceSub, Int.reduceMul, Int.reduceNeg, Int.zero_add, Int.add_zero, n15, n16, q10, q11, q12, q13, q14, jmin]
          · simp (disch := omega) only [↓jb_m, ↓jm_s, ↓reduceIte, t_lt, t_nlt, t_le, t_nle, t_eq, t_neq, w32_id, w64_id, jb_s, and_true, true_and, and_self, and_false, false_and, or_true, true_or, or_false, false_or, or_self, not_false_eq_true, not_true_eq_false, u_ne, u_eq, u_u, Int.reduceAdd, Int.reduceSub, Int.reduceMul, Int.reduceNeg, Int.zero_add, Int.add_zero, n15, n16, q10, q11, q12, q13, q14, jmin]
      have ew : ∀ j, W' (15 + 2 * m) j = if j = 4 then (if mstr (cw u 0) m < u 160 (74 + m) + (9 - u 160 3) then mstr (cw u 0) m else u 160 (74 + m) + (9 - u 160 3)) else W (15 + 2 * m) j := fun j => by
        rw [w1, rO_1 (by omega), e5, e4]
      have ex : W' (16 + 2 * m) = W (16 + 2 * m) := by
        rw [w2]
        funext j
        rw [rP_0 (by omega)]
      rw [em]
      generalize hX : (if mstr (cw u 0) m < u 160 (74 + m) + (9 - u 160 3) then mstr (cw u 0) m else u 160 (74 + m) + (9 - u 160 3)) = X at ew ⊢
      have hXb : 0 ≤ X ∧ X ≤ mstr (cw u 0) m := by
        rw [← hX]
        split <;> omega
      refine iSe_set (m := m) (p := u 160 (64 + m)) (st := 1) (f := X) h hmc (fun i j a => ?_) ?_ ?_ ?_ (cw_ext (fun o o1 o2 a => ?_)) ?_ ?_ ?_ ?_ (by omega) hXb (by omega) (fun _ => h1 (by omega)) (fun a => absurd a (by omega))
      · by_cases i1 : i = 15 + 2 * m
        · rw [i1, ew, if_neg (by omega)]
        · by_cases i2 : i = 16 + 2 * m
          · rw [i2, ex]
          · rw [w3 i i1 i2]
      · rw [ew, if_neg (by omega)]; exact e2
      · rw [ew, if_neg (by omega)]; omega
      · rw [ew, if_pos rfl]
      · simp (disch := omega) only [↓jb_m, ↓jm_s, ↓reduceIte, t_lt, t_nlt, t_le, t_nle, t_eq, t_neq, w32_id, w64_id, jb_s, and_true, true_and, and_self, and_false, false_and, or_true, true_or, or_false, false_or, or_self, not_false_eq_true, not_true_eq_false, u_ne, u_eq, u_u, Int.reduceAdd, Int.reduceSub, Int.reduceMul, Int.reduceNeg, Int.zero_add, Int.add_zero, n15, n16, q10, q11, q12, q13, q14]
      · simp (disch := omega) only [↓jb_m, ↓jm_s, ↓reduceIte, t_lt, t_nlt, t_le, t_nle, t_eq, t_neq, w32_id, w64_id, jb_s, and_true, true_and, and_self, and_false, false_and, or_true, true_or, or_false, false_or, or_self, not_false_eq_true, not_true_eq_false, u_ne, u_eq, u_u, Int.reduceAdd, Int.reduceSub, Int.reduceMul, Int.reduceNeg, Int.zero_add, Int.add_zero, n15, n16, q10, q11, q12, q13, q14, cw_at]
      · simp (disch := omega) only [↓jb_m, ↓jm_s, ↓reduceIte, t_lt, t_nlt, t_le, t_nle, t_eq, t_neq, w32_id, w64_id, jb_s, and_true, true_and, and_self, and_false, false_and, or_true, true_or, or_false, false_or, or_self, not_false_eq_true, not_true_eq_false, u_ne, u_eq, u_u, Int.reduceAdd, Int.reduceSub, Int.reduceMul, Int.reduceNeg, Int.zero_add, Int.add_zero, n15, n16, q10, q11, q12, q13, q14, cw_at]
      · simp (disch := omega) only [↓jb_m, ↓jm_s, ↓reduceIte, t_lt, t_nlt, t_le, t_nle, t_eq, t_neq, w32_id, w64_id, jb_s, and_true, true_and, and_self, and_false, false_and, or_true, true_or, or_false, false_or, or_self, not_false_eq_true, not_true_eq_false, u_ne, u_eq, u_u, Int.reduceAdd, Int.reduceSub, Int.reduceMul, Int.reduceNeg, Int.zero_add, Int.add_zero, n15, n16, q10, q11, q12, q13, q14, cw_at]
      · simp (disch := omega) only [↓jb_m, ↓jm_s, ↓reduceIte, t_lt, t_nlt, t_le, t_nle, t_eq, t_neq, w32_id, w64_id, jb_s, and_true, true_and, and_self, and_false, false_and, or_true, true_or, or_false, false_or, or_self, not_false_eq_true, not_true_eq_false, u_ne, u_eq, u_u, Int.reduceAdd, Int.reduceSub, Int.reduceMul, Int.reduceNeg, Int.zero_add, Int.add_zero, n15, n16, q10, q11, q12, q13, q14, cw_at]
  · by_cases hf : u 160 (74 + m) - u 160 3 < u 160 (54 + m)
    · have hfa := Md_falls_2 (m := m) (s := jup u 160 (74 + m) (u 160 (74 + m) - u 160 3)) ⟨hm.1, m5⟩ (by simp (disch := omega) only [↓jb_m, ↓jm_s, ↓reduceIte, t_lt, t_nlt, t_le, t_nle, t_eq, t_neq, w32_id, w64_id, jb_s, and_true, true_and, and_self, and_false, false_and, or_true, true_or, or_false, false_or, or_self, not_false_eq_true, not_true_eq_false, u_ne, u_eq, u_u, Int.reduceAdd, Int.reduceSub, Int.reduceMul, Int.reduceNeg, Int.zero_add, Int.add_zero, n15, n16, q10, q11, q12, q13, q14]) (by simp (disch := omega) only [↓jb_m, ↓jm_s, ↓reduceIte, t_lt, t_nlt, t_le, t_nle, t_eq, t_neq, w32_id, w64_id, jb_s, and_true, true_and, and_self, and_false, false_and, or_true, true_or, or_false, false_or, or_self, not_false_eq_true, not_true_eq_false, u_ne, u_eq, u_u, Int.reduceAdd, Int.reduceSub, Int.reduceMul, Int.reduceNeg, Int.zero_add, Int.add_zero, n15, n16, q10, q11, q12, q13, q14]) (by simp (disch := omega) only [↓jb_m, ↓jm_s, ↓reduceIte, t_lt, t_nlt, t_le, t_nle, t_eq, t_neq, w32_id, w64_id, jb_s, and_true, true_and, and_self, and_false, false_and, or_true, true_or, or_false, false_or, or_self, not_false_eq_true, not_true_eq_false, u_ne, u_eq, u_u, Int.reduceAdd, Int.reduceSub, Int.reduceMul, Int.reduceNeg, Int.zero_add, Int.add_zero, n15, n16, q10, q11, q12, q13, q14]) (by simp (disch := omega) only [↓jb_m, ↓jm_s, ↓reduceIte, t_lt, t_nlt, t_le, t_nle, t_eq, t_neq, w32_id, w64_id, jb_s, and_true, true_and, and_self, and_false, false_and, or_true, true_or, or_false, false_or, or_self, not_false_eq_true, not_true_eq_false, u_ne, u_eq, u_u, Int.reduceAdd, Int.reduceSub, Int.reduceMul, Int.reduceNeg, Int.zero_add, Int.add_zero, n15, n16, q10, q11, q12, q13, q14])
      refine ⟨jup (jup (mdV (jup u 160 (74 + m) (u 160 (74 + m) - u 160 3)) m) 160 (79 + m) (jup u 160 (74 + m) (u 160 (74 + m) - u 160 3) 160 (79 + m) + 1)) 160 7 (jup u 160 (74 + m) (u 160 (74 + m) - u 160 3) 160 7 + 1), fun n => ?_, ?_, fun W' w1 w2 w3 => ?_⟩
      · rw [Md_goesMinute_2]
        simp (disch := omega) only [↓jb_m, ↓jm_s, ↓reduceIte, t_lt, t_nlt, t_le, t_nle, t_eq, t_neq, w32_id, w64_id, jb_s, and_true, true_and, and_self, and_false, false_and, or_true, true_or, or_false, false_or, or_self, not_false_eq_true, not_true_eq_false, u_ne, u_eq, u_u, Int.reduceAdd, Int.reduceSub, Int.reduceMul, Int.reduceNeg, Int.zero_add, Int.add_zero, n15, n16, q10, q11, q12, q13, q14, hfa]
      · unfold mdV
        exact ((((((EX.rf _ _).up (by unfold gdy; omega)).fill (fun j _ _ => by unfold gdy; omega)).up (by unfold gdy; omega)).up (by unfold gdy; omega)).up (by unfold gdy; omega)).up (by unfold gdy; omega)
      · have ew : ∀ j, W' (15 + 2 * m) j = if 3 ≤ j ∧ j ≤ 6 then 0 else if j = 7 then W (15 + 2 * m) 7 + 1 else W (15 + 2 * m) j := fun j => by
          rw [w1, rO_2 (by omega) (by omega)]
        refine iSe_void (m := m) (p := u 160 (64 + m)) (d := 1) h hmc (fun i j a => ?_) ?_ ?_ ?_ ?_ ?_ ?_ (fun j j1 j2 => ?_) (cw_ext (fun o o1 o2 a => ?_)) ?_ ?_ ?_ ?_ (fun j j1 j2 => ?_) ?_ ?_
        · by_cases i1 : i = 15 + 2 * m
          · rw [i1, ew, if_neg (by omega), if_neg (by omega)]
          · by_cases i2 : i = 16 + 2 * m
            · rw [i2, w2, rP_0 (by omega)]
            · rw [w3 i i1 i2]
        · rw [ew, if_neg (by omega), if_neg (by omega)]; exact e2
        · rw [ew, if_pos (by omega)]
        · rw [ew, if_pos (by omega)]
        · rw [ew, if_pos (by omega)]
        · rw [ew, if_pos (by omega)]
        · rw [ew, if_neg (by omega), if_pos rfl]
        · rw [w2, rP_2 (by omega) (by omega) ⟨j1, j2⟩]
        · unfold mdV; simp (disch := omega) only [↓jb_m, ↓jm_s, ↓reduceIte, t_lt, t_nlt, t_le, t_nle, t_eq, t_neq, w32_id, w64_id, jb_s, and_true, true_and, and_self, and_false, false_and, or_true, true_or, or_false, false_or, or_self, not_false_eq_true, not_true_eq_false, u_ne, u_eq, u_u, Int.reduceAdd, Int.reduceSub, Int.reduceMul, Int.reduceNeg, Int.zero_add, Int.add_zero, n15, n16, q10, q11, q12, q13, q14, f_out]
        · unfold mdV; simp (disch := omega) only [↓jb_m, ↓jm_s, ↓reduceIte, t_lt, t_nlt, t_le, t_nle, t_eq, t_neq, w32_id, w64_id, jb_s, and_true, true_and, and_self, and_false, false_and, or_true, true_or, or_false, false_or, or_self, not_false_eq_true, not_true_eq_false, u_ne, u_eq, u_u, Int.reduceAdd, Int.reduceSub, Int.reduceMul, Int.reduceNeg, Int.zero_add, Int.add_zero, n15, n16, q10, q11, q12, q13, q14, f_out, cw_at]
        · unfold mdV; simp (disch := omega) only [↓jb_m, ↓jm_s, ↓reduceIte, t_lt, t_nlt, t_le, t_nle, t_eq, t_neq, w32_id, w64_id, jb_s, and_true, true_and, and_self, and_false, false_and, or_true, true_or, or_false, false_or, or_self, not_false_eq_true, not_true_eq_false, u_ne, u_eq, u_u, Int.reduceAdd, Int.reduceSub, Int.reduceMul, Int.reduceNeg, Int.zero_add, Int.add_zero, n15, n16, q10, q11, q12, q13, q14, f_out, cw_at]
        · unfold mdV; simp (disch := omega) only [↓jb_m, ↓jm_s, ↓reduceIte, t_lt, t_nlt, t_le, t_nle, t_eq, t_neq, w32_id, w64_id, jb_s, and_true, true_and, and_self, and_false, false_and, or_true, true_or, or_false, false_or, or_self, not_false_eq_true, not_true_eq_false, u_ne, u_eq, u_u, Int.reduceAdd, Int.reduceSub, Int.reduceMul, Int.reduceNeg, Int.zero_add, Int.add_zero, n15, n16, q10, q11, q12, q13, q14, f_out, cw_at]
        · unfold mdV; simp (disch := omega) only [↓jb_m, ↓jm_s, ↓reduceIte, t_lt, t_nlt, t_le, t_nle, t_eq, t_neq, w32_id, w64_id, jb_s, and_true, true_and, and_self, and_false, false_and, or_true, true_or, or_false, false_or, or_self, not_false_eq_true, not_true_eq_false, u_ne, u_eq, u_u, Int.reduceAdd, Int.reduceSub, Int.reduceMul, Int.reduceNeg, Int.zero_add, Int.add_zero, n15, n16, q10, q11, q12, q13, q14, f_out, cw_at]
        · unfold mdV; simp (disch := omega) only [↓jb_m, ↓jm_s, ↓reduceIte, t_lt, t_nlt, t_le, t_nle, t_eq, t_neq, w32_id, w64_id, jb_s, and_true, true_and, and_self, and_false, false_and, or_true, true_or, or_false, false_or, or_self, not_false_eq_true, not_true_eq_false, u_ne, u_eq, u_u, Int.reduceAdd, Int.reduceSub, Int.reduceMul, Int.reduceNeg, Int.zero_add, Int.add_zero, n15, n16, q10, q11, q12, q13, q14, f_in, cw_at]
        · unfold mdV; simp (disch := omega) only [↓jb_m, ↓jm_s, ↓reduceIte, t_lt, t_nlt, t_le, t_nle, t_eq, t_neq, w32_id, w64_id, jb_s, and_true, true_and, and_self, and_false, false_and, or_true, true_or, or_false, false_or, or_self, not_false_eq_true, not_true_eq_false, u_ne, u_eq, u_u, Int.reduceAdd, Int.reduceSub, Int.reduceMul, Int.reduceNeg, Int.zero_add, Int.add_zero, n15, n16, q10, q11, q12, q13, q14, f_out, cw_at]
        · simp (disch := omega) only [↓jb_m, ↓jm_s, ↓reduceIte, t_lt, t_nlt, t_le, t_nle, t_eq, t_neq, w32_id, w64_id, jb_s, and_true, true_and, and_self, and_false, false_and, or_true, true_or, or_false, false_or, or_self, not_false_eq_true, not_true_eq_false, u_ne, u_eq, u_u, Int.reduceAdd, Int.reduceSub, Int.reduceMul, Int.reduceNeg, Int.zero_add, Int.add_zero, n15, n16, q10, q11, q12, q13, q14, cw_at]
    · have hfa := Md_falls_1 (m := m) (s := jup u 160 (74 + m) (u 160 (74 + m) - u 160 3)) ⟨hm.1, m5⟩ (by simp (disch := omega) only [↓jb_m, ↓jm_s, ↓reduceIte, t_lt, t_nlt, t_le, t_nle, t_eq, t_neq, w32_id, w64_id, jb_s, and_true, true_and, and_self, and_false, false_and, or_true, true_or, or_false, false_or, or_self, not_false_eq_true, not_true_eq_false, u_ne, u_eq, u_u, Int.reduceAdd, Int.reduceSub, Int.reduceMul, Int.reduceNeg, Int.zero_add, Int.add_zero, n15, n16, q10, q11, q12, q13, q14]) (by simp (disch := omega) only [↓jb_m, ↓jm_s, ↓reduceIte, t_lt, t_nlt, t_le, t_nle, t_eq, t_neq, w32_id, w64_id, jb_s, and_true, true_and, and_self, and_false, false_and, or_true, true_or, or_false, false_or, or_self, not_false_eq_true, not_true_eq_false, u_ne, u_eq, u_u, Int.reduceAdd, Int.reduceSub, Int.reduceMul, Int.reduceNeg, Int.zero_add, Int.add_zero, n15, n16, q10, q11, q12, q13, q14]) (by simp (disch := omega) only [↓jb_m, ↓jm_s, ↓reduceIte, t_lt, t_nlt, t_le, t_nle, t_eq, t_neq, w32_id, w64_id, jb_s, and_true, true_and, and_self, and_false, false_and, or_true, true_or, or_false, false_or, or_self, not_false_eq_true, not_true_eq_false, u_ne, u_eq, u_u, Int.reduceAdd, Int.reduceSub, Int.reduceMul, Int.reduceNeg, Int.zero_add, Int.add_zero, n15, n16, q10, q11, q12, q13, q14]) (by simp (disch := omega) only [↓jb_m, ↓jm_s, ↓reduceIte, t_lt, t_nlt, t_le, t_nle, t_eq, t_neq, w32_id, w64_id, jb_s, and_true, true_and, and_self, and_false, false_and, or_true, true_or, or_false, false_or, or_self, not_false_eq_true, not_true_eq_false, u_ne, u_eq, u_u, Int.reduceAdd, Int.reduceSub, Int.reduceMul, Int.reduceNeg, Int.zero_add, Int.add_zero, n15, n16, q10, q11, q12, q13, q14])
      refine ⟨jup u 160 (74 + m) (u 160 (74 + m) - u 160 3), fun n => ?_, (EX.rf _ _).up (by unfold gdy; omega), fun W' w1 w2 w3 => ?_⟩
      · rw [Md_goesMinute_2]
        simp (disch := omega) only [↓jb_m, ↓jm_s, ↓reduceIte, t_lt, t_nlt, t_le, t_nle, t_eq, t_neq, w32_id, w64_id, jb_s, and_true, true_and, and_self, and_false, false_and, or_true, true_or, or_false, false_or, or_self, not_false_eq_true, not_true_eq_false, u_ne, u_eq, u_u, Int.reduceAdd, Int.reduceSub, Int.reduceMul, Int.reduceNeg, Int.zero_add, Int.add_zero, n15, n16, q10, q11, q12, q13, q14, hfa]
      · have ew : ∀ j, W' (15 + 2 * m) j = if j = 4 then W (15 + 2 * m) 4 - u 160 3 else W (15 + 2 * m) j := fun j => by
          rw [w1, rO_3 (by omega) (by omega)]
        have ex : W' (16 + 2 * m) = W (16 + 2 * m) := by
          rw [w2]
          funext j
          rw [rP_0 (by omega)]
        refine iSe_set (m := m) (p := u 160 (64 + m)) (st := 2) (f := u 160 (74 + m) - u 160 3) h hmc (fun i j a => ?_) ?_ ?_ ?_ (cw_ext (fun o o1 o2 a => ?_)) ?_ ?_ ?_ ?_ (by omega) (by omega) (by omega) (fun _ => h1 (by omega)) (fun a => ?_)
        · by_cases i1 : i = 15 + 2 * m
          · rw [i1, ew, if_neg (by omega)]
          · by_cases i2 : i = 16 + 2 * m
            · rw [i2, ex]
            · rw [w3 i i1 i2]
        · rw [ew, if_neg (by omega)]; exact e2
        · rw [ew, if_neg (by omega)]; omega
        · rw [ew, if_pos rfl]; omega
        · simp (disch := omega) only [↓jb_m, ↓jm_s, ↓reduceIte, t_lt, t_nlt, t_le, t_nle, t_eq, t_neq, w32_id, w64_id, jb_s, and_true, true_and, and_self, and_false, false_and, or_true, true_or, or_false, false_or, or_self, not_false_eq_true, not_true_eq_false, u_ne, u_eq, u_u, Int.reduceAdd, Int.reduceSub, Int.reduceMul, Int.reduceNeg, Int.zero_add, Int.add_zero, n15, n16, q10, q11, q12, q13, q14]
        · simp (disch := omega) only [↓jb_m, ↓jm_s, ↓reduceIte, t_lt, t_nlt, t_le, t_nle, t_eq, t_neq, w32_id, w64_id, jb_s, and_true, true_and, and_self, and_false, false_and, or_true, true_or, or_false, false_or, or_self, not_false_eq_true, not_true_eq_false, u_ne, u_eq, u_u, Int.reduceAdd, Int.reduceSub, Int.reduceMul, Int.reduceNeg, Int.zero_add, Int.add_zero, n15, n16, q10, q11, q12, q13, q14, cw_at]
        · simp (disch := omega) only [↓jb_m, ↓jm_s, ↓reduceIte, t_lt, t_nlt, t_le, t_nle, t_eq, t_neq, w32_id, w64_id, jb_s, and_true, true_and, and_self, and_false, false_and, or_true, true_or, or_false, false_or, or_self, not_false_eq_true, not_true_eq_false, u_ne, u_eq, u_u, Int.reduceAdd, Int.reduceSub, Int.reduceMul, Int.reduceNeg, Int.zero_add, Int.add_zero, n15, n16, q10, q11, q12, q13, q14, cw_at]
        · simp (disch := omega) only [↓jb_m, ↓jm_s, ↓reduceIte, t_lt, t_nlt, t_le, t_nle, t_eq, t_neq, w32_id, w64_id, jb_s, and_true, true_and, and_self, and_false, false_and, or_true, true_or, or_false, false_or, or_self, not_false_eq_true, not_true_eq_false, u_ne, u_eq, u_u, Int.reduceAdd, Int.reduceSub, Int.reduceMul, Int.reduceNeg, Int.zero_add, Int.add_zero, n15, n16, q10, q11, q12, q13, q14, cw_at]
        · simp (disch := omega) only [↓jb_m, ↓jm_s, ↓reduceIte, t_lt, t_nlt, t_le, t_nle, t_eq, t_neq, w32_id, w64_id, jb_s, and_true, true_and, and_self, and_false, false_and, or_true, true_or, or_false, false_or, or_self, not_false_eq_true, not_true_eq_false, u_ne, u_eq, u_u, Int.reduceAdd, Int.reduceSub, Int.reduceMul, Int.reduceNeg, Int.zero_add, Int.add_zero, n15, n16, q10, q11, q12, q13, q14, cw_at]
        · simp (disch := omega) only [↓jb_m, ↓jm_s, ↓reduceIte, t_lt, t_nlt, t_le, t_nle, t_eq, t_neq, w32_id, w64_id, jb_s, and_true, true_and, and_self, and_false, false_and, or_true, true_or, or_false, false_or, or_self, not_false_eq_true, not_true_eq_false, u_ne, u_eq, u_u, Int.reduceAdd, Int.reduceSub, Int.reduceMul, Int.reduceNeg, Int.zero_add, Int.add_zero, n15, n16, q10, q11, q12, q13, q14, cw_at]
  · have hfa := Md_falls_0 (m := m) (s := u) ⟨hm.1, m5⟩ (Or.inl q)
    refine ⟨u, fun n => ?_, EX.rf _ _, fun W' w1 w2 w3 => ?_⟩
    · rw [Md_goesMinute_2]
      simp (disch := omega) only [↓jb_m, ↓jm_s, ↓reduceIte, t_lt, t_nlt, t_le, t_nle, t_eq, t_neq, w32_id, w64_id, jb_s, and_true, true_and, and_self, and_false, false_and, or_true, true_or, or_false, false_or, or_self, not_false_eq_true, not_true_eq_false, u_ne, u_eq, u_u, Int.reduceAdd, Int.reduceSub, Int.reduceMul, Int.reduceNeg, Int.zero_add, Int.add_zero, n15, n16, q10, q11, q12, q13, q14, hfa]
    · have e : W' = W := by
        funext i j
        by_cases i1 : i = 15 + 2 * m
        · rw [i1, w1, rO_0 (by omega) (by omega)]
        · by_cases i2 : i = 16 + 2 * m
          · rw [i2, w2, rP_0 (by omega)]
          · rw [w3 i i1 i2]
      rw [e]
      exact h
theorem gm_loop {W : jM} {h N : Int} : ∀ (f : Nat) (k : Int) (u : jM), u 160 3 = h → u 160 2 = N → 0 ≤ k → k ≤ N → (N - k).toNat < f → iSe (RS W (9 - h) h k) (cw u 0) → ∃ v, Md_goesMinute_2 f 155 k u = some (0, v) ∧ EX gdz u v ∧ iSe (jup (RS W (9 - h) h N) 0 2 (W 0 2 + 1)) (cw v 0) ∧ v 160 5 = u 160 5 + 1 := by
  intro f
  induction f with
  | zero => intro k u a1 a2 a3 a4 a5; omega
  | succ f ih =>
    intro k u a1 a2 a3 a4 a5 a6
    have hh := hd_V a6
    have hh2 := hh.1
    rw [RS_n (by omega)] at hh2
    by_cases hk : k < N
    · obtain ⟨v, x1, x2, x3⟩ := gm_step a6 (m := k) ⟨a3, by omega⟩
      have y := x3 (RS W (9 - h) h (k + 1)) (by rw [RS_o (by omega) (by omega), RS_n (by omega), a1]) (by rw [RS_p (by omega) (by omega), RS_n (by omega), RS_n (by omega), a1, show 16 + 2 * k - 1 = 15 + 2 * k by omega]) (fun i i1 i2 => by
        by_cases i3 : 15 ≤ i ∧ i < 15 + 2 * k
        · by_cases i4 : i % 2 = 1
          · rw [RS_o i3 i4, RS_o (by omega) i4]
          · rw [RS_p i3 i4, RS_p (by omega) i4]
        · rw [RS_n i3, RS_n (by omega)])
      obtain ⟨w, z1, z2, z3, z4⟩ := ih (k + 1) v (by rw [x2 160 3 (by unfold gdy; omega)]; exact a1) (by rw [x2 160 2 (by unfold gdy; omega)]; exact a2) (by omega) (by omega) (by omega) y
      refine ⟨w, by rw [x1]; exact z1, EX.tr (x2.wk (fun a o q => by unfold gdy at q; unfold gdz; omega)) z2, z3, ?_⟩
      rw [z4, x2 160 5 (by unfold gdy; omega)]
    · have e : k = N := by omega
      refine ⟨jup u 160 5 (u 160 5 + 1), ?_, (EX.rf _ _).up (by unfold gdz; omega), ?_, by simp (disch := omega) only [↓jb_m, ↓jm_s, ↓reduceIte, t_lt, t_nlt, t_le, t_nle, t_eq, t_neq, w32_id, w64_id, jb_s, and_true, true_and, and_self, and_false, false_and, or_true, true_or, or_false, false_or, or_self, not_false_eq_true, not_true_eq_false, u_ne, u_eq, u_u, Int.reduceAdd, Int.reduceSub, Int.reduceMul, Int.reduceNeg, Int.zero_add, Int.add_zero, n15, n16, q10, q11, q12, q13, q14]⟩
      · rw [Md_goesMinute_2]
        simp (disch := omega) only [↓jb_m, ↓jm_s, ↓reduceIte, t_lt, t_nlt, t_le, t_nle, t_eq, t_neq, w32_id, w64_id, jb_s, and_true, true_and, and_self, and_false, false_and, or_true, true_or, or_false, false_or, or_self, not_false_eq_true, not_true_eq_false, u_ne, u_eq, u_u, Int.reduceAdd, Int.reduceSub, Int.reduceMul, Int.reduceNeg, Int.zero_add, Int.add_zero, n15, n16, q10, q11, q12, q13, q14]
      · rw [e] at a6
        refine iSe_hd a6 (fun i j q => by simp (disch := omega) only [↓jb_m, ↓jm_s, ↓reduceIte, t_lt, t_nlt, t_le, t_nle, t_eq, t_neq, w32_id, w64_id, jb_s, and_true, true_and, and_self, and_false, false_and, or_true, true_or, or_false, false_or, or_self, not_false_eq_true, not_true_eq_false, u_ne, u_eq, u_u, Int.reduceAdd, Int.reduceSub, Int.reduceMul, Int.reduceNeg, Int.zero_add, Int.add_zero, n15, n16, q10, q11, q12, q13, q14]) (cw_ext (fun o o1 o2 q => by simp (disch := omega) only [↓jb_m, ↓jm_s, ↓reduceIte, t_lt, t_nlt, t_le, t_nle, t_eq, t_neq, w32_id, w64_id, jb_s, and_true, true_and, and_self, and_false, false_and, or_true, true_or, or_false, false_or, or_self, not_false_eq_true, not_true_eq_false, u_ne, u_eq, u_u, Int.reduceAdd, Int.reduceSub, Int.reduceMul, Int.reduceNeg, Int.zero_add, Int.add_zero, n15, n16, q10, q11, q12, q13, q14])) ?_ ?_ ?_ ?_
        · simp (disch := omega) only [↓jb_m, ↓jm_s, ↓reduceIte, t_lt, t_nlt, t_le, t_nle, t_eq, t_neq, w32_id, w64_id, jb_s, and_true, true_and, and_self, and_false, false_and, or_true, true_or, or_false, false_or, or_self, not_false_eq_true, not_true_eq_false, u_ne, u_eq, u_u, Int.reduceAdd, Int.reduceSub, Int.reduceMul, Int.reduceNeg, Int.zero_add, Int.add_zero, n15, n16, q10, q11, q12, q13, q14, cw_at]
          rw [RS_n (by omega)]
          omega
        · simp (disch := omega) only [↓jb_m, ↓jm_s, ↓reduceIte, t_lt, t_nlt, t_le, t_nle, t_eq, t_neq, w32_id, w64_id, jb_s, and_true, true_and, and_self, and_false, false_and, or_true, true_or, or_false, false_or, or_self, not_false_eq_true, not_true_eq_false, u_ne, u_eq, u_u, Int.reduceAdd, Int.reduceSub, Int.reduceMul, Int.reduceNeg, Int.zero_add, Int.add_zero, n15, n16, q10, q11, q12, q13, q14, cw_at]
          rw [RS_n (by omega)]
          omega
        · simp (disch := omega) only [↓jb_m, ↓jm_s, ↓reduceIte, t_lt, t_nlt, t_le, t_nle, t_eq, t_neq, w32_id, w64_id, jb_s, and_true, true_and, and_self, and_false, false_and, or_true, true_or, or_false, false_or, or_self, not_false_eq_true, not_true_eq_false, u_ne, u_eq, u_u, Int.reduceAdd, Int.reduceSub, Int.reduceMul, Int.reduceNeg, Int.zero_add, Int.add_zero, n15, n16, q10, q11, q12, q13, q14, cw_at]
        · simp (disch := omega) only [↓jb_m, ↓jm_s, ↓reduceIte, t_lt, t_nlt, t_le, t_nle, t_eq, t_neq, w32_id, w64_id, jb_s, and_true, true_and, and_self, and_false, false_and, or_true, true_or, or_false, false_or, or_self, not_false_eq_true, not_true_eq_false, u_ne, u_eq, u_u, Int.reduceAdd, Int.reduceSub, Int.reduceMul, Int.reduceNeg, Int.zero_add, Int.add_zero, n15, n16, q10, q11, q12, q13, q14, cw_at]
theorem RS_jup {V : jM} {p q k z : Int} : RS (jup V 0 2 z) p q k = jup (RS V p q k) 0 2 z := by
  funext i j
  by_cases h : 15 ≤ i ∧ i < 15 + 2 * k
  · by_cases h2 : i % 2 = 1
    · rw [u_ne (by omega), RS_o h h2, RS_o h h2, jup_ne (by omega)]
    · rw [u_ne (by omega), RS_p h h2, RS_p h h2, jup_ne (by omega), jup_ne (by omega)]
  · rw [RS_n h]
    by_cases e : i = 0 ∧ j = 2
    · rw [u_eq e, u_eq e]
    · rw [u_ne e, u_ne e, RS_n h]
theorem gm_one {W u : jM} (h : iSe W (cw u 0)) : ∃ v, Md_goesMinute 155 u = some (0, v) ∧ EX gdz u v ∧ iSe (jup (RS W (9 - u 160 3) (u 160 3) (u 160 2)) 0 2 (W 0 2 + 1)) (cw v 0) ∧ v 160 5 = u 160 5 + 1 := by
  have hh := (hd_V h).2
  rw [Md_goesMinute]
  refine gm_loop jFU 0 u rfl rfl (by omega) (by omega) (by unfold jFU; omega) ?_
  have e : RS W (9 - u 160 3) (u 160 3) 0 = W := funext fun i => RS_n (by omega)
  rw [e]
  exact h
/-- so many minutes -/
def ITER : Nat → jM → jM → Prop
  | 0, u, v => v = u
  | n + 1, u, v => ∃ w, Md_goesMinute 155 u = some (0, w) ∧ ITER n w v
theorem gm_n : ∀ (t : Nat) (W u : jM), iSe W (cw u 0) → ∃ v, ITER t u v ∧ EX gdz u v ∧ iSe (jup (RS W ((9 - u 160 3) * t) (u 160 3 * t) (u 160 2)) 0 2 (W 0 2 + t)) (cw v 0) ∧ v 160 5 = u 160 5 + t := by
  intro t
  induction t with
  | zero =>
    intro W u h
    have hh := (hd_V h).2
    refine ⟨u, rfl, EX.rf _ _, ?_, by omega⟩
    have e : jup (RS W ((9 - u 160 3) * (0 : Nat)) (u 160 3 * (0 : Nat)) (u 160 2)) 0 2 (W 0 2 + (0 : Nat)) = W := by
      rw [Int.natCast_zero, Int.mul_zero, Int.mul_zero, RS_00 h ⟨by omega, by rw [cw_at (by omega)]; omega⟩]
      funext i j
      by_cases e : i = 0 ∧ j = 2
      · rw [u_eq e, e.1, e.2]; omega
      · rw [u_ne e]
    rw [e]
    exact h
  | succ t ih =>
    intro W u h
    have hh := (hd_V h).2
    obtain ⟨w, a1, a2, a3, a4⟩ := gm_one h
    obtain ⟨v, b1, b2, b3, b4⟩ := ih _ w a3
    refine ⟨v, ⟨w, a1, b1⟩, a2.tr b2, ?_, by rw [b4, a4]; omega⟩
    rw [a2 160 3 (by unfold gdz; omega), a2 160 2 (by unfold gdz; omega), RS_jup, RS_RS (Int.mul_nonneg (by omega) (by omega)) (Int.mul_nonneg (by omega) (by omega)), u_u, u_eq ⟨rfl, rfl⟩] at b3
    rw [show (9 - u 160 3) * ((t + 1 : Nat) : Int) = 9 - u 160 3 + (9 - u 160 3) * t by rw [Int.natCast_add, Int.mul_add]; omega, show u 160 3 * ((t + 1 : Nat) : Int) = u 160 3 + u 160 3 * t by rw [Int.natCast_add, Int.mul_add]; omega, show W 0 2 + ((t + 1 : Nat) : Int) = W 0 2 + 1 + t by omega]
    exact b3
theorem ITER_s {n : Nat} {u v w : jM} (h : Md_goesMinute 155 u = some (0, w)) : ITER (n + 1) u v → ITER n w v := fun ⟨x, h1, h2⟩ => by
  rw [h] at h1
  cases h1
  exact h2
/-- MINUTES on both sides -/
theorem op_min {s u : jM} {b n : Int} (h : iSe (vw s b) (cw u 0)) (h5 : u 160 5 ≤ 9999) (hn : 0 ≤ n ∧ n ≤ 99) (hl : u 160 5 + n ≤ 9999) : ∃ t v, Se_passMinutes b n s = some (1, t) ∧ ITER n.toNat u v ∧ EX gdz u v ∧ R2 b s u t v ∧ v 160 5 = u 160 5 + n := by
  obtain ⟨⟨e0, e1, e2, e3, e4, e5, e6, e7⟩, hh⟩ := hd_at h
  have hz : RS (vw s b) ((9 - cw u 0 3) * n) (cw u 0 3 * n) 0 = vw s b := funext fun i => RS_n (by omega)
  obtain ⟨t, x1, x2, x3⟩ := passC (n := n) h (fun i j q => cut25 q) (by omega) jFU 0 s hz.symm (by omega) (by rw [cw_at (by omega)]; omega) (by rw [cw_at (by omega)]; unfold jFU; omega)
  obtain ⟨v, y1, y2, y3, y4⟩ := gm_n n.toNat (vw s b) u h
  have en : ((n.toNat : Nat) : Int) = n := Int.toNat_of_nonneg hn.1
  rw [en] at y3 y4
  refine ⟨t, v, ?_, y1, y2, ⟨x2, y2.wk (fun a o q => by unfold gdz at q; unfold rdy; omega), ?_, fun _ => by omega⟩, y4⟩
  · simp (disch := omega) only [↓jb_m, ↓jm_s, ↓reduceIte, t_lt, t_nlt, t_le, t_nle, t_eq, t_neq, w32_id, w64_id, jb_s, and_true, true_and, and_self, and_false, false_and, or_true, true_or, or_false, false_or, or_self, not_false_eq_true, not_true_eq_false, u_ne, u_eq, u_u, Int.reduceAdd, Int.reduceSub, Int.reduceMul, Int.reduceNeg, Int.zero_add, Int.add_zero, n15, n16, q10, q11, q12, q13, q14, Se_passMinutes]
    exact x1
  · rw [x3, cw_at (by omega), cw_at (by omega)]
    exact y3
theorem op_min0 {s u : jM} {b n : Int} (h : iSe (vw s b) (cw u 0)) (h5 : u 160 5 ≤ 9999) (hn : 0 ≤ n ∧ n ≤ 99) (hl : 9999 < u 160 5 + n) : Se_passMinutes b n s = some (0, s) := by
  obtain ⟨⟨e0, e1, e2, e3, e4, e5, e6, e7⟩, hh⟩ := hd_at h
  simp (disch := omega) only [↓jb_m, ↓jm_s, ↓reduceIte, t_lt, t_nlt, t_le, t_nle, t_eq, t_neq, w32_id, w64_id, jb_s, and_true, true_and, and_self, and_false, false_and, or_true, true_or, or_false, false_or, or_self, not_false_eq_true, not_true_eq_false, u_ne, u_eq, u_u, Int.reduceAdd, Int.reduceSub, Int.reduceMul, Int.reduceNeg, Int.zero_add, Int.add_zero, n15, n16, q10, q11, q12, q13, q14, Se_passMinutes]
