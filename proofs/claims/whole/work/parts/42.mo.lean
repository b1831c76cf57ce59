/-! moulds: what is done to them -/
theorem vw_ext {s t : jM} {b : Int} {Q : Int → Int → Prop} (h : ∀ i j, 0 ≤ i → i < 25 → ¬ Q i j → t (b + i) j = s (b + i) j) : ∀ i j, ¬ Q i j → vw t b i j = vw s b i j := by
  intro i j q
  simp only [vw]
  by_cases hi : 0 ≤ i ∧ i < 25
  · rw [if_pos hi, if_pos hi, h i j hi.1 hi.2 q]
  · rw [if_neg hi, if_neg hi]
theorem cw_ext {s t : jM} {Q : Int → Prop} (h : ∀ o, 0 ≤ o → o < 381 → ¬ Q o → t 160 o = s 160 o) : ∀ o, ¬ Q o → cw t 0 o = cw s 0 o := by
  intro o q
  by_cases hi : 0 ≤ o ∧ o < 381
  · rw [cw_at hi, cw_at hi, h o hi.1 hi.2 q]
  · simp only [cw]
    rw [if_neg hi, if_neg hi]
theorem mcnt_congr {c c' : Int → Int} {i : Int} (h : ∀ j, 0 ≤ j → j < 5 → c' (84 + 5 * i + j) = c (84 + 5 * i + j)) : mcnt c' i = mcnt c i := sum5_congr h
theorem mstr_congr {c c' : Int → Int} {i : Int} (h : ∀ j, 0 ≤ j → j < 5 → c' (84 + 5 * i + j) = c (84 + 5 * i + j)) (h2 : ∀ j, 0 ≤ j → j < 5 → c' (9 + j) = c (9 + j)) : mstr c' i = mstr c i := sum5_congr (fun j a b => by rw [h j a b, h2 j a b])
theorem iMo_congr {o o' p p' c c' : Int → Int} {i : Int} (h : iMo o p c i) (ho : ∀ j, o' j = o j) (hp : ∀ j, 0 ≤ j → j < 5 → p' j = p j) (h0 : c' 0 = c 0) (h1 : c' 1 = c 1) (hs : ∀ j, 0 ≤ j → j < 5 → c' (9 + j) = c (9 + j)) (hq : ∀ j, 0 ≤ j → j < 5 → c' (84 + 5 * i + j) = c (84 + 5 * i + j)) (a0 : c' (54 + i) = c (54 + i)) (a1 : c' (59 + i) = c (59 + i)) (a2 : c' (64 + i) = c (64 + i)) (a3 : c' (69 + i) = c (69 + i)) (a4 : c' (74 + i) = c (74 + i)) (a5 : c' (79 + i) = c (79 + i)) : iMo o' p' c' i := by
  unfold iMo at h ⊢
  rw [mcnt_congr hq, mstr_congr hq hs, a0, a1, a2, a3, a4, a5, h1]
  simp only [ho]
  obtain ⟨h2, h3, h4, h5⟩ := h
  refine ⟨h2, fun j j1 j2 => ?_, fun j j0 j1 j2 => ?_, h5⟩
  · rw [hq j j1 j2, hp j j1 j2]; exact h3 j j1 j2
  · rw [h0] at j1
    rw [hq j j0 j2]; exact h4 j j0 j1 j2
/-- one mould is another, the See's own numbers but FELL are as they were -/
theorem iSe_mo {V V' : jM} {c c' : Int → Int} {m : Int} (h : iSe V c) (hm : 0 ≤ m ∧ m < c 2) (hV : ∀ i j, ¬ (i = 15 + 2 * m) → ¬ (i = 16 + 2 * m) → V' i j = V i j) (hc : ∀ o, ¬ (o = 7 ∨ o = 64 + m ∨ o = 69 + m ∨ o = 74 + m ∨ o = 79 + m ∨ (84 + 5 * m ≤ o ∧ o < 89 + 5 * m)) → c' o = c o) (h7 : c' 7 = c 7 + (c' (79 + m) - c (79 + m))) (ho : iMo (V' (15 + 2 * m)) (V' (16 + 2 * m)) c' m) : iSe V' c' := by
  obtain ⟨⟨g1, g2⟩, g3, g4, g5, g6⟩ := h
  have c0 := hc 0 (by omega)
  have c1 := hc 1 (by omega)
  have c2 := hc 2 (by omega)
  refine ⟨⟨?_, ?_⟩, ?_, ?_, ?_, ?_⟩
  · rw [hV 0 0 (by omega) (by omega), hV 0 1 (by omega) (by omega), hV 0 2 (by omega) (by omega), hV 0 3 (by omega) (by omega), hV 0 4 (by omega) (by omega), hV 0 5 (by omega) (by omega), hV 0 6 (by omega) (by omega), hV 0 7 (by omega) (by omega), c0, c1, c2, hc 3 (by omega), hc 4 (by omega), hc 5 (by omega), hc 6 (by omega), hc 8 (by omega)]
    exact g1
  · rw [c0, c1, c2, hc 3 (by omega), hc 4 (by omega), hc 5 (by omega), hc 8 (by omega)]
    exact g2
  · intro j j1 j2
    rw [c0] at j2
    unfold iSt
    rw [hV 1 j (by omega) (by omega), hV 2 j (by omega) (by omega), hV 3 j (by omega) (by omega), hc (9 + j) (by omega), hc (14 + j) (by omega), hc (19 + j) (by omega)]
    exact g3 j j1 j2
  · intro i i1 i2
    rw [c2] at i2
    by_cases e : i = m
    · rw [e]; exact ho
    · exact iMo_congr (g4 i i1 i2) (fun j => hV _ j (by omega) (by omega)) (fun j _ _ => hV _ j (by omega) (by omega)) c0 c1 (fun j _ _ => hc _ (by omega)) (fun j _ _ => hc _ (by omega)) (hc _ (by omega)) (hc _ (by omega)) (hc _ (by omega)) (hc _ (by omega)) (hc _ (by omega)) (hc _ (by omega))
  · intro i i1 i2
    rw [c2] at i1
    rw [hc _ (by omega)]
    exact g5 i i1 i2
  · rw [h7, g6]
    exact (sum5_add (k := m) hm.1 (by omega) (by omega) (fun j _ _ _ => hc _ (by omega))).symm
/-- where it is, its state, FIRM -/
theorem iSe_set {V V' : jM} {c c' : Int → Int} {m p st f : Int} (h : iSe V c) (hm : 0 ≤ m ∧ m < c 2) (hV : ∀ i j, ¬ (i = 15 + 2 * m ∧ (j = 2 ∨ j = 3 ∨ j = 4)) → V' i j = V i j) (v2 : V' (15 + 2 * m) 2 = p) (v3 : V' (15 + 2 * m) 3 = st) (v4 : V' (15 + 2 * m) 4 = f) (hc : ∀ o, ¬ (o = 64 + m ∨ o = 69 + m ∨ o = 74 + m) → c' o = c o) (w2 : c' (64 + m) = p) (w3 : c' (69 + m) = st) (w4 : c' (74 + m) = f)
    (hp : 0 ≤ p ∧ p < c 1) (hst : 0 ≤ st ∧ st ≤ 2) (hf : 0 ≤ f ∧ f ≤ mstr c m) (h0 : st = 0 → mcnt c m = 0 ∧ f = 0) (h1 : st ≠ 0 → 1 ≤ mcnt c m) (h2 : st = 2 → mcnt c m = c (59 + m) ∧ c (54 + m) ≤ f) : iSe V' c' := by
  have hmo := h.2.2.1 m hm.1 hm.2
  have h5 := h.1.2.2.2.2.2
  refine iSe_mo h hm (fun i j a _ => hV i j (by omega)) (fun o a => hc o (by omega)) (by rw [hc 7 (by omega), hc (79 + m) (by omega)]; omega) ?_
  have hq : ∀ j, 0 ≤ j → j < 5 → c' (84 + 5 * m + j) = c (84 + 5 * m + j) := fun j _ _ => hc _ (by omega)
  unfold iMo at hmo ⊢
  rw [mcnt_congr hq, mstr_congr hq (fun j _ _ => hc _ (by omega)), w2, w3, w4, v2, v3, v4, hV _ 0 (by omega), hV _ 1 (by omega), hV _ 5 (by omega), hV _ 6 (by omega), hV _ 7 (by omega), hc (54 + m) (by omega), hc (59 + m) (by omega), hc (79 + m) (by omega), hc 0 (by omega), hc 1 (by omega)]
  obtain ⟨g2, g3, g4, g5, g6, g7, g8⟩ := hmo
  refine ⟨⟨g2.1, g2.2.1, rfl, rfl, rfl, g2.2.2.2.2.2.1, g2.2.2.2.2.2.2.1, g2.2.2.2.2.2.2.2⟩, fun j j1 j2 => ?_, fun j j0 j1 j2 => ?_, by omega, h0, h1, h2⟩
  · rw [hq j j1 j2, hV _ j (by omega)]; exact g3 j j1 j2
  · rw [hq j j0 j2]; exact g4 j j0 j1 j2
/-- it is VOID now; it FELL d times more -/
theorem iSe_void {V V' : jM} {c c' : Int → Int} {m p d : Int} (h : iSe V c) (hm : 0 ≤ m ∧ m < c 2) (hV : ∀ i j, ¬ ((i = 15 + 2 * m ∧ 2 ≤ j ∧ j ≤ 7) ∨ (i = 16 + 2 * m ∧ 0 ≤ j ∧ j < 5)) → V' i j = V i j) (v2 : V' (15 + 2 * m) 2 = p) (v3 : V' (15 + 2 * m) 3 = 0) (v4 : V' (15 + 2 * m) 4 = 0) (v5 : V' (15 + 2 * m) 5 = 0) (v6 : V' (15 + 2 * m) 6 = 0) (v7 : V' (15 + 2 * m) 7 = V (15 + 2 * m) 7 + d) (v8 : ∀ j, 0 ≤ j → j < 5 → V' (16 + 2 * m) j = 0)
    (hc : ∀ o, ¬ (o = 7 ∨ o = 64 + m ∨ o = 69 + m ∨ o = 74 + m ∨ o = 79 + m ∨ (84 + 5 * m ≤ o ∧ o < 89 + 5 * m)) → c' o = c o) (w2 : c' (64 + m) = p) (w3 : c' (69 + m) = 0) (w4 : c' (74 + m) = 0) (w7 : c' (79 + m) = c (79 + m) + d) (w8 : ∀ j, 0 ≤ j → j < 5 → c' (84 + 5 * m + j) = 0) (w9 : c' 7 = c 7 + d) (hp : 0 ≤ p ∧ p < c 1) : iSe V' c' := by
  have hmo := h.2.2.1 m hm.1 hm.2
  have h5 := h.1.2.2.2.2.2
  refine iSe_mo h hm (fun i j a b => hV i j (by omega)) hc (by omega) ?_
  have e1 : mcnt c' m = 0 := sum5_0 w8
  have e2 : mstr c' m = 0 := sum5_0 (fun j j1 j2 => by rw [w8 j j1 j2, Int.zero_mul])
  unfold iMo at hmo ⊢
  rw [e1, e2, w2, w3, w4, v2, v3, v4, v5, v6, v7, w7, hV _ 0 (by omega), hV _ 1 (by omega), hc (54 + m) (by omega), hc (59 + m) (by omega), hc 0 (by omega), hc 1 (by omega)]
  obtain ⟨g2, g3, g4, g5, g6, g7, g8⟩ := hmo
  refine ⟨⟨g2.1, g2.2.1, rfl, rfl, rfl, rfl, rfl, by omega⟩, fun j j1 j2 => ?_, fun j j0 j1 j2 => w8 j j0 j2, by omega, fun _ => ⟨rfl, rfl⟩, fun z => absurd rfl z, fun z => absurd z (by decide)⟩
  rw [w8 j j1 j2, v8 j j1 j2]
  omega
/-! the class's moulds -/
theorem Mo_makeVoid_22_eq : ∀ (n : Nat) (x0 x1 : Int) (s : jM), 0 ≤ x1 → x1 ≤ 5 → (5 - x1).toNat < n → Mo_makeVoid_22 n x0 x1 s = some (0, jfill s (x0 + 1) x1 5 0) := by
  intro n
  induction n with
  | zero => intro x0 x1 s h1 h2 h3; omega
  | succ n ih =>
    intro x0 x1 s h1 h2 h3
    rw [Mo_makeVoid_22, w32_id (by omega) (by omega)]
    by_cases h : x1 < 5
    · rw [if_pos h, if_pos ⟨h1, h⟩, ih _ _ _ (by omega) (by omega) (by omega), jfill_s h]
    · rw [if_neg h, jfill_0 _ _ _ _ _ (by omega)]
def moV (s : jM) (a : Int) : jM := jfill (jup (jup (jup (jup s a 3 0) a 4 0) a 5 0) a 6 0) (a + 1) 0 5 0
theorem Mo_makeVoid_eq (a : Int) (s : jM) : Mo_makeVoid a s = some (0, moV s a) := by
  rw [Mo_makeVoid, Mo_makeVoid_22_eq _ _ _ _ (by omega) (by omega) (jFU_ge (by decide)), moV]
theorem Mo_weaken_0 {a y : Int} {s : jM} (h : s a 3 = 0 ∨ s a 3 = 1) : Mo_weaken a y s = some (0, s) := by
  have e : ¬ w32 (s a 3) = 2 := by rcases h with h | h <;> rw [h] <;> decide
  rw [Mo_weaken, if_neg e]
theorem Mo_weaken_1 {a y : Int} {s : jM} (h : s a 3 = 2) (hb : -1000000 ≤ s a 4 - y ∧ s a 4 - y ≤ 1000000) (hh : 0 ≤ s a 0 ∧ s a 0 ≤ 30) (hf : s a 0 ≤ s a 4 - y) : Mo_weaken a y s = some (0, jup s a 4 (s a 4 - y)) := by
  simp (disch := omega) only [↓jb_m, ↓jm_s, ↓reduceIte, t_lt, t_nlt, t_le, t_nle, t_eq, t_neq, w32_id, w64_id, jb_s, and_true, true_and, and_self, and_false, false_and, or_true, true_or, or_false, false_or, or_self, not_false_eq_true, not_true_eq_false, u_ne, u_eq, u_u, Int.reduceAdd, Int.reduceSub, Int.reduceMul, Int.reduceNeg, Int.zero_add, Int.add_zero, n15, n16, q10, q11, q12, q13, q14, Mo_weaken]
theorem Mo_weaken_2 {a y : Int} {s : jM} (h : s a 3 = 2) (hb : -1000000 ≤ s a 4 - y ∧ s a 4 - y ≤ 1000000) (hh : 0 ≤ s a 0 ∧ s a 0 ≤ 30) (hf : s a 4 - y < s a 0) : Mo_weaken a y s = some (0, jup (moV (jup s a 4 (s a 4 - y)) a) a 7 (s a 7 + 1)) := by
  simp (disch := omega) only [↓jb_m, ↓jm_s, ↓reduceIte, t_lt, t_nlt, t_le, t_nle, t_eq, t_neq, w32_id, w64_id, jb_s, and_true, true_and, and_self, and_false, false_and, or_true, true_or, or_false, false_or, or_self, not_false_eq_true, not_true_eq_false, u_ne, u_eq, u_u, Int.reduceAdd, Int.reduceSub, Int.reduceMul, Int.reduceNeg, Int.zero_add, Int.add_zero, n15, n16, q10, q11, q12, q13, q14, Mo_weaken, Mo_makeVoid_eq]
  simp (disch := omega) only [↓jb_m, ↓jm_s, ↓reduceIte, t_lt, t_nlt, t_le, t_nle, t_eq, t_neq, w32_id, w64_id, jb_s, and_true, true_and, and_self, and_false, false_and, or_true, true_or, or_false, false_or, or_self, not_false_eq_true, not_true_eq_false, u_ne, u_eq, u_u, Int.reduceAdd, Int.reduceSub, Int.reduceMul, Int.reduceNeg, Int.zero_add, Int.add_zero, n15, n16, q10, q11, q12, q13, q14, moV, f_out]
/-! the reference's -/
theorem Md_partsIn_4_eq {m : Int} {s : jM} (hm : 0 ≤ m ∧ m < 5) (h0 : 0 ≤ s 160 0 ∧ s 160 0 ≤ 5) : ∀ (n : Nat) (x2 x3 : Int), 0 ≤ x3 → x3 ≤ s 160 0 → (s 160 0 - x3).toNat < n → x2 = psum (fun j => s 160 (84 + 5 * m + j)) x3.toNat → Md_partsIn_4 n 155 m x2 x3 s = some (psum (fun j => s 160 (84 + 5 * m + j)) (s 160 0).toNat, s) := by
  intro n
  induction n with
  | zero => intro x2 x3 h1 h2 h3; omega
  | succ n ih =>
    intro x2 x3 h1 h2 h3 h4
    by_cases h : x3 < s 160 0
    · simp (disch := omega) only [↓jb_m, ↓jm_s, ↓reduceIte, t_lt, t_nlt, t_le, t_nle, t_eq, t_neq, w32_id, w64_id, jb_s, and_true, true_and, and_self, and_false, false_and, or_true, true_or, or_false, false_or, or_self, not_false_eq_true, not_true_eq_false, u_ne, u_eq, u_u, Int.reduceAdd, Int.reduceSub, Int.reduceMul, Int.reduceNeg, Int.zero_add, Int.add_zero, n15, n16, q10, q11, q12, q13, q14, Md_partsIn_4, Md_partOf]
      exact ih _ _ (by omega) (by omega) (by omega) (by rw [psum_s _ h1, h4])
    · have e : x3 = s 160 0 := by omega
      simp (disch := omega) only [↓jb_m, ↓jm_s, ↓reduceIte, t_lt, t_nlt, t_le, t_nle, t_eq, t_neq, w32_id, w64_id, jb_s, and_true, true_and, and_self, and_false, false_and, or_true, true_or, or_false, false_or, or_self, not_false_eq_true, not_true_eq_false, u_ne, u_eq, u_u, Int.reduceAdd, Int.reduceSub, Int.reduceMul, Int.reduceNeg, Int.zero_add, Int.add_zero, n15, n16, q10, q11, q12, q13, q14, Md_partsIn_4]
      rw [h4, e]
theorem Md_partsIn_eq {m : Int} {s : jM} (hm : 0 ≤ m ∧ m < 5) (h0 : 0 ≤ s 160 0 ∧ s 160 0 ≤ 5) (hz : ∀ j, 0 ≤ j → s 160 0 ≤ j → j < 5 → s 160 (84 + 5 * m + j) = 0) : Md_partsIn 155 m s = some (sum5 (fun j => s 160 (84 + 5 * m + j)), s) := by
  rw [Md_partsIn, Md_partsIn_4_eq hm h0 _ 0 0 (by omega) h0.1 (by unfold jFU; omega) rfl, psum_5 h0.1 h0.2 (fun j j1 j2 => hz j (by omega) j1 j2)]
theorem Md_strengthOf_4_eq {m : Int} {s : jM} (hm : 0 ≤ m ∧ m < 5) (h0 : 0 ≤ s 160 0 ∧ s 160 0 ≤ 5) : ∀ (n : Nat) (x2 x3 : Int), 0 ≤ x3 → x3 ≤ s 160 0 → (s 160 0 - x3).toNat < n → x2 = psum (fun j => s 160 (84 + 5 * m + j) * s 160 (9 + j)) x3.toNat → Md_strengthOf_4 n 155 m x2 x3 s = some (psum (fun j => s 160 (84 + 5 * m + j) * s 160 (9 + j)) (s 160 0).toNat, s) := by
  intro n
  induction n with
  | zero => intro x2 x3 h1 h2 h3; omega
  | succ n ih =>
    intro x2 x3 h1 h2 h3 h4
    by_cases h : x3 < s 160 0
    · simp (disch := omega) only [↓jb_m, ↓jm_s, ↓reduceIte, t_lt, t_nlt, t_le, t_nle, t_eq, t_neq, w32_id, w64_id, jb_s, and_true, true_and, and_self, and_false, false_and, or_true, true_or, or_false, false_or, or_self, not_false_eq_true, not_true_eq_false, u_ne, u_eq, u_u, Int.reduceAdd, Int.reduceSub, Int.reduceMul, Int.reduceNeg, Int.zero_add, Int.add_zero, n15, n16, q10, q11, q12, q13, q14, Md_strengthOf_4, Md_partOf]
      exact ih _ _ (by omega) (by omega) (by omega) (by rw [psum_s _ h1, h4])
    · have e : x3 = s 160 0 := by omega
      simp (disch := omega) only [↓jb_m, ↓jm_s, ↓reduceIte, t_lt, t_nlt, t_le, t_nle, t_eq, t_neq, w32_id, w64_id, jb_s, and_true, true_and, and_self, and_false, false_and, or_true, true_or, or_false, false_or, or_self, not_false_eq_true, not_true_eq_false, u_ne, u_eq, u_u, Int.reduceAdd, Int.reduceSub, Int.reduceMul, Int.reduceNeg, Int.zero_add, Int.add_zero, n15, n16, q10, q11, q12, q13, q14, Md_strengthOf_4]
      rw [h4, e]
theorem Md_strengthOf_eq {m : Int} {s : jM} (hm : 0 ≤ m ∧ m < 5) (h0 : 0 ≤ s 160 0 ∧ s 160 0 ≤ 5) (hz : ∀ j, 0 ≤ j → s 160 0 ≤ j → j < 5 → s 160 (84 + 5 * m + j) = 0) : Md_strengthOf 155 m s = some (sum5 (fun j => s 160 (84 + 5 * m + j) * s 160 (9 + j)), s) := by
  rw [Md_strengthOf, Md_strengthOf_4_eq hm h0 _ 0 0 (by omega) h0.1 (by unfold jFU; omega) rfl, psum_5 h0.1 h0.2 (fun j j1 j2 => by rw [hz j (by omega) j1 j2, Int.zero_mul])]
theorem Md_goes_2_eq {m : Int} (hm : 0 ≤ m ∧ m < 5) : ∀ (n : Nat) (x2 : Int) (s : jM), 0 ≤ x2 → x2 ≤ 5 → (5 - x2).toNat < n → Md_goes_2 n 155 m x2 s = some (0, jup (jup (jfill s 160 (84 + 5 * m + x2) (84 + 5 * m + 5) 0) 160 (69 + m) 0) 160 (74 + m) 0) := by
  intro n
  induction n with
  | zero => intro x2 s h1 h2 h3; omega
  | succ n ih =>
    intro x2 s h1 h2 h3
    by_cases h : x2 < 5
    · simp (disch := omega) only [↓jb_m, ↓jm_s, ↓reduceIte, t_lt, t_nlt, t_le, t_nle, t_eq, t_neq, w32_id, w64_id, jb_s, and_true, true_and, and_self, and_false, false_and, or_true, true_or, or_false, false_or, or_self, not_false_eq_true, not_true_eq_false, u_ne, u_eq, u_u, Int.reduceAdd, Int.reduceSub, Int.reduceMul, Int.reduceNeg, Int.zero_add, Int.add_zero, n15, n16, q10, q11, q12, q13, q14, Md_goes_2]
      rw [ih _ _ (by omega) (by omega) (by omega), show 84 + 5 * m + (x2 + 1) = 84 + 5 * m + x2 + 1 by omega, jfill_s (by omega)]
    · simp (disch := omega) only [↓jb_m, ↓jm_s, ↓reduceIte, t_lt, t_nlt, t_le, t_nle, t_eq, t_neq, w32_id, w64_id, jb_s, and_true, true_and, and_self, and_false, false_and, or_true, true_or, or_false, false_or, or_self, not_false_eq_true, not_true_eq_false, u_ne, u_eq, u_u, Int.reduceAdd, Int.reduceSub, Int.reduceMul, Int.reduceNeg, Int.zero_add, Int.add_zero, n15, n16, q10, q11, q12, q13, q14, Md_goes_2]
      rw [jfill_0 _ _ _ _ _ (by omega)]
def mdV (s : jM) (m : Int) : jM := jup (jup (jfill s 160 (84 + 5 * m) (84 + 5 * m + 5) 0) 160 (69 + m) 0) 160 (74 + m) 0
theorem Md_goes_eq {m : Int} (hm : 0 ≤ m ∧ m < 5) (s : jM) : Md_goes 155 m s = some (0, mdV s m) := by
  rw [Md_goes, Md_goes_2_eq hm _ _ _ (by omega) (by omega) (by unfold jFU; omega), Int.add_zero, mdV]
theorem Md_falls_0 {m : Int} {s : jM} (hm : 0 ≤ m ∧ m < 5) (h : s 160 (69 + m) = 0 ∨ s 160 (69 + m) = 1) : Md_falls 155 m s = some (0, s) := by
  simp (disch := omega) only [↓jb_m, ↓jm_s, ↓reduceIte, t_lt, t_nlt, t_le, t_nle, t_eq, t_neq, w32_id, w64_id, jb_s, and_true, true_and, and_self, and_false, false_and, or_true, true_or, or_false, false_or, or_self, not_false_eq_true, not_true_eq_false, u_ne, u_eq, u_u, Int.reduceAdd, Int.reduceSub, Int.reduceMul, Int.reduceNeg, Int.zero_add, Int.add_zero, n15, n16, q10, q11, q12, q13, q14, Md_falls]
theorem Md_falls_1 {m : Int} {s : jM} (hm : 0 ≤ m ∧ m < 5) (h : s 160 (69 + m) = 2) (hb : -1000000 ≤ s 160 (74 + m) ∧ s 160 (74 + m) ≤ 1000000) (hh : 0 ≤ s 160 (54 + m) ∧ s 160 (54 + m) ≤ 30) (hf : s 160 (54 + m) ≤ s 160 (74 + m)) : Md_falls 155 m s = some (0, s) := by
  simp (disch := omega) only [↓jb_m, ↓jm_s, ↓reduceIte, t_lt, t_nlt, t_le, t_nle, t_eq, t_neq, w32_id, w64_id, jb_s, and_true, true_and, and_self, and_false, false_and, or_true, true_or, or_false, false_or, or_self, not_false_eq_true, not_true_eq_false, u_ne, u_eq, u_u, Int.reduceAdd, Int.reduceSub, Int.reduceMul, Int.reduceNeg, Int.zero_add, Int.add_zero, n15, n16, q10, q11, q12, q13, q14, Md_falls]
theorem Md_falls_2 {m : Int} {s : jM} (hm : 0 ≤ m ∧ m < 5) (h : s 160 (69 + m) = 2) (hb : -1000000 ≤ s 160 (74 + m) ∧ s 160 (74 + m) ≤ 1000000) (hh : 0 ≤ s 160 (54 + m) ∧ s 160 (54 + m) ≤ 30) (hf : s 160 (74 + m) < s 160 (54 + m)) : Md_falls 155 m s = some (1, jup (jup (mdV s m) 160 (79 + m) (s 160 (79 + m) + 1)) 160 7 (s 160 7 + 1)) := by
  simp (disch := omega) only [↓jb_m, ↓jm_s, ↓reduceIte, t_lt, t_nlt, t_le, t_nle, t_eq, t_neq, w32_id, w64_id, jb_s, and_true, true_and, and_self, and_false, false_and, or_true, true_or, or_false, false_or, or_self, not_false_eq_true, not_true_eq_false, u_ne, u_eq, u_u, Int.reduceAdd, Int.reduceSub, Int.reduceMul, Int.reduceNeg, Int.zero_add, Int.add_zero, n15, n16, q10, q11, q12, q13, q14, Md_falls, Md_goes_eq]
  simp (disch := omega) only [↓jb_m, ↓jm_s, ↓reduceIte, t_lt, t_nlt, t_le, t_nle, t_eq, t_neq, w32_id, w64_id, jb_s, and_true, true_and, and_self, and_false, false_and, or_true, true_or, or_false, false_or, or_self, not_false_eq_true, not_true_eq_false, u_ne, u_eq, u_u, Int.reduceAdd, Int.reduceSub, Int.reduceMul, Int.reduceNeg, Int.zero_add, Int.add_zero, n15, n16, q10, q11, q12, q13, q14, mdV, f_out]
