theorem carry_ok {s : jM} (h : INV s) {m p : Int} (hm : i32 m) (hp : i32 p) : OKc s (Jc_carry 0 m p) (Md_carry 155 m p) := by
  unfold i32 at hm hp
  obtain ⟨hb, hj, hj2, -⟩ := h.b
  have hse := h.2.2.2.2.2.1.1
  obtain ⟨e6, c2⟩ := hd2 hse
  obtain ⟨e5, c1⟩ := hd1 hse
  have hX := h.2.2.2.2.2.1.2.2
  by_cases hv : 0 ≤ m ∧ m < s 160 2
  rotate_left
  · rcases (by omega : m < 0 ∨ s 160 2 ≤ m) with q | q
    · exact OKc.no (w := 2) (r := -1) h (by simp (disch := omega) only [↓jb_m, ↓jm_s, ↓reduceIte, t_lt, t_nlt, t_le, t_nle, t_eq, t_neq, w32_id, w64_id, jb_s, and_true, true_and, and_self, and_false, false_and, or_true, true_or, or_false, false_or, or_self, not_false_eq_true, not_true_eq_false, u_ne, u_eq, u_u, Int.reduceAdd, Int.reduceSub, Int.reduceMul, Int.reduceNeg, Int.zero_add, Int.add_zero, n15, n16, q10, q11, q12, q13, q14, Jc_carry, Jc_answer, Jc_refuse, Jc_deny, Jc_grant, Se_isMould, Se_isStuff, Se_isPlace, hj]) (by simp (disch := omega) only [↓jb_m, ↓jm_s, ↓reduceIte, t_lt, t_nlt, t_le, t_nle, t_eq, t_neq, w32_id, w64_id, jb_s, and_true, true_and, and_self, and_false, false_and, or_true, true_or, or_false, false_or, or_self, not_false_eq_true, not_true_eq_false, u_ne, u_eq, u_u, Int.reduceAdd, Int.reduceSub, Int.reduceMul, Int.reduceNeg, Int.zero_add, Int.add_zero, n15, n16, q10, q11, q12, q13, q14, Md_carry, Md_isMouldAt, Md_isStuffAt, Md_isPlaceAt, Md_isTray, Md_isIn_1, Md_isIn_0, Md_refuse, Md_no])
    · exact OKc.no (w := 2) (r := -1) h (by simp (disch := omega) only [↓jb_m, ↓jm_s, ↓reduceIte, t_lt, t_nlt, t_le, t_nle, t_eq, t_neq, w32_id, w64_id, jb_s, and_true, true_and, and_self, and_false, false_and, or_true, true_or, or_false, false_or, or_self, not_false_eq_true, not_true_eq_false, u_ne, u_eq, u_u, Int.reduceAdd, Int.reduceSub, Int.reduceMul, Int.reduceNeg, Int.zero_add, Int.add_zero, n15, n16, q10, q11, q12, q13, q14, Jc_carry, Jc_answer, Jc_refuse, Jc_deny, Jc_grant, Se_isMould, Se_isStuff, Se_isPlace, hj]) (by simp (disch := omega) only [↓jb_m, ↓jm_s, ↓reduceIte, t_lt, t_nlt, t_le, t_nle, t_eq, t_neq, w32_id, w64_id, jb_s, and_true, true_and, and_self, and_false, false_and, or_true, true_or, or_false, false_or, or_self, not_false_eq_true, not_true_eq_false, u_ne, u_eq, u_u, Int.reduceAdd, Int.reduceSub, Int.reduceMul, Int.reduceNeg, Int.zero_add, Int.add_zero, n15, n16, q10, q11, q12, q13, q14, Md_carry, Md_isMouldAt, Md_isStuffAt, Md_isPlaceAt, Md_isTray, Md_isIn_1, Md_isIn_0, Md_refuse, Md_no])
  by_cases hv2 : 0 ≤ p ∧ p < s 160 1
  rotate_left
  · rcases (by omega : p < 0 ∨ s 160 1 ≤ p) with q | q
    · exact OKc.no (w := 2) (r := -1) h (by simp (disch := omega) only [↓jb_m, ↓jm_s, ↓reduceIte, t_lt, t_nlt, t_le, t_nle, t_eq, t_neq, w32_id, w64_id, jb_s, and_true, true_and, and_self, and_false, false_and, or_true, true_or, or_false, false_or, or_self, not_false_eq_true, not_true_eq_false, u_ne, u_eq, u_u, Int.reduceAdd, Int.reduceSub, Int.reduceMul, Int.reduceNeg, Int.zero_add, Int.add_zero, n15, n16, q10, q11, q12, q13, q14, Jc_carry, Jc_answer, Jc_refuse, Jc_deny, Jc_grant, Se_isMould, Se_isStuff, Se_isPlace, hj]) (by simp (disch := omega) only [↓jb_m, ↓jm_s, ↓reduceIte, t_lt, t_nlt, t_le, t_nle, t_eq, t_neq, w32_id, w64_id, jb_s, and_true, true_and, and_self, and_false, false_and, or_true, true_or, or_false, false_or, or_self, not_false_eq_true, not_true_eq_false, u_ne, u_eq, u_u, Int.reduceAdd, Int.reduceSub, Int.reduceMul, Int.reduceNeg, Int.zero_add, Int.add_zero, n15, n16, q10, q11, q12, q13, q14, Md_carry, Md_isMouldAt, Md_isStuffAt, Md_isPlaceAt, Md_isTray, Md_isIn_1, Md_isIn_0, Md_refuse, Md_no])
    · exact OKc.no (w := 2) (r := -1) h (by simp (disch := omega) only [↓jb_m, ↓jm_s, ↓reduceIte, t_lt, t_nlt, t_le, t_nle, t_eq, t_neq, w32_id, w64_id, jb_s, and_true, true_and, and_self, and_false, false_and, or_true, true_or, or_false, false_or, or_self, not_false_eq_true, not_true_eq_false, u_ne, u_eq, u_u, Int.reduceAdd, Int.reduceSub, Int.reduceMul, Int.reduceNeg, Int.zero_add, Int.add_zero, n15, n16, q10, q11, q12, q13, q14, Jc_carry, Jc_answer, Jc_refuse, Jc_deny, Jc_grant, Se_isMould, Se_isStuff, Se_isPlace, hj]) (by simp (disch := omega) only [↓jb_m, ↓jm_s, ↓reduceIte, t_lt, t_nlt, t_le, t_nle, t_eq, t_neq, w32_id, w64_id, jb_s, and_true, true_and, and_self, and_false, false_and, or_true, true_or, or_false, false_or, or_self, not_false_eq_true, not_true_eq_false, u_ne, u_eq, u_u, Int.reduceAdd, Int.reduceSub, Int.reduceMul, Int.reduceNeg, Int.zero_add, Int.add_zero, n15, n16, q10, q11, q12, q13, q14, Md_carry, Md_isMouldAt, Md_isStuffAt, Md_isPlaceAt, Md_isTray, Md_isIn_1, Md_isIn_0, Md_refuse, Md_no])
  obtain ⟨m5, ⟨f0, f1, f2, f3, f4, f5, f6, f7⟩, hq, hz, fb, g0, g1, g2⟩ := mo_at hse hv
  have h8 := (hd_at hse).2.2.2.2.2.2.2.2.2.2.2.2
  obtain ⟨x1, x2⟩ := iY_at hX
  obtain ⟨e, he1, he2, he3⟩ := far_eq x2 (by omega) (by omega)
  have hC := shakesC x1 he3 (p := s 160 (64 + m)) (q := p) (by omega) (by omega)
  have hsb := shk_b he3 (p := s 160 (64 + m)) (q := p) (by omega) (by omega)
  obtain ⟨r, t, v0, hc, -, hR, hr⟩ := op_carry hse hX hv hv2
  have e160 : t 160 = s 160 := cdy_160 hb hR.1 (by omega)
  have e05 : t 0 = s 0 := cdy_160 hb hR.1 (by omega)
  -- the reference, from a state whose block is the same
  have key : ∀ u : jM, u 160 = s 160 → ∃ u1, Md_shakenTo 155 (s 160 (64 + m)) p u = some (shk (e 164) (s 160 (64 + m)) p, u1) ∧ EX a164 u u1 := fun u hu => by
    have hcu : cw u 0 = cw s 0 := cw_congr (fun o _ _ => by rw [hu])
    obtain ⟨u1, k1, k2, k3⟩ := far_eq (u := u) (by rw [hcu]; exact x2) (by rw [hu]; omega) (by rw [hu]; omega)
    refine ⟨u1, ?_, k2⟩
    rw [hcu] at k3
    rw [shakenR (by rw [hcu]; exact k3) k1 (by omega) (by omega), shk_same k3 he3 (by omega) (by omega)]
  generalize hS : shk (e 164) (s 160 (64 + m)) p = S at hC hsb key
  by_cases h8' : S = -1
  · obtain ⟨u1, k1, k2⟩ := key (jup (jup (jup s 0 0 8) 155 1 0) 155 0 0) (by funext o; simp (disch := omega) only [↓jb_m, ↓jm_s, ↓reduceIte, t_lt, t_nlt, t_le, t_nle, t_eq, t_neq, w32_id, w64_id, jb_s, and_true, true_and, and_self, and_false, false_and, or_true, true_or, or_false, false_or, or_self, not_false_eq_true, not_true_eq_false, u_ne, u_eq, u_u, Int.reduceAdd, Int.reduceSub, Int.reduceMul, Int.reduceNeg, Int.zero_add, Int.add_zero, n15, n16, q10, q11, q12, q13, q14])
    refine OKc.scr (w := 8) (r := -1) (v := jup u1 155 0 8) h (by simp (disch := omega) only [↓jb_m, ↓jm_s, ↓reduceIte, t_lt, t_nlt, t_le, t_nle, t_eq, t_neq, w32_id, w64_id, jb_s, and_true, true_and, and_self, and_false, false_and, or_true, true_or, or_false, false_or, or_self, not_false_eq_true, not_true_eq_false, u_ne, u_eq, u_u, Int.reduceAdd, Int.reduceSub, Int.reduceMul, Int.reduceNeg, Int.zero_add, Int.add_zero, n15, n16, q10, q11, q12, q13, q14, Jc_carry, f2, hC, Jc_answer, Jc_refuse, Jc_deny, Jc_grant, Se_isMould, Se_isStuff, Se_isPlace, hj]) (by simp (disch := omega) only [↓jb_m, ↓jm_s, ↓reduceIte, t_lt, t_nlt, t_le, t_nle, t_eq, t_neq, w32_id, w64_id, jb_s, and_true, true_and, and_self, and_false, false_and, or_true, true_or, or_false, false_or, or_self, not_false_eq_true, not_true_eq_false, u_ne, u_eq, u_u, Int.reduceAdd, Int.reduceSub, Int.reduceMul, Int.reduceNeg, Int.zero_add, Int.add_zero, n15, n16, q10, q11, q12, q13, q14, Md_carry, k1, Md_isMouldAt, Md_isStuffAt, Md_isPlaceAt, Md_isTray, Md_isIn_1, Md_isIn_0, Md_refuse, Md_no]) (fun a b q => ?_)
    by_cases e : a = 155 ∧ b = 0
    · rw [u_eq e, u_eq e]
    · rw [u_ne e, k2 a b (by unfold a164; omega), u_ne e, u_ne e]
  · have key2 : ∀ w, ∃ u1 v, Md_shakenTo 155 (s 160 (64 + m)) p (u0 t w) = some (S, u1) ∧ (∀ o, u1 160 o = s 160 o) ∧ Md_carries 155 m p u1 = some (r, v) ∧ R2 (s 0 5) s (u0 t w) t v := fun w => by
      have hu : u0 t w 160 = s 160 := funext fun o => u0_160 hb hR.1
      obtain ⟨u1, k1, k2⟩ := key (u0 t w) hu
      have k160 : ∀ o, u1 160 o = s 160 o := fun o => by rw [k2 160 o (by unfold a164; omega), hu]
      have hcu : cw u1 0 = cw s 0 := cw_congr (fun o _ _ => by rw [k160])
      obtain ⟨r', t', v, y1, y2, y3, -⟩ := op_carry (s := s) (u := u1) (b := s 0 5) (m := m) (p := p) (w := ww s 0) (by rw [hcu]; exact hse) (by rw [hcu]; exact hX) (by rw [k160]; exact hv) (by rw [k160]; exact hv2)
      rw [hc] at y1
      cases y1
      exact ⟨u1, v, k1, k160, y2, y3.1, (k2.wk (fun a o q => by unfold a164 at q; unfold rdy; omega)).tr y3.2.1, y3.2.2.1, fun z => y3.2.2.2 (by rw [k160]; rw [hu] at z; exact z)⟩
    rcases hr with rfl | rfl
    · obtain ⟨u1, v, y1, y2, y3, hR'⟩ := key2 9
      unfold u0 at y1
      exact OKc.of (s1 := jup t 0 0 9) (r := -1) (by simp (disch := omega) only [↓jb_m, ↓jm_s, ↓reduceIte, t_lt, t_nlt, t_le, t_nle, t_eq, t_neq, w32_id, w64_id, jb_s, and_true, true_and, and_self, and_false, false_and, or_true, true_or, or_false, false_or, or_self, not_false_eq_true, not_true_eq_false, u_ne, u_eq, u_u, Int.reduceAdd, Int.reduceSub, Int.reduceMul, Int.reduceNeg, Int.zero_add, Int.add_zero, n15, n16, q10, q11, q12, q13, q14, Jc_carry, f2, hC, hc, e05, Jc_answer, Jc_refuse, Jc_deny, Jc_grant, Se_isMould, Se_isStuff, Se_isPlace, hj]) (by simp (disch := omega) only [↓jb_m, ↓jm_s, ↓reduceIte, t_lt, t_nlt, t_le, t_nle, t_eq, t_neq, w32_id, w64_id, jb_s, and_true, true_and, and_self, and_false, false_and, or_true, true_or, or_false, false_or, or_self, not_false_eq_true, not_true_eq_false, u_ne, u_eq, u_u, Int.reduceAdd, Int.reduceSub, Int.reduceMul, Int.reduceNeg, Int.zero_add, Int.add_zero, n15, n16, q10, q11, q12, q13, q14, Md_carry, e160, y1, y3, Md_isMouldAt, Md_isStuffAt, Md_isPlaceAt, Md_isTray, Md_isIn_1, Md_isIn_0, Md_refuse, Md_no]) (fin h hR').1 (fin h hR').2
    · obtain ⟨u1, v, y1, y2, y3, hR'⟩ := key2 0
      unfold u0 at y1
      exact OKc.of (s1 := jup t 0 0 0) (r := S) (by simp (disch := omega) only [↓jb_m, ↓jm_s, ↓reduceIte, t_lt, t_nlt, t_le, t_nle, t_eq, t_neq, w32_id, w64_id, jb_s, and_true, true_and, and_self, and_false, false_and, or_true, true_or, or_false, false_or, or_self, not_false_eq_true, not_true_eq_false, u_ne, u_eq, u_u, Int.reduceAdd, Int.reduceSub, Int.reduceMul, Int.reduceNeg, Int.zero_add, Int.add_zero, n15, n16, q10, q11, q12, q13, q14, Jc_carry, f2, hC, hc, e05, Jc_answer, Jc_refuse, Jc_deny, Jc_grant, Se_isMould, Se_isStuff, Se_isPlace, hj]) (by simp (disch := omega) only [↓jb_m, ↓jm_s, ↓reduceIte, t_lt, t_nlt, t_le, t_nle, t_eq, t_neq, w32_id, w64_id, jb_s, and_true, true_and, and_self, and_false, false_and, or_true, true_or, or_false, false_or, or_self, not_false_eq_true, not_true_eq_false, u_ne, u_eq, u_u, Int.reduceAdd, Int.reduceSub, Int.reduceMul, Int.reduceNeg, Int.zero_add, Int.add_zero, n15, n16, q10, q11, q12, q13, q14, Md_carry, e160, y1, y3, Md_isMouldAt, Md_isStuffAt, Md_isPlaceAt, Md_isTray, Md_isIn_1, Md_isIn_0, Md_refuse, Md_no]) (fin0 h hR').1 (fin0 h hR').2
theorem shaken_ok {s : jM} (h : INV s) {p q : Int} (hp : i32 p) (hq : i32 q) : OKc s (Jc_shaken 0 p q) (Md_shaken 155 p q) := by
  unfold i32 at hp hq
  obtain ⟨hb, hj, hj2, -⟩ := h.b
  have hse := h.2.2.2.2.2.1.1
  obtain ⟨e5, c1⟩ := hd1 hse
  have hX := h.2.2.2.2.2.1.2.2
  by_cases hv : 0 ≤ p ∧ p < s 160 1
  rotate_left
  · rcases (by omega : p < 0 ∨ s 160 1 ≤ p) with z | z
    · exact OKc.no (w := 2) (r := -1) h (by simp (disch := omega) only [↓jb_m, ↓jm_s, ↓reduceIte, t_lt, t_nlt, t_le, t_nle, t_eq, t_neq, w32_id, w64_id, jb_s, and_true, true_and, and_self, and_false, false_and, or_true, true_or, or_false, false_or, or_self, not_false_eq_true, not_true_eq_false, u_ne, u_eq, u_u, Int.reduceAdd, Int.reduceSub, Int.reduceMul, Int.reduceNeg, Int.zero_add, Int.add_zero, n15, n16, q10, q11, q12, q13, q14, Jc_shaken, Jc_answer, Jc_refuse, Jc_deny, Jc_grant, Se_isMould, Se_isStuff, Se_isPlace, hj]) (by simp (disch := omega) only [↓jb_m, ↓jm_s, ↓reduceIte, t_lt, t_nlt, t_le, t_nle, t_eq, t_neq, w32_id, w64_id, jb_s, and_true, true_and, and_self, and_false, false_and, or_true, true_or, or_false, false_or, or_self, not_false_eq_true, not_true_eq_false, u_ne, u_eq, u_u, Int.reduceAdd, Int.reduceSub, Int.reduceMul, Int.reduceNeg, Int.zero_add, Int.add_zero, n15, n16, q10, q11, q12, q13, q14, Md_shaken, Md_isMouldAt, Md_isStuffAt, Md_isPlaceAt, Md_isTray, Md_isIn_1, Md_isIn_0, Md_refuse, Md_no])
    · exact OKc.no (w := 2) (r := -1) h (by simp (disch := omega) only [↓jb_m, ↓jm_s, ↓reduceIte, t_lt, t_nlt, t_le, t_nle, t_eq, t_neq, w32_id, w64_id, jb_s, and_true, true_and, and_self, and_false, false_and, or_true, true_or, or_false, false_or, or_self, not_false_eq_true, not_true_eq_false, u_ne, u_eq, u_u, Int.reduceAdd, Int.reduceSub, Int.reduceMul, Int.reduceNeg, Int.zero_add, Int.add_zero, n15, n16, q10, q11, q12, q13, q14, Jc_shaken, Jc_answer, Jc_refuse, Jc_deny, Jc_grant, Se_isMould, Se_isStuff, Se_isPlace, hj]) (by simp (disch := omega) only [↓jb_m, ↓jm_s, ↓reduceIte, t_lt, t_nlt, t_le, t_nle, t_eq, t_neq, w32_id, w64_id, jb_s, and_true, true_and, and_self, and_false, false_and, or_true, true_or, or_false, false_or, or_self, not_false_eq_true, not_true_eq_false, u_ne, u_eq, u_u, Int.reduceAdd, Int.reduceSub, Int.reduceMul, Int.reduceNeg, Int.zero_add, Int.add_zero, n15, n16, q10, q11, q12, q13, q14, Md_shaken, Md_isMouldAt, Md_isStuffAt, Md_isPlaceAt, Md_isTray, Md_isIn_1, Md_isIn_0, Md_refuse, Md_no])
  by_cases hv2 : 0 ≤ q ∧ q < s 160 1
  rotate_left
  · rcases (by omega : q < 0 ∨ s 160 1 ≤ q) with z | z
    · exact OKc.no (w := 2) (r := -1) h (by simp (disch := omega) only [↓jb_m, ↓jm_s, ↓reduceIte, t_lt, t_nlt, t_le, t_nle, t_eq, t_neq, w32_id, w64_id, jb_s, and_true, true_and, and_self, and_false, false_and, or_true, true_or, or_false, false_or, or_self, not_false_eq_true, not_true_eq_false, u_ne, u_eq, u_u, Int.reduceAdd, Int.reduceSub, Int.reduceMul, Int.reduceNeg, Int.zero_add, Int.add_zero, n15, n16, q10, q11, q12, q13, q14, Jc_shaken, Jc_answer, Jc_refuse, Jc_deny, Jc_grant, Se_isMould, Se_isStuff, Se_isPlace, hj]) (by simp (disch := omega) only [↓jb_m, ↓jm_s, ↓reduceIte, t_lt, t_nlt, t_le, t_nle, t_eq, t_neq, w32_id, w64_id, jb_s, and_true, true_and, and_self, and_false, false_and, or_true, true_or, or_false, false_or, or_self, not_false_eq_true, not_true_eq_false, u_ne, u_eq, u_u, Int.reduceAdd, Int.reduceSub, Int.reduceMul, Int.reduceNeg, Int.zero_add, Int.add_zero, n15, n16, q10, q11, q12, q13, q14, Md_shaken, Md_isMouldAt, Md_isStuffAt, Md_isPlaceAt, Md_isTray, Md_isIn_1, Md_isIn_0, Md_refuse, Md_no])
    · exact OKc.no (w := 2) (r := -1) h (by simp (disch := omega) only [↓jb_m, ↓jm_s, ↓reduceIte, t_lt, t_nlt, t_le, t_nle, t_eq, t_neq, w32_id, w64_id, jb_s, and_true, true_and, and_self, and_false, false_and, or_true, true_or, or_false, false_or, or_self, not_false_eq_true, not_true_eq_false, u_ne, u_eq, u_u, Int.reduceAdd, Int.reduceSub, Int.reduceMul, Int.reduceNeg, Int.zero_add, Int.add_zero, n15, n16, q10, q11, q12, q13, q14, Jc_shaken, Jc_answer, Jc_refuse, Jc_deny, Jc_grant, Se_isMould, Se_isStuff, Se_isPlace, hj]) (by simp (disch := omega) only [↓jb_m, ↓jm_s, ↓reduceIte, t_lt, t_nlt, t_le, t_nle, t_eq, t_neq, w32_id, w64_id, jb_s, and_true, true_and, and_self, and_false, false_and, or_true, true_or, or_false, false_or, or_self, not_false_eq_true, not_true_eq_false, u_ne, u_eq, u_u, Int.reduceAdd, Int.reduceSub, Int.reduceMul, Int.reduceNeg, Int.zero_add, Int.add_zero, n15, n16, q10, q11, q12, q13, q14, Md_shaken, Md_isMouldAt, Md_isStuffAt, Md_isPlaceAt, Md_isTray, Md_isIn_1, Md_isIn_0, Md_refuse, Md_no])
  have h8 := (hd_at hse).2.2.2.2.2.2.2.2.2.2.2.2
  obtain ⟨x1, x2⟩ := iY_at hX
  have key : ∀ w, ∃ u1 S, Md_shakenTo 155 p q (jup (jup (jup s 0 0 w) 155 1 0) 155 0 0) = some (S, u1) ∧ EX a164 (jup (jup (jup s 0 0 w) 155 1 0) 155 0 0) u1 ∧ Se_shakesBetween (s 0 5) p q s = some (S, s) ∧ -1 ≤ S ∧ S ≤ 45 := fun w => by
    have hcu : cw (jup (jup (jup s 0 0 w) 155 1 0) 155 0 0) 0 = cw s 0 := cw_congr (fun o _ _ => by simp (disch := omega) only [↓jb_m, ↓jm_s, ↓reduceIte, t_lt, t_nlt, t_le, t_nle, t_eq, t_neq, w32_id, w64_id, jb_s, and_true, true_and, and_self, and_false, false_and, or_true, true_or, or_false, false_or, or_self, not_false_eq_true, not_true_eq_false, u_ne, u_eq, u_u, Int.reduceAdd, Int.reduceSub, Int.reduceMul, Int.reduceNeg, Int.zero_add, Int.add_zero, n15, n16, q10, q11, q12, q13, q14])
    obtain ⟨u1, k1, k2, k3⟩ := far_eq (u := jup (jup (jup s 0 0 w) 155 1 0) 155 0 0) (by rw [hcu]; exact x2) (by simp (disch := omega) only [↓jb_m, ↓jm_s, ↓reduceIte, t_lt, t_nlt, t_le, t_nle, t_eq, t_neq, w32_id, w64_id, jb_s, and_true, true_and, and_self, and_false, false_and, or_true, true_or, or_false, false_or, or_self, not_false_eq_true, not_true_eq_false, u_ne, u_eq, u_u, Int.reduceAdd, Int.reduceSub, Int.reduceMul, Int.reduceNeg, Int.zero_add, Int.add_zero, n15, n16, q10, q11, q12, q13, q14]) (by simp (disch := omega) only [↓jb_m, ↓jm_s, ↓reduceIte, t_lt, t_nlt, t_le, t_nle, t_eq, t_neq, w32_id, w64_id, jb_s, and_true, true_and, and_self, and_false, false_and, or_true, true_or, or_false, false_or, or_self, not_false_eq_true, not_true_eq_false, u_ne, u_eq, u_u, Int.reduceAdd, Int.reduceSub, Int.reduceMul, Int.reduceNeg, Int.zero_add, Int.add_zero, n15, n16, q10, q11, q12, q13, q14])
    have hb' := shk_b k3 (p := p) (q := q) (by omega) (by omega)
    refine ⟨u1, shk (u1 164) p q, shakenR k3 k1 (by omega) (by omega), k2, ?_, hb'.1, hb'.2⟩
    rw [hcu] at k3
    exact shakesC x1 k3 (by omega) (by omega)
  obtain ⟨u8, S, k1, k2, k3, k4, k5⟩ := key 8
  obtain ⟨u0', S', k1', k2', k3', -⟩ := key 0
  rw [k3] at k3'
  cases k3'
  by_cases hS : S = -1
  · refine OKc.scr (w := 8) (r := -1) (v := jup u8 155 0 8) h (by simp (disch := omega) only [↓jb_m, ↓jm_s, ↓reduceIte, t_lt, t_nlt, t_le, t_nle, t_eq, t_neq, w32_id, w64_id, jb_s, and_true, true_and, and_self, and_false, false_and, or_true, true_or, or_false, false_or, or_self, not_false_eq_true, not_true_eq_false, u_ne, u_eq, u_u, Int.reduceAdd, Int.reduceSub, Int.reduceMul, Int.reduceNeg, Int.zero_add, Int.add_zero, n15, n16, q10, q11, q12, q13, q14, Jc_shaken, k3, Jc_answer, Jc_refuse, Jc_deny, Jc_grant, Se_isMould, Se_isStuff, Se_isPlace, hj]) (by simp (disch := omega) only [↓jb_m, ↓jm_s, ↓reduceIte, t_lt, t_nlt, t_le, t_nle, t_eq, t_neq, w32_id, w64_id, jb_s, and_true, true_and, and_self, and_false, false_and, or_true, true_or, or_false, false_or, or_self, not_false_eq_true, not_true_eq_false, u_ne, u_eq, u_u, Int.reduceAdd, Int.reduceSub, Int.reduceMul, Int.reduceNeg, Int.zero_add, Int.add_zero, n15, n16, q10, q11, q12, q13, q14, Md_shaken, k1, Md_isMouldAt, Md_isStuffAt, Md_isPlaceAt, Md_isTray, Md_isIn_1, Md_isIn_0, Md_refuse, Md_no]) (fun a b z => ?_)
    by_cases e : a = 155 ∧ b = 0
    · rw [u_eq e, u_eq e]
    · rw [u_ne e, k2 a b (by unfold a164; omega), u_ne e, u_ne e]
  · exact OKc.scr (w := 0) (r := S) (v := u0') h (by simp (disch := omega) only [↓jb_m, ↓jm_s, ↓reduceIte, t_lt, t_nlt, t_le, t_nle, t_eq, t_neq, w32_id, w64_id, jb_s, and_true, true_and, and_self, and_false, false_and, or_true, true_or, or_false, false_or, or_self, not_false_eq_true, not_true_eq_false, u_ne, u_eq, u_u, Int.reduceAdd, Int.reduceSub, Int.reduceMul, Int.reduceNeg, Int.zero_add, Int.add_zero, n15, n16, q10, q11, q12, q13, q14, Jc_shaken, k3, Jc_answer, Jc_refuse, Jc_deny, Jc_grant, Se_isMould, Se_isStuff, Se_isPlace, hj]) (by simp (disch := omega) only [↓jb_m, ↓jm_s, ↓reduceIte, t_lt, t_nlt, t_le, t_nle, t_eq, t_neq, w32_id, w64_id, jb_s, and_true, true_and, and_self, and_false, false_and, or_true, true_or, or_false, false_or, or_self, not_false_eq_true, not_true_eq_false, u_ne, u_eq, u_u, Int.reduceAdd, Int.reduceSub, Int.reduceMul, Int.reduceNeg, Int.zero_add, Int.add_zero, n15, n16, q10, q11, q12, q13, q14, Md_shaken, k1', Md_isMouldAt, Md_isStuffAt, Md_isPlaceAt, Md_isTray, Md_isIn_1, Md_isIn_0, Md_refuse, Md_no]) (k2'.wk (fun a b z => by unfold a164 at z; omega))
theorem reach_ok {s : jM} (h : INV s) {m : Int} (hm : i32 m) : OKc s (Jc_reach 0 m) (Md_reach 155 m) := by
  unfold i32 at hm
  obtain ⟨hb, hj, hj2, -⟩ := h.b
  have hse := h.2.2.2.2.2.1.1
  obtain ⟨e6, c2⟩ := hd2 hse
  obtain ⟨e5, c1⟩ := hd1 hse
  have hX := h.2.2.2.2.2.1.2.2
  by_cases hv : 0 ≤ m ∧ m < s 160 2
  rotate_left
  · rcases (by omega : m < 0 ∨ s 160 2 ≤ m) with q | q
    · exact OKc.no (w := 2) (r := -1) h (by simp (disch := omega) only [↓jb_m, ↓jm_s, ↓reduceIte, t_lt, t_nlt, t_le, t_nle, t_eq, t_neq, w32_id, w64_id, jb_s, and_true, true_and, and_self, and_false, false_and, or_true, true_or, or_false, false_or, or_self, not_false_eq_true, not_true_eq_false, u_ne, u_eq, u_u, Int.reduceAdd, Int.reduceSub, Int.reduceMul, Int.reduceNeg, Int.zero_add, Int.add_zero, n15, n16, q10, q11, q12, q13, q14, Jc_reach, Jc_answer, Jc_refuse, Jc_deny, Jc_grant, Se_isMould, Se_isStuff, Se_isPlace, hj]) (by simp (disch := omega) only [↓jb_m, ↓jm_s, ↓reduceIte, t_lt, t_nlt, t_le, t_nle, t_eq, t_neq, w32_id, w64_id, jb_s, and_true, true_and, and_self, and_false, false_and, or_true, true_or, or_false, false_or, or_self, not_false_eq_true, not_true_eq_false, u_ne, u_eq, u_u, Int.reduceAdd, Int.reduceSub, Int.reduceMul, Int.reduceNeg, Int.zero_add, Int.add_zero, n15, n16, q10, q11, q12, q13, q14, Md_reach, Md_isMouldAt, Md_isStuffAt, Md_isPlaceAt, Md_isTray, Md_isIn_1, Md_isIn_0, Md_refuse, Md_no])
    · exact OKc.no (w := 2) (r := -1) h (by simp (disch := omega) only [↓jb_m, ↓jm_s, ↓reduceIte, t_lt, t_nlt, t_le, t_nle, t_eq, t_neq, w32_id, w64_id, jb_s, and_true, true_and, and_self, and_false, false_and, or_true, true_or, or_false, false_or, or_self, not_false_eq_true, not_true_eq_false, u_ne, u_eq, u_u, Int.reduceAdd, Int.reduceSub, Int.reduceMul, Int.reduceNeg, Int.zero_add, Int.add_zero, n15, n16, q10, q11, q12, q13, q14, Jc_reach, Jc_answer, Jc_refuse, Jc_deny, Jc_grant, Se_isMould, Se_isStuff, Se_isPlace, hj]) (by simp (disch := omega) only [↓jb_m, ↓jm_s, ↓reduceIte, t_lt, t_nlt, t_le, t_nle, t_eq, t_neq, w32_id, w64_id, jb_s, and_true, true_and, and_self, and_false, false_and, or_true, true_or, or_false, false_or, or_self, not_false_eq_true, not_true_eq_false, u_ne, u_eq, u_u, Int.reduceAdd, Int.reduceSub, Int.reduceMul, Int.reduceNeg, Int.zero_add, Int.add_zero, n15, n16, q10, q11, q12, q13, q14, Md_reach, Md_isMouldAt, Md_isStuffAt, Md_isPlaceAt, Md_isTray, Md_isIn_1, Md_isIn_0, Md_refuse, Md_no])
  obtain ⟨m5, ⟨f0, f1, f2, f3, f4, f5, f6, f7⟩, hq, hz, fb, g0, g1, g2⟩ := mo_at hse hv
  by_cases hs : s 160 (69 + m) = 2
  rotate_left
  · exact OKc.no (w := 9) (r := -1) h (by simp (disch := omega) only [↓jb_m, ↓jm_s, ↓reduceIte, t_lt, t_nlt, t_le, t_nle, t_eq, t_neq, w32_id, w64_id, jb_s, and_true, true_and, and_self, and_false, false_and, or_true, true_or, or_false, false_or, or_self, not_false_eq_true, not_true_eq_false, u_ne, u_eq, u_u, Int.reduceAdd, Int.reduceSub, Int.reduceMul, Int.reduceNeg, Int.zero_add, Int.add_zero, n15, n16, q10, q11, q12, q13, q14, Jc_reach, f3, Jc_answer, Jc_refuse, Jc_deny, Jc_grant, Se_isMould, Se_isStuff, Se_isPlace, hj]) (by simp (disch := omega) only [↓jb_m, ↓jm_s, ↓reduceIte, t_lt, t_nlt, t_le, t_nle, t_eq, t_neq, w32_id, w64_id, jb_s, and_true, true_and, and_self, and_false, false_and, or_true, true_or, or_false, false_or, or_self, not_false_eq_true, not_true_eq_false, u_ne, u_eq, u_u, Int.reduceAdd, Int.reduceSub, Int.reduceMul, Int.reduceNeg, Int.zero_add, Int.add_zero, n15, n16, q10, q11, q12, q13, q14, Md_reach, Md_isMouldAt, Md_isStuffAt, Md_isPlaceAt, Md_isTray, Md_isIn_1, Md_isIn_0, Md_refuse, Md_no])
  have h8 := (hd_at hse).2.2.2.2.2.2.2.2.2.2.2.2
  obtain ⟨x1, x2⟩ := iY_at hX
  obtain ⟨e, he1, he2, he3⟩ := far_eq x2 (by omega) (by omega)
  have key : ∀ (f : Nat) (a k : Int) (u : jM), i32 a → 0 ≤ k → k ≤ s 160 1 → (s 160 1 - k).toNat < f → (∀ o, u 160 o = s 160 o) → ∃ A v, Jc_reach_47 f 0 (s 0 5 + (15 + 2 * m)) a k s = some (A, jup s 0 0 0) ∧ Md_reach_48 f 155 m a k u = some (A, v) ∧ EX a164 u v := by
    intro f
    induction f with
    | zero => intro a k u h0 h1 h2 h3; omega
    | succ f ih =>
      intro a k u h0 h1 h2 h3 hu
      by_cases hk : k < s 160 1
      · have hC := shakesC x1 he3 (p := s 160 (64 + m)) (q := k) (by omega) (by omega)
        have hsb := shk_b he3 (p := s 160 (64 + m)) (q := k) (by omega) (by omega)
        have hcu : cw u 0 = cw s 0 := cw_congr (fun o _ _ => by rw [hu])
        obtain ⟨u1, k1, k2, k3⟩ := far_eq (u := u) (by rw [hcu]; exact x2) (by rw [hu]; omega) (by rw [hu]; omega)
        rw [hcu] at k3
        have hR := shakenR (by rw [hcu]; exact k3) k1 (p := s 160 (64 + m)) (q := k) (by omega) (by omega)
        rw [shk_same k3 he3 (by omega) (by omega)] at hR
        have hu1 : ∀ o, u1 160 o = s 160 o := fun o => by rw [k2 160 o (by unfold a164; omega), hu]
        generalize hS : shk (e 164) (s 160 (64 + m)) k = S at hC hsb hR
        by_cases hc : S = -1 ∨ s 160 (74 + m) - S < s 160 (54 + m)
        · obtain ⟨A, v, a1, a2, a3⟩ := ih a (k + 1) u1 h0 (by omega) (by omega) (by omega) hu1
          refine ⟨A, v, ?_, ?_, k2.tr a3⟩
          · rw [Jc_reach_47]
            by_cases q : S = -1
            · simp (disch := omega) only [↓jb_m, ↓jm_s, ↓reduceIte, t_lt, t_nlt, t_le, t_nle, t_eq, t_neq, w32_id, w64_id, jb_s, and_true, true_and, and_self, and_false, false_and, or_true, true_or, or_false, false_or, or_self, not_false_eq_true, not_true_eq_false, u_ne, u_eq, u_u, Int.reduceAdd, Int.reduceSub, Int.reduceMul, Int.reduceNeg, Int.zero_add, Int.add_zero, n15, n16, q10, q11, q12, q13, q14, hj, e5, f2, hC]
              exact a1
            · simp (disch := omega) only [↓jb_m, ↓jm_s, ↓reduceIte, t_lt, t_nlt, t_le, t_nle, t_eq, t_neq, w32_id, w64_id, jb_s, and_true, true_and, and_self, and_false, false_and, or_true, true_or, or_false, false_or, or_self, not_false_eq_true, not_true_eq_false, u_ne, u_eq, u_u, Int.reduceAdd, Int.reduceSub, Int.reduceMul, Int.reduceNeg, Int.zero_add, Int.add_zero, n15, n16, q10, q11, q12, q13, q14, hj, e5, f2, f4, f0, hC]
              exact a1
          · rw [Md_reach_48]
            by_cases q : S = -1
            · simp (disch := omega) only [↓jb_m, ↓jm_s, ↓reduceIte, t_lt, t_nlt, t_le, t_nle, t_eq, t_neq, w32_id, w64_id, jb_s, and_true, true_and, and_self, and_false, false_and, or_true, true_or, or_false, false_or, or_self, not_false_eq_true, not_true_eq_false, u_ne, u_eq, u_u, Int.reduceAdd, Int.reduceSub, Int.reduceMul, Int.reduceNeg, Int.zero_add, Int.add_zero, n15, n16, q10, q11, q12, q13, q14, hu, hR, jior_0 h0]
              exact a2
            · simp (disch := omega) only [↓jb_m, ↓jm_s, ↓reduceIte, t_lt, t_nlt, t_le, t_nle, t_eq, t_neq, w32_id, w64_id, jb_s, and_true, true_and, and_self, and_false, false_and, or_true, true_or, or_false, false_or, or_self, not_false_eq_true, not_true_eq_false, u_ne, u_eq, u_u, Int.reduceAdd, Int.reduceSub, Int.reduceMul, Int.reduceNeg, Int.zero_add, Int.add_zero, n15, n16, q10, q11, q12, q13, q14, hu, hu1, hR, jior_0 h0]
              exact a2
        · obtain ⟨A, v, a1, a2, a3⟩ := ih (jior a (jishl 1 k)) (k + 1) u1 (jior_i _ _) (by omega) (by omega) (by omega) hu1
          refine ⟨A, v, ?_, ?_, k2.tr a3⟩
          · rw [Jc_reach_47]
            simp (disch := omega) only [↓jb_m, ↓jm_s, ↓reduceIte, t_lt, t_nlt, t_le, t_nle, t_eq, t_neq, w32_id, w64_id, jb_s, and_true, true_and, and_self, and_false, false_and, or_true, true_or, or_false, false_or, or_self, not_false_eq_true, not_true_eq_false, u_ne, u_eq, u_u, Int.reduceAdd, Int.reduceSub, Int.reduceMul, Int.reduceNeg, Int.zero_add, Int.add_zero, n15, n16, q10, q11, q12, q13, q14, hj, e5, f2, f4, f0, hC]
            exact a1
          · rw [Md_reach_48]
            simp (disch := omega) only [↓jb_m, ↓jm_s, ↓reduceIte, t_lt, t_nlt, t_le, t_nle, t_eq, t_neq, w32_id, w64_id, jb_s, and_true, true_and, and_self, and_false, false_and, or_true, true_or, or_false, false_or, or_self, not_false_eq_true, not_true_eq_false, u_ne, u_eq, u_u, Int.reduceAdd, Int.reduceSub, Int.reduceMul, Int.reduceNeg, Int.zero_add, Int.add_zero, n15, n16, q10, q11, q12, q13, q14, hu, hu1, hR]
            exact a2
      · refine ⟨a, u, ?_, ?_, EX.rf _ _⟩
        · rw [Jc_reach_47]
          simp (disch := omega) only [↓jb_m, ↓jm_s, ↓reduceIte, t_lt, t_nlt, t_le, t_nle, t_eq, t_neq, w32_id, w64_id, jb_s, and_true, true_and, and_self, and_false, false_and, or_true, true_or, or_false, false_or, or_self, not_false_eq_true, not_true_eq_false, u_ne, u_eq, u_u, Int.reduceAdd, Int.reduceSub, Int.reduceMul, Int.reduceNeg, Int.zero_add, Int.add_zero, n15, n16, q10, q11, q12, q13, q14, hj, e5, Jc_answer]
        · rw [Md_reach_48]
          simp (disch := omega) only [↓jb_m, ↓jm_s, ↓reduceIte, t_lt, t_nlt, t_le, t_nle, t_eq, t_neq, w32_id, w64_id, jb_s, and_true, true_and, and_self, and_false, false_and, or_true, true_or, or_false, false_or, or_self, not_false_eq_true, not_true_eq_false, u_ne, u_eq, u_u, Int.reduceAdd, Int.reduceSub, Int.reduceMul, Int.reduceNeg, Int.zero_add, Int.add_zero, n15, n16, q10, q11, q12, q13, q14, hu]
  obtain ⟨A, v, a1, a2, a3⟩ := key jFU 0 0 (jup (jup (jup s 0 0 0) 155 1 0) 155 0 0) ⟨by omega, by omega⟩ (by omega) (by omega) (by unfold jFU; omega) (fun o => by simp (disch := omega) only [↓jb_m, ↓jm_s, ↓reduceIte, t_lt, t_nlt, t_le, t_nle, t_eq, t_neq, w32_id, w64_id, jb_s, and_true, true_and, and_self, and_false, false_and, or_true, true_or, or_false, false_or, or_self, not_false_eq_true, not_true_eq_false, u_ne, u_eq, u_u, Int.reduceAdd, Int.reduceSub, Int.reduceMul, Int.reduceNeg, Int.zero_add, Int.add_zero, n15, n16, q10, q11, q12, q13, q14])
  exact OKc.scr (w := 0) (r := A) (v := v) h (by simp (disch := omega) only [↓jb_m, ↓jm_s, ↓reduceIte, t_lt, t_nlt, t_le, t_nle, t_eq, t_neq, w32_id, w64_id, jb_s, and_true, true_and, and_self, and_false, false_and, or_true, true_or, or_false, false_or, or_self, not_false_eq_true, not_true_eq_false, u_ne, u_eq, u_u, Int.reduceAdd, Int.reduceSub, Int.reduceMul, Int.reduceNeg, Int.zero_add, Int.add_zero, n15, n16, q10, q11, q12, q13, q14, Jc_reach, f3, a1, Jc_answer, Jc_refuse, Jc_deny, Jc_grant, Se_isMould, Se_isStuff, Se_isPlace, hj]) (by simp (disch := omega) only [↓jb_m, ↓jm_s, ↓reduceIte, t_lt, t_nlt, t_le, t_nle, t_eq, t_neq, w32_id, w64_id, jb_s, and_true, true_and, and_self, and_false, false_and, or_true, true_or, or_false, false_or, or_self, not_false_eq_true, not_true_eq_false, u_ne, u_eq, u_u, Int.reduceAdd, Int.reduceSub, Int.reduceMul, Int.reduceNeg, Int.zero_add, Int.add_zero, n15, n16, q10, q11, q12, q13, q14, Md_reach, a2, Md_isMouldAt, Md_isStuffAt, Md_isPlaceAt, Md_isTray, Md_isIn_1, Md_isIn_0, Md_refuse, Md_no]) (a3.wk (fun a b z => by unfold a164 at z; omega))
