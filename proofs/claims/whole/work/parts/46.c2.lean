/-! CALLS that look ahead; sums over moulds -/
theorem falls_at {s u : jM} {b : Int} (h : iSe (vw s b) (cw u 0)) : Se_fallen b s = some (u 160 7, s) := by
  obtain ⟨e6, c2⟩ := hd2 h
  have hmo := fun i (h1 : 0 ≤ i) (h2 : i < u 160 2) => (mo_at h ⟨h1, h2⟩).2.1.2.2.2.2.2.2.2
  have key : ∀ (n : Nat) (x1 x2 : Int), 0 ≤ x2 → x2 ≤ u 160 2 → (u 160 2 - x2).toNat < n → x1 = psum (fun i => u 160 (79 + i)) x2.toNat → Se_fallen_4 n b x1 x2 s = some (psum (fun i => u 160 (79 + i)) (u 160 2).toNat, s) := by
    intro n
    induction n with
    | zero => intro x1 x2 h1 h2 h3; omega
    | succ n ih =>
      intro x1 x2 h1 h2 h3 h4
      by_cases hx : x2 < u 160 2
      · have := hmo x2 h1 hx
        simp (disch := omega) only [↓jb_m, ↓jm_s, ↓reduceIte, t_lt, t_nlt, t_le, t_nle, t_eq, t_neq, w32_id, w64_id, jb_s, and_true, true_and, and_self, and_false, false_and, or_true, true_or, or_false, false_or, or_self, not_false_eq_true, not_true_eq_false, u_ne, u_eq, u_u, Int.reduceAdd, Int.reduceSub, Int.reduceMul, Int.reduceNeg, Int.zero_add, Int.add_zero, n15, n16, q10, q11, q12, q13, q14, Se_fallen_4, this]
        exact ih _ _ (by omega) (by omega) (by omega) (by rw [psum_s _ h1, h4])
      · have e : x2 = u 160 2 := by omega
        simp (disch := omega) only [↓jb_m, ↓jm_s, ↓reduceIte, t_lt, t_nlt, t_le, t_nle, t_eq, t_neq, w32_id, w64_id, jb_s, and_true, true_and, and_self, and_false, false_and, or_true, true_or, or_false, false_or, or_self, not_false_eq_true, not_true_eq_false, u_ne, u_eq, u_u, Int.reduceAdd, Int.reduceSub, Int.reduceMul, Int.reduceNeg, Int.zero_add, Int.add_zero, n15, n16, q10, q11, q12, q13, q14, Se_fallen_4]
        rw [h4, e]
  have h5 := h.2.2.2.2
  have h4 := h.2.2.2.1
  rw [Se_fallen, key _ 0 0 (by omega) (by omega) (by unfold jFU; omega) rfl, psum_5 c2.1 c2.2 (fun j j1 j2 => by
    have := h4 j (by rw [cw_at (by omega)]; exact j1) j2
    rw [cw_at (by omega)] at this
    exact this)]
  rw [cw_at (by omega)] at h5
  rw [h5, sum5_congr (f := fun i => cw u 0 (79 + i)) (g := fun i => u 160 (79 + i)) (fun j j1 j2 => cw_at (by omega))]
theorem allFirm_at {s u : jM} {b : Int} (h : iSe (vw s b) (cw u 0)) : Se_allFirm b s = some (psum (fun i => u 160 (74 + i)) (u 160 2).toNat, s) := by
  obtain ⟨e6, c2⟩ := hd2 h
  have hmo := fun i (h1 : 0 ≤ i) (h2 : i < u 160 2) => (mo_at h ⟨h1, h2⟩).2.1.2.2.2.2.1
  have key : ∀ (n : Nat) (x1 x2 : Int), 0 ≤ x2 → x2 ≤ u 160 2 → (u 160 2 - x2).toNat < n → x1 = psum (fun i => u 160 (74 + i)) x2.toNat → Se_allFirm_4 n b x1 x2 s = some (psum (fun i => u 160 (74 + i)) (u 160 2).toNat, s) := by
    intro n
    induction n with
    | zero => intro x1 x2 h1 h2 h3; omega
    | succ n ih =>
      intro x1 x2 h1 h2 h3 h4
      by_cases hx : x2 < u 160 2
      · have := hmo x2 h1 hx
        simp (disch := omega) only [↓jb_m, ↓jm_s, ↓reduceIte, t_lt, t_nlt, t_le, t_nle, t_eq, t_neq, w32_id, w64_id, jb_s, and_true, true_and, and_self, and_false, false_and, or_true, true_or, or_false, false_or, or_self, not_false_eq_true, not_true_eq_false, u_ne, u_eq, u_u, Int.reduceAdd, Int.reduceSub, Int.reduceMul, Int.reduceNeg, Int.zero_add, Int.add_zero, n15, n16, q10, q11, q12, q13, q14, Se_allFirm_4, this]
        exact ih _ _ (by omega) (by omega) (by omega) (by rw [psum_s _ h1, h4])
      · have e : x2 = u 160 2 := by omega
        simp (disch := omega) only [↓jb_m, ↓jm_s, ↓reduceIte, t_lt, t_nlt, t_le, t_nle, t_eq, t_neq, w32_id, w64_id, jb_s, and_true, true_and, and_self, and_false, false_and, or_true, true_or, or_false, false_or, or_self, not_false_eq_true, not_true_eq_false, u_ne, u_eq, u_u, Int.reduceAdd, Int.reduceSub, Int.reduceMul, Int.reduceNeg, Int.zero_add, Int.add_zero, n15, n16, q10, q11, q12, q13, q14, Se_allFirm_4]
        rw [h4, e]
  rw [Se_allFirm, key _ 0 0 (by omega) (by omega) (by unfold jFU; omega) rfl]
theorem i32_toInt (a : Int32) : i32 a.toInt := by
  have := w32_i a.toInt
  rw [← o32_i, Int32.ofInt_toInt] at this
  exact this
theorem jior_i (a b : Int) : i32 (jior a b) := i32_toInt _
theorem jior_0 {a : Int} (h : i32 a) : jior a 0 = a := by
  unfold jior
  rw [o32_0, Int32.or_zero, o32_i, i32_w h]
theorem jior_eq0 {a b : Int} (h : jior a b = 0) : Int32.ofInt a = 0 ∧ Int32.ofInt b = 0 := by
  unfold jior at h
  have h2 : Int32.ofInt a ||| Int32.ofInt b = 0 := Int32.toInt_inj.mp (by rw [h]; rfl)
  exact Int32.or_eq_zero_iff.mp h2
theorem jishl_1 {k : Int} (h : 0 ≤ k ∧ k < 8) : ¬ Int32.ofInt (jishl 1 k) = 0 := by
  rcases (by omega : k = 0 ∨ k = 1 ∨ k = 2 ∨ k = 3 ∨ k = 4 ∨ k = 5 ∨ k = 6 ∨ k = 7) with rfl | rfl | rfl | rfl | rfl | rfl | rfl | rfl <;> decide +kernel
/-- the sets of moulds, by a state -/
theorem setOf_at {s u : jM} {b st : Int} (h : iSe (vw s b) (cw u 0)) (hst : 0 ≤ st ∧ st ≤ 2) : ∃ A, Se_setOf b st s = some (A, s) ∧ (∀ v : jM, v 160 = u 160 → Md_areIn 155 st v = some (A, v)) := by
  obtain ⟨e6, c2⟩ := hd2 h
  have hmo := fun i (h1 : 0 ≤ i) (h2 : i < u 160 2) => (mo_at h ⟨h1, h2⟩).2.1.2.2.2.1
  have hbo := fun i (h1 : 0 ≤ i) (h2 : i < u 160 2) => (mo_at h ⟨h1, h2⟩).2.2.2.2.1
  have key : ∀ (n : Nat) (a k : Int), i32 a → 0 ≤ k → k ≤ u 160 2 → (u 160 2 - k).toNat < n → ∃ A, Se_setOf_4 n b st a k s = some (A, s) ∧ ∀ v : jM, v 160 = u 160 → Md_areIn_4 n 155 st a k v = some (A, v) := by
    intro n
    induction n with
    | zero => intro a k h0 h1 h2 h3; omega
    | succ n ih =>
      intro a k h0 h1 h2 h3
      by_cases hx : k < u 160 2
      · have g1 := hmo k h1 hx
        have g2 := hbo k h1 hx
        by_cases hq : u 160 (69 + k) = st
        · obtain ⟨A, a1, a2⟩ := ih (jior a (jishl 1 k)) (k + 1) (jior_i _ _) (by omega) (by omega) (by omega)
          refine ⟨A, ?_, fun v hv => ?_⟩
          · simp (disch := omega) only [↓jb_m, ↓jm_s, ↓reduceIte, t_lt, t_nlt, t_le, t_nle, t_eq, t_neq, w32_id, w64_id, jb_s, and_true, true_and, and_self, and_false, false_and, or_true, true_or, or_false, false_or, or_self, not_false_eq_true, not_true_eq_false, u_ne, u_eq, u_u, Int.reduceAdd, Int.reduceSub, Int.reduceMul, Int.reduceNeg, Int.zero_add, Int.add_zero, n15, n16, q10, q11, q12, q13, q14, Se_setOf_4, g1]
            exact a1
          · simp (disch := omega) only [↓jb_m, ↓jm_s, ↓reduceIte, t_lt, t_nlt, t_le, t_nle, t_eq, t_neq, w32_id, w64_id, jb_s, and_true, true_and, and_self, and_false, false_and, or_true, true_or, or_false, false_or, or_self, not_false_eq_true, not_true_eq_false, u_ne, u_eq, u_u, Int.reduceAdd, Int.reduceSub, Int.reduceMul, Int.reduceNeg, Int.zero_add, Int.add_zero, n15, n16, q10, q11, q12, q13, q14, Md_areIn_4, hv]
            exact a2 v hv
        · obtain ⟨A, a1, a2⟩ := ih a (k + 1) h0 (by omega) (by omega) (by omega)
          refine ⟨A, ?_, fun v hv => ?_⟩
          · simp (disch := omega) only [↓jb_m, ↓jm_s, ↓reduceIte, t_lt, t_nlt, t_le, t_nle, t_eq, t_neq, w32_id, w64_id, jb_s, and_true, true_and, and_self, and_false, false_and, or_true, true_or, or_false, false_or, or_self, not_false_eq_true, not_true_eq_false, u_ne, u_eq, u_u, Int.reduceAdd, Int.reduceSub, Int.reduceMul, Int.reduceNeg, Int.zero_add, Int.add_zero, n15, n16, q10, q11, q12, q13, q14, Se_setOf_4, g1]
            exact a1
          · simp (disch := omega) only [↓jb_m, ↓jm_s, ↓reduceIte, t_lt, t_nlt, t_le, t_nle, t_eq, t_neq, w32_id, w64_id, jb_s, and_true, true_and, and_self, and_false, false_and, or_true, true_or, or_false, false_or, or_self, not_false_eq_true, not_true_eq_false, u_ne, u_eq, u_u, Int.reduceAdd, Int.reduceSub, Int.reduceMul, Int.reduceNeg, Int.zero_add, Int.add_zero, n15, n16, q10, q11, q12, q13, q14, Md_areIn_4, hv, jior_0 h0]
            exact a2 v hv
      · refine ⟨a, ?_, fun v hv => ?_⟩
        · simp (disch := omega) only [↓jb_m, ↓jm_s, ↓reduceIte, t_lt, t_nlt, t_le, t_nle, t_eq, t_neq, w32_id, w64_id, jb_s, and_true, true_and, and_self, and_false, false_and, or_true, true_or, or_false, false_or, or_self, not_false_eq_true, not_true_eq_false, u_ne, u_eq, u_u, Int.reduceAdd, Int.reduceSub, Int.reduceMul, Int.reduceNeg, Int.zero_add, Int.add_zero, n15, n16, q10, q11, q12, q13, q14, Se_setOf_4]
        · simp (disch := omega) only [↓jb_m, ↓jm_s, ↓reduceIte, t_lt, t_nlt, t_le, t_nle, t_eq, t_neq, w32_id, w64_id, jb_s, and_true, true_and, and_self, and_false, false_and, or_true, true_or, or_false, false_or, or_self, not_false_eq_true, not_true_eq_false, u_ne, u_eq, u_u, Int.reduceAdd, Int.reduceSub, Int.reduceMul, Int.reduceNeg, Int.zero_add, Int.add_zero, n15, n16, q10, q11, q12, q13, q14, Md_areIn_4, hv]
  exact key jFU 0 0 ⟨by omega, by omega⟩ (by omega) (by omega) (by unfold jFU; omega)
/-- does none stand? -/
theorem areIn_0 {W v : jM} (h : iSe W (cw v 0)) : ∃ A, Md_areIn 155 2 v = some (A, v) ∧ i32 A ∧ (A = 0 ↔ ∀ i, 0 ≤ i → i < v 160 2 → v 160 (69 + i) ≠ 2) := by
  have c2 := (hd_V h).2
  have hbo := fun i (h1 : 0 ≤ i) (h2 : i < v 160 2) => (mo_V h ⟨h1, h2⟩).2.2.2.2.1
  have key : ∀ (n : Nat) (a k : Int), i32 a → 0 ≤ k → k ≤ v 160 2 → (v 160 2 - k).toNat < n → ∃ A, Md_areIn_4 n 155 2 a k v = some (A, v) ∧ i32 A ∧ (A = 0 ↔ a = 0 ∧ ∀ i, k ≤ i → i < v 160 2 → v 160 (69 + i) ≠ 2) := by
    intro n
    induction n with
    | zero => intro a k h0 h1 h2 h3; omega
    | succ n ih =>
      intro a k h0 h1 h2 h3
      by_cases hx : k < v 160 2
      · have g2 := hbo k h1 hx
        by_cases hq : v 160 (69 + k) = 2
        · obtain ⟨A, a1, a3, a2⟩ := ih (jior a (jishl 1 k)) (k + 1) (jior_i _ _) (by omega) (by omega) (by omega)
          refine ⟨A, ?_, a3, ?_⟩
          · simp (disch := omega) only [↓jb_m, ↓jm_s, ↓reduceIte, t_lt, t_nlt, t_le, t_nle, t_eq, t_neq, w32_id, w64_id, jb_s, and_true, true_and, and_self, and_false, false_and, or_true, true_or, or_false, false_or, or_self, not_false_eq_true, not_true_eq_false, u_ne, u_eq, u_u, Int.reduceAdd, Int.reduceSub, Int.reduceMul, Int.reduceNeg, Int.zero_add, Int.add_zero, n15, n16, q10, q11, q12, q13, q14, Md_areIn_4]
            exact a1
          · rw [a2]
            constructor
            · intro q
              exact absurd (jior_eq0 q.1).2 (jishl_1 (by omega))
            · intro q
              exact absurd hq (q.2 k (by omega) hx)
        · obtain ⟨A, a1, a3, a2⟩ := ih a (k + 1) h0 (by omega) (by omega) (by omega)
          refine ⟨A, ?_, a3, ?_⟩
          · simp (disch := omega) only [↓jb_m, ↓jm_s, ↓reduceIte, t_lt, t_nlt, t_le, t_nle, t_eq, t_neq, w32_id, w64_id, jb_s, and_true, true_and, and_self, and_false, false_and, or_true, true_or, or_false, false_or, or_self, not_false_eq_true, not_true_eq_false, u_ne, u_eq, u_u, Int.reduceAdd, Int.reduceSub, Int.reduceMul, Int.reduceNeg, Int.zero_add, Int.add_zero, n15, n16, q10, q11, q12, q13, q14, Md_areIn_4, jior_0 h0]
            exact a1
          · rw [a2]
            constructor
            · intro q
              refine ⟨q.1, fun i i1 i2 => ?_⟩
              by_cases e : i = k
              · rw [e]; exact hq
              · exact q.2 i (by omega) i2
            · intro q
              exact ⟨q.1, fun i i1 i2 => q.2 i (by omega) i2⟩
      · refine ⟨a, ?_, h0, ?_⟩
        · simp (disch := omega) only [↓jb_m, ↓jm_s, ↓reduceIte, t_lt, t_nlt, t_le, t_nle, t_eq, t_neq, w32_id, w64_id, jb_s, and_true, true_and, and_self, and_false, false_and, or_true, true_or, or_false, false_or, or_self, not_false_eq_true, not_true_eq_false, u_ne, u_eq, u_u, Int.reduceAdd, Int.reduceSub, Int.reduceMul, Int.reduceNeg, Int.zero_add, Int.add_zero, n15, n16, q10, q11, q12, q13, q14, Md_areIn_4]
        · constructor
          · intro q
            exact ⟨q, fun i i1 i2 => by omega⟩
          · exact fun q => q.1
  obtain ⟨A, a1, a3, a2⟩ := key jFU 0 0 ⟨by omega, by omega⟩ (by omega) (by omega) (by unfold jFU; omega)
  exact ⟨A, a1, a3, a2.trans ⟨fun q => q.2, fun q => ⟨rfl, q⟩⟩⟩
theorem many_ok {s : jM} (h : INV s) {w : Int} (hw : i32 w) : OKc s (Jc_many 0 w) (Md_many 155 w) := by
  unfold i32 at hw
  obtain ⟨hb, hj, hj2, -⟩ := h.b
  have hse := h.2.2.2.2.2.1.1
  obtain ⟨⟨e0, e1, e2, e3, e4, e5, e6, -⟩, hh⟩ := hd_at hse
  have hf := falls_at hse
  by_cases hv : 0 ≤ w ∧ w ≤ 10
  · rcases (by omega : w = 0 ∨ w = 1 ∨ w = 2 ∨ w = 3 ∨ w = 4 ∨ w = 5 ∨ w = 6 ∨ w = 7 ∨ 8 ≤ w) with q | q | q | q | q | q | q | q | q
    · subst q
      exact OKc.no (w := 0) (r := s 160 0) h (by simp (disch := omega) only [↓jb_m, ↓jm_s, ↓reduceIte, t_lt, t_nlt, t_le, t_nle, t_eq, t_neq, w32_id, w64_id, jb_s, and_true, true_and, and_self, and_false, false_and, or_true, true_or, or_false, false_or, or_self, not_false_eq_true, not_true_eq_false, u_ne, u_eq, u_u, Int.reduceAdd, Int.reduceSub, Int.reduceMul, Int.reduceNeg, Int.zero_add, Int.add_zero, n15, n16, q10, q11, q12, q13, q14, Jc_many, e4, Jc_answer, Jc_refuse, Jc_deny, Jc_grant, Se_isMould, Se_isStuff, Se_isPlace, hj]) (by simp (disch := omega) only [↓jb_m, ↓jm_s, ↓reduceIte, t_lt, t_nlt, t_le, t_nle, t_eq, t_neq, w32_id, w64_id, jb_s, and_true, true_and, and_self, and_false, false_and, or_true, true_or, or_false, false_or, or_self, not_false_eq_true, not_true_eq_false, u_ne, u_eq, u_u, Int.reduceAdd, Int.reduceSub, Int.reduceMul, Int.reduceNeg, Int.zero_add, Int.add_zero, n15, n16, q10, q11, q12, q13, q14, Md_many, Md_isMouldAt, Md_isStuffAt, Md_isPlaceAt, Md_isTray, Md_isIn_1, Md_isIn_0, Md_refuse, Md_no])
    · subst q
      exact OKc.no (w := 0) (r := s 160 1) h (by simp (disch := omega) only [↓jb_m, ↓jm_s, ↓reduceIte, t_lt, t_nlt, t_le, t_nle, t_eq, t_neq, w32_id, w64_id, jb_s, and_true, true_and, and_self, and_false, false_and, or_true, true_or, or_false, false_or, or_self, not_false_eq_true, not_true_eq_false, u_ne, u_eq, u_u, Int.reduceAdd, Int.reduceSub, Int.reduceMul, Int.reduceNeg, Int.zero_add, Int.add_zero, n15, n16, q10, q11, q12, q13, q14, Jc_many, e5, Jc_answer, Jc_refuse, Jc_deny, Jc_grant, Se_isMould, Se_isStuff, Se_isPlace, hj]) (by simp (disch := omega) only [↓jb_m, ↓jm_s, ↓reduceIte, t_lt, t_nlt, t_le, t_nle, t_eq, t_neq, w32_id, w64_id, jb_s, and_true, true_and, and_self, and_false, false_and, or_true, true_or, or_false, false_or, or_self, not_false_eq_true, not_true_eq_false, u_ne, u_eq, u_u, Int.reduceAdd, Int.reduceSub, Int.reduceMul, Int.reduceNeg, Int.zero_add, Int.add_zero, n15, n16, q10, q11, q12, q13, q14, Md_many, Md_isMouldAt, Md_isStuffAt, Md_isPlaceAt, Md_isTray, Md_isIn_1, Md_isIn_0, Md_refuse, Md_no])
    · subst q
      exact OKc.no (w := 0) (r := s 160 2) h (by simp (disch := omega) only [↓jb_m, ↓jm_s, ↓reduceIte, t_lt, t_nlt, t_le, t_nle, t_eq, t_neq, w32_id, w64_id, jb_s, and_true, true_and, and_self, and_false, false_and, or_true, true_or, or_false, false_or, or_self, not_false_eq_true, not_true_eq_false, u_ne, u_eq, u_u, Int.reduceAdd, Int.reduceSub, Int.reduceMul, Int.reduceNeg, Int.zero_add, Int.add_zero, n15, n16, q10, q11, q12, q13, q14, Jc_many, e6, Jc_answer, Jc_refuse, Jc_deny, Jc_grant, Se_isMould, Se_isStuff, Se_isPlace, hj]) (by simp (disch := omega) only [↓jb_m, ↓jm_s, ↓reduceIte, t_lt, t_nlt, t_le, t_nle, t_eq, t_neq, w32_id, w64_id, jb_s, and_true, true_and, and_self, and_false, false_and, or_true, true_or, or_false, false_or, or_self, not_false_eq_true, not_true_eq_false, u_ne, u_eq, u_u, Int.reduceAdd, Int.reduceSub, Int.reduceMul, Int.reduceNeg, Int.zero_add, Int.add_zero, n15, n16, q10, q11, q12, q13, q14, Md_many, Md_isMouldAt, Md_isStuffAt, Md_isPlaceAt, Md_isTray, Md_isIn_1, Md_isIn_0, Md_refuse, Md_no])
    · subst q
      exact OKc.no (w := 0) (r := s 160 3) h (by simp (disch := omega) only [↓jb_m, ↓jm_s, ↓reduceIte, t_lt, t_nlt, t_le, t_nle, t_eq, t_neq, w32_id, w64_id, jb_s, and_true, true_and, and_self, and_false, false_and, or_true, true_or, or_false, false_or, or_self, not_false_eq_true, not_true_eq_false, u_ne, u_eq, u_u, Int.reduceAdd, Int.reduceSub, Int.reduceMul, Int.reduceNeg, Int.zero_add, Int.add_zero, n15, n16, q10, q11, q12, q13, q14, Jc_many, e0, Jc_answer, Jc_refuse, Jc_deny, Jc_grant, Se_isMould, Se_isStuff, Se_isPlace, hj]) (by simp (disch := omega) only [↓jb_m, ↓jm_s, ↓reduceIte, t_lt, t_nlt, t_le, t_nle, t_eq, t_neq, w32_id, w64_id, jb_s, and_true, true_and, and_self, and_false, false_and, or_true, true_or, or_false, false_or, or_self, not_false_eq_true, not_true_eq_false, u_ne, u_eq, u_u, Int.reduceAdd, Int.reduceSub, Int.reduceMul, Int.reduceNeg, Int.zero_add, Int.add_zero, n15, n16, q10, q11, q12, q13, q14, Md_many, Md_isMouldAt, Md_isStuffAt, Md_isPlaceAt, Md_isTray, Md_isIn_1, Md_isIn_0, Md_refuse, Md_no])
    · subst q
      exact OKc.no (w := 0) (r := s 160 4) h (by simp (disch := omega) only [↓jb_m, ↓jm_s, ↓reduceIte, t_lt, t_nlt, t_le, t_nle, t_eq, t_neq, w32_id, w64_id, jb_s, and_true, true_and, and_self, and_false, false_and, or_true, true_or, or_false, false_or, or_self, not_false_eq_true, not_true_eq_false, u_ne, u_eq, u_u, Int.reduceAdd, Int.reduceSub, Int.reduceMul, Int.reduceNeg, Int.zero_add, Int.add_zero, n15, n16, q10, q11, q12, q13, q14, Jc_many, e1, Jc_answer, Jc_refuse, Jc_deny, Jc_grant, Se_isMould, Se_isStuff, Se_isPlace, hj]) (by simp (disch := omega) only [↓jb_m, ↓jm_s, ↓reduceIte, t_lt, t_nlt, t_le, t_nle, t_eq, t_neq, w32_id, w64_id, jb_s, and_true, true_and, and_self, and_false, false_and, or_true, true_or, or_false, false_or, or_self, not_false_eq_true, not_true_eq_false, u_ne, u_eq, u_u, Int.reduceAdd, Int.reduceSub, Int.reduceMul, Int.reduceNeg, Int.zero_add, Int.add_zero, n15, n16, q10, q11, q12, q13, q14, Md_many, Md_isMouldAt, Md_isStuffAt, Md_isPlaceAt, Md_isTray, Md_isIn_1, Md_isIn_0, Md_refuse, Md_no])
    · subst q
      exact OKc.no (w := 0) (r := s 160 5) h (by simp (disch := omega) only [↓jb_m, ↓jm_s, ↓reduceIte, t_lt, t_nlt, t_le, t_nle, t_eq, t_neq, w32_id, w64_id, jb_s, and_true, true_and, and_self, and_false, false_and, or_true, true_or, or_false, false_or, or_self, not_false_eq_true, not_true_eq_false, u_ne, u_eq, u_u, Int.reduceAdd, Int.reduceSub, Int.reduceMul, Int.reduceNeg, Int.zero_add, Int.add_zero, n15, n16, q10, q11, q12, q13, q14, Jc_many, e2, Jc_answer, Jc_refuse, Jc_deny, Jc_grant, Se_isMould, Se_isStuff, Se_isPlace, hj]) (by simp (disch := omega) only [↓jb_m, ↓jm_s, ↓reduceIte, t_lt, t_nlt, t_le, t_nle, t_eq, t_neq, w32_id, w64_id, jb_s, and_true, true_and, and_self, and_false, false_and, or_true, true_or, or_false, false_or, or_self, not_false_eq_true, not_true_eq_false, u_ne, u_eq, u_u, Int.reduceAdd, Int.reduceSub, Int.reduceMul, Int.reduceNeg, Int.zero_add, Int.add_zero, n15, n16, q10, q11, q12, q13, q14, Md_many, Md_isMouldAt, Md_isStuffAt, Md_isPlaceAt, Md_isTray, Md_isIn_1, Md_isIn_0, Md_refuse, Md_no])
    · subst q
      exact OKc.no (w := 0) (r := s 160 6) h (by simp (disch := omega) only [↓jb_m, ↓jm_s, ↓reduceIte, t_lt, t_nlt, t_le, t_nle, t_eq, t_neq, w32_id, w64_id, jb_s, and_true, true_and, and_self, and_false, false_and, or_true, true_or, or_false, false_or, or_self, not_false_eq_true, not_true_eq_false, u_ne, u_eq, u_u, Int.reduceAdd, Int.reduceSub, Int.reduceMul, Int.reduceNeg, Int.zero_add, Int.add_zero, n15, n16, q10, q11, q12, q13, q14, Jc_many, e3, Jc_answer, Jc_refuse, Jc_deny, Jc_grant, Se_isMould, Se_isStuff, Se_isPlace, hj]) (by simp (disch := omega) only [↓jb_m, ↓jm_s, ↓reduceIte, t_lt, t_nlt, t_le, t_nle, t_eq, t_neq, w32_id, w64_id, jb_s, and_true, true_and, and_self, and_false, false_and, or_true, true_or, or_false, false_or, or_self, not_false_eq_true, not_true_eq_false, u_ne, u_eq, u_u, Int.reduceAdd, Int.reduceSub, Int.reduceMul, Int.reduceNeg, Int.zero_add, Int.add_zero, n15, n16, q10, q11, q12, q13, q14, Md_many, Md_isMouldAt, Md_isStuffAt, Md_isPlaceAt, Md_isTray, Md_isIn_1, Md_isIn_0, Md_refuse, Md_no])
    · subst q
      exact OKc.no (w := 0) (r := s 160 7) h (by simp (disch := omega) only [↓jb_m, ↓jm_s, ↓reduceIte, t_lt, t_nlt, t_le, t_nle, t_eq, t_neq, w32_id, w64_id, jb_s, and_true, true_and, and_self, and_false, false_and, or_true, true_or, or_false, false_or, or_self, not_false_eq_true, not_true_eq_false, u_ne, u_eq, u_u, Int.reduceAdd, Int.reduceSub, Int.reduceMul, Int.reduceNeg, Int.zero_add, Int.add_zero, n15, n16, q10, q11, q12, q13, q14, Jc_many, hf, Jc_answer, Jc_refuse, Jc_deny, Jc_grant, Se_isMould, Se_isStuff, Se_isPlace, hj]) (by simp (disch := omega) only [↓jb_m, ↓jm_s, ↓reduceIte, t_lt, t_nlt, t_le, t_nle, t_eq, t_neq, w32_id, w64_id, jb_s, and_true, true_and, and_self, and_false, false_and, or_true, true_or, or_false, false_or, or_self, not_false_eq_true, not_true_eq_false, u_ne, u_eq, u_u, Int.reduceAdd, Int.reduceSub, Int.reduceMul, Int.reduceNeg, Int.zero_add, Int.add_zero, n15, n16, q10, q11, q12, q13, q14, Md_many, Md_isMouldAt, Md_isStuffAt, Md_isPlaceAt, Md_isTray, Md_isIn_1, Md_isIn_0, Md_refuse, Md_no])
    · obtain ⟨A, a1, a2⟩ := setOf_at (st := w - 8) hse (by omega)
      have a3 := a2 (jup (jup (jup s 0 0 0) 155 1 0) 155 0 0) (by funext j; simp (disch := omega) only [↓jb_m, ↓jm_s, ↓reduceIte, t_lt, t_nlt, t_le, t_nle, t_eq, t_neq, w32_id, w64_id, jb_s, and_true, true_and, and_self, and_false, false_and, or_true, true_or, or_false, false_or, or_self, not_false_eq_true, not_true_eq_false, u_ne, u_eq, u_u, Int.reduceAdd, Int.reduceSub, Int.reduceMul, Int.reduceNeg, Int.zero_add, Int.add_zero, n15, n16, q10, q11, q12, q13, q14])
      rcases (by omega : w = 8 ∨ w = 9 ∨ w = 10) with z | z | z
      · subst z
        rw [show (8 : Int) - 8 = 0 from rfl] at a1 a3
        exact OKc.no (w := 0) (r := A) h (by simp (disch := omega) only [↓jb_m, ↓jm_s, ↓reduceIte, t_lt, t_nlt, t_le, t_nle, t_eq, t_neq, w32_id, w64_id, jb_s, and_true, true_and, and_self, and_false, false_and, or_true, true_or, or_false, false_or, or_self, not_false_eq_true, not_true_eq_false, u_ne, u_eq, u_u, Int.reduceAdd, Int.reduceSub, Int.reduceMul, Int.reduceNeg, Int.zero_add, Int.add_zero, n15, n16, q10, q11, q12, q13, q14, Jc_many, a1, Jc_answer, Jc_refuse, Jc_deny, Jc_grant, Se_isMould, Se_isStuff, Se_isPlace, hj]) (by simp (disch := omega) only [↓jb_m, ↓jm_s, ↓reduceIte, t_lt, t_nlt, t_le, t_nle, t_eq, t_neq, w32_id, w64_id, jb_s, and_true, true_and, and_self, and_false, false_and, or_true, true_or, or_false, false_or, or_self, not_false_eq_true, not_true_eq_false, u_ne, u_eq, u_u, Int.reduceAdd, Int.reduceSub, Int.reduceMul, Int.reduceNeg, Int.zero_add, Int.add_zero, n15, n16, q10, q11, q12, q13, q14, Md_many, a3, Md_isMouldAt, Md_isStuffAt, Md_isPlaceAt, Md_isTray, Md_isIn_1, Md_isIn_0, Md_refuse, Md_no])
      · subst z
        rw [show (9 : Int) - 8 = 1 from rfl] at a1 a3
        exact OKc.no (w := 0) (r := A) h (by simp (disch := omega) only [↓jb_m, ↓jm_s, ↓reduceIte, t_lt, t_nlt, t_le, t_nle, t_eq, t_neq, w32_id, w64_id, jb_s, and_true, true_and, and_self, and_false, false_and, or_true, true_or, or_false, false_or, or_self, not_false_eq_true, not_true_eq_false, u_ne, u_eq, u_u, Int.reduceAdd, Int.reduceSub, Int.reduceMul, Int.reduceNeg, Int.zero_add, Int.add_zero, n15, n16, q10, q11, q12, q13, q14, Jc_many, a1, Jc_answer, Jc_refuse, Jc_deny, Jc_grant, Se_isMould, Se_isStuff, Se_isPlace, hj]) (by simp (disch := omega) only [↓jb_m, ↓jm_s, ↓reduceIte, t_lt, t_nlt, t_le, t_nle, t_eq, t_neq, w32_id, w64_id, jb_s, and_true, true_and, and_self, and_false, false_and, or_true, true_or, or_false, false_or, or_self, not_false_eq_true, not_true_eq_false, u_ne, u_eq, u_u, Int.reduceAdd, Int.reduceSub, Int.reduceMul, Int.reduceNeg, Int.zero_add, Int.add_zero, n15, n16, q10, q11, q12, q13, q14, Md_many, a3, Md_isMouldAt, Md_isStuffAt, Md_isPlaceAt, Md_isTray, Md_isIn_1, Md_isIn_0, Md_refuse, Md_no])
      · subst z
        rw [show (10 : Int) - 8 = 2 from rfl] at a1 a3
        exact OKc.no (w := 0) (r := A) h (by simp (disch := omega) only [↓jb_m, ↓jm_s, ↓reduceIte, t_lt, t_nlt, t_le, t_nle, t_eq, t_neq, w32_id, w64_id, jb_s, and_true, true_and, and_self, and_false, false_and, or_true, true_or, or_false, false_or, or_self, not_false_eq_true, not_true_eq_false, u_ne, u_eq, u_u, Int.reduceAdd, Int.reduceSub, Int.reduceMul, Int.reduceNeg, Int.zero_add, Int.add_zero, n15, n16, q10, q11, q12, q13, q14, Jc_many, a1, Jc_answer, Jc_refuse, Jc_deny, Jc_grant, Se_isMould, Se_isStuff, Se_isPlace, hj]) (by simp (disch := omega) only [↓jb_m, ↓jm_s, ↓reduceIte, t_lt, t_nlt, t_le, t_nle, t_eq, t_neq, w32_id, w64_id, jb_s, and_true, true_and, and_self, and_false, false_and, or_true, true_or, or_false, false_or, or_self, not_false_eq_true, not_true_eq_false, u_ne, u_eq, u_u, Int.reduceAdd, Int.reduceSub, Int.reduceMul, Int.reduceNeg, Int.zero_add, Int.add_zero, n15, n16, q10, q11, q12, q13, q14, Md_many, a3, Md_isMouldAt, Md_isStuffAt, Md_isPlaceAt, Md_isTray, Md_isIn_1, Md_isIn_0, Md_refuse, Md_no])
  · rcases (by omega : w < 0 ∨ 10 < w) with q | q
    · exact OKc.no (w := 5) (r := -1) h (by simp (disch := omega) only [↓jb_m, ↓jm_s, ↓reduceIte, t_lt, t_nlt, t_le, t_nle, t_eq, t_neq, w32_id, w64_id, jb_s, and_true, true_and, and_self, and_false, false_and, or_true, true_or, or_false, false_or, or_self, not_false_eq_true, not_true_eq_false, u_ne, u_eq, u_u, Int.reduceAdd, Int.reduceSub, Int.reduceMul, Int.reduceNeg, Int.zero_add, Int.add_zero, n15, n16, q10, q11, q12, q13, q14, Jc_many, Jc_answer, Jc_refuse, Jc_deny, Jc_grant, Se_isMould, Se_isStuff, Se_isPlace, hj]) (by simp (disch := omega) only [↓jb_m, ↓jm_s, ↓reduceIte, t_lt, t_nlt, t_le, t_nle, t_eq, t_neq, w32_id, w64_id, jb_s, and_true, true_and, and_self, and_false, false_and, or_true, true_or, or_false, false_or, or_self, not_false_eq_true, not_true_eq_false, u_ne, u_eq, u_u, Int.reduceAdd, Int.reduceSub, Int.reduceMul, Int.reduceNeg, Int.zero_add, Int.add_zero, n15, n16, q10, q11, q12, q13, q14, Md_many, Md_isMouldAt, Md_isStuffAt, Md_isPlaceAt, Md_isTray, Md_isIn_1, Md_isIn_0, Md_refuse, Md_no])
    · exact OKc.no (w := 5) (r := -1) h (by simp (disch := omega) only [↓jb_m, ↓jm_s, ↓reduceIte, t_lt, t_nlt, t_le, t_nle, t_eq, t_neq, w32_id, w64_id, jb_s, and_true, true_and, and_self, and_false, false_and, or_true, true_or, or_false, false_or, or_self, not_false_eq_true, not_true_eq_false, u_ne, u_eq, u_u, Int.reduceAdd, Int.reduceSub, Int.reduceMul, Int.reduceNeg, Int.zero_add, Int.add_zero, n15, n16, q10, q11, q12, q13, q14, Jc_many, Jc_answer, Jc_refuse, Jc_deny, Jc_grant, Se_isMould, Se_isStuff, Se_isPlace, hj]) (by simp (disch := omega) only [↓jb_m, ↓jm_s, ↓reduceIte, t_lt, t_nlt, t_le, t_nle, t_eq, t_neq, w32_id, w64_id, jb_s, and_true, true_and, and_self, and_false, false_and, or_true, true_or, or_false, false_or, or_self, not_false_eq_true, not_true_eq_false, u_ne, u_eq, u_u, Int.reduceAdd, Int.reduceSub, Int.reduceMul, Int.reduceNeg, Int.zero_add, Int.add_zero, n15, n16, q10, q11, q12, q13, q14, Md_many, Md_isMouldAt, Md_isStuffAt, Md_isPlaceAt, Md_isTray, Md_isIn_1, Md_isIn_0, Md_refuse, Md_no])
theorem Md_minute_59_eq {x1 x2 : Int} (h1 : x1 ≤ 99) : ∀ (k : Nat) (f : Nat) (x3 : Int) (u v : jM), ITER k u v → 0 ≤ x3 → x1 = x3 + k → k < f → Md_minute_59 f 155 x1 x2 x3 u = some (v 160 7 - x2, v) := by
  intro k
  induction k with
  | zero =>
    intro f x3 u v hi h2 h3 h4
    cases f with
    | zero => omega
    | succ f =>
      rw [Md_minute_59, hi]
      simp (disch := omega) only [↓jb_m, ↓jm_s, ↓reduceIte, t_lt, t_nlt, t_le, t_nle, t_eq, t_neq, w32_id, w64_id, jb_s, and_true, true_and, and_self, and_false, false_and, or_true, true_or, or_false, false_or, or_self, not_false_eq_true, not_true_eq_false, u_ne, u_eq, u_u, Int.reduceAdd, Int.reduceSub, Int.reduceMul, Int.reduceNeg, Int.zero_add, Int.add_zero, n15, n16, q10, q11, q12, q13, q14]
  | succ k ih =>
    intro f x3 u v hi h2 h3 h4
    cases f with
    | zero => omega
    | succ f =>
      obtain ⟨w, w1, w2⟩ := hi
      rw [Md_minute_59]
      simp (disch := omega) only [↓jb_m, ↓jm_s, ↓reduceIte, t_lt, t_nlt, t_le, t_nle, t_eq, t_neq, w32_id, w64_id, jb_s, and_true, true_and, and_self, and_false, false_and, or_true, true_or, or_false, false_or, or_self, not_false_eq_true, not_true_eq_false, u_ne, u_eq, u_u, Int.reduceAdd, Int.reduceSub, Int.reduceMul, Int.reduceNeg, Int.zero_add, Int.add_zero, n15, n16, q10, q11, q12, q13, q14, w1]
      exact ih f (x3 + 1) w v w2 (by omega) (by omega) (by omega)
theorem minute_ok {s : jM} (h : INV s) {n : Int} (hn : i32 n) : OKc s (Jc_minute 0 n) (Md_minute 155 n) := by
  unfold i32 at hn
  obtain ⟨hb, hj, hj2, -⟩ := h.b
  have hse := h.2.2.2.2.2.1.1
  have h5 := h.2.2.2.2.2.1.2.1
  rw [cw_at (by omega)] at h5
  have hm5 := (hd_at hse).2.2.2.2.2.2.2.2.2.2.2.1
  have hf := falls_at hse
  by_cases hv : 1 ≤ n ∧ n ≤ 99
  · by_cases hl : s 160 5 + n ≤ 9999
    · obtain ⟨t, v0, hc, -, -, hR, -⟩ := op_min hse h5 (n := n) (by omega) hl
      obtain ⟨t', v, hc', hi, hg, hR', hv5⟩ := op_min (s := s) (u := u0 t 0) (b := s 0 5) (n := n) (by rw [cw_u0 hb hR.1]; exact hse) (by rw [u0_160 hb hR.1]; exact h5) (by omega) (by rw [u0_160 hb hR.1]; exact hl)
      rw [hc] at hc'
      cases hc'
      have e160 : t 160 = s 160 := cdy_160 hb hR.1 (by omega)
      have e05 : t 0 = s 0 := cdy_160 hb hR.1 (by omega)
      have hf2 := falls_at hR'.2.2.1
      have hm := Md_minute_59_eq (x1 := n) (x2 := s 160 7) (by omega) n.toNat jFU 0 (u0 t 0) v hi (by omega) (by omega) (by unfold jFU; omega)
      unfold u0 at hm
      exact OKc.of (s1 := jup t 0 0 0) (r := v 160 7 - s 160 7) (by simp (disch := omega) only [↓jb_m, ↓jm_s, ↓reduceIte, t_lt, t_nlt, t_le, t_nle, t_eq, t_neq, w32_id, w64_id, jb_s, and_true, true_and, and_self, and_false, false_and, or_true, true_or, or_false, false_or, or_self, not_false_eq_true, not_true_eq_false, u_ne, u_eq, u_u, Int.reduceAdd, Int.reduceSub, Int.reduceMul, Int.reduceNeg, Int.zero_add, Int.add_zero, n15, n16, q10, q11, q12, q13, q14, Jc_minute, hf, hc, e05, hf2, Jc_answer, Jc_refuse, Jc_deny, Jc_grant, Se_isMould, Se_isStuff, Se_isPlace, hj]) (by simp (disch := omega) only [↓jb_m, ↓jm_s, ↓reduceIte, t_lt, t_nlt, t_le, t_nle, t_eq, t_neq, w32_id, w64_id, jb_s, and_true, true_and, and_self, and_false, false_and, or_true, true_or, or_false, false_or, or_self, not_false_eq_true, not_true_eq_false, u_ne, u_eq, u_u, Int.reduceAdd, Int.reduceSub, Int.reduceMul, Int.reduceNeg, Int.zero_add, Int.add_zero, n15, n16, q10, q11, q12, q13, q14, Md_minute, e160, hm, Md_isMouldAt, Md_isStuffAt, Md_isPlaceAt, Md_isTray, Md_isIn_1, Md_isIn_0, Md_refuse, Md_no]) (fin0 h hR').1 (fin0 h hR').2
    · have hc := op_min0 hse h5 (n := n) (by omega) (by omega)
      exact OKc.no (w := 7) (r := -1) h (by simp (disch := omega) only [↓jb_m, ↓jm_s, ↓reduceIte, t_lt, t_nlt, t_le, t_nle, t_eq, t_neq, w32_id, w64_id, jb_s, and_true, true_and, and_self, and_false, false_and, or_true, true_or, or_false, false_or, or_self, not_false_eq_true, not_true_eq_false, u_ne, u_eq, u_u, Int.reduceAdd, Int.reduceSub, Int.reduceMul, Int.reduceNeg, Int.zero_add, Int.add_zero, n15, n16, q10, q11, q12, q13, q14, Jc_minute, hf, hc, Jc_answer, Jc_refuse, Jc_deny, Jc_grant, Se_isMould, Se_isStuff, Se_isPlace, hj]) (by simp (disch := omega) only [↓jb_m, ↓jm_s, ↓reduceIte, t_lt, t_nlt, t_le, t_nle, t_eq, t_neq, w32_id, w64_id, jb_s, and_true, true_and, and_self, and_false, false_and, or_true, true_or, or_false, false_or, or_self, not_false_eq_true, not_true_eq_false, u_ne, u_eq, u_u, Int.reduceAdd, Int.reduceSub, Int.reduceMul, Int.reduceNeg, Int.zero_add, Int.add_zero, n15, n16, q10, q11, q12, q13, q14, Md_minute, Md_isMouldAt, Md_isStuffAt, Md_isPlaceAt, Md_isTray, Md_isIn_1, Md_isIn_0, Md_refuse, Md_no])
  · rcases (by omega : n < 1 ∨ 99 < n) with q | q
    · exact OKc.no (w := 5) (r := -1) h (by simp (disch := omega) only [↓jb_m, ↓jm_s, ↓reduceIte, t_lt, t_nlt, t_le, t_nle, t_eq, t_neq, w32_id, w64_id, jb_s, and_true, true_and, and_self, and_false, false_and, or_true, true_or, or_false, false_or, or_self, not_false_eq_true, not_true_eq_false, u_ne, u_eq, u_u, Int.reduceAdd, Int.reduceSub, Int.reduceMul, Int.reduceNeg, Int.zero_add, Int.add_zero, n15, n16, q10, q11, q12, q13, q14, Jc_minute, Jc_answer, Jc_refuse, Jc_deny, Jc_grant, Se_isMould, Se_isStuff, Se_isPlace, hj]) (by simp (disch := omega) only [↓jb_m, ↓jm_s, ↓reduceIte, t_lt, t_nlt, t_le, t_nle, t_eq, t_neq, w32_id, w64_id, jb_s, and_true, true_and, and_self, and_false, false_and, or_true, true_or, or_false, false_or, or_self, not_false_eq_true, not_true_eq_false, u_ne, u_eq, u_u, Int.reduceAdd, Int.reduceSub, Int.reduceMul, Int.reduceNeg, Int.zero_add, Int.add_zero, n15, n16, q10, q11, q12, q13, q14, Md_minute, Md_isMouldAt, Md_isStuffAt, Md_isPlaceAt, Md_isTray, Md_isIn_1, Md_isIn_0, Md_refuse, Md_no])
    · exact OKc.no (w := 5) (r := -1) h (by simp (disch := omega) only [↓jb_m, ↓jm_s, ↓reduceIte, t_lt, t_nlt, t_le, t_nle, t_eq, t_neq, w32_id, w64_id, jb_s, and_true, true_and, and_self, and_false, false_and, or_true, true_or, or_false, false_or, or_self, not_false_eq_true, not_true_eq_false, u_ne, u_eq, u_u, Int.reduceAdd, Int.reduceSub, Int.reduceMul, Int.reduceNeg, Int.zero_add, Int.add_zero, n15, n16, q10, q11, q12, q13, q14, Jc_minute, Jc_answer, Jc_refuse, Jc_deny, Jc_grant, Se_isMould, Se_isStuff, Se_isPlace, hj]) (by simp (disch := omega) only [↓jb_m, ↓jm_s, ↓reduceIte, t_lt, t_nlt, t_le, t_nle, t_eq, t_neq, w32_id, w64_id, jb_s, and_true, true_and, and_self, and_false, false_and, or_true, true_or, or_false, false_or, or_self, not_false_eq_true, not_true_eq_false, u_ne, u_eq, u_u, Int.reduceAdd, Int.reduceSub, Int.reduceMul, Int.reduceNeg, Int.zero_add, Int.add_zero, n15, n16, q10, q11, q12, q13, q14, Md_minute, Md_isMouldAt, Md_isStuffAt, Md_isPlaceAt, Md_isTray, Md_isIn_1, Md_isIn_0, Md_refuse, Md_no])
theorem jdiv_e {a b : Int} (h : 0 ≤ a) (h2 : a < 2147483648) (h3 : 1 ≤ b) (h4 : b < 2147483648) : jdiv a b = a / b := by
  unfold jdiv
  rw [w32_id (by omega) h2, w32_id (by omega) h4, Int.tdiv_eq_ediv_of_nonneg h]
theorem div_b {a b : Int} (h : 0 ≤ a) (h3 : 1 ≤ b) : 0 ≤ a / b ∧ a / b ≤ a := ⟨Int.ediv_nonneg h (by omega), Int.ediv_le_self b h⟩
/-- in how many minutes what is so firm falls -/
def lst (f h n : Int) : Int := if f < h then 0 else if n ≤ 0 then 1000000 else (f - h) / n + 1
theorem Jc_lasting_eq {f h n : Int} {s : jM} (hf : 0 ≤ f ∧ f ≤ 100000) (hh : 0 ≤ h ∧ h ≤ 100) (hn : 0 ≤ n ∧ n ≤ 9) : Jc_lasting f h n s = some (lst f h n, s) := by
  unfold lst
  by_cases q : f < h
  · simp (disch := omega) only [↓jb_m, ↓jm_s, ↓reduceIte, t_lt, t_nlt, t_le, t_nle, t_eq, t_neq, w32_id, w64_id, jb_s, and_true, true_and, and_self, and_false, false_and, or_true, true_or, or_false, false_or, or_self, not_false_eq_true, not_true_eq_false, u_ne, u_eq, u_u, Int.reduceAdd, Int.reduceSub, Int.reduceMul, Int.reduceNeg, Int.zero_add, Int.add_zero, n15, n16, q10, q11, q12, q13, q14, Jc_lasting]
  · by_cases q2 : n ≤ 0
    · simp (disch := omega) only [↓jb_m, ↓jm_s, ↓reduceIte, t_lt, t_nlt, t_le, t_nle, t_eq, t_neq, w32_id, w64_id, jb_s, and_true, true_and, and_self, and_false, false_and, or_true, true_or, or_false, false_or, or_self, not_false_eq_true, not_true_eq_false, u_ne, u_eq, u_u, Int.reduceAdd, Int.reduceSub, Int.reduceMul, Int.reduceNeg, Int.zero_add, Int.add_zero, n15, n16, q10, q11, q12, q13, q14, Jc_lasting]
    · have := jdiv_e (a := f - h) (b := n) (by omega) (by omega) (by omega) (by omega)
      simp (disch := omega) only [↓jb_m, ↓jm_s, ↓reduceIte, t_lt, t_nlt, t_le, t_nle, t_eq, t_neq, w32_id, w64_id, jb_s, and_true, true_and, and_self, and_false, false_and, or_true, true_or, or_false, false_or, or_self, not_false_eq_true, not_true_eq_false, u_ne, u_eq, u_u, Int.reduceAdd, Int.reduceSub, Int.reduceMul, Int.reduceNeg, Int.zero_add, Int.add_zero, n15, n16, q10, q11, q12, q13, q14, Jc_lasting, this]
def lst2 (f h n : Int) : Int := if f < h then 0 else if n ≤ 0 then 10000 else (f - h) / n + 1
theorem Md_lastsOf_eq {f h n : Int} {s : jM} (hf : 0 ≤ f ∧ f ≤ 100000) (hh : 0 ≤ h ∧ h ≤ 100) (hn : 0 ≤ n ∧ n ≤ 9) : Md_lastsOf f h n s = some (lst2 f h n, s) := by
  unfold lst2
  by_cases q : f < h
  · simp (disch := omega) only [↓jb_m, ↓jm_s, ↓reduceIte, t_lt, t_nlt, t_le, t_nle, t_eq, t_neq, w32_id, w64_id, jb_s, and_true, true_and, and_self, and_false, false_and, or_true, true_or, or_false, false_or, or_self, not_false_eq_true, not_true_eq_false, u_ne, u_eq, u_u, Int.reduceAdd, Int.reduceSub, Int.reduceMul, Int.reduceNeg, Int.zero_add, Int.add_zero, n15, n16, q10, q11, q12, q13, q14, Md_lastsOf]
  · by_cases q2 : n ≤ 0
    · simp (disch := omega) only [↓jb_m, ↓jm_s, ↓reduceIte, t_lt, t_nlt, t_le, t_nle, t_eq, t_neq, w32_id, w64_id, jb_s, and_true, true_and, and_self, and_false, false_and, or_true, true_or, or_false, false_or, or_self, not_false_eq_true, not_true_eq_false, u_ne, u_eq, u_u, Int.reduceAdd, Int.reduceSub, Int.reduceMul, Int.reduceNeg, Int.zero_add, Int.add_zero, n15, n16, q10, q11, q12, q13, q14, Md_lastsOf]
    · have := jdiv_e (a := f - h) (b := n) (by omega) (by omega) (by omega) (by omega)
      simp (disch := omega) only [↓jb_m, ↓jm_s, ↓reduceIte, t_lt, t_nlt, t_le, t_nle, t_eq, t_neq, w32_id, w64_id, jb_s, and_true, true_and, and_self, and_false, false_and, or_true, true_or, or_false, false_or, or_self, not_false_eq_true, not_true_eq_false, u_ne, u_eq, u_u, Int.reduceAdd, Int.reduceSub, Int.reduceMul, Int.reduceNeg, Int.zero_add, Int.add_zero, n15, n16, q10, q11, q12, q13, q14, Md_lastsOf, this]
theorem lst_b {f h n : Int} (hf : 0 ≤ f) (hh : 0 ≤ h) (hn : 0 ≤ n) : (n ≤ 0 ∧ h ≤ f ∧ lst f h n = 1000000 ∧ lst2 f h n = 10000) ∨ (¬ (n ≤ 0 ∧ h ≤ f) ∧ lst f h n = lst2 f h n ∧ 0 ≤ lst f h n ∧ lst f h n ≤ f + 1) := by
  unfold lst lst2
  by_cases q : f < h
  · rw [if_pos q, if_pos q]
    omega
  · rw [if_neg q, if_neg q]
    by_cases q2 : n ≤ 0
    · rw [if_pos q2, if_pos q2]
      omega
    · rw [if_neg q2, if_neg q2]
      have := div_b (a := f - h) (b := n) (by omega) (by omega)
      omega
theorem lasts_ok {s : jM} (h : INV s) {m : Int} (hm : i32 m) : OKc s (Jc_lasts 0 m) (Md_lasts 155 m) := by
  unfold i32 at hm
  obtain ⟨hb, hj, hj2, -⟩ := h.b
  have hse := h.2.2.2.2.2.1.1
  obtain ⟨e6, c2⟩ := hd2 hse
  obtain ⟨eh, ch⟩ := hdh hse
  by_cases hv : 0 ≤ m ∧ m < s 160 2
  · obtain ⟨m5, ⟨f0, f1, f2, f3, f4, f5, f6, f7⟩, -, -, fb, g0, g1, g2⟩ := mo_at hse hv
    have hp := parts_V (u := jup (jup (jup s 0 0 9) 155 1 0) 155 0 0) (m := m) (V := vw s (s 0 5)) (by rw [show cw (jup (jup (jup s 0 0 9) 155 1 0) 155 0 0) 0 = cw s 0 from cw_u0 (w := 9) hb (EX.rf _ _)]; exact hse) (by simp (disch := omega) only [↓jb_m, ↓jm_s, ↓reduceIte, t_lt, t_nlt, t_le, t_nle, t_eq, t_neq, w32_id, w64_id, jb_s, and_true, true_and, and_self, and_false, false_and, or_true, true_or, or_false, false_or, or_self, not_false_eq_true, not_true_eq_false, u_ne, u_eq, u_u, Int.reduceAdd, Int.reduceSub, Int.reduceMul, Int.reduceNeg, Int.zero_add, Int.add_zero, n15, n16, q10, q11, q12, q13, q14])
    have hp2 := parts_V (u := jup (jup (jup s 0 0 0) 155 1 0) 155 0 0) (m := m) (V := vw s (s 0 5)) (by rw [show cw (jup (jup (jup s 0 0 0) 155 1 0) 155 0 0) 0 = cw s 0 from cw_u0 (w := 0) hb (EX.rf _ _)]; exact hse) (by simp (disch := omega) only [↓jb_m, ↓jm_s, ↓reduceIte, t_lt, t_nlt, t_le, t_nle, t_eq, t_neq, w32_id, w64_id, jb_s, and_true, true_and, and_self, and_false, false_and, or_true, true_or, or_false, false_or, or_self, not_false_eq_true, not_true_eq_false, u_ne, u_eq, u_u, Int.reduceAdd, Int.reduceSub, Int.reduceMul, Int.reduceNeg, Int.zero_add, Int.add_zero, n15, n16, q10, q11, q12, q13, q14])
    have hp3 := parts_V (u := jup (jup (jup s 0 0 8) 155 1 0) 155 0 0) (m := m) (V := vw s (s 0 5)) (by rw [show cw (jup (jup (jup s 0 0 8) 155 1 0) 155 0 0) 0 = cw s 0 from cw_u0 (w := 8) hb (EX.rf _ _)]; exact hse) (by simp (disch := omega) only [↓jb_m, ↓jm_s, ↓reduceIte, t_lt, t_nlt, t_le, t_nle, t_eq, t_neq, w32_id, w64_id, jb_s, and_true, true_and, and_self, and_false, false_and, or_true, true_or, or_false, false_or, or_self, not_false_eq_true, not_true_eq_false, u_ne, u_eq, u_u, Int.reduceAdd, Int.reduceSub, Int.reduceMul, Int.reduceNeg, Int.zero_add, Int.add_zero, n15, n16, q10, q11, q12, q13, q14])
    rw [show cw (jup (jup (jup s 0 0 9) 155 1 0) 155 0 0) 0 = cw s 0 from cw_u0 (w := 9) hb (EX.rf _ _)] at hp
    rw [show cw (jup (jup (jup s 0 0 0) 155 1 0) 155 0 0) 0 = cw s 0 from cw_u0 (w := 0) hb (EX.rf _ _)] at hp2
    rw [show cw (jup (jup (jup s 0 0 8) 155 1 0) 155 0 0) 0 = cw s 0 from cw_u0 (w := 8) hb (EX.rf _ _)] at hp3
    have hl := Jc_lasting_eq (s := s) (f := s 160 (74 + m)) (h := s 160 (54 + m)) (n := s 160 3) (by omega) (by omega) (by omega)
    have hl2 := fun u : jM => Md_lastsOf_eq (s := u) (f := s 160 (74 + m)) (h := s 160 (54 + m)) (n := s 160 3) (by omega) (by omega) (by omega)
    have hlb := lst_b (f := s 160 (74 + m)) (h := s 160 (54 + m)) (n := s 160 3) (by omega) (by omega) (by omega)
    by_cases hc : s 160 (69 + m) = 2 ∨ (s 160 (69 + m) = 1 ∧ mcnt (cw s 0) m = s 160 (59 + m))
    · rcases hlb with ⟨q1, q2, q3, q4⟩ | ⟨q1, q2, q3, q4⟩
      · rcases hc with hc | hc
        · exact OKc.no (w := 8) (r := -1) h (by simp (disch := omega) only [↓jb_m, ↓jm_s, ↓reduceIte, t_lt, t_nlt, t_le, t_nle, t_eq, t_neq, w32_id, w64_id, jb_s, and_true, true_and, and_self, and_false, false_and, or_true, true_or, or_false, false_or, or_self, not_false_eq_true, not_true_eq_false, u_ne, u_eq, u_u, Int.reduceAdd, Int.reduceSub, Int.reduceMul, Int.reduceNeg, Int.zero_add, Int.add_zero, n15, n16, q10, q11, q12, q13, q14, Jc_lasts, Jc_lasts_49, f0, f3, f4, eh, hl, Jc_answer, Jc_refuse, Jc_deny, Jc_grant, Se_isMould, Se_isStuff, Se_isPlace, hj]) (by simp (disch := omega) only [↓jb_m, ↓jm_s, ↓reduceIte, t_lt, t_nlt, t_le, t_nle, t_eq, t_neq, w32_id, w64_id, jb_s, and_true, true_and, and_self, and_false, false_and, or_true, true_or, or_false, false_or, or_self, not_false_eq_true, not_true_eq_false, u_ne, u_eq, u_u, Int.reduceAdd, Int.reduceSub, Int.reduceMul, Int.reduceNeg, Int.zero_add, Int.add_zero, n15, n16, q10, q11, q12, q13, q14, Md_lasts, Md_lasts_50, hl2, Md_isMouldAt, Md_isStuffAt, Md_isPlaceAt, Md_isTray, Md_isIn_1, Md_isIn_0, Md_refuse, Md_no])
        · exact OKc.no (w := 8) (r := -1) h (by simp (disch := omega) only [↓jb_m, ↓jm_s, ↓reduceIte, t_lt, t_nlt, t_le, t_nle, t_eq, t_neq, w32_id, w64_id, jb_s, and_true, true_and, and_self, and_false, false_and, or_true, true_or, or_false, false_or, or_self, not_false_eq_true, not_true_eq_false, u_ne, u_eq, u_u, Int.reduceAdd, Int.reduceSub, Int.reduceMul, Int.reduceNeg, Int.zero_add, Int.add_zero, n15, n16, q10, q11, q12, q13, q14, Jc_lasts, Jc_lasts_49, Mo_canBeTurnedOut, f0, f1, f3, f4, f6, eh, hl, Jc_answer, Jc_refuse, Jc_deny, Jc_grant, Se_isMould, Se_isStuff, Se_isPlace, hj]) (by simp (disch := omega) only [↓jb_m, ↓jm_s, ↓reduceIte, t_lt, t_nlt, t_le, t_nle, t_eq, t_neq, w32_id, w64_id, jb_s, and_true, true_and, and_self, and_false, false_and, or_true, true_or, or_false, false_or, or_self, not_false_eq_true, not_true_eq_false, u_ne, u_eq, u_u, Int.reduceAdd, Int.reduceSub, Int.reduceMul, Int.reduceNeg, Int.zero_add, Int.add_zero, n15, n16, q10, q11, q12, q13, q14, Md_lasts, Md_lasts_50, Md_isReady, hp3, hl2, Md_isMouldAt, Md_isStuffAt, Md_isPlaceAt, Md_isTray, Md_isIn_1, Md_isIn_0, Md_refuse, Md_no])
      · rcases hc with hc | hc
        · exact OKc.no (w := 0) (r := lst2 (s 160 (74 + m)) (s 160 (54 + m)) (s 160 3)) h (by simp (disch := omega) only [↓jb_m, ↓jm_s, ↓reduceIte, t_lt, t_nlt, t_le, t_nle, t_eq, t_neq, w32_id, w64_id, jb_s, and_true, true_and, and_self, and_false, false_and, or_true, true_or, or_false, false_or, or_self, not_false_eq_true, not_true_eq_false, u_ne, u_eq, u_u, Int.reduceAdd, Int.reduceSub, Int.reduceMul, Int.reduceNeg, Int.zero_add, Int.add_zero, n15, n16, q10, q11, q12, q13, q14, Jc_lasts, Jc_lasts_49, f0, f3, f4, eh, hl, q2, Jc_answer, Jc_refuse, Jc_deny, Jc_grant, Se_isMould, Se_isStuff, Se_isPlace, hj]) (by simp (disch := omega) only [↓jb_m, ↓jm_s, ↓reduceIte, t_lt, t_nlt, t_le, t_nle, t_eq, t_neq, w32_id, w64_id, jb_s, and_true, true_and, and_self, and_false, false_and, or_true, true_or, or_false, false_or, or_self, not_false_eq_true, not_true_eq_false, u_ne, u_eq, u_u, Int.reduceAdd, Int.reduceSub, Int.reduceMul, Int.reduceNeg, Int.zero_add, Int.add_zero, n15, n16, q10, q11, q12, q13, q14, Md_lasts, Md_lasts_50, hl2, Md_isMouldAt, Md_isStuffAt, Md_isPlaceAt, Md_isTray, Md_isIn_1, Md_isIn_0, Md_refuse, Md_no])
        · exact OKc.no (w := 0) (r := lst2 (s 160 (74 + m)) (s 160 (54 + m)) (s 160 3)) h (by simp (disch := omega) only [↓jb_m, ↓jm_s, ↓reduceIte, t_lt, t_nlt, t_le, t_nle, t_eq, t_neq, w32_id, w64_id, jb_s, and_true, true_and, and_self, and_false, false_and, or_true, true_or, or_false, false_or, or_self, not_false_eq_true, not_true_eq_false, u_ne, u_eq, u_u, Int.reduceAdd, Int.reduceSub, Int.reduceMul, Int.reduceNeg, Int.zero_add, Int.add_zero, n15, n16, q10, q11, q12, q13, q14, Jc_lasts, Jc_lasts_49, Mo_canBeTurnedOut, f0, f1, f3, f4, f6, eh, hl, q2, Jc_answer, Jc_refuse, Jc_deny, Jc_grant, Se_isMould, Se_isStuff, Se_isPlace, hj]) (by simp (disch := omega) only [↓jb_m, ↓jm_s, ↓reduceIte, t_lt, t_nlt, t_le, t_nle, t_eq, t_neq, w32_id, w64_id, jb_s, and_true, true_and, and_self, and_false, false_and, or_true, true_or, or_false, false_or, or_self, not_false_eq_true, not_true_eq_false, u_ne, u_eq, u_u, Int.reduceAdd, Int.reduceSub, Int.reduceMul, Int.reduceNeg, Int.zero_add, Int.add_zero, n15, n16, q10, q11, q12, q13, q14, Md_lasts, Md_lasts_50, Md_isReady, hp2, hl2, Md_isMouldAt, Md_isStuffAt, Md_isPlaceAt, Md_isTray, Md_isIn_1, Md_isIn_0, Md_refuse, Md_no])
    · rcases (by omega : s 160 (69 + m) = 0 ∨ (s 160 (69 + m) = 1 ∧ ¬ mcnt (cw s 0) m = s 160 (59 + m))) with q | q
      · exact OKc.no (w := 9) (r := -1) h (by simp (disch := omega) only [↓jb_m, ↓jm_s, ↓reduceIte, t_lt, t_nlt, t_le, t_nle, t_eq, t_neq, w32_id, w64_id, jb_s, and_true, true_and, and_self, and_false, false_and, or_true, true_or, or_false, false_or, or_self, not_false_eq_true, not_true_eq_false, u_ne, u_eq, u_u, Int.reduceAdd, Int.reduceSub, Int.reduceMul, Int.reduceNeg, Int.zero_add, Int.add_zero, n15, n16, q10, q11, q12, q13, q14, Jc_lasts, Mo_canBeTurnedOut, f1, f3, f6, Jc_answer, Jc_refuse, Jc_deny, Jc_grant, Se_isMould, Se_isStuff, Se_isPlace, hj]) (by simp (disch := omega) only [↓jb_m, ↓jm_s, ↓reduceIte, t_lt, t_nlt, t_le, t_nle, t_eq, t_neq, w32_id, w64_id, jb_s, and_true, true_and, and_self, and_false, false_and, or_true, true_or, or_false, false_or, or_self, not_false_eq_true, not_true_eq_false, u_ne, u_eq, u_u, Int.reduceAdd, Int.reduceSub, Int.reduceMul, Int.reduceNeg, Int.zero_add, Int.add_zero, n15, n16, q10, q11, q12, q13, q14, Md_lasts, Md_lasts_50, Md_isReady, hp, hl2, Md_isMouldAt, Md_isStuffAt, Md_isPlaceAt, Md_isTray, Md_isIn_1, Md_isIn_0, Md_refuse, Md_no])
      · exact OKc.no (w := 9) (r := -1) h (by simp (disch := omega) only [↓jb_m, ↓jm_s, ↓reduceIte, t_lt, t_nlt, t_le, t_nle, t_eq, t_neq, w32_id, w64_id, jb_s, and_true, true_and, and_self, and_false, false_and, or_true, true_or, or_false, false_or, or_self, not_false_eq_true, not_true_eq_false, u_ne, u_eq, u_u, Int.reduceAdd, Int.reduceSub, Int.reduceMul, Int.reduceNeg, Int.zero_add, Int.add_zero, n15, n16, q10, q11, q12, q13, q14, Jc_lasts, Mo_canBeTurnedOut, f1, f3, f6, Jc_answer, Jc_refuse, Jc_deny, Jc_grant, Se_isMould, Se_isStuff, Se_isPlace, hj]) (by simp (disch := omega) only [↓jb_m, ↓jm_s, ↓reduceIte, t_lt, t_nlt, t_le, t_nle, t_eq, t_neq, w32_id, w64_id, jb_s, and_true, true_and, and_self, and_false, false_and, or_true, true_or, or_false, false_or, or_self, not_false_eq_true, not_true_eq_false, u_ne, u_eq, u_u, Int.reduceAdd, Int.reduceSub, Int.reduceMul, Int.reduceNeg, Int.zero_add, Int.add_zero, n15, n16, q10, q11, q12, q13, q14, Md_lasts, Md_lasts_50, Md_isReady, hp, hl2, Md_isMouldAt, Md_isStuffAt, Md_isPlaceAt, Md_isTray, Md_isIn_1, Md_isIn_0, Md_refuse, Md_no])
  · rcases (by omega : m < 0 ∨ s 160 2 ≤ m) with q | q
    · exact OKc.no (w := 2) (r := -1) h (by simp (disch := omega) only [↓jb_m, ↓jm_s, ↓reduceIte, t_lt, t_nlt, t_le, t_nle, t_eq, t_neq, w32_id, w64_id, jb_s, and_true, true_and, and_self, and_false, false_and, or_true, true_or, or_false, false_or, or_self, not_false_eq_true, not_true_eq_false, u_ne, u_eq, u_u, Int.reduceAdd, Int.reduceSub, Int.reduceMul, Int.reduceNeg, Int.zero_add, Int.add_zero, n15, n16, q10, q11, q12, q13, q14, Jc_lasts, Jc_answer, Jc_refuse, Jc_deny, Jc_grant, Se_isMould, Se_isStuff, Se_isPlace, hj]) (by simp (disch := omega) only [↓jb_m, ↓jm_s, ↓reduceIte, t_lt, t_nlt, t_le, t_nle, t_eq, t_neq, w32_id, w64_id, jb_s, and_true, true_and, and_self, and_false, false_and, or_true, true_or, or_false, false_or, or_self, not_false_eq_true, not_true_eq_false, u_ne, u_eq, u_u, Int.reduceAdd, Int.reduceSub, Int.reduceMul, Int.reduceNeg, Int.zero_add, Int.add_zero, n15, n16, q10, q11, q12, q13, q14, Md_lasts, Md_isMouldAt, Md_isStuffAt, Md_isPlaceAt, Md_isTray, Md_isIn_1, Md_isIn_0, Md_refuse, Md_no])
    · exact OKc.no (w := 2) (r := -1) h (by simp (disch := omega) only [↓jb_m, ↓jm_s, ↓reduceIte, t_lt, t_nlt, t_le, t_nle, t_eq, t_neq, w32_id, w64_id, jb_s, and_true, true_and, and_self, and_false, false_and, or_true, true_or, or_false, false_or, or_self, not_false_eq_true, not_true_eq_false, u_ne, u_eq, u_u, Int.reduceAdd, Int.reduceSub, Int.reduceMul, Int.reduceNeg, Int.zero_add, Int.add_zero, n15, n16, q10, q11, q12, q13, q14, Jc_lasts, Jc_answer, Jc_refuse, Jc_deny, Jc_grant, Se_isMould, Se_isStuff, Se_isPlace, hj]) (by simp (disch := omega) only [↓jb_m, ↓jm_s, ↓reduceIte, t_lt, t_nlt, t_le, t_nle, t_eq, t_neq, w32_id, w64_id, jb_s, and_true, true_and, and_self, and_false, false_and, or_true, true_or, or_false, false_or, or_self, not_false_eq_true, not_true_eq_false, u_ne, u_eq, u_u, Int.reduceAdd, Int.reduceSub, Int.reduceMul, Int.reduceNeg, Int.zero_add, Int.add_zero, n15, n16, q10, q11, q12, q13, q14, Md_lasts, Md_isMouldAt, Md_isStuffAt, Md_isPlaceAt, Md_isTray, Md_isIn_1, Md_isIn_0, Md_refuse, Md_no])
theorem jmin_e {a b : Int} (ha : i32 a) (hb : i32 b) : jmin a b = if b < a then b else a := by
  unfold jmin
  rw [i32_w ha, i32_w hb]
theorem jmax_e {a b : Int} (ha : i32 a) (hb : i32 b) : jmax a b = if a < b then b else a := by
  unfold jmax
  rw [i32_w ha, i32_w hb]
/-- FIRM of a mould in so many minutes -/
theorem firmAfter_eq {s : jM} {a h n : Int} (hh : 0 ≤ h ∧ h ≤ 9) (hn : 0 ≤ n ∧ n ≤ 300) (h3 : 0 ≤ s a 3 ∧ s a 3 ≤ 2) (h0 : 0 ≤ s a 0 ∧ s a 0 ≤ 30) (h4 : 0 ≤ s a 4 ∧ s a 4 ≤ 100) (h5 : 0 ≤ s a 5 ∧ s a 5 ≤ 100) (hv : s a 3 = 0 → s a 4 = 0) : Mo_firmAfter a h n s = some (rO (s a) ((9 - h) * n) (h * n) 4, s) := by
  have b1 := mul_b (x := 9 - h) (n := n) (by omega) hn
  have b2 := mul_b (x := h) (n := n) hh hn
  rcases (by omega : s a 3 = 1 ∨ s a 3 = 2 ∨ s a 3 = 0) with q | q | q
  · rw [rO_1 q, if_pos rfl]
    have := jmin_e (a := s a 5) (b := s a 4 + (9 - h) * n) ⟨by omega, by omega⟩ ⟨by omega, by omega⟩
    by_cases c1 : s a 5 < s a 4 + (9 - h) * n
    · simp (disch := omega) only [↓jb_m, ↓jm_s, ↓reduceIte, t_lt, t_nlt, t_le, t_nle, t_eq, t_neq, w32_id, w64_id, jb_s, and_true, true_and, and_self, and_false, false_and, or_true, true_or, or_false, false_or, or_self, not_false_eq_true, not_true_eq_false, u_ne, u_eq, u_u, Int.reduceAdd, Int.reduceSub, Int.reduceMul, Int.reduceNeg, Int.zero_add, Int.add_zero, n15, n16, q10, q11, q12, q13, q14, Mo_firmAfter, this]
    · by_cases c2 : s a 4 + (9 - h) * n < s a 5
      · simp (disch := omega) only [↓jb_m, ↓jm_s, ↓reduceIte, t_lt, t_nlt, t_le, t_nle, t_eq, t_neq, w32_id, w64_id, jb_s, and_true, true_and, and_self, and_false, false_and, or_true, true_or, or_false, false_or, or_self, not_false_eq_true, not_true_eq_false, u_ne, u_eq, u_u, Int.reduceAdd, Int.reduceSub, Int.reduceMul, Int.reduceNeg, Int.zero_add, Int.add_zero, n15, n16, q10, q11, q12, q13, q14, Mo_firmAfter, this]
      · have c3 : s a 4 + (9 - h) * n = s a 5 := by omega
        simp (disch := omega) only [↓jb_m, ↓jm_s, ↓reduceIte, t_lt, t_nlt, t_le, t_nle, t_eq, t_neq, w32_id, w64_id, jb_s, and_true, true_and, and_self, and_false, false_and, or_true, true_or, or_false, false_or, or_self, not_false_eq_true, not_true_eq_false, u_ne, u_eq, u_u, Int.reduceAdd, Int.reduceSub, Int.reduceMul, Int.reduceNeg, Int.zero_add, Int.add_zero, n15, n16, q10, q11, q12, q13, q14, Mo_firmAfter, this]
        rw [c3]
  · by_cases hf : s a 4 - h * n < s a 0
    · rw [rO_2 q hf, if_pos (by omega)]
      simp (disch := omega) only [↓jb_m, ↓jm_s, ↓reduceIte, t_lt, t_nlt, t_le, t_nle, t_eq, t_neq, w32_id, w64_id, jb_s, and_true, true_and, and_self, and_false, false_and, or_true, true_or, or_false, false_or, or_self, not_false_eq_true, not_true_eq_false, u_ne, u_eq, u_u, Int.reduceAdd, Int.reduceSub, Int.reduceMul, Int.reduceNeg, Int.zero_add, Int.add_zero, n15, n16, q10, q11, q12, q13, q14, Mo_firmAfter]
    · rw [rO_3 q hf, if_pos rfl]
      simp (disch := omega) only [↓jb_m, ↓jm_s, ↓reduceIte, t_lt, t_nlt, t_le, t_nle, t_eq, t_neq, w32_id, w64_id, jb_s, and_true, true_and, and_self, and_false, false_and, or_true, true_or, or_false, false_or, or_self, not_false_eq_true, not_true_eq_false, u_ne, u_eq, u_u, Int.reduceAdd, Int.reduceSub, Int.reduceMul, Int.reduceNeg, Int.zero_add, Int.add_zero, n15, n16, q10, q11, q12, q13, q14, Mo_firmAfter]
  · rw [rO_0 (by omega) (by omega), hv q]
    simp (disch := omega) only [↓jb_m, ↓jm_s, ↓reduceIte, t_lt, t_nlt, t_le, t_nle, t_eq, t_neq, w32_id, w64_id, jb_s, and_true, true_and, and_self, and_false, false_and, or_true, true_or, or_false, false_or, or_self, not_false_eq_true, not_true_eq_false, u_ne, u_eq, u_u, Int.reduceAdd, Int.reduceSub, Int.reduceMul, Int.reduceNeg, Int.zero_add, Int.add_zero, n15, n16, q10, q11, q12, q13, q14, Mo_firmAfter]
theorem jcp_s {s : jM} {k sp k2 dp n : Int} (h : k ≠ k2) (hn : 0 ≤ n) : jup (jcp s k sp k2 dp n) k2 (dp + n) (jcp s k sp k2 dp n k (sp + n)) = jcp s k sp k2 dp (n + 1) := by
  funext a b
  rw [c_out (a := k) (by omega)]
  simp only [jup_at, jcp_at]
  by_cases h1 : a = k2 ∧ b = dp + n
  · rw [if_pos h1, if_pos (by omega)]
    rw [show sp + (b - dp) = sp + n by omega]
  · rw [if_neg h1]
    by_cases h2 : a = k2 ∧ dp ≤ b ∧ b < dp + n
    · rw [if_pos h2, if_pos (by omega)]
    · rw [if_neg h2, if_neg (by omega)]
theorem jcp_0 {s : jM} {k sp k2 dp : Int} : jcp s k sp k2 dp 0 = s := by
  funext a b
  rw [c_out (by omega)]
theorem puts_eq (s : jM) : Md_puts 155 s = some (0, jcp s 160 0 161 0 109) := by
  have key : ∀ (n : Nat) (k : Int), 0 ≤ k → k ≤ 109 → (109 - k).toNat < n → Md_puts_2 n 155 k (jcp s 160 0 161 0 k) = some (0, jcp s 160 0 161 0 109) := by
    intro n
    induction n with
    | zero => intro k h1 h2 h3; omega
    | succ n ih =>
      intro k h1 h2 h3
      by_cases hk : k < 109
      · have := jcp_s (s := s) (k := 160) (sp := 0) (k2 := 161) (dp := 0) (n := k) (by decide) h1
        rw [Int.zero_add] at this
        rw [Md_puts_2]
        simp (disch := omega) only [↓jb_m, ↓jm_s, ↓reduceIte, t_lt, t_nlt, t_le, t_nle, t_eq, t_neq, w32_id, w64_id, jb_s, and_true, true_and, and_self, and_false, false_and, or_true, true_or, or_false, false_or, or_self, not_false_eq_true, not_true_eq_false, u_ne, u_eq, u_u, Int.reduceAdd, Int.reduceSub, Int.reduceMul, Int.reduceNeg, Int.zero_add, Int.add_zero, n15, n16, q10, q11, q12, q13, q14, this]
        exact ih (k + 1) (by omega) (by omega) (by omega)
      · have e : k = 109 := by omega
        subst e
        simp (disch := omega) only [↓jb_m, ↓jm_s, ↓reduceIte, t_lt, t_nlt, t_le, t_nle, t_eq, t_neq, w32_id, w64_id, jb_s, and_true, true_and, and_self, and_false, false_and, or_true, true_or, or_false, false_or, or_self, not_false_eq_true, not_true_eq_false, u_ne, u_eq, u_u, Int.reduceAdd, Int.reduceSub, Int.reduceMul, Int.reduceNeg, Int.zero_add, Int.add_zero, n15, n16, q10, q11, q12, q13, q14, Md_puts_2]
  have := key jFU 0 (by omega) (by omega) (by unfold jFU; omega)
  rw [jcp_0] at this
  exact this
theorem gives_eq (s : jM) : Md_gives 155 s = some (0, jcp s 161 0 160 0 109) := by
  have key : ∀ (n : Nat) (k : Int), 0 ≤ k → k ≤ 109 → (109 - k).toNat < n → Md_gives_2 n 155 k (jcp s 161 0 160 0 k) = some (0, jcp s 161 0 160 0 109) := by
    intro n
    induction n with
    | zero => intro k h1 h2 h3; omega
    | succ n ih =>
      intro k h1 h2 h3
      by_cases hk : k < 109
      · have := jcp_s (s := s) (k := 161) (sp := 0) (k2 := 160) (dp := 0) (n := k) (by decide) h1
        rw [Int.zero_add] at this
        rw [Md_gives_2]
        simp (disch := omega) only [↓jb_m, ↓jm_s, ↓reduceIte, t_lt, t_nlt, t_le, t_nle, t_eq, t_neq, w32_id, w64_id, jb_s, and_true, true_and, and_self, and_false, false_and, or_true, true_or, or_false, false_or, or_self, not_false_eq_true, not_true_eq_false, u_ne, u_eq, u_u, Int.reduceAdd, Int.reduceSub, Int.reduceMul, Int.reduceNeg, Int.zero_add, Int.add_zero, n15, n16, q10, q11, q12, q13, q14, this]
        exact ih (k + 1) (by omega) (by omega) (by omega)
      · have e : k = 109 := by omega
        subst e
        simp (disch := omega) only [↓jb_m, ↓jm_s, ↓reduceIte, t_lt, t_nlt, t_le, t_nle, t_eq, t_neq, w32_id, w64_id, jb_s, and_true, true_and, and_self, and_false, false_and, or_true, true_or, or_false, false_or, or_self, not_false_eq_true, not_true_eq_false, u_ne, u_eq, u_u, Int.reduceAdd, Int.reduceSub, Int.reduceMul, Int.reduceNeg, Int.zero_add, Int.add_zero, n15, n16, q10, q11, q12, q13, q14, Md_gives_2]
  have := key jFU 0 (by omega) (by omega) (by unfold jFU; omega)
  rw [jcp_0] at this
  exact this
/-- put aside, changed in its moulds, given back: it is as it was -/
theorem back_again {s v : jM} (h : EX gdz (jcp s 160 0 161 0 109) v) : EX (fun a _ => a = 161) s (jcp v 161 0 160 0 109) := by
  intro a b q
  by_cases h1 : a = 160 ∧ 0 ≤ b ∧ b < 109
  · rw [c_in (by omega), h _ _ (by unfold gdz; omega), c_in (by omega), h1.1]
    congr 1
    omega
  · rw [c_out (by omega), h _ _ (by unfold gdz; omega), c_out (by omega)]
theorem OKc.scr {s v : jM} {w r : Int} {f g : jM → Option (Int × jM)} (h : INV s) (hf : f s = some (r, jup s 0 0 w)) (hg : g (jup s 0 0 w) = some (r, v)) (hv : EX (fun a b => (161 ≤ a ∧ a ≤ 169 ∧ a ≠ 163) ∨ (a = 155 ∧ ((12 ≤ b ∧ b ≤ 19) ∨ (25 ≤ b ∧ b ≤ 34)))) (jup (jup (jup s 0 0 w) 155 1 0) 155 0 w) v) : OKc s f g := by
  have hk : KEEP s v := fun a b q => by
    unfold cnt at q
    rw [hv a b (by omega), u_ne (by omega), u_ne (by omega), u_ne (by omega)]
  refine OKc.of hf hg (INV_same h hk ?_ (fun a b q => ?_)) hk
  · rw [hv 0 0 (by omega), hv 155 0 (by omega)]
    simp (disch := omega) only [↓jb_m, ↓jm_s, ↓reduceIte, t_lt, t_nlt, t_le, t_nle, t_eq, t_neq, w32_id, w64_id, jb_s, and_true, true_and, and_self, and_false, false_and, or_true, true_or, or_false, false_or, or_self, not_false_eq_true, not_true_eq_false, u_ne, u_eq, u_u, Int.reduceAdd, Int.reduceSub, Int.reduceMul, Int.reduceNeg, Int.zero_add, Int.add_zero, n15, n16, q10, q11, q12, q13, q14]
  · have := h.b.1
    unfold rNo at q
    rw [hv a b (by omega), u_ne (by omega), u_ne (by omega), u_ne (by omega)]
theorem Md_firmIn_48_eq {x1 x2 : Int} (hx : 0 ≤ x1 ∧ x1 < 5) (h1 : x2 ≤ 300) : ∀ (k : Nat) (f : Nat) (x3 : Int) (u v : jM), ITER k u v → 0 ≤ x3 → x2 = x3 + k → k < f → Md_firmIn_48 f 155 x1 x2 x3 u = some (v 160 (74 + x1), jcp v 161 0 160 0 109) := by
  intro k
  induction k with
  | zero =>
    intro f x3 u v hi h2 h3 h4
    cases f with
    | zero => omega
    | succ f =>
      rw [Md_firmIn_48, hi]
      simp (disch := omega) only [↓jb_m, ↓jm_s, ↓reduceIte, t_lt, t_nlt, t_le, t_nle, t_eq, t_neq, w32_id, w64_id, jb_s, and_true, true_and, and_self, and_false, false_and, or_true, true_or, or_false, false_or, or_self, not_false_eq_true, not_true_eq_false, u_ne, u_eq, u_u, Int.reduceAdd, Int.reduceSub, Int.reduceMul, Int.reduceNeg, Int.zero_add, Int.add_zero, n15, n16, q10, q11, q12, q13, q14, gives_eq]
  | succ k ih =>
    intro f x3 u v hi h2 h3 h4
    cases f with
    | zero => omega
    | succ f =>
      obtain ⟨w, w1, w2⟩ := hi
      rw [Md_firmIn_48]
      simp (disch := omega) only [↓jb_m, ↓jm_s, ↓reduceIte, t_lt, t_nlt, t_le, t_nle, t_eq, t_neq, w32_id, w64_id, jb_s, and_true, true_and, and_self, and_false, false_and, or_true, true_or, or_false, false_or, or_self, not_false_eq_true, not_true_eq_false, u_ne, u_eq, u_u, Int.reduceAdd, Int.reduceSub, Int.reduceMul, Int.reduceNeg, Int.zero_add, Int.add_zero, n15, n16, q10, q11, q12, q13, q14, w1]
      exact ih f (x3 + 1) w v w2 (by omega) (by omega) (by omega)
theorem firmIn_ok {s : jM} (h : INV s) {m n : Int} (hm : i32 m) (hn : i32 n) : OKc s (Jc_firmIn 0 m n) (Md_firmIn 155 m n) := by
  unfold i32 at hm hn
  obtain ⟨hb, hj, hj2, -⟩ := h.b
  have hse := h.2.2.2.2.2.1.1
  obtain ⟨e6, c2⟩ := hd2 hse
  obtain ⟨eh, ch⟩ := hdh hse
  by_cases hv : 0 ≤ m ∧ m < s 160 2
  · by_cases hv2 : 0 ≤ n ∧ n ≤ 300
    · have hmo := mo_at hse hv
      obtain ⟨m5, ⟨f0, f1, f2, f3, f4, f5, f6, f7⟩, -, -, fb, g0, g1, g2⟩ := hmo
      have hfa := firmAfter_eq (s := s) (a := s 0 5 + (15 + 2 * m)) (h := s 160 3) (n := n) ch hv2 (by omega) (by omega) (by omega) (by omega) (by omega)
      obtain ⟨v, y1, y2, y3, y4⟩ := gm_n n.toNat (vw s (s 0 5)) (jcp (jup (jup (jup s 0 0 0) 155 1 0) 155 0 0) 160 0 161 0 109) (by rw [show cw (jcp (jup (jup (jup s 0 0 0) 155 1 0) 155 0 0) 160 0 161 0 109) 0 = cw s 0 from cw_congr (fun o _ _ => by rw [c_out (by omega)]; simp (disch := omega) only [↓jb_m, ↓jm_s, ↓reduceIte, t_lt, t_nlt, t_le, t_nle, t_eq, t_neq, w32_id, w64_id, jb_s, and_true, true_and, and_self, and_false, false_and, or_true, true_or, or_false, false_or, or_self, not_false_eq_true, not_true_eq_false, u_ne, u_eq, u_u, Int.reduceAdd, Int.reduceSub, Int.reduceMul, Int.reduceNeg, Int.zero_add, Int.add_zero, n15, n16, q10, q11, q12, q13, q14])]; exact hse)
      have en : ((n.toNat : Nat) : Int) = n := Int.toNat_of_nonneg hv2.1
      have z2 : jcp (jup (jup (jup s 0 0 0) 155 1 0) 155 0 0) 160 0 161 0 109 160 2 = s 160 2 := by rw [c_out (by omega)]; simp (disch := omega) only [↓jb_m, ↓jm_s, ↓reduceIte, t_lt, t_nlt, t_le, t_nle, t_eq, t_neq, w32_id, w64_id, jb_s, and_true, true_and, and_self, and_false, false_and, or_true, true_or, or_false, false_or, or_self, not_false_eq_true, not_true_eq_false, u_ne, u_eq, u_u, Int.reduceAdd, Int.reduceSub, Int.reduceMul, Int.reduceNeg, Int.zero_add, Int.add_zero, n15, n16, q10, q11, q12, q13, q14]
      have z3 : jcp (jup (jup (jup s 0 0 0) 155 1 0) 155 0 0) 160 0 161 0 109 160 3 = s 160 3 := by rw [c_out (by omega)]; simp (disch := omega) only [↓jb_m, ↓jm_s, ↓reduceIte, t_lt, t_nlt, t_le, t_nle, t_eq, t_neq, w32_id, w64_id, jb_s, and_true, true_and, and_self, and_false, false_and, or_true, true_or, or_false, false_or, or_self, not_false_eq_true, not_true_eq_false, u_ne, u_eq, u_u, Int.reduceAdd, Int.reduceSub, Int.reduceMul, Int.reduceNeg, Int.zero_add, Int.add_zero, n15, n16, q10, q11, q12, q13, q14]
      rw [en, z2, z3] at y3
      have hg := Md_firmIn_48_eq (x1 := m) (x2 := n) ⟨hv.1, m5⟩ hv2.2 n.toNat jFU 0 _ v y1 (by omega) (by omega) (by unfold jFU; omega)
      have hmv := mo_V y3 (m := m) ⟨hv.1, by rw [y2 160 2 (by unfold gdz; omega), z2]; exact hv.2⟩
      have e4 := hmv.2.1.2.2.2.2.1
      rw [u_ne (by omega), RS_o (by omega) (by omega)] at e4
      have ew : vw s (s 0 5) (15 + 2 * m) = s (s 0 5 + (15 + 2 * m)) := funext fun j => vw_at (by omega)
      rw [ew] at e4
      refine OKc.scr (w := 0) (r := rO (s (s 0 5 + (15 + 2 * m))) ((9 - s 160 3) * n) (s 160 3 * n) 4) (v := jcp v 161 0 160 0 109) h ?_ ?_ ((back_again y2).wk (fun a b q => by omega))
      · simp (disch := omega) only [↓jb_m, ↓jm_s, ↓reduceIte, t_lt, t_nlt, t_le, t_nle, t_eq, t_neq, w32_id, w64_id, jb_s, and_true, true_and, and_self, and_false, false_and, or_true, true_or, or_false, false_or, or_self, not_false_eq_true, not_true_eq_false, u_ne, u_eq, u_u, Int.reduceAdd, Int.reduceSub, Int.reduceMul, Int.reduceNeg, Int.zero_add, Int.add_zero, n15, n16, q10, q11, q12, q13, q14, Jc_firmIn, eh, hfa, Jc_answer, Jc_refuse, Jc_deny, Jc_grant, Se_isMould, Se_isStuff, Se_isPlace, hj]
      · simp (disch := omega) only [↓jb_m, ↓jm_s, ↓reduceIte, t_lt, t_nlt, t_le, t_nle, t_eq, t_neq, w32_id, w64_id, jb_s, and_true, true_and, and_self, and_false, false_and, or_true, true_or, or_false, false_or, or_self, not_false_eq_true, not_true_eq_false, u_ne, u_eq, u_u, Int.reduceAdd, Int.reduceSub, Int.reduceMul, Int.reduceNeg, Int.zero_add, Int.add_zero, n15, n16, q10, q11, q12, q13, q14, Md_firmIn, puts_eq, hg, e4, Md_isMouldAt, Md_isStuffAt, Md_isPlaceAt, Md_isTray, Md_isIn_1, Md_isIn_0, Md_refuse, Md_no]
    · rcases (by omega : n < 0 ∨ 300 < n) with q | q
      · exact OKc.no (w := 5) (r := -1) h (by simp (disch := omega) only [↓jb_m, ↓jm_s, ↓reduceIte, t_lt, t_nlt, t_le, t_nle, t_eq, t_neq, w32_id, w64_id, jb_s, and_true, true_and, and_self, and_false, false_and, or_true, true_or, or_false, false_or, or_self, not_false_eq_true, not_true_eq_false, u_ne, u_eq, u_u, Int.reduceAdd, Int.reduceSub, Int.reduceMul, Int.reduceNeg, Int.zero_add, Int.add_zero, n15, n16, q10, q11, q12, q13, q14, Jc_firmIn, Jc_answer, Jc_refuse, Jc_deny, Jc_grant, Se_isMould, Se_isStuff, Se_isPlace, hj]) (by simp (disch := omega) only [↓jb_m, ↓jm_s, ↓reduceIte, t_lt, t_nlt, t_le, t_nle, t_eq, t_neq, w32_id, w64_id, jb_s, and_true, true_and, and_self, and_false, false_and, or_true, true_or, or_false, false_or, or_self, not_false_eq_true, not_true_eq_false, u_ne, u_eq, u_u, Int.reduceAdd, Int.reduceSub, Int.reduceMul, Int.reduceNeg, Int.zero_add, Int.add_zero, n15, n16, q10, q11, q12, q13, q14, Md_firmIn, Md_isMouldAt, Md_isStuffAt, Md_isPlaceAt, Md_isTray, Md_isIn_1, Md_isIn_0, Md_refuse, Md_no])
      · exact OKc.no (w := 5) (r := -1) h (by simp (disch := omega) only [↓jb_m, ↓jm_s, ↓reduceIte, t_lt, t_nlt, t_le, t_nle, t_eq, t_neq, w32_id, w64_id, jb_s, and_true, true_and, and_self, and_false, false_and, or_true, true_or, or_false, false_or, or_self, not_false_eq_true, not_true_eq_false, u_ne, u_eq, u_u, Int.reduceAdd, Int.reduceSub, Int.reduceMul, Int.reduceNeg, Int.zero_add, Int.add_zero, n15, n16, q10, q11, q12, q13, q14, Jc_firmIn, Jc_answer, Jc_refuse, Jc_deny, Jc_grant, Se_isMould, Se_isStuff, Se_isPlace, hj]) (by simp (disch := omega) only [↓jb_m, ↓jm_s, ↓reduceIte, t_lt, t_nlt, t_le, t_nle, t_eq, t_neq, w32_id, w64_id, jb_s, and_true, true_and, and_self, and_false, false_and, or_true, true_or, or_false, false_or, or_self, not_false_eq_true, not_true_eq_false, u_ne, u_eq, u_u, Int.reduceAdd, Int.reduceSub, Int.reduceMul, Int.reduceNeg, Int.zero_add, Int.add_zero, n15, n16, q10, q11, q12, q13, q14, Md_firmIn, Md_isMouldAt, Md_isStuffAt, Md_isPlaceAt, Md_isTray, Md_isIn_1, Md_isIn_0, Md_refuse, Md_no])
  · rcases (by omega : m < 0 ∨ s 160 2 ≤ m) with q | q
    · exact OKc.no (w := 2) (r := -1) h (by simp (disch := omega) only [↓jb_m, ↓jm_s, ↓reduceIte, t_lt, t_nlt, t_le, t_nle, t_eq, t_neq, w32_id, w64_id, jb_s, and_true, true_and, and_self, and_false, false_and, or_true, true_or, or_false, false_or, or_self, not_false_eq_true, not_true_eq_false, u_ne, u_eq, u_u, Int.reduceAdd, Int.reduceSub, Int.reduceMul, Int.reduceNeg, Int.zero_add, Int.add_zero, n15, n16, q10, q11, q12, q13, q14, Jc_firmIn, Jc_answer, Jc_refuse, Jc_deny, Jc_grant, Se_isMould, Se_isStuff, Se_isPlace, hj]) (by simp (disch := omega) only [↓jb_m, ↓jm_s, ↓reduceIte, t_lt, t_nlt, t_le, t_nle, t_eq, t_neq, w32_id, w64_id, jb_s, and_true, true_and, and_self, and_false, false_and, or_true, true_or, or_false, false_or, or_self, not_false_eq_true, not_true_eq_false, u_ne, u_eq, u_u, Int.reduceAdd, Int.reduceSub, Int.reduceMul, Int.reduceNeg, Int.zero_add, Int.add_zero, n15, n16, q10, q11, q12, q13, q14, Md_firmIn, Md_isMouldAt, Md_isStuffAt, Md_isPlaceAt, Md_isTray, Md_isIn_1, Md_isIn_0, Md_refuse, Md_no])
    · exact OKc.no (w := 2) (r := -1) h (by simp (disch := omega) only [↓jb_m, ↓jm_s, ↓reduceIte, t_lt, t_nlt, t_le, t_nle, t_eq, t_neq, w32_id, w64_id, jb_s, and_true, true_and, and_self, and_false, false_and, or_true, true_or, or_false, false_or, or_self, not_false_eq_true, not_true_eq_false, u_ne, u_eq, u_u, Int.reduceAdd, Int.reduceSub, Int.reduceMul, Int.reduceNeg, Int.zero_add, Int.add_zero, n15, n16, q10, q11, q12, q13, q14, Jc_firmIn, Jc_answer, Jc_refuse, Jc_deny, Jc_grant, Se_isMould, Se_isStuff, Se_isPlace, hj]) (by simp (disch := omega) only [↓jb_m, ↓jm_s, ↓reduceIte, t_lt, t_nlt, t_le, t_nle, t_eq, t_neq, w32_id, w64_id, jb_s, and_true, true_and, and_self, and_false, false_and, or_true, true_or, or_false, false_or, or_self, not_false_eq_true, not_true_eq_false, u_ne, u_eq, u_u, Int.reduceAdd, Int.reduceSub, Int.reduceMul, Int.reduceNeg, Int.zero_add, Int.add_zero, n15, n16, q10, q11, q12, q13, q14, Md_firmIn, Md_isMouldAt, Md_isStuffAt, Md_isPlaceAt, Md_isTray, Md_isIn_1, Md_isIn_0, Md_refuse, Md_no])
theorem waits_ok {s : jM} (h : INV s) {m n : Int} (hm : i32 m) (hn : i32 n) : OKc s (Jc_waits 0 m n) (Md_waits 155 m n) := by
  unfold i32 at hm hn
  obtain ⟨hb, hj, hj2, -⟩ := h.b
  have hse := h.2.2.2.2.2.1.1
  obtain ⟨e6, c2⟩ := hd2 hse
  obtain ⟨eh, ch⟩ := hdh hse
  by_cases hv : 0 ≤ m ∧ m < s 160 2
  · by_cases hv2 : 0 ≤ n ∧ n ≤ 99
    · have hmo := mo_at hse hv
      obtain ⟨m5, ⟨f0, f1, f2, f3, f4, f5, f6, f7⟩, -, -, fb, g0, g1, g2⟩ := hmo
      have hp := fun w => parts_V (u := jup (jup (jup s 0 0 w) 155 1 0) 155 0 0) (m := m) (V := vw s (s 0 5)) (by rw [show cw (jup (jup (jup s 0 0 w) 155 1 0) 155 0 0) 0 = cw s 0 from cw_u0 (w := w) hb (EX.rf _ _)]; exact hse) (by simp (disch := omega) only [↓jb_m, ↓jm_s, ↓reduceIte, t_lt, t_nlt, t_le, t_nle, t_eq, t_neq, w32_id, w64_id, jb_s, and_true, true_and, and_self, and_false, false_and, or_true, true_or, or_false, false_or, or_self, not_false_eq_true, not_true_eq_false, u_ne, u_eq, u_u, Int.reduceAdd, Int.reduceSub, Int.reduceMul, Int.reduceNeg, Int.zero_add, Int.add_zero, n15, n16, q10, q11, q12, q13, q14])
      have hst := fun w => str_V (u := jup (jup (jup s 0 0 w) 155 1 0) 155 0 0) (m := m) (V := vw s (s 0 5)) (by rw [show cw (jup (jup (jup s 0 0 w) 155 1 0) 155 0 0) 0 = cw s 0 from cw_u0 (w := w) hb (EX.rf _ _)]; exact hse) (by simp (disch := omega) only [↓jb_m, ↓jm_s, ↓reduceIte, t_lt, t_nlt, t_le, t_nle, t_eq, t_neq, w32_id, w64_id, jb_s, and_true, true_and, and_self, and_false, false_and, or_true, true_or, or_false, false_or, or_self, not_false_eq_true, not_true_eq_false, u_ne, u_eq, u_u, Int.reduceAdd, Int.reduceSub, Int.reduceMul, Int.reduceNeg, Int.zero_add, Int.add_zero, n15, n16, q10, q11, q12, q13, q14])
      by_cases hc : s 160 (69 + m) = 1 ∧ mcnt (cw s 0) m = s 160 (59 + m)
      · have key : ∀ (f : Nat) (k : Int), 0 ≤ k → k ≤ 301 → (301 - k).toNat < f → ∃ r w, (w = 0 ∨ w = 8) ∧ Jc_waits_60 f 0 n (s 0 5 + (15 + 2 * m)) k s = some (r, jup s 0 0 w) ∧ Md_waits_59 f 155 m n k (jup (jup (jup s 0 0 w) 155 1 0) 155 0 0) = some (r, jup (jup (jup s 0 0 w) 155 1 0) 155 0 w) := by
          intro f
          induction f with
          | zero => intro k h1 h2 h3; omega
          | succ f ih =>
            intro k h1 h2 h3
            by_cases hk : k ≤ 300
            · have hfa := firmAfter_eq (s := s) (a := s 0 5 + (15 + 2 * m)) (h := s 160 3) (n := k) ch ⟨h1, hk⟩ (by omega) (by omega) (by omega) (by omega) (by omega)
              rw [rO_1 (by omega), if_pos rfl, f5, f4] at hfa
              have b1 := mul_b (x := 9 - s 160 3) (n := k) (by omega) ⟨h1, hk⟩
              have hjm := jmin_e (a := mstr (cw s 0) m) (b := s 160 (74 + m) + k * (9 - s 160 3)) ⟨by omega, by omega⟩ (by rw [Int.mul_comm]; exact ⟨by omega, by omega⟩)
              rw [Int.mul_comm k] at hjm
              have hjm2 : jmin (mstr (cw s 0) m) (s 160 (74 + m) + k * (9 - s 160 3)) = if mstr (cw s 0) m < s 160 (74 + m) + (9 - s 160 3) * k then mstr (cw s 0) m else s 160 (74 + m) + (9 - s 160 3) * k := by
                rw [Int.mul_comm k, hjm]
                by_cases c1 : mstr (cw s 0) m < s 160 (74 + m) + (9 - s 160 3) * k
                · rw [if_pos c1, if_neg (by omega)]
                · rw [if_neg c1]
                  by_cases c2 : s 160 (74 + m) + (9 - s 160 3) * k < mstr (cw s 0) m
                  · rw [if_pos c2]
                  · rw [if_neg c2]; omega
              generalize hX : (if mstr (cw s 0) m < s 160 (74 + m) + (9 - s 160 3) * k then mstr (cw s 0) m else s 160 (74 + m) + (9 - s 160 3) * k) = X at hfa hjm2
              have hXb : 0 ≤ X ∧ X ≤ mstr (cw s 0) m := by
                rw [← hX]
                split <;> omega
              have hl := Jc_lasting_eq (s := s) (f := X) (h := s 160 (54 + m)) (n := s 160 3) (by omega) (by omega) (by omega)
              have hl2 := fun u : jM => Md_lastsOf_eq (s := u) (f := X) (h := s 160 (54 + m)) (n := s 160 3) (by omega) (by omega) (by omega)
              have hlb := lst_b (f := X) (h := s 160 (54 + m)) (n := s 160 3) (by omega) (by omega) (by omega)
              by_cases hq : n < lst X (s 160 (54 + m)) (s 160 3)
              · have hst := hst 0
                rw [show cw (jup (jup (jup s 0 0 0) 155 1 0) 155 0 0) 0 = cw s 0 from cw_u0 (w := 0) hb (EX.rf _ _)] at hst
                refine ⟨k, 0, Or.inl rfl, ?_, ?_⟩
                · rw [Jc_waits_60]
                  simp (disch := omega) only [↓jb_m, ↓jm_s, ↓reduceIte, t_lt, t_nlt, t_le, t_nle, t_eq, t_neq, w32_id, w64_id, jb_s, and_true, true_and, and_self, and_false, false_and, or_true, true_or, or_false, false_or, or_self, not_false_eq_true, not_true_eq_false, u_ne, u_eq, u_u, Int.reduceAdd, Int.reduceSub, Int.reduceMul, Int.reduceNeg, Int.zero_add, Int.add_zero, n15, n16, q10, q11, q12, q13, q14, hj, eh, hfa, f0, hl, Jc_answer]
                · rw [Md_waits_59]
                  simp (disch := omega) only [↓jb_m, ↓jm_s, ↓reduceIte, t_lt, t_nlt, t_le, t_nle, t_eq, t_neq, w32_id, w64_id, jb_s, and_true, true_and, and_self, and_false, false_and, or_true, true_or, or_false, false_or, or_self, not_false_eq_true, not_true_eq_false, u_ne, u_eq, u_u, Int.reduceAdd, Int.reduceSub, Int.reduceMul, Int.reduceNeg, Int.zero_add, Int.add_zero, n15, n16, q10, q11, q12, q13, q14, hst, hjm2, hl2]
              · obtain ⟨r, w, hw, a1, a2⟩ := ih (k + 1) (by omega) (by omega) (by omega)
                have hst := hst w
                rw [show cw (jup (jup (jup s 0 0 w) 155 1 0) 155 0 0) 0 = cw s 0 from cw_u0 (w := w) hb (EX.rf _ _)] at hst
                refine ⟨r, w, hw, ?_, ?_⟩
                · rw [Jc_waits_60]
                  simp (disch := omega) only [↓jb_m, ↓jm_s, ↓reduceIte, t_lt, t_nlt, t_le, t_nle, t_eq, t_neq, w32_id, w64_id, jb_s, and_true, true_and, and_self, and_false, false_and, or_true, true_or, or_false, false_or, or_self, not_false_eq_true, not_true_eq_false, u_ne, u_eq, u_u, Int.reduceAdd, Int.reduceSub, Int.reduceMul, Int.reduceNeg, Int.zero_add, Int.add_zero, n15, n16, q10, q11, q12, q13, q14, hj, eh, hfa, f0, hl, Jc_answer]
                  exact a1
                · rw [Md_waits_59]
                  simp (disch := omega) only [↓jb_m, ↓jm_s, ↓reduceIte, t_lt, t_nlt, t_le, t_nle, t_eq, t_neq, w32_id, w64_id, jb_s, and_true, true_and, and_self, and_false, false_and, or_true, true_or, or_false, false_or, or_self, not_false_eq_true, not_true_eq_false, u_ne, u_eq, u_u, Int.reduceAdd, Int.reduceSub, Int.reduceMul, Int.reduceNeg, Int.zero_add, Int.add_zero, n15, n16, q10, q11, q12, q13, q14, hst, hjm2, hl2]
                  exact a2
            · refine ⟨-1, 8, Or.inr rfl, ?_, ?_⟩
              · rw [Jc_waits_60]
                simp (disch := omega) only [↓jb_m, ↓jm_s, ↓reduceIte, t_lt, t_nlt, t_le, t_nle, t_eq, t_neq, w32_id, w64_id, jb_s, and_true, true_and, and_self, and_false, false_and, or_true, true_or, or_false, false_or, or_self, not_false_eq_true, not_true_eq_false, u_ne, u_eq, u_u, Int.reduceAdd, Int.reduceSub, Int.reduceMul, Int.reduceNeg, Int.zero_add, Int.add_zero, n15, n16, q10, q11, q12, q13, q14, Jc_refuse]
              · rw [Md_waits_59]
                simp (disch := omega) only [↓jb_m, ↓jm_s, ↓reduceIte, t_lt, t_nlt, t_le, t_nle, t_eq, t_neq, w32_id, w64_id, jb_s, and_true, true_and, and_self, and_false, false_and, or_true, true_or, or_false, false_or, or_self, not_false_eq_true, not_true_eq_false, u_ne, u_eq, u_u, Int.reduceAdd, Int.reduceSub, Int.reduceMul, Int.reduceNeg, Int.zero_add, Int.add_zero, n15, n16, q10, q11, q12, q13, q14, Md_refuse]
        obtain ⟨r, w, hw, a1, a2⟩ := key jFU 0 (by omega) (by omega) (by unfold jFU; omega)
        have hp := hp w
        rw [show cw (jup (jup (jup s 0 0 w) 155 1 0) 155 0 0) 0 = cw s 0 from cw_u0 (w := w) hb (EX.rf _ _)] at hp
        refine OKc.no (w := w) (r := r) h ?_ ?_
        · simp (disch := omega) only [↓jb_m, ↓jm_s, ↓reduceIte, t_lt, t_nlt, t_le, t_nle, t_eq, t_neq, w32_id, w64_id, jb_s, and_true, true_and, and_self, and_false, false_and, or_true, true_or, or_false, false_or, or_self, not_false_eq_true, not_true_eq_false, u_ne, u_eq, u_u, Int.reduceAdd, Int.reduceSub, Int.reduceMul, Int.reduceNeg, Int.zero_add, Int.add_zero, n15, n16, q10, q11, q12, q13, q14, Jc_waits, Mo_canBeTurnedOut, f1, f3, f6, a1, Jc_answer, Jc_refuse, Jc_deny, Jc_grant, Se_isMould, Se_isStuff, Se_isPlace, hj]
        · simp (disch := omega) only [↓jb_m, ↓jm_s, ↓reduceIte, t_lt, t_nlt, t_le, t_nle, t_eq, t_neq, w32_id, w64_id, jb_s, and_true, true_and, and_self, and_false, false_and, or_true, true_or, or_false, false_or, or_self, not_false_eq_true, not_true_eq_false, u_ne, u_eq, u_u, Int.reduceAdd, Int.reduceSub, Int.reduceMul, Int.reduceNeg, Int.zero_add, Int.add_zero, n15, n16, q10, q11, q12, q13, q14, Md_waits, Md_isReady, hp, a2, Md_isMouldAt, Md_isStuffAt, Md_isPlaceAt, Md_isTray, Md_isIn_1, Md_isIn_0, Md_refuse, Md_no]
      · have hp := hp 9
        rw [show cw (jup (jup (jup s 0 0 9) 155 1 0) 155 0 0) 0 = cw s 0 from cw_u0 (w := 9) hb (EX.rf _ _)] at hp
        rcases (by omega : ¬ s 160 (69 + m) = 1 ∨ (s 160 (69 + m) = 1 ∧ ¬ mcnt (cw s 0) m = s 160 (59 + m))) with q | q
        · exact OKc.no (w := 9) (r := -1) h (by simp (disch := omega) only [↓jb_m, ↓jm_s, ↓reduceIte, t_lt, t_nlt, t_le, t_nle, t_eq, t_neq, w32_id, w64_id, jb_s, and_true, true_and, and_self, and_false, false_and, or_true, true_or, or_false, false_or, or_self, not_false_eq_true, not_true_eq_false, u_ne, u_eq, u_u, Int.reduceAdd, Int.reduceSub, Int.reduceMul, Int.reduceNeg, Int.zero_add, Int.add_zero, n15, n16, q10, q11, q12, q13, q14, Jc_waits, Mo_canBeTurnedOut, f1, f3, f6, Jc_answer, Jc_refuse, Jc_deny, Jc_grant, Se_isMould, Se_isStuff, Se_isPlace, hj]) (by simp (disch := omega) only [↓jb_m, ↓jm_s, ↓reduceIte, t_lt, t_nlt, t_le, t_nle, t_eq, t_neq, w32_id, w64_id, jb_s, and_true, true_and, and_self, and_false, false_and, or_true, true_or, or_false, false_or, or_self, not_false_eq_true, not_true_eq_false, u_ne, u_eq, u_u, Int.reduceAdd, Int.reduceSub, Int.reduceMul, Int.reduceNeg, Int.zero_add, Int.add_zero, n15, n16, q10, q11, q12, q13, q14, Md_waits, Md_isReady, hp, Md_isMouldAt, Md_isStuffAt, Md_isPlaceAt, Md_isTray, Md_isIn_1, Md_isIn_0, Md_refuse, Md_no])
        · exact OKc.no (w := 9) (r := -1) h (by simp (disch := omega) only [↓jb_m, ↓jm_s, ↓reduceIte, t_lt, t_nlt, t_le, t_nle, t_eq, t_neq, w32_id, w64_id, jb_s, and_true, true_and, and_self, and_false, false_and, or_true, true_or, or_false, false_or, or_self, not_false_eq_true, not_true_eq_false, u_ne, u_eq, u_u, Int.reduceAdd, Int.reduceSub, Int.reduceMul, Int.reduceNeg, Int.zero_add, Int.add_zero, n15, n16, q10, q11, q12, q13, q14, Jc_waits, Mo_canBeTurnedOut, f1, f3, f6, Jc_answer, Jc_refuse, Jc_deny, Jc_grant, Se_isMould, Se_isStuff, Se_isPlace, hj]) (by simp (disch := omega) only [↓jb_m, ↓jm_s, ↓reduceIte, t_lt, t_nlt, t_le, t_nle, t_eq, t_neq, w32_id, w64_id, jb_s, and_true, true_and, and_self, and_false, false_and, or_true, true_or, or_false, false_or, or_self, not_false_eq_true, not_true_eq_false, u_ne, u_eq, u_u, Int.reduceAdd, Int.reduceSub, Int.reduceMul, Int.reduceNeg, Int.zero_add, Int.add_zero, n15, n16, q10, q11, q12, q13, q14, Md_waits, Md_isReady, hp, Md_isMouldAt, Md_isStuffAt, Md_isPlaceAt, Md_isTray, Md_isIn_1, Md_isIn_0, Md_refuse, Md_no])
    · rcases (by omega : n < 0 ∨ 99 < n) with q | q
      · exact OKc.no (w := 5) (r := -1) h (by simp (disch := omega) only [↓jb_m, ↓jm_s, ↓reduceIte, t_lt, t_nlt, t_le, t_nle, t_eq, t_neq, w32_id, w64_id, jb_s, and_true, true_and, and_self, and_false, false_and, or_true, true_or, or_false, false_or, or_self, not_false_eq_true, not_true_eq_false, u_ne, u_eq, u_u, Int.reduceAdd, Int.reduceSub, Int.reduceMul, Int.reduceNeg, Int.zero_add, Int.add_zero, n15, n16, q10, q11, q12, q13, q14, Jc_waits, Jc_answer, Jc_refuse, Jc_deny, Jc_grant, Se_isMould, Se_isStuff, Se_isPlace, hj]) (by simp (disch := omega) only [↓jb_m, ↓jm_s, ↓reduceIte, t_lt, t_nlt, t_le, t_nle, t_eq, t_neq, w32_id, w64_id, jb_s, and_true, true_and, and_self, and_false, false_and, or_true, true_or, or_false, false_or, or_self, not_false_eq_true, not_true_eq_false, u_ne, u_eq, u_u, Int.reduceAdd, Int.reduceSub, Int.reduceMul, Int.reduceNeg, Int.zero_add, Int.add_zero, n15, n16, q10, q11, q12, q13, q14, Md_waits, Md_isMouldAt, Md_isStuffAt, Md_isPlaceAt, Md_isTray, Md_isIn_1, Md_isIn_0, Md_refuse, Md_no])
      · exact OKc.no (w := 5) (r := -1) h (by simp (disch := omega) only [↓jb_m, ↓jm_s, ↓reduceIte, t_lt, t_nlt, t_le, t_nle, t_eq, t_neq, w32_id, w64_id, jb_s, and_true, true_and, and_self, and_false, false_and, or_true, true_or, or_false, false_or, or_self, not_false_eq_true, not_true_eq_false, u_ne, u_eq, u_u, Int.reduceAdd, Int.reduceSub, Int.reduceMul, Int.reduceNeg, Int.zero_add, Int.add_zero, n15, n16, q10, q11, q12, q13, q14, Jc_waits, Jc_answer, Jc_refuse, Jc_deny, Jc_grant, Se_isMould, Se_isStuff, Se_isPlace, hj]) (by simp (disch := omega) only [↓jb_m, ↓jm_s, ↓reduceIte, t_lt, t_nlt, t_le, t_nle, t_eq, t_neq, w32_id, w64_id, jb_s, and_true, true_and, and_self, and_false, false_and, or_true, true_or, or_false, false_or, or_self, not_false_eq_true, not_true_eq_false, u_ne, u_eq, u_u, Int.reduceAdd, Int.reduceSub, Int.reduceMul, Int.reduceNeg, Int.zero_add, Int.add_zero, n15, n16, q10, q11, q12, q13, q14, Md_waits, Md_isMouldAt, Md_isStuffAt, Md_isPlaceAt, Md_isTray, Md_isIn_1, Md_isIn_0, Md_refuse, Md_no])
  · rcases (by omega : m < 0 ∨ s 160 2 ≤ m) with q | q
    · exact OKc.no (w := 2) (r := -1) h (by simp (disch := omega) only [↓jb_m, ↓jm_s, ↓reduceIte, t_lt, t_nlt, t_le, t_nle, t_eq, t_neq, w32_id, w64_id, jb_s, and_true, true_and, and_self, and_false, false_and, or_true, true_or, or_false, false_or, or_self, not_false_eq_true, not_true_eq_false, u_ne, u_eq, u_u, Int.reduceAdd, Int.reduceSub, Int.reduceMul, Int.reduceNeg, Int.zero_add, Int.add_zero, n15, n16, q10, q11, q12, q13, q14, Jc_waits, Jc_answer, Jc_refuse, Jc_deny, Jc_grant, Se_isMould, Se_isStuff, Se_isPlace, hj]) (by simp (disch := omega) only [↓jb_m, ↓jm_s, ↓reduceIte, t_lt, t_nlt, t_le, t_nle, t_eq, t_neq, w32_id, w64_id, jb_s, and_true, true_and, and_self, and_false, false_and, or_true, true_or, or_false, false_or, or_self, not_false_eq_true, not_true_eq_false, u_ne, u_eq, u_u, Int.reduceAdd, Int.reduceSub, Int.reduceMul, Int.reduceNeg, Int.zero_add, Int.add_zero, n15, n16, q10, q11, q12, q13, q14, Md_waits, Md_isMouldAt, Md_isStuffAt, Md_isPlaceAt, Md_isTray, Md_isIn_1, Md_isIn_0, Md_refuse, Md_no])
    · exact OKc.no (w := 2) (r := -1) h (by simp (disch := omega) only [↓jb_m, ↓jm_s, ↓reduceIte, t_lt, t_nlt, t_le, t_nle, t_eq, t_neq, w32_id, w64_id, jb_s, and_true, true_and, and_self, and_false, false_and, or_true, true_or, or_false, false_or, or_self, not_false_eq_true, not_true_eq_false, u_ne, u_eq, u_u, Int.reduceAdd, Int.reduceSub, Int.reduceMul, Int.reduceNeg, Int.zero_add, Int.add_zero, n15, n16, q10, q11, q12, q13, q14, Jc_waits, Jc_answer, Jc_refuse, Jc_deny, Jc_grant, Se_isMould, Se_isStuff, Se_isPlace, hj]) (by simp (disch := omega) only [↓jb_m, ↓jm_s, ↓reduceIte, t_lt, t_nlt, t_le, t_nle, t_eq, t_neq, w32_id, w64_id, jb_s, and_true, true_and, and_self, and_false, false_and, or_true, true_or, or_false, false_or, or_self, not_false_eq_true, not_true_eq_false, u_ne, u_eq, u_u, Int.reduceAdd, Int.reduceSub, Int.reduceMul, Int.reduceNeg, Int.zero_add, Int.add_zero, n15, n16, q10, q11, q12, q13, q14, Md_waits, Md_isMouldAt, Md_isStuffAt, Md_isPlaceAt, Md_isTray, Md_isIn_1, Md_isIn_0, Md_refuse, Md_no])
theorem lst_t {f h n t : Int} (hf : h ≤ f) (hn : 0 ≤ n) (ht : 0 ≤ t ∧ t ≤ 300) : f - n * t < h ↔ lst f h n ≤ t := by
  unfold lst
  rw [if_neg (by omega)]
  by_cases q : n ≤ 0
  · have : n = 0 := by omega
    subst this
    rw [if_pos q, Int.zero_mul]
    omega
  · rw [if_neg q]
    have := Int.le_ediv_iff_mul_le (a := t) (b := f - h) (c := n) (by omega)
    rw [Int.mul_comm n t]
    omega
/-- when the last one falls -/
theorem last_at {s : jM} (h : INV s) : ∃ L, 0 ≤ L ∧ Jc_fallIn 0 s = some (if L ≤ 300 then L else -1, jup s 0 0 (if L ≤ 300 then 0 else 8)) ∧ (∀ i, 0 ≤ i → i < s 160 2 → s 160 (69 + i) = 2 → lst (s 160 (74 + i)) (s 160 (54 + i)) (s 160 3) ≤ L) ∧ (L = 0 ∨ ∃ i, 0 ≤ i ∧ i < s 160 2 ∧ s 160 (69 + i) = 2 ∧ lst (s 160 (74 + i)) (s 160 (54 + i)) (s 160 3) = L) := by
  obtain ⟨hb, hj, hj2, -⟩ := h.b
  have hse := h.2.2.2.2.2.1.1
  obtain ⟨e6, c2⟩ := hd2 hse
  obtain ⟨eh, ch⟩ := hdh hse
  have key : ∀ (n : Nat) (x k : Int), 0 ≤ x → x ≤ 1000000 → 0 ≤ k → k ≤ s 160 2 → (s 160 2 - k).toNat < n → ∃ L, x ≤ L ∧ Jc_fallIn_4 n 0 x k s = some (if L ≤ 300 then L else -1, jup s 0 0 (if L ≤ 300 then 0 else 8)) ∧ (∀ i, k ≤ i → i < s 160 2 → s 160 (69 + i) = 2 → lst (s 160 (74 + i)) (s 160 (54 + i)) (s 160 3) ≤ L) ∧ (L = x ∨ ∃ i, k ≤ i ∧ i < s 160 2 ∧ s 160 (69 + i) = 2 ∧ lst (s 160 (74 + i)) (s 160 (54 + i)) (s 160 3) = L) := by
    intro n
    induction n with
    | zero => intro x k h1 h2 h3 h4 h5; omega
    | succ n ih =>
      intro x k h1 h2 h3 h4 h5
      by_cases hk : k < s 160 2
      · obtain ⟨m5, ⟨f0, f1, f2, f3, f4, f5, f6, f7⟩, -, -, fb, g0, g1, g2⟩ := mo_at hse ⟨h3, hk⟩
        have hl := Jc_lasting_eq (s := s) (f := s 160 (74 + k)) (h := s 160 (54 + k)) (n := s 160 3) (by omega) (by omega) (by omega)
        have hlb := lst_b (f := s 160 (74 + k)) (h := s 160 (54 + k)) (n := s 160 3) (by omega) (by omega) (by omega)
        by_cases hs : s 160 (69 + k) = 2
        · have hjm := jmax_e (a := x) (b := lst (s 160 (74 + k)) (s 160 (54 + k)) (s 160 3)) ⟨by omega, by omega⟩ ⟨by omega, by omega⟩
          by_cases hx : x < lst (s 160 (74 + k)) (s 160 (54 + k)) (s 160 3)
          · rw [if_pos hx] at hjm
            obtain ⟨L, a1, a2, a3, a4⟩ := ih (lst (s 160 (74 + k)) (s 160 (54 + k)) (s 160 3)) (k + 1) (by omega) (by omega) (by omega) (by omega) (by omega)
            refine ⟨L, by omega, ?_, fun i i1 i2 i3 => ?_, ?_⟩
            · simp (disch := omega) only [↓jb_m, ↓jm_s, ↓reduceIte, t_lt, t_nlt, t_le, t_nle, t_eq, t_neq, w32_id, w64_id, jb_s, and_true, true_and, and_self, and_false, false_and, or_true, true_or, or_false, false_or, or_self, not_false_eq_true, not_true_eq_false, u_ne, u_eq, u_u, Int.reduceAdd, Int.reduceSub, Int.reduceMul, Int.reduceNeg, Int.zero_add, Int.add_zero, n15, n16, q10, q11, q12, q13, q14, Jc_fallIn_4, hj, e6, f3, f4, f0, eh, hl, hjm]
              exact a2
            · by_cases e : i = k
              · subst e; exact a1
              · exact a3 i (by omega) i2 i3
            · rcases a4 with a4 | ⟨i, i1, i2, i3, i4⟩
              · exact Or.inr ⟨k, by omega, hk, hs, a4.symm⟩
              · exact Or.inr ⟨i, by omega, i2, i3, i4⟩
          · rw [if_neg hx] at hjm
            obtain ⟨L, a1, a2, a3, a4⟩ := ih x (k + 1) (by omega) (by omega) (by omega) (by omega) (by omega)
            refine ⟨L, by omega, ?_, fun i i1 i2 i3 => ?_, ?_⟩
            · simp (disch := omega) only [↓jb_m, ↓jm_s, ↓reduceIte, t_lt, t_nlt, t_le, t_nle, t_eq, t_neq, w32_id, w64_id, jb_s, and_true, true_and, and_self, and_false, false_and, or_true, true_or, or_false, false_or, or_self, not_false_eq_true, not_true_eq_false, u_ne, u_eq, u_u, Int.reduceAdd, Int.reduceSub, Int.reduceMul, Int.reduceNeg, Int.zero_add, Int.add_zero, n15, n16, q10, q11, q12, q13, q14, Jc_fallIn_4, hj, e6, f3, f4, f0, eh, hl, hjm]
              exact a2
            · by_cases e : i = k
              · subst e; omega
              · exact a3 i (by omega) i2 i3
            · rcases a4 with a4 | ⟨i, i1, i2, i3, i4⟩
              · exact Or.inl a4
              · exact Or.inr ⟨i, by omega, i2, i3, i4⟩
        · obtain ⟨L, a1, a2, a3, a4⟩ := ih x (k + 1) (by omega) (by omega) (by omega) (by omega) (by omega)
          refine ⟨L, by omega, ?_, fun i i1 i2 i3 => ?_, ?_⟩
          · simp (disch := omega) only [↓jb_m, ↓jm_s, ↓reduceIte, t_lt, t_nlt, t_le, t_nle, t_eq, t_neq, w32_id, w64_id, jb_s, and_true, true_and, and_self, and_false, false_and, or_true, true_or, or_false, false_or, or_self, not_false_eq_true, not_true_eq_false, u_ne, u_eq, u_u, Int.reduceAdd, Int.reduceSub, Int.reduceMul, Int.reduceNeg, Int.zero_add, Int.add_zero, n15, n16, q10, q11, q12, q13, q14, Jc_fallIn_4, hj, e6, f3, f4, f0, eh, hl]
            exact a2
          · by_cases e : i = k
            · subst e; exact absurd i3 hs
            · exact a3 i (by omega) i2 i3
          · rcases a4 with a4 | ⟨i, i1, i2, i3, i4⟩
            · exact Or.inl a4
            · exact Or.inr ⟨i, by omega, i2, i3, i4⟩
      · refine ⟨x, by omega, ?_, fun i i1 i2 i3 => by omega, Or.inl rfl⟩
        by_cases hx : x ≤ 300
        · simp (disch := omega) only [↓jb_m, ↓jm_s, ↓reduceIte, t_lt, t_nlt, t_le, t_nle, t_eq, t_neq, w32_id, w64_id, jb_s, and_true, true_and, and_self, and_false, false_and, or_true, true_or, or_false, false_or, or_self, not_false_eq_true, not_true_eq_false, u_ne, u_eq, u_u, Int.reduceAdd, Int.reduceSub, Int.reduceMul, Int.reduceNeg, Int.zero_add, Int.add_zero, n15, n16, q10, q11, q12, q13, q14, Jc_fallIn_4, Jc_answer, Jc_refuse, Jc_deny, Jc_grant, Se_isMould, Se_isStuff, Se_isPlace, hj]
        · simp (disch := omega) only [↓jb_m, ↓jm_s, ↓reduceIte, t_lt, t_nlt, t_le, t_nle, t_eq, t_neq, w32_id, w64_id, jb_s, and_true, true_and, and_self, and_false, false_and, or_true, true_or, or_false, false_or, or_self, not_false_eq_true, not_true_eq_false, u_ne, u_eq, u_u, Int.reduceAdd, Int.reduceSub, Int.reduceMul, Int.reduceNeg, Int.zero_add, Int.add_zero, n15, n16, q10, q11, q12, q13, q14, Jc_fallIn_4, Jc_answer, Jc_refuse, Jc_deny, Jc_grant, Se_isMould, Se_isStuff, Se_isPlace, hj]
  exact key jFU 0 0 (by omega) (by omega) (by omega) (by omega) (by unfold jFU; omega)
theorem fallIn_key {s U : jM} {L : Int} (h : INV s) (hL : 0 ≤ L) (hL1 : ∀ i, 0 ≤ i → i < s 160 2 → s 160 (69 + i) = 2 → lst (s 160 (74 + i)) (s 160 (54 + i)) (s 160 3) ≤ L) (hL2 : L = 0 ∨ ∃ i, 0 ≤ i ∧ i < s 160 2 ∧ s 160 (69 + i) = 2 ∧ lst (s 160 (74 + i)) (s 160 (54 + i)) (s 160 3) = L) (z2 : U 160 2 = s 160 2) (z3 : U 160 3 = s 160 3) : ∀ (k f : Nat) (t : Int) (u : jM) (z : Int), 0 ≤ t → t + k = (if L ≤ 300 then L else 301) → k + 2 < f → iSe (jup (RS (vw s (s 0 5)) ((9 - s 160 3) * t) (s 160 3 * t) (s 160 2)) 0 2 z) (cw u 0) → EX gdz U u → ∃ v, EX gdz U v ∧ Md_fallIn_18 f 155 (-1) t u = Md_fallIn_49 155 (if L ≤ 300 then L else -1) v := by
  obtain ⟨hb, hj, hj2, -⟩ := h.b
  have hse := h.2.2.2.2.2.1.1
  obtain ⟨e6, c2⟩ := hd2 hse
  obtain ⟨eh, ch⟩ := hdh hse
  have hmo := fun i (h1 : 0 ≤ i) (h2 : i < s 160 2) => mo_at hse ⟨h1, h2⟩
  intro k
  induction k with
  | zero =>
    intro f t u z h1 h2 h3 h4 h5
    obtain ⟨f, rfl⟩ : ∃ g, f = g + 2 := ⟨f - 2, by omega⟩
    by_cases hq : L ≤ 300
    · rw [if_pos hq] at h2 ⊢
      have ht : t = L := by omega
      subst ht
      obtain ⟨A, a1, a3, a2⟩ := areIn_0 h4
      have hA : A = 0 := a2.mpr (fun i i1 i2 i3 => by
        rw [h5 160 2 (by unfold gdz; omega), z2] at i2
        have e := (mo_V h4 (m := i) ⟨i1, by rw [h5 160 2 (by unfold gdz; omega), z2]; exact i2⟩).2.1.2.2.2.1
        rw [u_ne (by omega), RS_o (by omega) (by omega), show vw s (s 0 5) (15 + 2 * i) = s (s 0 5 + (15 + 2 * i)) from funext fun j => vw_at (by omega)] at e
        obtain ⟨m5, ⟨f0, f1, f2, f3, f4, f5, f6, f7⟩, -, -, fb, g0, g1, g2⟩ := hmo i i1 i2
        rcases (by omega : s 160 (69 + i) = 1 ∨ s 160 (69 + i) = 2 ∨ s 160 (69 + i) = 0) with q | q | q
        · rw [rO_1 (by omega), if_neg (by omega)] at e; omega
        · have := (lst_t (f := s 160 (74 + i)) (h := s 160 (54 + i)) (n := s 160 3) (t := t) (by omega) (by omega) ⟨h1, hq⟩).mpr (hL1 i i1 i2 q)
          rw [rO_2 (by omega) (by omega), if_pos (by omega)] at e
          omega
        · rw [rO_0 (by omega) (by omega)] at e; omega)
      obtain ⟨v, b1, b2, b3, b4⟩ := gm_one h4
      refine ⟨v, h5.tr b2, ?_⟩
      rw [hA] at a1
      rw [Md_fallIn_18]
      simp (disch := omega) only [↓jb_m, ↓jm_s, ↓reduceIte, t_lt, t_nlt, t_le, t_nle, t_eq, t_neq, w32_id, w64_id, jb_s, and_true, true_and, and_self, and_false, false_and, or_true, true_or, or_false, false_or, or_self, not_false_eq_true, not_true_eq_false, u_ne, u_eq, u_u, Int.reduceAdd, Int.reduceSub, Int.reduceMul, Int.reduceNeg, Int.zero_add, Int.add_zero, n15, n16, q10, q11, q12, q13, q14, a1, b1]
      rw [Md_fallIn_18]
      by_cases hq2 : 300 < t + 1
      · simp (disch := omega) only [↓jb_m, ↓jm_s, ↓reduceIte, t_lt, t_nlt, t_le, t_nle, t_eq, t_neq, w32_id, w64_id, jb_s, and_true, true_and, and_self, and_false, false_and, or_true, true_or, or_false, false_or, or_self, not_false_eq_true, not_true_eq_false, u_ne, u_eq, u_u, Int.reduceAdd, Int.reduceSub, Int.reduceMul, Int.reduceNeg, Int.zero_add, Int.add_zero, n15, n16, q10, q11, q12, q13, q14]
      · simp (disch := omega) only [↓jb_m, ↓jm_s, ↓reduceIte, t_lt, t_nlt, t_le, t_nle, t_eq, t_neq, w32_id, w64_id, jb_s, and_true, true_and, and_self, and_false, false_and, or_true, true_or, or_false, false_or, or_self, not_false_eq_true, not_true_eq_false, u_ne, u_eq, u_u, Int.reduceAdd, Int.reduceSub, Int.reduceMul, Int.reduceNeg, Int.zero_add, Int.add_zero, n15, n16, q10, q11, q12, q13, q14]
    · rw [if_neg hq] at h2 ⊢
      have ht : t = 301 := by omega
      subst ht
      refine ⟨u, h5, ?_⟩
      rw [Md_fallIn_18]
      simp (disch := omega) only [↓jb_m, ↓jm_s, ↓reduceIte, t_lt, t_nlt, t_le, t_nle, t_eq, t_neq, w32_id, w64_id, jb_s, and_true, true_and, and_self, and_false, false_and, or_true, true_or, or_false, false_or, or_self, not_false_eq_true, not_true_eq_false, u_ne, u_eq, u_u, Int.reduceAdd, Int.reduceSub, Int.reduceMul, Int.reduceNeg, Int.zero_add, Int.add_zero, n15, n16, q10, q11, q12, q13, q14]
  | succ k ih =>
    intro f t u z h1 h2 h3 h4 h5
    obtain ⟨f, rfl⟩ : ∃ g, f = g + 1 := ⟨f - 1, by omega⟩
    have ht : t < L ∧ t ≤ 300 := by
      by_cases hq : L ≤ 300
      · rw [if_pos hq] at h2; omega
      · rw [if_neg hq] at h2; omega
    obtain ⟨A, a1, a3, a2⟩ := areIn_0 h4
    have hA : ¬ A = 0 := fun hA => by
      rcases hL2 with q | ⟨i, i1, i2, i3, i4⟩
      · omega
      · have := a2.mp hA i i1 (by rw [h5 160 2 (by unfold gdz; omega), z2]; exact i2)
        have e := (mo_V h4 (m := i) ⟨i1, by rw [h5 160 2 (by unfold gdz; omega), z2]; exact i2⟩).2.1.2.2.2.1
        rw [u_ne (by omega), RS_o (by omega) (by omega), show vw s (s 0 5) (15 + 2 * i) = s (s 0 5 + (15 + 2 * i)) from funext fun j => vw_at (by omega)] at e
        obtain ⟨m5, ⟨f0, f1, f2, f3, f4, f5, f6, f7⟩, -, -, fb, g0, g1, g2⟩ := hmo i i1 i2
        have hlt := (lst_t (f := s 160 (74 + i)) (h := s 160 (54 + i)) (n := s 160 3) (t := t) (by omega) (by omega) ⟨h1, ht.2⟩)
        rw [rO_3 (by omega) (by omega), if_neg (by omega)] at e
        omega
    unfold i32 at a3
    obtain ⟨v, b1, b2, b3, b4⟩ := gm_one h4
    rw [h5 160 3 (by unfold gdz; omega), h5 160 2 (by unfold gdz; omega), z2, z3, RS_jup, RS_RS (by omega) (by omega), u_u] at b3
    obtain ⟨v', c1, c2'⟩ := ih f (t + 1) v _ (by omega) (by omega) (by omega) (by
      rw [show (9 - s 160 3) * (t + 1) = (9 - s 160 3) * t + (9 - s 160 3) by rw [Int.mul_add]; omega, show s 160 3 * (t + 1) = s 160 3 * t + s 160 3 by rw [Int.mul_add]; omega]
      exact b3) (h5.tr b2)
    refine ⟨v', c1, ?_⟩
    rw [Md_fallIn_18]
    simp (disch := omega) only [↓jb_m, ↓jm_s, ↓reduceIte, t_lt, t_nlt, t_le, t_nle, t_eq, t_neq, w32_id, w64_id, jb_s, and_true, true_and, and_self, and_false, false_and, or_true, true_or, or_false, false_or, or_self, not_false_eq_true, not_true_eq_false, u_ne, u_eq, u_u, Int.reduceAdd, Int.reduceSub, Int.reduceMul, Int.reduceNeg, Int.zero_add, Int.add_zero, n15, n16, q10, q11, q12, q13, q14, a1, b1]
    exact c2'
theorem fallIn_ref {s U v : jM} {w L : Int} (hUe : jcp (jup (jup (jup s 0 0 w) 155 1 0) 155 0 0) 160 0 161 0 109 = U) (hba : EX (fun a _ => a = 161) (jup (jup (jup s 0 0 w) 155 1 0) 155 0 0) (jcp v 161 0 160 0 109)) (hw : (if L ≤ 300 then (0 : Int) else 8) = w) (hL : 0 ≤ L) (v2 : Md_fallIn_18 jFU 155 (-1) 0 U = Md_fallIn_49 155 (if L ≤ 300 then L else -1) v) : Md_fallIn 155 (jup s 0 0 w) = some (if L ≤ 300 then L else -1, jup (jcp v 161 0 160 0 109) 155 0 w) := by
  have e1 : Md_fallIn 155 (jup s 0 0 w) = Md_fallIn_49 155 (if L ≤ 300 then L else -1) v := by
    rw [Md_fallIn, puts_eq, jb_s]
    show Md_fallIn_18 jFU 155 (-1) 0 (jcp (jup (jup (jup s 0 0 w) 155 1 0) 155 0 0) 160 0 161 0 109) = _
    rw [hUe]
    exact v2
  rw [e1]
  clear e1 v2
  by_cases hq : L ≤ 300
  · rw [if_pos hq] at hw ⊢
    subst hw
    have e0 : jcp v 161 0 160 0 109 155 0 = 0 := by rw [hba 155 0 (by omega)]; simp (disch := omega) only [↓jb_m, ↓jm_s, ↓reduceIte, t_lt, t_nlt, t_le, t_nle, t_eq, t_neq, w32_id, w64_id, jb_s, and_true, true_and, and_self, and_false, false_and, or_true, true_or, or_false, false_or, or_self, not_false_eq_true, not_true_eq_false, u_ne, u_eq, u_u, Int.reduceAdd, Int.reduceSub, Int.reduceMul, Int.reduceNeg, Int.zero_add, Int.add_zero, n15, n16, q10, q11, q12, q13, q14]
    rw [jup_id e0]
    simp (disch := omega) only [↓jb_m, ↓jm_s, ↓reduceIte, t_lt, t_nlt, t_le, t_nle, t_eq, t_neq, w32_id, w64_id, jb_s, and_true, true_and, and_self, and_false, false_and, or_true, true_or, or_false, false_or, or_self, not_false_eq_true, not_true_eq_false, u_ne, u_eq, u_u, Int.reduceAdd, Int.reduceSub, Int.reduceMul, Int.reduceNeg, Int.zero_add, Int.add_zero, n15, n16, q10, q11, q12, q13, q14, Md_fallIn_49, gives_eq]
  · rw [if_neg hq] at hw ⊢
    subst hw
    simp (disch := omega) only [↓jb_m, ↓jm_s, ↓reduceIte, t_lt, t_nlt, t_le, t_nle, t_eq, t_neq, w32_id, w64_id, jb_s, and_true, true_and, and_self, and_false, false_and, or_true, true_or, or_false, false_or, or_self, not_false_eq_true, not_true_eq_false, u_ne, u_eq, u_u, Int.reduceAdd, Int.reduceSub, Int.reduceMul, Int.reduceNeg, Int.zero_add, Int.add_zero, n15, n16, q10, q11, q12, q13, q14, Md_fallIn_49, gives_eq, Md_refuse]
theorem fallIn_ok {s : jM} (h : INV s) : OKc s (Jc_fallIn 0) (Md_fallIn 155) := by
  obtain ⟨hb, hj, hj2, -⟩ := h.b
  have hse := h.2.2.2.2.2.1.1
  obtain ⟨e6, c2⟩ := hd2 hse
  obtain ⟨eh, ch⟩ := hdh hse
  obtain ⟨L, hL, hf, hL1, hL2⟩ := last_at h
  generalize hw : (if L ≤ 300 then (0 : Int) else 8) = w at hf
  have z160 : ∀ o, jcp (jup (jup (jup s 0 0 w) 155 1 0) 155 0 0) 160 0 161 0 109 160 o = s 160 o := fun o => by rw [c_out (by omega)]; simp (disch := omega) only [↓jb_m, ↓jm_s, ↓reduceIte, t_lt, t_nlt, t_le, t_nle, t_eq, t_neq, w32_id, w64_id, jb_s, and_true, true_and, and_self, and_false, false_and, or_true, true_or, or_false, false_or, or_self, not_false_eq_true, not_true_eq_false, u_ne, u_eq, u_u, Int.reduceAdd, Int.reduceSub, Int.reduceMul, Int.reduceNeg, Int.zero_add, Int.add_zero, n15, n16, q10, q11, q12, q13, q14]
  have z2 := z160 2
  have z3 := z160 3
  have hU : iSe (vw s (s 0 5)) (cw (jcp (jup (jup (jup s 0 0 w) 155 1 0) 155 0 0) 160 0 161 0 109) 0) := by
    rw [show cw (jcp (jup (jup (jup s 0 0 w) 155 1 0) 155 0 0) 160 0 161 0 109) 0 = cw s 0 from cw_congr (fun o _ _ => by rw [z160])]
    exact hse
  generalize hUe : jcp (jup (jup (jup s 0 0 w) 155 1 0) 155 0 0) 160 0 161 0 109 = U at hU z160 z2 z3
  obtain ⟨v, v1, v2⟩ := fallIn_key h hL hL1 hL2 z2 z3 (if L ≤ 300 then L else 301).toNat jFU 0 U (vw s (s 0 5) 0 2) (by omega) (by split <;> omega) (Nat.lt_of_lt_of_le (m := 400) (by split <;> omega) (jFU_ge (by decide))) (by
    rw [Int.mul_zero, Int.mul_zero, RS_00 hU ⟨by omega, by rw [cw_at (by omega), z2]; omega⟩, jup_id rfl]
    exact hU) (EX.rf _ _)
  rw [← hUe] at v1
  have hba := back_again v1
  refine OKc.scr (w := w) (r := if L ≤ 300 then L else -1) (v := jup (jcp v 161 0 160 0 109) 155 0 w) h hf (fallIn_ref hUe hba hw hL v2) ?_
  intro a b q
  by_cases e : a = 155 ∧ b = 0
  · rw [u_eq e, u_eq e]
  · rw [u_ne e, hba a b (by omega), u_ne e, u_ne e]
