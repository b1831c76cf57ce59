theorem copyC {s : jM} (h : INV s) {a : Int} (ha : 0 ≤ a ∧ a < 4) (hs : 0 ≤ s (2 + 2 * a) 1 ∧ s (2 + 2 * a) 1 ≤ 3) : ∀ (f : Nat) (k : Int) (u : jM), 0 ≤ k → k ≤ s 160 2 → (s 160 2 - k).toNat < f → (∀ x, x ≠ 2 + 2 * a + 1 → u x = s x) → ∃ t, Jc_copyFirm_43 f 0 a k u = some (s 160 2, jup t 0 0 0) ∧ (∀ x, x ≠ 2 + 2 * a + 1 → t x = s x) ∧ (∀ b, ¬ (k ≤ b ∧ b < s 160 2) → t (2 + 2 * a + 1) b = u (2 + 2 * a + 1) b) ∧ ∀ b, k ≤ b → b < s 160 2 → t (2 + 2 * a + 1) b = cutv (s (2 + 2 * a) 1) (s 160 (74 + b)) := by
  obtain ⟨hb, hj, hj2, -⟩ := h.b
  have hse := h.2.2.2.2.2.1.1
  obtain ⟨e6, c2⟩ := hd2 hse
  intro f
  induction f with
  | zero => intro k u h1 h2 h3; omega
  | succ f ih =>
    intro k u h1 h2 h3 hu
    have u0' : u 0 = s 0 := hu 0 (by omega)
    have ub : ∀ i, 0 ≤ i → u (s 0 5 + i) = s (s 0 5 + i) := fun i i1 => hu _ (by omega)
    have ub0 : u (s 0 5) = s (s 0 5) := hu _ (by omega)
    have ua : u (2 + 2 * a) = s (2 + 2 * a) := hu _ (by omega)
    by_cases hk : k < s 160 2
    · obtain ⟨m5, ⟨f0, f1, f2, f3, f4, f5, f6, f7⟩, -, -, fb, g0, g1, g2⟩ := mo_at hse ⟨h1, hk⟩
      have uf : u (s 0 5 + (15 + 2 * k)) 4 = s 160 (74 + k) := by rw [ub _ (by omega)]; exact f4
      have hp := Tr_put_eq (s := u) (x := 2 + 2 * a) (k := k) (v := s 160 (74 + k)) (by rw [ua]; exact hs) (by omega)
      rw [ua] at hp
      obtain ⟨t, t1, t2, t3, t4⟩ := ih (k + 1) (jup u (2 + 2 * a + 1) k (cutv (s (2 + 2 * a) 1) (s 160 (74 + k)))) (by omega) (by omega) (by omega) (fun x hx => by rw [jup_ne hx]; exact hu x hx)
      refine ⟨t, ?_, t2, fun b hb' => ?_, fun b b1 b2 => ?_⟩
      · rw [Jc_copyFirm_43]
        simp (disch := omega) only [↓jb_m, ↓jm_s, ↓reduceIte, t_lt, t_nlt, t_le, t_nle, t_eq, t_neq, w32_id, w64_id, jb_s, and_true, true_and, and_self, and_false, false_and, or_true, true_or, or_false, false_or, or_self, not_false_eq_true, not_true_eq_false, u_ne, u_eq, u_u, Int.reduceAdd, Int.reduceSub, Int.reduceMul, Int.reduceNeg, Int.zero_add, Int.add_zero, n15, n16, q10, q11, q12, q13, q14, u0', hj, ub0, e6, uf, hp]
        exact t1
      · rw [t3 b (by omega), u_ne (by omega)]
      · by_cases e : b = k
        · rw [t3 b (by omega), u_eq ⟨rfl, e⟩, e]
        · exact t4 b (by omega) b2
    · refine ⟨u, ?_, hu, fun b _ => rfl, fun b b1 b2 => by omega⟩
      rw [Jc_copyFirm_43]
      simp (disch := omega) only [↓jb_m, ↓jm_s, ↓reduceIte, t_lt, t_nlt, t_le, t_nle, t_eq, t_neq, w32_id, w64_id, jb_s, and_true, true_and, and_self, and_false, false_and, or_true, true_or, or_false, false_or, or_self, not_false_eq_true, not_true_eq_false, u_ne, u_eq, u_u, Int.reduceAdd, Int.reduceSub, Int.reduceMul, Int.reduceNeg, Int.zero_add, Int.add_zero, n15, n16, q10, q11, q12, q13, q14, u0', hj, ub0, e6, Jc_answer]
theorem copyR {s : jM} {a : Int} (ha : 0 ≤ a ∧ a < 4) (hn : 0 ≤ s 160 2 ∧ s 160 2 ≤ 5) (hm : s 160 2 ≤ s 157 a ∧ s 157 a ≤ 60) (hs : 0 ≤ s 156 a ∧ s 156 a ≤ 3) (hf : ∀ i, 0 ≤ i → i < s 160 2 → 0 ≤ s 160 (74 + i) ∧ s 160 (74 + i) ≤ 1000) : ∀ (f : Nat) (k : Int) (u : jM), 0 ≤ k → k ≤ s 160 2 → (s 160 2 - k).toNat < f → (∀ x y, x ≠ 158 → ¬ (x = 155 ∧ (y = 0 ∨ y = 1)) → u x y = s x y) → u 155 0 = 0 → ∃ t, Md_copyFirm_62 f 155 a k u = some (s 160 2, t) ∧ t 155 0 = 0 ∧ (∀ x y, x ≠ 158 → ¬ (x = 155 ∧ (y = 0 ∨ y = 1)) → t x y = s x y) ∧ (∀ b, ¬ (60 * a + k ≤ b ∧ b < 60 * a + s 160 2) → t 158 b = u 158 b) ∧ ∀ b, k ≤ b → b < s 160 2 → t 158 (60 * a + b) = cutv (s 156 a) (s 160 (74 + b)) := by
  intro f
  induction f with
  | zero => intro k u h1 h2 h3; omega
  | succ f ih =>
    intro k u h1 h2 h3 hu h0
    have e2 : u 160 2 = s 160 2 := hu _ _ (by omega) (by omega)
    have e7 : u 157 a = s 157 a := hu _ _ (by omega) (by omega)
    have e6 : u 156 a = s 156 a := hu _ _ (by omega) (by omega)
    have e4 : u 160 (74 + k) = s 160 (74 + k) := hu _ _ (by omega) (by omega)
    by_cases hk : k < s 160 2
    · have hfk := hf k h1 hk
      obtain ⟨t, t1, t0, t2, t3, t4⟩ := ih (k + 1) (jup (jup (jup u 155 1 0) 155 0 0) 158 (60 * a + k) (cutv (s 156 a) (s 160 (74 + k)))) (by omega) (by omega) (by omega) (fun x y hx hy => by rw [u_ne (by omega), u_ne (by omega), u_ne (by omega)]; exact hu x y hx hy) (by simp (disch := omega) only [↓jb_m, ↓jm_s, ↓reduceIte, t_lt, t_nlt, t_le, t_nle, t_eq, t_neq, w32_id, w64_id, jb_s, and_true, true_and, and_self, and_false, false_and, or_true, true_or, or_false, false_or, or_self, not_false_eq_true, not_true_eq_false, u_ne, u_eq, u_u, Int.reduceAdd, Int.reduceSub, Int.reduceMul, Int.reduceNeg, Int.zero_add, Int.add_zero, n15, n16, q10, q11, q12, q13, q14])
      refine ⟨t, ?_, t0, t2, fun b hb' => ?_, fun b b1 b2 => ?_⟩
      · rw [Md_copyFirm_62]
        simp (disch := omega) only [↓jb_m, ↓jm_s, ↓reduceIte, t_lt, t_nlt, t_le, t_nle, t_eq, t_neq, w32_id, w64_id, jb_s, and_true, true_and, and_self, and_false, false_and, or_true, true_or, or_false, false_or, or_self, not_false_eq_true, not_true_eq_false, u_ne, u_eq, u_u, Int.reduceAdd, Int.reduceSub, Int.reduceMul, Int.reduceNeg, Int.zero_add, Int.add_zero, n15, n16, q10, q11, q12, q13, q14, e2, e4, e6, e7, Md_write, Md_placed, Md_trayed, Md_cut_eq]
        exact t1
      · rw [t3 b (by omega), u_ne (by omega), u_ne (by omega), u_ne (by omega)]
      · by_cases e : b = k
        · rw [t3 _ (by omega), u_eq ⟨rfl, by rw [e]⟩, e]
        · exact t4 b (by omega) b2
    · refine ⟨u, ?_, h0, hu, fun b _ => rfl, fun b b1 b2 => by omega⟩
      rw [Md_copyFirm_62]
      simp (disch := omega) only [↓jb_m, ↓jm_s, ↓reduceIte, t_lt, t_nlt, t_le, t_nle, t_eq, t_neq, w32_id, w64_id, jb_s, and_true, true_and, and_self, and_false, false_and, or_true, true_or, or_false, false_or, or_self, not_false_eq_true, not_true_eq_false, u_ne, u_eq, u_u, Int.reduceAdd, Int.reduceSub, Int.reduceMul, Int.reduceNeg, Int.zero_add, Int.add_zero, n15, n16, q10, q11, q12, q13, q14, e2]
theorem copyFirm_ok {s : jM} (h : INV s) {a : Int} (ha : i32 a) : OKc s (Jc_copyFirm 0 a) (Md_copyFirm 155 a) := by
  unfold i32 at ha
  obtain ⟨hb, hj, hj2, -⟩ := h.b
  have hse := h.2.2.2.2.2.1.1
  obtain ⟨e6, c2⟩ := hd2 hse
  by_cases h1 : 0 ≤ a ∧ a < 4
  · rcases tr_at h h1 with ⟨t1, t2⟩ | ⟨t1, t2, t3, t4, t5, t6, t7, t8⟩
    · exact OKc.no (w := 3) (r := -1) h (by simp (disch := omega) only [↓jb_m, ↓jm_s, ↓reduceIte, t_lt, t_nlt, t_le, t_nle, t_eq, t_neq, w32_id, w64_id, jb_s, and_true, true_and, and_self, and_false, false_and, or_true, true_or, or_false, false_or, or_self, not_false_eq_true, not_true_eq_false, u_ne, u_eq, u_u, Int.reduceAdd, Int.reduceSub, Int.reduceMul, Int.reduceNeg, Int.zero_add, Int.add_zero, n15, n16, q10, q11, q12, q13, q14, Jc_copyFirm, Jc_trayTrouble, Jc_isTray, Jc_answer, Jc_refuse, Jc_deny, Jc_grant, Se_isMould, Se_isStuff, Se_isPlace, hj]) (by simp (disch := omega) only [↓jb_m, ↓jm_s, ↓reduceIte, t_lt, t_nlt, t_le, t_nle, t_eq, t_neq, w32_id, w64_id, jb_s, and_true, true_and, and_self, and_false, false_and, or_true, true_or, or_false, false_or, or_self, not_false_eq_true, not_true_eq_false, u_ne, u_eq, u_u, Int.reduceAdd, Int.reduceSub, Int.reduceMul, Int.reduceNeg, Int.zero_add, Int.add_zero, n15, n16, q10, q11, q12, q13, q14, Md_copyFirm, Md_isMouldAt, Md_isStuffAt, Md_isPlaceAt, Md_isTray, Md_isIn_1, Md_isIn_0, Md_refuse, Md_no])
    · by_cases h2 : s 157 a < s 160 2
      · exact OKc.no (w := 4) (r := -1) h (by simp (disch := omega) only [↓jb_m, ↓jm_s, ↓reduceIte, t_lt, t_nlt, t_le, t_nle, t_eq, t_neq, w32_id, w64_id, jb_s, and_true, true_and, and_self, and_false, false_and, or_true, true_or, or_false, false_or, or_self, not_false_eq_true, not_true_eq_false, u_ne, u_eq, u_u, Int.reduceAdd, Int.reduceSub, Int.reduceMul, Int.reduceNeg, Int.zero_add, Int.add_zero, n15, n16, q10, q11, q12, q13, q14, Jc_copyFirm, Jc_trayTrouble, Jc_isTray, e6, Jc_answer, Jc_refuse, Jc_deny, Jc_grant, Se_isMould, Se_isStuff, Se_isPlace, hj]) (by simp (disch := omega) only [↓jb_m, ↓jm_s, ↓reduceIte, t_lt, t_nlt, t_le, t_nle, t_eq, t_neq, w32_id, w64_id, jb_s, and_true, true_and, and_self, and_false, false_and, or_true, true_or, or_false, false_or, or_self, not_false_eq_true, not_true_eq_false, u_ne, u_eq, u_u, Int.reduceAdd, Int.reduceSub, Int.reduceMul, Int.reduceNeg, Int.zero_add, Int.add_zero, n15, n16, q10, q11, q12, q13, q14, Md_copyFirm, Md_isMouldAt, Md_isStuffAt, Md_isPlaceAt, Md_isTray, Md_isIn_1, Md_isIn_0, Md_refuse, Md_no])
      · have hmo := fun i (i1 : 0 ≤ i) (i2 : i < s 160 2) => mo_at hse ⟨i1, i2⟩
        have hf : ∀ i, 0 ≤ i → i < s 160 2 → 0 ≤ s 160 (74 + i) ∧ s 160 (74 + i) ≤ 1000 := fun i i1 i2 => by
          have := (hmo i i1 i2).2.2.2.2.1
          omega
        obtain ⟨t, c1, c2', c3, c4⟩ := copyC h h1 (by omega) jFU 0 s (by omega) (by omega) (by unfold jFU; omega) (fun x _ => rfl)
        have et : ∀ x, x ≠ 2 + 2 * a + 1 → t x = s x := c2'
        obtain ⟨U, hU⟩ : ∃ U, U = jup (jup (jup t 0 0 0) 155 1 0) 155 0 0 := ⟨_, rfl⟩
        have eU : ∀ x y, ¬ (x = 0 ∧ y = 0) → ¬ (x = 155 ∧ (y = 0 ∨ y = 1)) → U x y = t x y := fun x y q1 q2 => by rw [hU]; simp (disch := omega) only [↓jb_m, ↓jm_s, ↓reduceIte, t_lt, t_nlt, t_le, t_nle, t_eq, t_neq, w32_id, w64_id, jb_s, and_true, true_and, and_self, and_false, false_and, or_true, true_or, or_false, false_or, or_self, not_false_eq_true, not_true_eq_false, u_ne, u_eq, u_u, Int.reduceAdd, Int.reduceSub, Int.reduceMul, Int.reduceNeg, Int.zero_add, Int.add_zero, n15, n16, q10, q11, q12, q13, q14]
        have e160 : U 160 2 = s 160 2 := by rw [eU _ _ (by omega) (by omega), et _ (by omega)]
        have ef : ∀ i, 0 ≤ i → i < s 160 2 → U 160 (74 + i) = s 160 (74 + i) := fun i i1 i2 => by rw [eU _ _ (by omega) (by omega), et _ (by omega)]
        have e157 : U 157 a = s 157 a := by rw [eU _ _ (by omega) (by omega), et _ (by omega)]
        have e156 : U 156 a = s 156 a := by rw [eU _ _ (by omega) (by omega), et _ (by omega)]
        obtain ⟨v, d1, d0, d2, d3, d4⟩ := copyR (s := U) h1 (by omega) (by omega) (by omega) (fun i i1 i2 => by rw [ef i i1 (by omega)]; exact hf i i1 (by omega)) jFU 0 U (by omega) (by omega) (by unfold jFU; omega) (fun x y _ _ => rfl) (by rw [hU]; simp (disch := omega) only [↓jb_m, ↓jm_s, ↓reduceIte, t_lt, t_nlt, t_le, t_nle, t_eq, t_neq, w32_id, w64_id, jb_s, and_true, true_and, and_self, and_false, false_and, or_true, true_or, or_false, false_or, or_self, not_false_eq_true, not_true_eq_false, u_ne, u_eq, u_u, Int.reduceAdd, Int.reduceSub, Int.reduceMul, Int.reduceNeg, Int.zero_add, Int.add_zero, n15, n16, q10, q11, q12, q13, q14])
        rw [e160] at d1
        have hE : EX (tcl a) s v := fun x y q => by
          unfold tcl at q
          by_cases e : x = 158
          · subst e
            rw [d3 y (by omega), eU _ _ (by omega) (by omega), et _ (by omega)]
          · rw [d2 x y e (by omega), eU _ _ (by omega) (by omega), et _ (by omega)]
        have g0 : s 160 2 ≤ s 157 a := by omega
        refine ⟨s 160 2, jup t 0 0 0, v, ?_, ?_, INV_tr h (x := a) h1.1 h1.2 ?_ hE ?_, hE.tneg h1.1⟩
        · simp (disch := omega) only [↓jb_m, ↓jm_s, ↓reduceIte, t_lt, t_nlt, t_le, t_nle, t_eq, t_neq, w32_id, w64_id, jb_s, and_true, true_and, and_self, and_false, false_and, or_true, true_or, or_false, false_or, or_self, not_false_eq_true, not_true_eq_false, u_ne, u_eq, u_u, Int.reduceAdd, Int.reduceSub, Int.reduceMul, Int.reduceNeg, Int.zero_add, Int.add_zero, n15, n16, q10, q11, q12, q13, q14, Jc_copyFirm, Jc_trayTrouble, Jc_isTray, e6, hj]
          exact c1
        · have f1 : t 157 a = s 157 a := by rw [et _ (by omega)]
          have f2 : t 160 2 = s 160 2 := by rw [et _ (by omega)]
          simp (disch := omega) only [↓jb_m, ↓jm_s, ↓reduceIte, t_lt, t_nlt, t_le, t_nle, t_eq, t_neq, w32_id, w64_id, jb_s, and_true, true_and, and_self, and_false, false_and, or_true, true_or, or_false, false_or, or_self, not_false_eq_true, not_true_eq_false, u_ne, u_eq, u_u, Int.reduceAdd, Int.reduceSub, Int.reduceMul, Int.reduceNeg, Int.zero_add, Int.add_zero, n15, n16, q10, q11, q12, q13, q14, Md_copyFirm, Md_isTray, Md_isIn_1, f1, f2]
          rw [← hU]
          exact d1
        · rw [d0, d2 0 0 (by omega) (by omega), hU]
          simp (disch := omega) only [↓jb_m, ↓jm_s, ↓reduceIte, t_lt, t_nlt, t_le, t_nle, t_eq, t_neq, w32_id, w64_id, jb_s, and_true, true_and, and_self, and_false, false_and, or_true, true_or, or_false, false_or, or_self, not_false_eq_true, not_true_eq_false, u_ne, u_eq, u_u, Int.reduceAdd, Int.reduceSub, Int.reduceMul, Int.reduceNeg, Int.zero_add, Int.add_zero, n15, n16, q10, q11, q12, q13, q14]
        · refine Or.inr ⟨?_, ?_, ?_, ?_, ?_, ?_, ?_, fun k k1 k2 => ?_⟩
          · rw [d2 _ _ (by omega) (by omega), eU _ _ (by omega) (by omega), et _ (by omega)]; exact t1
          · rw [d2 _ _ (by omega) (by omega), d2 _ _ (by omega) (by omega), e157, eU _ _ (by omega) (by omega), et _ (by omega)]; exact t2
          · rw [d2 _ _ (by omega) (by omega), e157]; exact t3
          · rw [d2 _ _ (by omega) (by omega), e157]; exact t4
          · rw [d2 _ _ (by omega) (by omega), d2 _ _ (by omega) (by omega), e156, eU _ _ (by omega) (by omega), et _ (by omega)]; exact t5
          · rw [d2 _ _ (by omega) (by omega), e156]; exact t6
          · rw [d2 _ _ (by omega) (by omega), e156]; exact t7
          · rw [d2 _ _ (by omega) (by omega), e157] at k2
            rw [d2 (3 + 2 * a) k (by omega) (by omega), eU _ _ (by omega) (by omega), show 3 + 2 * a = 2 + 2 * a + 1 by omega]
            by_cases hk : k < s 160 2
            · rw [c4 k k1 hk, d4 k k1 (by omega), e156, ef k k1 hk, t5]
              exact ⟨rfl, cutv_i (by have := hf k k1 hk; unfold i64; omega)⟩
            · rw [c3 k (by omega), d3 _ (by omega), eU _ _ (by omega) (by omega), et _ (by omega)]
              exact t8 k k1 k2
  · rcases (by omega : a < 0 ∨ 4 ≤ a) with q | q
    · exact OKc.no (w := 1) (r := -1) h (by simp (disch := omega) only [↓jb_m, ↓jm_s, ↓reduceIte, t_lt, t_nlt, t_le, t_nle, t_eq, t_neq, w32_id, w64_id, jb_s, and_true, true_and, and_self, and_false, false_and, or_true, true_or, or_false, false_or, or_self, not_false_eq_true, not_true_eq_false, u_ne, u_eq, u_u, Int.reduceAdd, Int.reduceSub, Int.reduceMul, Int.reduceNeg, Int.zero_add, Int.add_zero, n15, n16, q10, q11, q12, q13, q14, Jc_copyFirm, Jc_trayTrouble, Jc_isTray, Jc_answer, Jc_refuse, Jc_deny, Jc_grant, Se_isMould, Se_isStuff, Se_isPlace, hj]) (by simp (disch := omega) only [↓jb_m, ↓jm_s, ↓reduceIte, t_lt, t_nlt, t_le, t_nle, t_eq, t_neq, w32_id, w64_id, jb_s, and_true, true_and, and_self, and_false, false_and, or_true, true_or, or_false, false_or, or_self, not_false_eq_true, not_true_eq_false, u_ne, u_eq, u_u, Int.reduceAdd, Int.reduceSub, Int.reduceMul, Int.reduceNeg, Int.zero_add, Int.add_zero, n15, n16, q10, q11, q12, q13, q14, Md_copyFirm, Md_isMouldAt, Md_isStuffAt, Md_isPlaceAt, Md_isTray, Md_isIn_1, Md_isIn_0, Md_refuse, Md_no])
    · exact OKc.no (w := 1) (r := -1) h (by simp (disch := omega) only [↓jb_m, ↓jm_s, ↓reduceIte, t_lt, t_nlt, t_le, t_nle, t_eq, t_neq, w32_id, w64_id, jb_s, and_true, true_and, and_self, and_false, false_and, or_true, true_or, or_false, false_or, or_self, not_false_eq_true, not_true_eq_false, u_ne, u_eq, u_u, Int.reduceAdd, Int.reduceSub, Int.reduceMul, Int.reduceNeg, Int.zero_add, Int.add_zero, n15, n16, q10, q11, q12, q13, q14, Jc_copyFirm, Jc_trayTrouble, Jc_isTray, Jc_answer, Jc_refuse, Jc_deny, Jc_grant, Se_isMould, Se_isStuff, Se_isPlace, hj]) (by simp (disch := omega) only [↓jb_m, ↓jm_s, ↓reduceIte, t_lt, t_nlt, t_le, t_nle, t_eq, t_neq, w32_id, w64_id, jb_s, and_true, true_and, and_self, and_false, false_and, or_true, true_or, or_false, false_or, or_self, not_false_eq_true, not_true_eq_false, u_ne, u_eq, u_u, Int.reduceAdd, Int.reduceSub, Int.reduceMul, Int.reduceNeg, Int.zero_add, Int.add_zero, n15, n16, q10, q11, q12, q13, q14, Md_copyFirm, Md_isMouldAt, Md_isStuffAt, Md_isPlaceAt, Md_isTray, Md_isIn_1, Md_isIn_0, Md_refuse, Md_no])
/-! a row of numbers from tray to tray -/
theorem decR {a b i j n : Int} {s : jM} (ha : 0 ≤ a ∧ a < 4) (hb : 0 ≤ b ∧ b < 4) (hi : 0 ≤ i ∧ i + n ≤ 60) (hj : 0 ≤ j ∧ j + n ≤ 60) (hn : 0 ≤ n) (hr : i < j) : ∀ (f : Nat) (k : Int), 0 ≤ k → k ≤ n → (n - k).toNat < f → Md_decant_158 f 155 a i b j n 1 k (jcp s 158 (60 * a + i + (n - k)) 158 (60 * b + j + (n - k)) k) = some (1, jcp s 158 (60 * a + i) 158 (60 * b + j) n) := by
  intro f
  induction f with
  | zero => intro k h1 h2 h3; omega
  | succ f ih =>
    intro k h1 h2 h3
    by_cases hk : k < n
    · have e : jup (jcp s 158 (60 * a + i + (n - k)) 158 (60 * b + j + (n - k)) k) 158 (60 * b + j + (n - 1 - k)) (jcp s 158 (60 * a + i + (n - k)) 158 (60 * b + j + (n - k)) k 158 (60 * a + i + (n - 1 - k))) = jcp s 158 (60 * a + i + (n - (k + 1))) 158 (60 * b + j + (n - (k + 1))) (k + 1) := by
        funext x y
        rw [c_out (a := 158) (by omega)]
        simp only [jup_at, jcp_at]
        by_cases h4 : x = 158 ∧ y = 60 * b + j + (n - 1 - k)
        · rw [if_pos h4, if_pos (by omega)]
          congr 1
          omega
        · rw [if_neg h4]
          by_cases h5 : x = 158 ∧ 60 * b + j + (n - k) ≤ y ∧ y < 60 * b + j + (n - k) + k
          · rw [if_pos h5, if_pos (by omega)]
            congr 1
            omega
          · rw [if_neg h5, if_neg (by omega)]
      rw [Md_decant_158]
      simp (disch := omega) only [↓jb_m, ↓jm_s, ↓reduceIte, t_lt, t_nlt, t_le, t_nle, t_eq, t_neq, w32_id, w64_id, jb_s, and_true, true_and, and_self, and_false, false_and, or_true, true_or, or_false, false_or, or_self, not_false_eq_true, not_true_eq_false, u_ne, u_eq, u_u, Int.reduceAdd, Int.reduceSub, Int.reduceMul, Int.reduceNeg, Int.zero_add, Int.add_zero, n15, n16, q10, q11, q12, q13, q14, Md_decant_182, e]
      exact ih (k + 1) (by omega) (by omega) (by omega)
    · have e : k = n := by omega
      subst e
      rw [Md_decant_158]
      simp (disch := omega) only [↓jb_m, ↓jm_s, ↓reduceIte, t_lt, t_nlt, t_le, t_nle, t_eq, t_neq, w32_id, w64_id, jb_s, and_true, true_and, and_self, and_false, false_and, or_true, true_or, or_false, false_or, or_self, not_false_eq_true, not_true_eq_false, u_ne, u_eq, u_u, Int.reduceAdd, Int.reduceSub, Int.reduceMul, Int.reduceNeg, Int.zero_add, Int.add_zero, n15, n16, q10, q11, q12, q13, q14, Int.sub_self]
theorem decF {a b i j n : Int} {s : jM} (ha : 0 ≤ a ∧ a < 4) (hb : 0 ≤ b ∧ b < 4) (hi : 0 ≤ i ∧ i + n ≤ 60) (hj : 0 ≤ j ∧ j + n ≤ 60) (hn : 0 ≤ n) (hr : j ≤ i) : ∀ (f : Nat) (k : Int), 0 ≤ k → k ≤ n → (n - k).toNat < f → Md_decant_158 f 155 a i b j n 0 k (jcp s 158 (60 * a + i) 158 (60 * b + j) k) = some (1, jcp s 158 (60 * a + i) 158 (60 * b + j) n) := by
  intro f
  induction f with
  | zero => intro k h1 h2 h3; omega
  | succ f ih =>
    intro k h1 h2 h3
    by_cases hk : k < n
    · have e : jup (jcp s 158 (60 * a + i) 158 (60 * b + j) k) 158 (60 * b + j + k) (jcp s 158 (60 * a + i) 158 (60 * b + j) k 158 (60 * a + i + k)) = jcp s 158 (60 * a + i) 158 (60 * b + j) (k + 1) := by
        funext x y
        rw [c_out (a := 158) (by omega)]
        simp only [jup_at, jcp_at]
        by_cases h4 : x = 158 ∧ y = 60 * b + j + k
        · rw [if_pos h4, if_pos (by omega)]
          congr 1
          omega
        · rw [if_neg h4]
          by_cases h5 : x = 158 ∧ 60 * b + j ≤ y ∧ y < 60 * b + j + k
          · rw [if_pos h5, if_pos (by omega)]
          · rw [if_neg h5, if_neg (by omega)]
      rw [Md_decant_158]
      simp (disch := omega) only [↓jb_m, ↓jm_s, ↓reduceIte, t_lt, t_nlt, t_le, t_nle, t_eq, t_neq, w32_id, w64_id, jb_s, and_true, true_and, and_self, and_false, false_and, or_true, true_or, or_false, false_or, or_self, not_false_eq_true, not_true_eq_false, u_ne, u_eq, u_u, Int.reduceAdd, Int.reduceSub, Int.reduceMul, Int.reduceNeg, Int.zero_add, Int.add_zero, n15, n16, q10, q11, q12, q13, q14, Md_decant_182, e]
      exact ih (k + 1) (by omega) (by omega) (by omega)
    · have e : k = n := by omega
      subst e
      rw [Md_decant_158]
      simp (disch := omega) only [↓jb_m, ↓jm_s, ↓reduceIte, t_lt, t_nlt, t_le, t_nle, t_eq, t_neq, w32_id, w64_id, jb_s, and_true, true_and, and_self, and_false, false_and, or_true, true_or, or_false, false_or, or_self, not_false_eq_true, not_true_eq_false, u_ne, u_eq, u_u, Int.reduceAdd, Int.reduceSub, Int.reduceMul, Int.reduceNeg, Int.zero_add, Int.add_zero, n15, n16, q10, q11, q12, q13, q14]
theorem decant_ok {s : jM} (h : INV s) {a i b j n : Int} (ha : i32 a) (hi : i32 i) (hb : i32 b) (hj : i32 j) (hn : i32 n) : OKc s (Jc_decant 0 a i b j n) (Md_decant 155 a i b j n) := by
  unfold i32 at ha hi hb hj hn
  by_cases h1 : 0 ≤ a ∧ a < 4
  rotate_left
  · rcases (by omega : a < 0 ∨ 4 ≤ a) with q | q
    · exact OKc.no (w := 1) (r := 0) h (by simp (disch := omega) only [↓jb_m, ↓jm_s, ↓reduceIte, t_lt, t_nlt, t_le, t_nle, t_eq, t_neq, w32_id, w64_id, jb_s, and_true, true_and, and_self, and_false, false_and, or_true, true_or, or_false, false_or, or_self, not_false_eq_true, not_true_eq_false, u_ne, u_eq, u_u, Int.reduceAdd, Int.reduceSub, Int.reduceMul, Int.reduceNeg, Int.zero_add, Int.add_zero, n15, n16, q10, q11, q12, q13, q14, Jc_decant, Jc_isTray, Jc_deny]) (by simp (disch := omega) only [↓jb_m, ↓jm_s, ↓reduceIte, t_lt, t_nlt, t_le, t_nle, t_eq, t_neq, w32_id, w64_id, jb_s, and_true, true_and, and_self, and_false, false_and, or_true, true_or, or_false, false_or, or_self, not_false_eq_true, not_true_eq_false, u_ne, u_eq, u_u, Int.reduceAdd, Int.reduceSub, Int.reduceMul, Int.reduceNeg, Int.zero_add, Int.add_zero, n15, n16, q10, q11, q12, q13, q14, Md_decant, Md_no])
    · exact OKc.no (w := 1) (r := 0) h (by simp (disch := omega) only [↓jb_m, ↓jm_s, ↓reduceIte, t_lt, t_nlt, t_le, t_nle, t_eq, t_neq, w32_id, w64_id, jb_s, and_true, true_and, and_self, and_false, false_and, or_true, true_or, or_false, false_or, or_self, not_false_eq_true, not_true_eq_false, u_ne, u_eq, u_u, Int.reduceAdd, Int.reduceSub, Int.reduceMul, Int.reduceNeg, Int.zero_add, Int.add_zero, n15, n16, q10, q11, q12, q13, q14, Jc_decant, Jc_isTray, Jc_deny]) (by simp (disch := omega) only [↓jb_m, ↓jm_s, ↓reduceIte, t_lt, t_nlt, t_le, t_nle, t_eq, t_neq, w32_id, w64_id, jb_s, and_true, true_and, and_self, and_false, false_and, or_true, true_or, or_false, false_or, or_self, not_false_eq_true, not_true_eq_false, u_ne, u_eq, u_u, Int.reduceAdd, Int.reduceSub, Int.reduceMul, Int.reduceNeg, Int.zero_add, Int.add_zero, n15, n16, q10, q11, q12, q13, q14, Md_decant, Md_no])
  by_cases h2 : 0 ≤ b ∧ b < 4
  rotate_left
  · rcases (by omega : b < 0 ∨ 4 ≤ b) with q | q
    · exact OKc.no (w := 1) (r := 0) h (by simp (disch := omega) only [↓jb_m, ↓jm_s, ↓reduceIte, t_lt, t_nlt, t_le, t_nle, t_eq, t_neq, w32_id, w64_id, jb_s, and_true, true_and, and_self, and_false, false_and, or_true, true_or, or_false, false_or, or_self, not_false_eq_true, not_true_eq_false, u_ne, u_eq, u_u, Int.reduceAdd, Int.reduceSub, Int.reduceMul, Int.reduceNeg, Int.zero_add, Int.add_zero, n15, n16, q10, q11, q12, q13, q14, Jc_decant, Jc_isTray, Jc_deny]) (by simp (disch := omega) only [↓jb_m, ↓jm_s, ↓reduceIte, t_lt, t_nlt, t_le, t_nle, t_eq, t_neq, w32_id, w64_id, jb_s, and_true, true_and, and_self, and_false, false_and, or_true, true_or, or_false, false_or, or_self, not_false_eq_true, not_true_eq_false, u_ne, u_eq, u_u, Int.reduceAdd, Int.reduceSub, Int.reduceMul, Int.reduceNeg, Int.zero_add, Int.add_zero, n15, n16, q10, q11, q12, q13, q14, Md_decant, Md_no])
    · exact OKc.no (w := 1) (r := 0) h (by simp (disch := omega) only [↓jb_m, ↓jm_s, ↓reduceIte, t_lt, t_nlt, t_le, t_nle, t_eq, t_neq, w32_id, w64_id, jb_s, and_true, true_and, and_self, and_false, false_and, or_true, true_or, or_false, false_or, or_self, not_false_eq_true, not_true_eq_false, u_ne, u_eq, u_u, Int.reduceAdd, Int.reduceSub, Int.reduceMul, Int.reduceNeg, Int.zero_add, Int.add_zero, n15, n16, q10, q11, q12, q13, q14, Jc_decant, Jc_isTray, Jc_deny]) (by simp (disch := omega) only [↓jb_m, ↓jm_s, ↓reduceIte, t_lt, t_nlt, t_le, t_nle, t_eq, t_neq, w32_id, w64_id, jb_s, and_true, true_and, and_self, and_false, false_and, or_true, true_or, or_false, false_or, or_self, not_false_eq_true, not_true_eq_false, u_ne, u_eq, u_u, Int.reduceAdd, Int.reduceSub, Int.reduceMul, Int.reduceNeg, Int.zero_add, Int.add_zero, n15, n16, q10, q11, q12, q13, q14, Md_decant, Md_no])
  rcases tr_at h h1 with ⟨t1, t2⟩ | ⟨t1, t2, t3, t4, t5, t6, t7, t8⟩
  · exact OKc.no (w := 3) (r := 0) h (by simp (disch := omega) only [↓jb_m, ↓jm_s, ↓reduceIte, t_lt, t_nlt, t_le, t_nle, t_eq, t_neq, w32_id, w64_id, jb_s, and_true, true_and, and_self, and_false, false_and, or_true, true_or, or_false, false_or, or_self, not_false_eq_true, not_true_eq_false, u_ne, u_eq, u_u, Int.reduceAdd, Int.reduceSub, Int.reduceMul, Int.reduceNeg, Int.zero_add, Int.add_zero, n15, n16, q10, q11, q12, q13, q14, Jc_decant, Jc_isTray, Jc_deny]) (by simp (disch := omega) only [↓jb_m, ↓jm_s, ↓reduceIte, t_lt, t_nlt, t_le, t_nle, t_eq, t_neq, w32_id, w64_id, jb_s, and_true, true_and, and_self, and_false, false_and, or_true, true_or, or_false, false_or, or_self, not_false_eq_true, not_true_eq_false, u_ne, u_eq, u_u, Int.reduceAdd, Int.reduceSub, Int.reduceMul, Int.reduceNeg, Int.zero_add, Int.add_zero, n15, n16, q10, q11, q12, q13, q14, Md_decant, Md_no])
  rcases tr_at h h2 with ⟨r1, r2⟩ | ⟨r1, r2, r3, r4, r5, r6, r7, r8⟩
  · exact OKc.no (w := 3) (r := 0) h (by simp (disch := omega) only [↓jb_m, ↓jm_s, ↓reduceIte, t_lt, t_nlt, t_le, t_nle, t_eq, t_neq, w32_id, w64_id, jb_s, and_true, true_and, and_self, and_false, false_and, or_true, true_or, or_false, false_or, or_self, not_false_eq_true, not_true_eq_false, u_ne, u_eq, u_u, Int.reduceAdd, Int.reduceSub, Int.reduceMul, Int.reduceNeg, Int.zero_add, Int.add_zero, n15, n16, q10, q11, q12, q13, q14, Jc_decant, Jc_isTray, Jc_deny]) (by simp (disch := omega) only [↓jb_m, ↓jm_s, ↓reduceIte, t_lt, t_nlt, t_le, t_nle, t_eq, t_neq, w32_id, w64_id, jb_s, and_true, true_and, and_self, and_false, false_and, or_true, true_or, or_false, false_or, or_self, not_false_eq_true, not_true_eq_false, u_ne, u_eq, u_u, Int.reduceAdd, Int.reduceSub, Int.reduceMul, Int.reduceNeg, Int.zero_add, Int.add_zero, n15, n16, q10, q11, q12, q13, q14, Md_decant, Md_no])
  by_cases h3 : s 156 a = s 156 b
  rotate_left
  · exact OKc.no (w := 11) (r := 0) h (by simp (disch := omega) only [↓jb_m, ↓jm_s, ↓reduceIte, t_lt, t_nlt, t_le, t_nle, t_eq, t_neq, w32_id, w64_id, jb_s, and_true, true_and, and_self, and_false, false_and, or_true, true_or, or_false, false_or, or_self, not_false_eq_true, not_true_eq_false, u_ne, u_eq, u_u, Int.reduceAdd, Int.reduceSub, Int.reduceMul, Int.reduceNeg, Int.zero_add, Int.add_zero, n15, n16, q10, q11, q12, q13, q14, Jc_decant, Jc_isTray, Jc_deny]) (by simp (disch := omega) only [↓jb_m, ↓jm_s, ↓reduceIte, t_lt, t_nlt, t_le, t_nle, t_eq, t_neq, w32_id, w64_id, jb_s, and_true, true_and, and_self, and_false, false_and, or_true, true_or, or_false, false_or, or_self, not_false_eq_true, not_true_eq_false, u_ne, u_eq, u_u, Int.reduceAdd, Int.reduceSub, Int.reduceMul, Int.reduceNeg, Int.zero_add, Int.add_zero, n15, n16, q10, q11, q12, q13, q14, Md_decant, Md_no])
  by_cases h4 : n < 0
  · exact OKc.no (w := 6) (r := 0) h (by simp (disch := omega) only [↓jb_m, ↓jm_s, ↓reduceIte, t_lt, t_nlt, t_le, t_nle, t_eq, t_neq, w32_id, w64_id, jb_s, and_true, true_and, and_self, and_false, false_and, or_true, true_or, or_false, false_or, or_self, not_false_eq_true, not_true_eq_false, u_ne, u_eq, u_u, Int.reduceAdd, Int.reduceSub, Int.reduceMul, Int.reduceNeg, Int.zero_add, Int.add_zero, n15, n16, q10, q11, q12, q13, q14, Jc_decant, Jc_isTray, Jc_deny]) (by simp (disch := omega) only [↓jb_m, ↓jm_s, ↓reduceIte, t_lt, t_nlt, t_le, t_nle, t_eq, t_neq, w32_id, w64_id, jb_s, and_true, true_and, and_self, and_false, false_and, or_true, true_or, or_false, false_or, or_self, not_false_eq_true, not_true_eq_false, u_ne, u_eq, u_u, Int.reduceAdd, Int.reduceSub, Int.reduceMul, Int.reduceNeg, Int.zero_add, Int.add_zero, n15, n16, q10, q11, q12, q13, q14, Md_decant, Md_no])
  by_cases h5 : i < 0
  · exact OKc.no (w := 4) (r := 0) h (by simp (disch := omega) only [↓jb_m, ↓jm_s, ↓reduceIte, t_lt, t_nlt, t_le, t_nle, t_eq, t_neq, w32_id, w64_id, jb_s, and_true, true_and, and_self, and_false, false_and, or_true, true_or, or_false, false_or, or_self, not_false_eq_true, not_true_eq_false, u_ne, u_eq, u_u, Int.reduceAdd, Int.reduceSub, Int.reduceMul, Int.reduceNeg, Int.zero_add, Int.add_zero, n15, n16, q10, q11, q12, q13, q14, Jc_decant, Jc_isTray, Jc_deny]) (by simp (disch := omega) only [↓jb_m, ↓jm_s, ↓reduceIte, t_lt, t_nlt, t_le, t_nle, t_eq, t_neq, w32_id, w64_id, jb_s, and_true, true_and, and_self, and_false, false_and, or_true, true_or, or_false, false_or, or_self, not_false_eq_true, not_true_eq_false, u_ne, u_eq, u_u, Int.reduceAdd, Int.reduceSub, Int.reduceMul, Int.reduceNeg, Int.zero_add, Int.add_zero, n15, n16, q10, q11, q12, q13, q14, Md_decant, Md_no])
  by_cases h6 : j < 0
  · exact OKc.no (w := 4) (r := 0) h (by simp (disch := omega) only [↓jb_m, ↓jm_s, ↓reduceIte, t_lt, t_nlt, t_le, t_nle, t_eq, t_neq, w32_id, w64_id, jb_s, and_true, true_and, and_self, and_false, false_and, or_true, true_or, or_false, false_or, or_self, not_false_eq_true, not_true_eq_false, u_ne, u_eq, u_u, Int.reduceAdd, Int.reduceSub, Int.reduceMul, Int.reduceNeg, Int.zero_add, Int.add_zero, n15, n16, q10, q11, q12, q13, q14, Jc_decant, Jc_isTray, Jc_deny]) (by simp (disch := omega) only [↓jb_m, ↓jm_s, ↓reduceIte, t_lt, t_nlt, t_le, t_nle, t_eq, t_neq, w32_id, w64_id, jb_s, and_true, true_and, and_self, and_false, false_and, or_true, true_or, or_false, false_or, or_self, not_false_eq_true, not_true_eq_false, u_ne, u_eq, u_u, Int.reduceAdd, Int.reduceSub, Int.reduceMul, Int.reduceNeg, Int.zero_add, Int.add_zero, n15, n16, q10, q11, q12, q13, q14, Md_decant, Md_no])
  by_cases h7 : s 157 a - n < i
  · exact OKc.no (w := 4) (r := 0) h (by simp (disch := omega) only [↓jb_m, ↓jm_s, ↓reduceIte, t_lt, t_nlt, t_le, t_nle, t_eq, t_neq, w32_id, w64_id, jb_s, and_true, true_and, and_self, and_false, false_and, or_true, true_or, or_false, false_or, or_self, not_false_eq_true, not_true_eq_false, u_ne, u_eq, u_u, Int.reduceAdd, Int.reduceSub, Int.reduceMul, Int.reduceNeg, Int.zero_add, Int.add_zero, n15, n16, q10, q11, q12, q13, q14, Jc_decant, Jc_isTray, Jc_deny]) (by simp (disch := omega) only [↓jb_m, ↓jm_s, ↓reduceIte, t_lt, t_nlt, t_le, t_nle, t_eq, t_neq, w32_id, w64_id, jb_s, and_true, true_and, and_self, and_false, false_and, or_true, true_or, or_false, false_or, or_self, not_false_eq_true, not_true_eq_false, u_ne, u_eq, u_u, Int.reduceAdd, Int.reduceSub, Int.reduceMul, Int.reduceNeg, Int.zero_add, Int.add_zero, n15, n16, q10, q11, q12, q13, q14, Md_decant, Md_no, lcmp_gt])
  by_cases h8 : s 157 b - n < j
  · exact OKc.no (w := 4) (r := 0) h (by simp (disch := omega) only [↓jb_m, ↓jm_s, ↓reduceIte, t_lt, t_nlt, t_le, t_nle, t_eq, t_neq, w32_id, w64_id, jb_s, and_true, true_and, and_self, and_false, false_and, or_true, true_or, or_false, false_or, or_self, not_false_eq_true, not_true_eq_false, u_ne, u_eq, u_u, Int.reduceAdd, Int.reduceSub, Int.reduceMul, Int.reduceNeg, Int.zero_add, Int.add_zero, n15, n16, q10, q11, q12, q13, q14, Jc_decant, Jc_isTray, Jc_deny]) (by simp (disch := omega) only [↓jb_m, ↓jm_s, ↓reduceIte, t_lt, t_nlt, t_le, t_nle, t_eq, t_neq, w32_id, w64_id, jb_s, and_true, true_and, and_self, and_false, false_and, or_true, true_or, or_false, false_or, or_self, not_false_eq_true, not_true_eq_false, u_ne, u_eq, u_u, Int.reduceAdd, Int.reduceSub, Int.reduceMul, Int.reduceNeg, Int.zero_add, Int.add_zero, n15, n16, q10, q11, q12, q13, q14, Md_decant, Md_no, lcmp_gt])
  obtain ⟨t, ht⟩ : ∃ t, t = jup (jcp s (2 + 2 * a + 1) i (2 + 2 * b + 1) j n) 0 0 0 := ⟨_, rfl⟩
  obtain ⟨v, hv⟩ : ∃ v, v = jcp (jup (jup t 155 1 0) 155 0 0) 158 (60 * a + i) 158 (60 * b + j) n := ⟨_, rfl⟩
  have hf : Jc_decant 0 a i b j n s = some (1, t) := by
    rw [ht]
    simp (disch := omega) only [↓jb_m, ↓jm_s, ↓reduceIte, t_lt, t_nlt, t_le, t_nle, t_eq, t_neq, w32_id, w64_id, jb_s, and_true, true_and, and_self, and_false, false_and, or_true, true_or, or_false, false_or, or_self, not_false_eq_true, not_true_eq_false, u_ne, u_eq, u_u, Int.reduceAdd, Int.reduceSub, Int.reduceMul, Int.reduceNeg, Int.zero_add, Int.add_zero, n15, n16, q10, q11, q12, q13, q14, Jc_decant, Jc_isTray, Jc_grant]
  have hg : Md_decant 155 a i b j n t = some (1, v) := by
    have f1 : t 157 a = s 157 a := by rw [ht]; simp (disch := omega) only [↓jb_m, ↓jm_s, ↓reduceIte, t_lt, t_nlt, t_le, t_nle, t_eq, t_neq, w32_id, w64_id, jb_s, and_true, true_and, and_self, and_false, false_and, or_true, true_or, or_false, false_or, or_self, not_false_eq_true, not_true_eq_false, u_ne, u_eq, u_u, Int.reduceAdd, Int.reduceSub, Int.reduceMul, Int.reduceNeg, Int.zero_add, Int.add_zero, n15, n16, q10, q11, q12, q13, q14, c_out]
    have f2 : t 157 b = s 157 b := by rw [ht]; simp (disch := omega) only [↓jb_m, ↓jm_s, ↓reduceIte, t_lt, t_nlt, t_le, t_nle, t_eq, t_neq, w32_id, w64_id, jb_s, and_true, true_and, and_self, and_false, false_and, or_true, true_or, or_false, false_or, or_self, not_false_eq_true, not_true_eq_false, u_ne, u_eq, u_u, Int.reduceAdd, Int.reduceSub, Int.reduceMul, Int.reduceNeg, Int.zero_add, Int.add_zero, n15, n16, q10, q11, q12, q13, q14, c_out]
    have f3 : t 156 a = s 156 a := by rw [ht]; simp (disch := omega) only [↓jb_m, ↓jm_s, ↓reduceIte, t_lt, t_nlt, t_le, t_nle, t_eq, t_neq, w32_id, w64_id, jb_s, and_true, true_and, and_self, and_false, false_and, or_true, true_or, or_false, false_or, or_self, not_false_eq_true, not_true_eq_false, u_ne, u_eq, u_u, Int.reduceAdd, Int.reduceSub, Int.reduceMul, Int.reduceNeg, Int.zero_add, Int.add_zero, n15, n16, q10, q11, q12, q13, q14, c_out]
    have f4 : t 156 b = s 156 b := by rw [ht]; simp (disch := omega) only [↓jb_m, ↓jm_s, ↓reduceIte, t_lt, t_nlt, t_le, t_nle, t_eq, t_neq, w32_id, w64_id, jb_s, and_true, true_and, and_self, and_false, false_and, or_true, true_or, or_false, false_or, or_self, not_false_eq_true, not_true_eq_false, u_ne, u_eq, u_u, Int.reduceAdd, Int.reduceSub, Int.reduceMul, Int.reduceNeg, Int.zero_add, Int.add_zero, n15, n16, q10, q11, q12, q13, q14, c_out]
    rw [hv]
    by_cases hr : i < j
    · have := decR (s := jup (jup t 155 1 0) 155 0 0) h1 h2 (i := i) (j := j) (n := n) (by omega) (by omega) (by omega) hr jFU 0 (by omega) (by omega) (by unfold jFU; omega)
      rw [jcp_0] at this
      simp (disch := omega) only [↓jb_m, ↓jm_s, ↓reduceIte, t_lt, t_nlt, t_le, t_nle, t_eq, t_neq, w32_id, w64_id, jb_s, and_true, true_and, and_self, and_false, false_and, or_true, true_or, or_false, false_or, or_self, not_false_eq_true, not_true_eq_false, u_ne, u_eq, u_u, Int.reduceAdd, Int.reduceSub, Int.reduceMul, Int.reduceNeg, Int.zero_add, Int.add_zero, n15, n16, q10, q11, q12, q13, q14, Md_decant, f1, f2, f3, f4, lcmp_gt]
      exact this
    · have := decF (s := jup (jup t 155 1 0) 155 0 0) h1 h2 (i := i) (j := j) (n := n) (by omega) (by omega) (by omega) (by omega) jFU 0 (by omega) (by omega) (by unfold jFU; omega)
      rw [jcp_0] at this
      simp (disch := omega) only [↓jb_m, ↓jm_s, ↓reduceIte, t_lt, t_nlt, t_le, t_nle, t_eq, t_neq, w32_id, w64_id, jb_s, and_true, true_and, and_self, and_false, false_and, or_true, true_or, or_false, false_or, or_self, not_false_eq_true, not_true_eq_false, u_ne, u_eq, u_u, Int.reduceAdd, Int.reduceSub, Int.reduceMul, Int.reduceNeg, Int.zero_add, Int.add_zero, n15, n16, q10, q11, q12, q13, q14, Md_decant, f1, f2, f3, f4, lcmp_gt]
      exact this
  have hE : EX (tcl b) s v := by
    rw [hv, ht]
    exact (((((EX.rf _ s).cp (fun x _ _ => by unfold tcl; omega)).up (by unfold tcl; omega)).up (by unfold tcl; omega)).up (by unfold tcl; omega)).cp (fun x _ _ => by unfold tcl; omega)
  refine ⟨1, t, v, hf, hg, INV_tr h (x := b) h2.1 h2.2 ?_ hE ?_, hE.tneg h2.1⟩
  · rw [hv, ht]
    simp (disch := omega) only [↓jb_m, ↓jm_s, ↓reduceIte, t_lt, t_nlt, t_le, t_nle, t_eq, t_neq, w32_id, w64_id, jb_s, and_true, true_and, and_self, and_false, false_and, or_true, true_or, or_false, false_or, or_self, not_false_eq_true, not_true_eq_false, u_ne, u_eq, u_u, Int.reduceAdd, Int.reduceSub, Int.reduceMul, Int.reduceNeg, Int.zero_add, Int.add_zero, n15, n16, q10, q11, q12, q13, q14, c_out]
  · have g1 : ∀ x y, ¬ (x = 158) → ¬ (x = 2 + 2 * b + 1) → ¬ (x = 0 ∧ y = 0) → ¬ (x = 155 ∧ (y = 0 ∨ y = 1)) → v x y = s x y := fun x y q1 q2 q3 q4 => by
      rw [hv, ht]
      simp (disch := omega) only [↓jb_m, ↓jm_s, ↓reduceIte, t_lt, t_nlt, t_le, t_nle, t_eq, t_neq, w32_id, w64_id, jb_s, and_true, true_and, and_self, and_false, false_and, or_true, true_or, or_false, false_or, or_self, not_false_eq_true, not_true_eq_false, u_ne, u_eq, u_u, Int.reduceAdd, Int.reduceSub, Int.reduceMul, Int.reduceNeg, Int.zero_add, Int.add_zero, n15, n16, q10, q11, q12, q13, q14, c_out]
    refine Or.inr ⟨?_, ?_, ?_, ?_, ?_, ?_, ?_, fun k k1 k2 => ?_⟩
    · rw [g1 _ _ (by omega) (by omega) (by omega) (by omega)]; exact r1
    · rw [g1 _ _ (by omega) (by omega) (by omega) (by omega), g1 _ _ (by omega) (by omega) (by omega) (by omega)]; exact r2
    · rw [g1 _ _ (by omega) (by omega) (by omega) (by omega)]; exact r3
    · rw [g1 _ _ (by omega) (by omega) (by omega) (by omega)]; exact r4
    · rw [g1 _ _ (by omega) (by omega) (by omega) (by omega), g1 _ _ (by omega) (by omega) (by omega) (by omega)]; exact r5
    · rw [g1 _ _ (by omega) (by omega) (by omega) (by omega)]; exact r6
    · rw [g1 _ _ (by omega) (by omega) (by omega) (by omega)]; exact r7
    · rw [g1 _ _ (by omega) (by omega) (by omega) (by omega)] at k2
      rw [hv, ht, show 3 + 2 * b = 2 + 2 * b + 1 by omega]
      by_cases hk : j ≤ k ∧ k < j + n
      · have := t8 (i + (k - j)) (by omega) (by omega)
        simp (disch := omega) only [↓jb_m, ↓jm_s, ↓reduceIte, t_lt, t_nlt, t_le, t_nle, t_eq, t_neq, w32_id, w64_id, jb_s, and_true, true_and, and_self, and_false, false_and, or_true, true_or, or_false, false_or, or_self, not_false_eq_true, not_true_eq_false, u_ne, u_eq, u_u, Int.reduceAdd, Int.reduceSub, Int.reduceMul, Int.reduceNeg, Int.zero_add, Int.add_zero, n15, n16, q10, q11, q12, q13, q14, c_out, c_in]
        rw [show 60 * a + i + (60 * b + k - (60 * b + j)) = 60 * a + (i + (k - j)) by omega]
        exact this
      · simp (disch := omega) only [↓jb_m, ↓jm_s, ↓reduceIte, t_lt, t_nlt, t_le, t_nle, t_eq, t_neq, w32_id, w64_id, jb_s, and_true, true_and, and_self, and_false, false_and, or_true, true_or, or_false, false_or, or_self, not_false_eq_true, not_true_eq_false, u_ne, u_eq, u_u, Int.reduceAdd, Int.reduceSub, Int.reduceMul, Int.reduceNeg, Int.zero_add, Int.add_zero, n15, n16, q10, q11, q12, q13, q14, c_out]
        exact r8 k k1 k2
