theorem mark_ok {s : jM} (h : INV s) : OKc s (Jc_mark 0) (Md_mark 155) := by
  obtain ⟨hb, hj, hj2, hb2, k0, k3⟩ := h.b
  have h24 : s 155 24 = s 0 7 := h.2.2.2.2.1.2.2.2
  by_cases hk : s 0 7 < 3
  · have hB := h.2.2.2.2.2.1
    have hl := lines_at hB.2.2
    rw [vw_at (by omega), vw_at (by omega), vw_at (by omega)] at hl
    obtain ⟨e6, c6⟩ := hd2 hB.1
    obtain ⟨t, t1, t2, t3⟩ := Se_copyOf_eq (s := s) (d := 80 + 25 * s 0 7) (b := s 0 5) (by omega) (by omega) (by omega) (by omega)
    have o0 : t 0 = s 0 := t3 0 (by omega)
    have hf : Jc_mark 0 s = some (s 0 7 + 1, jup (jup t 0 7 (s 0 7 + 1)) 0 0 0) := by simp (disch := omega) only [↓jb_m, ↓jm_s, ↓reduceIte, t_lt, t_nlt, t_le, t_nle, t_eq, t_neq, w32_id, w64_id, jb_s, and_true, true_and, and_self, and_false, false_and, or_true, true_or, or_false, false_or, or_self, not_false_eq_true, not_true_eq_false, u_ne, u_eq, u_u, Int.reduceAdd, Int.reduceSub, Int.reduceMul, Int.reduceNeg, Int.zero_add, Int.add_zero, n15, n16, q10, q11, q12, q13, q14, Jc_mark, hj, t1, o0, Jc_answer]
    obtain ⟨u, hu⟩ : ∃ u, u = jcp (jcp (jup (jup (jup (jup (jup t 0 7 (s 0 7 + 1)) 0 0 0) 155 1 0) 155 0 0) 155 24 (s 0 7 + 1)) 160 0 160 (381 * (s 0 7 + 1)) 381) 163 0 163 (16 * (s 0 7 + 1)) 16 := ⟨_, rfl⟩
    have o155 : t 155 = s 155 := t3 155 (by omega)
    have hg : Md_mark 155 (jup (jup t 0 7 (s 0 7 + 1)) 0 0 0) = some (s 0 7 + 1, u) := by
      rw [hu]
      simp (disch := omega) only [↓jb_m, ↓jm_s, ↓reduceIte, t_lt, t_nlt, t_le, t_nle, t_eq, t_neq, w32_id, w64_id, jb_s, and_true, true_and, and_self, and_false, false_and, or_true, true_or, or_false, false_or, or_self, not_false_eq_true, not_true_eq_false, u_ne, u_eq, u_u, Int.reduceAdd, Int.reduceSub, Int.reduceMul, Int.reduceNeg, Int.zero_add, Int.add_zero, n15, n16, q10, q11, q12, q13, q14, Md_mark, o155, h24, Md_copy_eq, c_out, Int.mul_zero]
    have ev : ∀ a b, ¬ (a = 0 ∧ (b = 0 ∨ b = 7)) → ¬ (a = 155 ∧ (b = 0 ∨ b = 1 ∨ b = 24)) → ¬ (a = 160 ∧ 381 * (s 0 7 + 1) ≤ b ∧ b < 381 * (s 0 7 + 1) + 381) → ¬ (a = 163 ∧ 16 * (s 0 7 + 1) ≤ b ∧ b < 16 * (s 0 7 + 1) + 16) → u a b = t a b := fun a b q1 q2 q3 q4 => by
      rw [hu]
      simp (disch := omega) only [↓jb_m, ↓jm_s, ↓reduceIte, t_lt, t_nlt, t_le, t_nle, t_eq, t_neq, w32_id, w64_id, jb_s, and_true, true_and, and_self, and_false, false_and, or_true, true_or, or_false, false_or, or_self, not_false_eq_true, not_true_eq_false, u_ne, u_eq, u_u, Int.reduceAdd, Int.reduceSub, Int.reduceMul, Int.reduceNeg, Int.zero_add, Int.add_zero, n15, n16, q10, q11, q12, q13, q14, c_out]
    have es : ∀ a b, ¬ (a = 0 ∧ (b = 0 ∨ b = 7)) → ¬ (a = 155 ∧ (b = 0 ∨ b = 1 ∨ b = 24)) → ¬ (a = 160 ∧ 381 * (s 0 7 + 1) ≤ b ∧ b < 381 * (s 0 7 + 1) + 381) → ¬ (a = 163 ∧ 16 * (s 0 7 + 1) ≤ b ∧ b < 16 * (s 0 7 + 1) + 16) → ¬ (80 + 25 * s 0 7 ≤ a ∧ a < 80 + 25 * s 0 7 + 25) → u a b = s a b := fun a b q1 q2 q3 q4 q5 => by
      rw [ev a b q1 q2 q3 q4, t3 a q5]
    have u07 : u 0 7 = s 0 7 + 1 := by rw [hu]; simp (disch := omega) only [↓jb_m, ↓jm_s, ↓reduceIte, t_lt, t_nlt, t_le, t_nle, t_eq, t_neq, w32_id, w64_id, jb_s, and_true, true_and, and_self, and_false, false_and, or_true, true_or, or_false, false_or, or_self, not_false_eq_true, not_true_eq_false, u_ne, u_eq, u_u, Int.reduceAdd, Int.reduceSub, Int.reduceMul, Int.reduceNeg, Int.zero_add, Int.add_zero, n15, n16, q10, q11, q12, q13, q14, c_out]
    have u00 : u 0 0 = 0 := by rw [hu]; simp (disch := omega) only [↓jb_m, ↓jm_s, ↓reduceIte, t_lt, t_nlt, t_le, t_nle, t_eq, t_neq, w32_id, w64_id, jb_s, and_true, true_and, and_self, and_false, false_and, or_true, true_or, or_false, false_or, or_self, not_false_eq_true, not_true_eq_false, u_ne, u_eq, u_u, Int.reduceAdd, Int.reduceSub, Int.reduceMul, Int.reduceNeg, Int.zero_add, Int.add_zero, n15, n16, q10, q11, q12, q13, q14, c_out]
    have u150 : u 155 0 = 0 := by rw [hu]; simp (disch := omega) only [↓jb_m, ↓jm_s, ↓reduceIte, t_lt, t_nlt, t_le, t_nle, t_eq, t_neq, w32_id, w64_id, jb_s, and_true, true_and, and_self, and_false, false_and, or_true, true_or, or_false, false_or, or_self, not_false_eq_true, not_true_eq_false, u_ne, u_eq, u_u, Int.reduceAdd, Int.reduceSub, Int.reduceMul, Int.reduceNeg, Int.zero_add, Int.add_zero, n15, n16, q10, q11, q12, q13, q14, c_out]
    have u124 : u 155 24 = s 0 7 + 1 := by rw [hu]; simp (disch := omega) only [↓jb_m, ↓jm_s, ↓reduceIte, t_lt, t_nlt, t_le, t_nle, t_eq, t_neq, w32_id, w64_id, jb_s, and_true, true_and, and_self, and_false, false_and, or_true, true_or, or_false, false_or, or_self, not_false_eq_true, not_true_eq_false, u_ne, u_eq, u_u, Int.reduceAdd, Int.reduceSub, Int.reduceMul, Int.reduceNeg, Int.zero_add, Int.add_zero, n15, n16, q10, q11, q12, q13, q14, c_out]
    have uc : ∀ o, 0 ≤ o → o < 381 → u 160 (381 * (s 0 7 + 1) + o) = s 160 o := fun o o1 o2 => by
      rw [hu]
      simp (disch := omega) only [↓jb_m, ↓jm_s, ↓reduceIte, t_lt, t_nlt, t_le, t_nle, t_eq, t_neq, w32_id, w64_id, jb_s, and_true, true_and, and_self, and_false, false_and, or_true, true_or, or_false, false_or, or_self, not_false_eq_true, not_true_eq_false, u_ne, u_eq, u_u, Int.reduceAdd, Int.reduceSub, Int.reduceMul, Int.reduceNeg, Int.zero_add, Int.add_zero, n15, n16, q10, q11, q12, q13, q14, c_out, c_in]
      rw [t3 160 (by omega)]
      congr 1
      omega
    have uw : ∀ o, 0 ≤ o → o < 16 → u 163 (16 * (s 0 7 + 1) + o) = s 163 o := fun o o1 o2 => by
      rw [hu]
      simp (disch := omega) only [↓jb_m, ↓jm_s, ↓reduceIte, t_lt, t_nlt, t_le, t_nle, t_eq, t_neq, w32_id, w64_id, jb_s, and_true, true_and, and_self, and_false, false_and, or_true, true_or, or_false, false_or, or_self, not_false_eq_true, not_true_eq_false, u_ne, u_eq, u_u, Int.reduceAdd, Int.reduceSub, Int.reduceMul, Int.reduceNeg, Int.zero_add, Int.add_zero, n15, n16, q10, q11, q12, q13, q14, c_out, c_in]
      rw [t3 163 (by omega)]
      congr 1
      omega
    clear hu
    have n1 : u (-1) = s (-1) := funext fun b => es _ _ (by omega) (by omega) (by omega) (by omega) (by omega)
    have n2 : u (-2) = s (-2) := funext fun b => es _ _ (by omega) (by omega) (by omega) (by omega) (by omega)
    refine ⟨s 0 7 + 1, _, u, hf, hg, ?_, n1, n2⟩
    obtain ⟨h1, h2, h3, h4, h5, h6, h7⟩ := h
    refine ⟨iMi_fr h1 (by rw [u00, u150]) (fun a b q => ?_), iTrs_fr h2 (fun a b q => ?_), iTp_fr h3 (fun a b q => ?_), iLv_fr h4 (fun a b q => ?_), ?_, ?_, fun q q1 q2 => ?_⟩
    · unfold rMi at q; exact es _ _ (by omega) (by omega) (by omega) (by omega) (by omega)
    · unfold rTr at q; exact es _ _ (by omega) (by omega) (by omega) (by omega) (by omega)
    · unfold rTp at q; exact es _ _ (by omega) (by omega) (by omega) (by omega) (by omega)
    · unfold rLv at q; exact es _ _ (by omega) (by omega) (by omega) (by omega) (by omega)
    · unfold iBs at h5 ⊢
      rw [u07, u124, es 0 5 (by omega) (by omega) (by omega) (by omega) (by omega), es 0 6 (by omega) (by omega) (by omega) (by omega) (by omega)]
      exact ⟨h5.1, by omega, by omega, rfl⟩
    · rw [es 0 5 (by omega) (by omega) (by omega) (by omega) (by omega)]
      exact iNo_fr h6 (fun a b q => by unfold rNo at q; exact es _ _ (by omega) (by omega) (by omega) (by omega) (by omega))
    · rw [u07] at q2
      by_cases e : q = s 0 7
      · subst e
        have a1 : cw u (s 0 7 + 1) = cw s 0 := cw_congr (q2 := s 0 7 + 1) (q := 0) (fun o o1 o2 => by rw [uc o o1 o2, Int.mul_zero, Int.zero_add])
        have a2 : ww u (s 0 7 + 1) = ww s 0 := ww_congr (q2 := s 0 7 + 1) (q := 0) (fun o o1 o2 => by rw [uw o o1 o2, Int.mul_zero, Int.zero_add])
        have a3 : vw u (80 + 25 * s 0 7) = vw t (80 + 25 * s 0 7) := vw_congr (fun i j i1 i2 => ev _ _ (by omega) (by omega) (by omega) (by omega))
        rw [a1, a2, a3]
        exact iB_copy h6 t2
      · rw [vw_congr (s := s) (b := 80 + 25 * q) (fun i j i1 i2 => es _ _ (by omega) (by omega) (by omega) (by omega) (by omega)), cw_congr (s := s) (q := q + 1) (fun o o1 o2 => es _ _ (by omega) (by omega) (by omega) (by omega) (by omega)), ww_congr (s := s) (q := q + 1) (fun o o1 o2 => es _ _ (by omega) (by omega) (by omega) (by omega) (by omega))]
        exact h7 q q1 (by omega)
  · exact OKc.no (w := 7) (r := -1) h (by simp (disch := omega) only [↓jb_m, ↓jm_s, ↓reduceIte, t_lt, t_nlt, t_le, t_nle, t_eq, t_neq, w32_id, w64_id, jb_s, and_true, true_and, and_self, and_false, false_and, or_true, true_or, or_false, false_or, or_self, not_false_eq_true, not_true_eq_false, u_ne, u_eq, u_u, Int.reduceAdd, Int.reduceSub, Int.reduceMul, Int.reduceNeg, Int.zero_add, Int.add_zero, n15, n16, q10, q11, q12, q13, q14, Jc_mark, Jc_refuse]) (by simp (disch := omega) only [↓jb_m, ↓jm_s, ↓reduceIte, t_lt, t_nlt, t_le, t_nle, t_eq, t_neq, w32_id, w64_id, jb_s, and_true, true_and, and_self, and_false, false_and, or_true, true_or, or_false, false_or, or_self, not_false_eq_true, not_true_eq_false, u_ne, u_eq, u_u, Int.reduceAdd, Int.reduceSub, Int.reduceMul, Int.reduceNeg, Int.zero_add, Int.add_zero, n15, n16, q10, q11, q12, q13, q14, Md_mark, h24, Md_refuse])
theorem back_ok {s : jM} (h : INV s) : OKc s (Jc_back 0) (Md_back 155) := by
  obtain ⟨hb, hj, hj2, hb2, k0, k3⟩ := h.b
  have h24 : s 155 24 = s 0 7 := h.2.2.2.2.1.2.2.2
  by_cases hk : 0 < s 0 7
  · have hB := h.2.2.2.2.2.2 (s 0 7 - 1) (by omega) (by omega)
    rw [show s 0 7 - 1 + 1 = s 0 7 by omega] at hB
    have hl := lines_at hB.2.2
    rw [vw_at (by omega), vw_at (by omega), vw_at (by omega)] at hl
    have hhd := hB.1.1
    unfold iHd at hhd
    have e6 : s (80 + 25 * (s 0 7 - 1)) 6 = cw s (s 0 7) 2 := by
      have := hhd.1.2.2.2.2.2.2.1
      rw [vw_at (by omega), Int.add_zero] at this
      exact this
    obtain ⟨t, t1, t2, t3⟩ := Se_copyOf_eq (s := jup s 0 7 (s 0 7 - 1)) (d := s 0 5) (b := 80 + 25 * (s 0 7 - 1)) (by omega) (by rw [jup_ne (by omega)]; omega) (by rw [jup_ne (by omega)]; omega) (by rw [jup_ne (by omega)]; omega)
    have o0 : t 0 = jup s 0 7 (s 0 7 - 1) 0 := t3 0 (by omega)
    have hf : Jc_back 0 s = some (s 0 7 - 1, jup t 0 0 0) := by simp (disch := omega) only [↓jb_m, ↓jm_s, ↓reduceIte, t_lt, t_nlt, t_le, t_nle, t_eq, t_neq, w32_id, w64_id, jb_s, and_true, true_and, and_self, and_false, false_and, or_true, true_or, or_false, false_or, or_self, not_false_eq_true, not_true_eq_false, u_ne, u_eq, u_u, Int.reduceAdd, Int.reduceSub, Int.reduceMul, Int.reduceNeg, Int.zero_add, Int.add_zero, n15, n16, q10, q11, q12, q13, q14, Jc_back, hj, t1, o0, Jc_answer]
    obtain ⟨u, hu⟩ : ∃ u, u = jup (jcp (jcp (jup (jup (jup t 0 0 0) 155 1 0) 155 0 0) 160 (381 * s 0 7) 160 0 381) 163 (16 * s 0 7) 163 0 16) 155 24 (s 0 7 - 1) := ⟨_, rfl⟩
    have o155 : t 155 = s 155 := by rw [t3 155 (by omega), jup_ne (by omega)]
    have hg : Md_back 155 (jup t 0 0 0) = some (s 0 7 - 1, u) := by
      rw [hu]
      simp (disch := omega) only [↓jb_m, ↓jm_s, ↓reduceIte, t_lt, t_nlt, t_le, t_nle, t_eq, t_neq, w32_id, w64_id, jb_s, and_true, true_and, and_self, and_false, false_and, or_true, true_or, or_false, false_or, or_self, not_false_eq_true, not_true_eq_false, u_ne, u_eq, u_u, Int.reduceAdd, Int.reduceSub, Int.reduceMul, Int.reduceNeg, Int.zero_add, Int.add_zero, n15, n16, q10, q11, q12, q13, q14, Md_back, o155, h24, Md_copy_eq, c_out, Int.mul_zero]
    have ev : ∀ a b, ¬ (a = 0 ∧ b = 0) → ¬ (a = 155 ∧ (b = 0 ∨ b = 1 ∨ b = 24)) → ¬ (a = 160 ∧ 0 ≤ b ∧ b < 381) → ¬ (a = 163 ∧ 0 ≤ b ∧ b < 16) → u a b = t a b := fun a b q1 q2 q3 q4 => by
      rw [hu]
      simp (disch := omega) only [↓jb_m, ↓jm_s, ↓reduceIte, t_lt, t_nlt, t_le, t_nle, t_eq, t_neq, w32_id, w64_id, jb_s, and_true, true_and, and_self, and_false, false_and, or_true, true_or, or_false, false_or, or_self, not_false_eq_true, not_true_eq_false, u_ne, u_eq, u_u, Int.reduceAdd, Int.reduceSub, Int.reduceMul, Int.reduceNeg, Int.zero_add, Int.add_zero, n15, n16, q10, q11, q12, q13, q14, c_out]
    have es : ∀ a b, ¬ (a = 0 ∧ (b = 0 ∨ b = 7)) → ¬ (a = 155 ∧ (b = 0 ∨ b = 1 ∨ b = 24)) → ¬ (a = 160 ∧ 0 ≤ b ∧ b < 381) → ¬ (a = 163 ∧ 0 ≤ b ∧ b < 16) → ¬ (s 0 5 ≤ a ∧ a < s 0 5 + 25) → u a b = s a b := fun a b q1 q2 q3 q4 q5 => by
      rw [ev a b (by omega) q2 q3 q4, t3 a q5, u_ne (by omega)]
    have u07 : u 0 7 = s 0 7 - 1 := by rw [ev 0 7 (by omega) (by omega) (by omega) (by omega), o0, u_eq ⟨rfl, rfl⟩]
    have u00 : u 0 0 = 0 := by rw [hu]; simp (disch := omega) only [↓jb_m, ↓jm_s, ↓reduceIte, t_lt, t_nlt, t_le, t_nle, t_eq, t_neq, w32_id, w64_id, jb_s, and_true, true_and, and_self, and_false, false_and, or_true, true_or, or_false, false_or, or_self, not_false_eq_true, not_true_eq_false, u_ne, u_eq, u_u, Int.reduceAdd, Int.reduceSub, Int.reduceMul, Int.reduceNeg, Int.zero_add, Int.add_zero, n15, n16, q10, q11, q12, q13, q14, c_out]
    have u150 : u 155 0 = 0 := by rw [hu]; simp (disch := omega) only [↓jb_m, ↓jm_s, ↓reduceIte, t_lt, t_nlt, t_le, t_nle, t_eq, t_neq, w32_id, w64_id, jb_s, and_true, true_and, and_self, and_false, false_and, or_true, true_or, or_false, false_or, or_self, not_false_eq_true, not_true_eq_false, u_ne, u_eq, u_u, Int.reduceAdd, Int.reduceSub, Int.reduceMul, Int.reduceNeg, Int.zero_add, Int.add_zero, n15, n16, q10, q11, q12, q13, q14, c_out]
    have u124 : u 155 24 = s 0 7 - 1 := by rw [hu]; simp (disch := omega) only [↓jb_m, ↓jm_s, ↓reduceIte, t_lt, t_nlt, t_le, t_nle, t_eq, t_neq, w32_id, w64_id, jb_s, and_true, true_and, and_self, and_false, false_and, or_true, true_or, or_false, false_or, or_self, not_false_eq_true, not_true_eq_false, u_ne, u_eq, u_u, Int.reduceAdd, Int.reduceSub, Int.reduceMul, Int.reduceNeg, Int.zero_add, Int.add_zero, n15, n16, q10, q11, q12, q13, q14, c_out]
    have uc : ∀ o, 0 ≤ o → o < 381 → u 160 o = s 160 (381 * s 0 7 + o) := fun o o1 o2 => by
      rw [hu]
      simp (disch := omega) only [↓jb_m, ↓jm_s, ↓reduceIte, t_lt, t_nlt, t_le, t_nle, t_eq, t_neq, w32_id, w64_id, jb_s, and_true, true_and, and_self, and_false, false_and, or_true, true_or, or_false, false_or, or_self, not_false_eq_true, not_true_eq_false, u_ne, u_eq, u_u, Int.reduceAdd, Int.reduceSub, Int.reduceMul, Int.reduceNeg, Int.zero_add, Int.add_zero, n15, n16, q10, q11, q12, q13, q14, c_out, c_in]
      rw [t3 160 (by omega), u_ne (by omega)]
      congr 1
      omega
    have uw : ∀ o, 0 ≤ o → o < 16 → u 163 o = s 163 (16 * s 0 7 + o) := fun o o1 o2 => by
      rw [hu]
      simp (disch := omega) only [↓jb_m, ↓jm_s, ↓reduceIte, t_lt, t_nlt, t_le, t_nle, t_eq, t_neq, w32_id, w64_id, jb_s, and_true, true_and, and_self, and_false, false_and, or_true, true_or, or_false, false_or, or_self, not_false_eq_true, not_true_eq_false, u_ne, u_eq, u_u, Int.reduceAdd, Int.reduceSub, Int.reduceMul, Int.reduceNeg, Int.zero_add, Int.add_zero, n15, n16, q10, q11, q12, q13, q14, c_out, c_in]
      rw [t3 163 (by omega), u_ne (by omega)]
      congr 1
      omega
    clear hu
    have n1 : u (-1) = s (-1) := funext fun b => es _ _ (by omega) (by omega) (by omega) (by omega) (by omega)
    have n2 : u (-2) = s (-2) := funext fun b => es _ _ (by omega) (by omega) (by omega) (by omega) (by omega)
    refine ⟨s 0 7 - 1, _, u, hf, hg, ?_, n1, n2⟩
    obtain ⟨h1, h2, h3, h4, h5, h6, h7⟩ := h
    have u05 : u 0 5 = s 0 5 := es 0 5 (by omega) (by omega) (by omega) (by omega) (by omega)
    refine ⟨iMi_fr h1 (by rw [u00, u150]) (fun a b q => ?_), iTrs_fr h2 (fun a b q => ?_), iTp_fr h3 (fun a b q => ?_), iLv_fr h4 (fun a b q => ?_), ?_, ?_, fun q q1 q2 => ?_⟩
    · unfold rMi at q; exact es _ _ (by omega) (by omega) (by omega) (by omega) (by omega)
    · unfold rTr at q; exact es _ _ (by omega) (by omega) (by omega) (by omega) (by omega)
    · unfold rTp at q; exact es _ _ (by omega) (by omega) (by omega) (by omega) (by omega)
    · unfold rLv at q; exact es _ _ (by omega) (by omega) (by omega) (by omega) (by omega)
    · unfold iBs at h5 ⊢
      rw [u07, u124, u05, es 0 6 (by omega) (by omega) (by omega) (by omega) (by omega)]
      exact ⟨h5.1, by omega, by omega, rfl⟩
    · rw [u05]
      have a1 : cw u 0 = cw s (s 0 7) := cw_congr (q2 := 0) (q := s 0 7) (fun o o1 o2 => by rw [Int.mul_zero, Int.zero_add, uc o o1 o2])
      have a2 : ww u 0 = ww s (s 0 7) := ww_congr (q2 := 0) (q := s 0 7) (fun o o1 o2 => by rw [Int.mul_zero, Int.zero_add, uw o o1 o2])
      have a3 : vw u (s 0 5) = vw t (s 0 5) := vw_congr (fun i j i1 i2 => ev _ _ (by omega) (by omega) (by omega) (by omega))
      rw [a1, a2, a3]
      have a4 : vw (jup s 0 7 (s 0 7 - 1)) (80 + 25 * (s 0 7 - 1)) = vw s (80 + 25 * (s 0 7 - 1)) := vw_congr (fun i j i1 i2 => u_ne (by omega))
      exact iB_copy (by rw [a4]; exact hB) t2
    · rw [u07] at q2
      rw [vw_congr (s := s) (b := 80 + 25 * q) (fun i j i1 i2 => es _ _ (by omega) (by omega) (by omega) (by omega) (by omega)), cw_congr (s := s) (q := q + 1) (fun o o1 o2 => es _ _ (by omega) (by omega) (by omega) (by omega) (by omega)), ww_congr (s := s) (q := q + 1) (fun o o1 o2 => es _ _ (by omega) (by omega) (by omega) (by omega) (by omega))]
      exact h7 q q1 (by omega)
  · have e : s 0 7 = 0 := by omega
    exact OKc.no (w := 8) (r := -1) h (by simp (disch := omega) only [↓jb_m, ↓jm_s, ↓reduceIte, t_lt, t_nlt, t_le, t_nle, t_eq, t_neq, w32_id, w64_id, jb_s, and_true, true_and, and_self, and_false, false_and, or_true, true_or, or_false, false_or, or_self, not_false_eq_true, not_true_eq_false, u_ne, u_eq, u_u, Int.reduceAdd, Int.reduceSub, Int.reduceMul, Int.reduceNeg, Int.zero_add, Int.add_zero, n15, n16, q10, q11, q12, q13, q14, Jc_back, Jc_refuse]) (by simp (disch := omega) only [↓jb_m, ↓jm_s, ↓reduceIte, t_lt, t_nlt, t_le, t_nle, t_eq, t_neq, w32_id, w64_id, jb_s, and_true, true_and, and_self, and_false, false_and, or_true, true_or, or_false, false_or, or_self, not_false_eq_true, not_true_eq_false, u_ne, u_eq, u_u, Int.reduceAdd, Int.reduceSub, Int.reduceMul, Int.reduceNeg, Int.zero_add, Int.add_zero, n15, n16, q10, q11, q12, q13, q14, Md_back, h24, Md_refuse])
/-! trays: a place written, read, copied -/
theorem tr_at {s : jM} (h : INV s) {a : Int} (ha : 0 ≤ a ∧ a < 4) : (s (2 + 2 * a) 0 = 0 ∧ s 157 a = -1) ∨ (s (2 + 2 * a) 0 = 1 ∧ s (2 + 2 * a) 2 = s 157 a ∧ 0 ≤ s 157 a ∧ s 157 a ≤ 60 ∧ s (2 + 2 * a) 1 = s 156 a ∧ 0 ≤ s 156 a ∧ s 156 a ≤ 3 ∧ ∀ k, 0 ≤ k → k < s 157 a → s (2 + 2 * a + 1) k = s 158 (60 * a + k) ∧ i64 (s 158 (60 * a + k))) := by
  have := h.2.1 a ha.1 ha.2
  unfold iTr at this
  rw [show 3 + 2 * a = 2 + 2 * a + 1 by omega] at this
  exact this
theorem ntray (a : Int) : 0 + 1 + 1 + 2 * a = 2 + 2 * a := by omega
/-- what comes to a tray of that sort -/
def cutv (st v : Int) : Int := if st = 0 then w32 (w8 v) else if st = 1 then w32 (w16 v) else if st = 2 then w32 v else v
theorem cutv_i {st v : Int} (h : i64 v) : i64 (cutv st v) := by
  have a : ∀ x, i64 (w32 x) := fun x => ⟨by have := w32_lo x; omega, by have := w32_hi x; omega⟩
  unfold cutv
  split
  · exact a _
  · split
    · exact a _
    · split
      · exact a _
      · exact h
theorem Tr_put_eq {s : jM} {x k v : Int} (hs : 0 ≤ s x 1 ∧ s x 1 ≤ 3) (hk : 0 ≤ k ∧ k < 60) : Tr_put x k v s = some (0, jup s (x + 1) k (cutv (s x 1) v)) := by
  unfold cutv
  rcases (by omega : s x 1 = 0 ∨ s x 1 = 1 ∨ s x 1 = 2 ∨ s x 1 = 3) with q | q | q | q <;> simp (disch := omega) only [↓jb_m, ↓jm_s, ↓reduceIte, t_lt, t_nlt, t_le, t_nle, t_eq, t_neq, w32_id, w64_id, jb_s, and_true, true_and, and_self, and_false, false_and, or_true, true_or, or_false, false_or, or_self, not_false_eq_true, not_true_eq_false, u_ne, u_eq, u_u, Int.reduceAdd, Int.reduceSub, Int.reduceMul, Int.reduceNeg, Int.zero_add, Int.add_zero, n15, n16, q10, q11, q12, q13, q14, Tr_put, q]
theorem Md_cut_eq {s : jM} {st v : Int} (hs : 0 ≤ st ∧ st ≤ 3) : Md_cut st v s = some (cutv st v, s) := by
  unfold cutv
  rcases (by omega : st = 0 ∨ st = 1 ∨ st = 2 ∨ st = 3) with q | q | q | q <;> simp (disch := omega) only [↓jb_m, ↓jm_s, ↓reduceIte, t_lt, t_nlt, t_le, t_nle, t_eq, t_neq, w32_id, w64_id, jb_s, and_true, true_and, and_self, and_false, false_and, or_true, true_or, or_false, false_or, or_self, not_false_eq_true, not_true_eq_false, u_ne, u_eq, u_u, Int.reduceAdd, Int.reduceSub, Int.reduceMul, Int.reduceNeg, Int.zero_add, Int.add_zero, n15, n16, q10, q11, q12, q13, q14, Md_cut, q]
theorem iTr_put {s t : jM} {a k v : Int} (h : iTr s a) (ha : 0 ≤ a ∧ a < 4) (hk : 0 ≤ k ∧ k < s 157 a) (hv : i64 v) (h1 : ∀ b, t (2 + 2 * a) b = s (2 + 2 * a) b) (h2 : ∀ b, b ≠ k → t (3 + 2 * a) b = s (3 + 2 * a) b) (h2k : t (3 + 2 * a) k = v) (h3 : t 157 a = s 157 a) (h4 : t 156 a = s 156 a) (h5 : ∀ b, b ≠ 60 * a + k → t 158 b = s 158 b) (h5k : t 158 (60 * a + k) = v) : iTr t a := by
  rcases h with h | ⟨a1, a2, a3, a4, a5, a6, a7, a8⟩
  · exact absurd h.2 (by omega)
  · refine Or.inr ⟨by rw [h1]; exact a1, by rw [h1, h3]; exact a2, by rw [h3]; exact a3, by rw [h3]; exact a4, by rw [h1, h4]; exact a5, by rw [h4]; exact a6, by rw [h4]; exact a7, fun b b1 b2 => ?_⟩
    rw [h3] at b2
    by_cases e : b = k
    · rw [e, h2k, h5k]; exact ⟨rfl, hv⟩
    · rw [h2 b e, h5 _ (by omega)]
      exact a8 b b1 b2
theorem write_ok {s : jM} (h : INV s) {a k v : Int} (ha : i32 a) (hk : i32 k) (hv : i64 v) : OKc s (Jc_write 0 a k v) (Md_write 155 a k v) := by
  unfold i32 at ha hk
  by_cases h1 : 0 ≤ a ∧ a < 4
  · rcases tr_at h h1 with ⟨t1, t2⟩ | ⟨t1, t2, t3, t4, t5, t6, t7, -⟩
    · exact OKc.no (w := 3) (r := 0) h (by simp (disch := omega) only [↓jb_m, ↓jm_s, ↓reduceIte, t_lt, t_nlt, t_le, t_nle, t_eq, t_neq, w32_id, w64_id, jb_s, and_true, true_and, and_self, and_false, false_and, or_true, true_or, or_false, false_or, or_self, not_false_eq_true, not_true_eq_false, u_ne, u_eq, u_u, Int.reduceAdd, Int.reduceSub, Int.reduceMul, Int.reduceNeg, Int.zero_add, Int.add_zero, n15, n16, q10, q11, q12, q13, q14, Jc_write, Jc_placeTrouble, Jc_trayTrouble, Jc_isTray, Jc_deny]) (by simp (disch := omega) only [↓jb_m, ↓jm_s, ↓reduceIte, t_lt, t_nlt, t_le, t_nle, t_eq, t_neq, w32_id, w64_id, jb_s, and_true, true_and, and_self, and_false, false_and, or_true, true_or, or_false, false_or, or_self, not_false_eq_true, not_true_eq_false, u_ne, u_eq, u_u, Int.reduceAdd, Int.reduceSub, Int.reduceMul, Int.reduceNeg, Int.zero_add, Int.add_zero, n15, n16, q10, q11, q12, q13, q14, Md_write, Md_placed, Md_trayed])
    · by_cases h2 : 0 ≤ k ∧ k < s 157 a
      · have hf : Jc_write 0 a k v s = some (1, jup (jup s (2 + 2 * a + 1) k (cutv (s 156 a) v)) 0 0 0) := by
          have := Tr_put_eq (s := s) (x := 2 + 2 * a) (k := k) (v := v) (by omega) (by omega)
          rw [t5] at this
          simp (disch := omega) only [↓jb_m, ↓jm_s, ↓reduceIte, t_lt, t_nlt, t_le, t_nle, t_eq, t_neq, w32_id, w64_id, jb_s, and_true, true_and, and_self, and_false, false_and, or_true, true_or, or_false, false_or, or_self, not_false_eq_true, not_true_eq_false, u_ne, u_eq, u_u, Int.reduceAdd, Int.reduceSub, Int.reduceMul, Int.reduceNeg, Int.zero_add, Int.add_zero, n15, n16, q10, q11, q12, q13, q14, Jc_write, Jc_placeTrouble, Jc_trayTrouble, Jc_isTray, Jc_grant, this]
        have hg : Md_write 155 a k v (jup (jup s (2 + 2 * a + 1) k (cutv (s 156 a) v)) 0 0 0) = some (1, jup (jup (jup (jup (jup s (2 + 2 * a + 1) k (cutv (s 156 a) v)) 0 0 0) 155 1 0) 155 0 0) 158 (60 * a + k) (cutv (s 156 a) v)) := by
          simp (disch := omega) only [↓jb_m, ↓jm_s, ↓reduceIte, t_lt, t_nlt, t_le, t_nle, t_eq, t_neq, w32_id, w64_id, jb_s, and_true, true_and, and_self, and_false, false_and, or_true, true_or, or_false, false_or, or_self, not_false_eq_true, not_true_eq_false, u_ne, u_eq, u_u, Int.reduceAdd, Int.reduceSub, Int.reduceMul, Int.reduceNeg, Int.zero_add, Int.add_zero, n15, n16, q10, q11, q12, q13, q14, Md_write, Md_placed, Md_trayed, Md_cut_eq]
        have hE : EX (tcl a) s (jup (jup (jup (jup (jup s (2 + 2 * a + 1) k (cutv (s 156 a) v)) 0 0 0) 155 1 0) 155 0 0) 158 (60 * a + k) (cutv (s 156 a) v)) := (((((EX.rf _ s).up (by unfold tcl; omega)).up (by unfold tcl; omega)).up (by unfold tcl; omega)).up (by unfold tcl; omega)).up (by unfold tcl; omega)
        refine ⟨1, _, _, hf, hg, INV_tr h (x := a) h1.1 h1.2 (by simp (disch := omega) only [↓jb_m, ↓jm_s, ↓reduceIte, t_lt, t_nlt, t_le, t_nle, t_eq, t_neq, w32_id, w64_id, jb_s, and_true, true_and, and_self, and_false, false_and, or_true, true_or, or_false, false_or, or_self, not_false_eq_true, not_true_eq_false, u_ne, u_eq, u_u, Int.reduceAdd, Int.reduceSub, Int.reduceMul, Int.reduceNeg, Int.zero_add, Int.add_zero, n15, n16, q10, q11, q12, q13, q14]) hE ?_, hE.tneg h1.1⟩
        refine iTr_put (h.2.1 a h1.1 h1.2) h1 h2 (cutv_i (st := s 156 a) hv) (fun b => ?_) (fun b e => ?_) ?_ ?_ ?_ (fun b e => ?_) ?_ <;> simp (disch := omega) only [↓jb_m, ↓jm_s, ↓reduceIte, t_lt, t_nlt, t_le, t_nle, t_eq, t_neq, w32_id, w64_id, jb_s, and_true, true_and, and_self, and_false, false_and, or_true, true_or, or_false, false_or, or_self, not_false_eq_true, not_true_eq_false, u_ne, u_eq, u_u, Int.reduceAdd, Int.reduceSub, Int.reduceMul, Int.reduceNeg, Int.zero_add, Int.add_zero, n15, n16, q10, q11, q12, q13, q14]
      · rcases (by omega : k < 0 ∨ s 157 a ≤ k) with q | q
        · exact OKc.no (w := 4) (r := 0) h (by simp (disch := omega) only [↓jb_m, ↓jm_s, ↓reduceIte, t_lt, t_nlt, t_le, t_nle, t_eq, t_neq, w32_id, w64_id, jb_s, and_true, true_and, and_self, and_false, false_and, or_true, true_or, or_false, false_or, or_self, not_false_eq_true, not_true_eq_false, u_ne, u_eq, u_u, Int.reduceAdd, Int.reduceSub, Int.reduceMul, Int.reduceNeg, Int.zero_add, Int.add_zero, n15, n16, q10, q11, q12, q13, q14, Jc_write, Jc_placeTrouble, Jc_trayTrouble, Jc_isTray, Jc_deny]) (by simp (disch := omega) only [↓jb_m, ↓jm_s, ↓reduceIte, t_lt, t_nlt, t_le, t_nle, t_eq, t_neq, w32_id, w64_id, jb_s, and_true, true_and, and_self, and_false, false_and, or_true, true_or, or_false, false_or, or_self, not_false_eq_true, not_true_eq_false, u_ne, u_eq, u_u, Int.reduceAdd, Int.reduceSub, Int.reduceMul, Int.reduceNeg, Int.zero_add, Int.add_zero, n15, n16, q10, q11, q12, q13, q14, Md_write, Md_placed, Md_trayed])
        · exact OKc.no (w := 4) (r := 0) h (by simp (disch := omega) only [↓jb_m, ↓jm_s, ↓reduceIte, t_lt, t_nlt, t_le, t_nle, t_eq, t_neq, w32_id, w64_id, jb_s, and_true, true_and, and_self, and_false, false_and, or_true, true_or, or_false, false_or, or_self, not_false_eq_true, not_true_eq_false, u_ne, u_eq, u_u, Int.reduceAdd, Int.reduceSub, Int.reduceMul, Int.reduceNeg, Int.zero_add, Int.add_zero, n15, n16, q10, q11, q12, q13, q14, Jc_write, Jc_placeTrouble, Jc_trayTrouble, Jc_isTray, Jc_deny]) (by simp (disch := omega) only [↓jb_m, ↓jm_s, ↓reduceIte, t_lt, t_nlt, t_le, t_nle, t_eq, t_neq, w32_id, w64_id, jb_s, and_true, true_and, and_self, and_false, false_and, or_true, true_or, or_false, false_or, or_self, not_false_eq_true, not_true_eq_false, u_ne, u_eq, u_u, Int.reduceAdd, Int.reduceSub, Int.reduceMul, Int.reduceNeg, Int.zero_add, Int.add_zero, n15, n16, q10, q11, q12, q13, q14, Md_write, Md_placed, Md_trayed])
  · rcases (by omega : a < 0 ∨ 4 ≤ a) with q | q
    · exact OKc.no (w := 1) (r := 0) h (by simp (disch := omega) only [↓jb_m, ↓jm_s, ↓reduceIte, t_lt, t_nlt, t_le, t_nle, t_eq, t_neq, w32_id, w64_id, jb_s, and_true, true_and, and_self, and_false, false_and, or_true, true_or, or_false, false_or, or_self, not_false_eq_true, not_true_eq_false, u_ne, u_eq, u_u, Int.reduceAdd, Int.reduceSub, Int.reduceMul, Int.reduceNeg, Int.zero_add, Int.add_zero, n15, n16, q10, q11, q12, q13, q14, Jc_write, Jc_placeTrouble, Jc_trayTrouble, Jc_isTray, Jc_deny]) (by simp (disch := omega) only [↓jb_m, ↓jm_s, ↓reduceIte, t_lt, t_nlt, t_le, t_nle, t_eq, t_neq, w32_id, w64_id, jb_s, and_true, true_and, and_self, and_false, false_and, or_true, true_or, or_false, false_or, or_self, not_false_eq_true, not_true_eq_false, u_ne, u_eq, u_u, Int.reduceAdd, Int.reduceSub, Int.reduceMul, Int.reduceNeg, Int.zero_add, Int.add_zero, n15, n16, q10, q11, q12, q13, q14, Md_write, Md_placed, Md_trayed])
    · exact OKc.no (w := 1) (r := 0) h (by simp (disch := omega) only [↓jb_m, ↓jm_s, ↓reduceIte, t_lt, t_nlt, t_le, t_nle, t_eq, t_neq, w32_id, w64_id, jb_s, and_true, true_and, and_self, and_false, false_and, or_true, true_or, or_false, false_or, or_self, not_false_eq_true, not_true_eq_false, u_ne, u_eq, u_u, Int.reduceAdd, Int.reduceSub, Int.reduceMul, Int.reduceNeg, Int.zero_add, Int.add_zero, n15, n16, q10, q11, q12, q13, q14, Jc_write, Jc_placeTrouble, Jc_trayTrouble, Jc_isTray, Jc_deny]) (by simp (disch := omega) only [↓jb_m, ↓jm_s, ↓reduceIte, t_lt, t_nlt, t_le, t_nle, t_eq, t_neq, w32_id, w64_id, jb_s, and_true, true_and, and_self, and_false, false_and, or_true, true_or, or_false, false_or, or_self, not_false_eq_true, not_true_eq_false, u_ne, u_eq, u_u, Int.reduceAdd, Int.reduceSub, Int.reduceMul, Int.reduceNeg, Int.zero_add, Int.add_zero, n15, n16, q10, q11, q12, q13, q14, Md_write, Md_placed, Md_trayed])
theorem read_ok {s : jM} (h : INV s) {a k : Int} (ha : i32 a) (hk : i32 k) : OKc s (Jc_read 0 a k) (Md_read 155 a k) := by
  unfold i32 at ha hk
  by_cases h1 : 0 ≤ a ∧ a < 4
  · rcases tr_at h h1 with ⟨t1, t2⟩ | ⟨t1, t2, t3, t4, t5, t6, t7, t8⟩
    · exact OKc.no (w := 3) (r := -1) h (by simp (disch := omega) only [↓jb_m, ↓jm_s, ↓reduceIte, t_lt, t_nlt, t_le, t_nle, t_eq, t_neq, w32_id, w64_id, jb_s, and_true, true_and, and_self, and_false, false_and, or_true, true_or, or_false, false_or, or_self, not_false_eq_true, not_true_eq_false, u_ne, u_eq, u_u, Int.reduceAdd, Int.reduceSub, Int.reduceMul, Int.reduceNeg, Int.zero_add, Int.add_zero, n15, n16, q10, q11, q12, q13, q14, Jc_read, Jc_placeTrouble, Jc_trayTrouble, Jc_isTray, Jc_refuse]) (by simp (disch := omega) only [↓jb_m, ↓jm_s, ↓reduceIte, t_lt, t_nlt, t_le, t_nle, t_eq, t_neq, w32_id, w64_id, jb_s, and_true, true_and, and_self, and_false, false_and, or_true, true_or, or_false, false_or, or_self, not_false_eq_true, not_true_eq_false, u_ne, u_eq, u_u, Int.reduceAdd, Int.reduceSub, Int.reduceMul, Int.reduceNeg, Int.zero_add, Int.add_zero, n15, n16, q10, q11, q12, q13, q14, Md_read, Md_placed, Md_trayed])
    · by_cases h2 : 0 ≤ k ∧ k < s 157 a
      · have := (t8 k h2.1 h2.2).1
        exact OKc.no (w := 0) (r := s 158 (60 * a + k)) h (by simp (disch := omega) only [↓jb_m, ↓jm_s, ↓reduceIte, t_lt, t_nlt, t_le, t_nle, t_eq, t_neq, w32_id, w64_id, jb_s, and_true, true_and, and_self, and_false, false_and, or_true, true_or, or_false, false_or, or_self, not_false_eq_true, not_true_eq_false, u_ne, u_eq, u_u, Int.reduceAdd, Int.reduceSub, Int.reduceMul, Int.reduceNeg, Int.zero_add, Int.add_zero, n15, n16, q10, q11, q12, q13, q14, Jc_read, Jc_placeTrouble, Jc_trayTrouble, Jc_isTray, this]) (by simp (disch := omega) only [↓jb_m, ↓jm_s, ↓reduceIte, t_lt, t_nlt, t_le, t_nle, t_eq, t_neq, w32_id, w64_id, jb_s, and_true, true_and, and_self, and_false, false_and, or_true, true_or, or_false, false_or, or_self, not_false_eq_true, not_true_eq_false, u_ne, u_eq, u_u, Int.reduceAdd, Int.reduceSub, Int.reduceMul, Int.reduceNeg, Int.zero_add, Int.add_zero, n15, n16, q10, q11, q12, q13, q14, Md_read, Md_placed, Md_trayed])
      · rcases (by omega : k < 0 ∨ s 157 a ≤ k) with q | q
        · exact OKc.no (w := 4) (r := -1) h (by simp (disch := omega) only [↓jb_m, ↓jm_s, ↓reduceIte, t_lt, t_nlt, t_le, t_nle, t_eq, t_neq, w32_id, w64_id, jb_s, and_true, true_and, and_self, and_false, false_and, or_true, true_or, or_false, false_or, or_self, not_false_eq_true, not_true_eq_false, u_ne, u_eq, u_u, Int.reduceAdd, Int.reduceSub, Int.reduceMul, Int.reduceNeg, Int.zero_add, Int.add_zero, n15, n16, q10, q11, q12, q13, q14, Jc_read, Jc_placeTrouble, Jc_trayTrouble, Jc_isTray, Jc_refuse]) (by simp (disch := omega) only [↓jb_m, ↓jm_s, ↓reduceIte, t_lt, t_nlt, t_le, t_nle, t_eq, t_neq, w32_id, w64_id, jb_s, and_true, true_and, and_self, and_false, false_and, or_true, true_or, or_false, false_or, or_self, not_false_eq_true, not_true_eq_false, u_ne, u_eq, u_u, Int.reduceAdd, Int.reduceSub, Int.reduceMul, Int.reduceNeg, Int.zero_add, Int.add_zero, n15, n16, q10, q11, q12, q13, q14, Md_read, Md_placed, Md_trayed])
        · exact OKc.no (w := 4) (r := -1) h (by simp (disch := omega) only [↓jb_m, ↓jm_s, ↓reduceIte, t_lt, t_nlt, t_le, t_nle, t_eq, t_neq, w32_id, w64_id, jb_s, and_true, true_and, and_self, and_false, false_and, or_true, true_or, or_false, false_or, or_self, not_false_eq_true, not_true_eq_false, u_ne, u_eq, u_u, Int.reduceAdd, Int.reduceSub, Int.reduceMul, Int.reduceNeg, Int.zero_add, Int.add_zero, n15, n16, q10, q11, q12, q13, q14, Jc_read, Jc_placeTrouble, Jc_trayTrouble, Jc_isTray, Jc_refuse]) (by simp (disch := omega) only [↓jb_m, ↓jm_s, ↓reduceIte, t_lt, t_nlt, t_le, t_nle, t_eq, t_neq, w32_id, w64_id, jb_s, and_true, true_and, and_self, and_false, false_and, or_true, true_or, or_false, false_or, or_self, not_false_eq_true, not_true_eq_false, u_ne, u_eq, u_u, Int.reduceAdd, Int.reduceSub, Int.reduceMul, Int.reduceNeg, Int.zero_add, Int.add_zero, n15, n16, q10, q11, q12, q13, q14, Md_read, Md_placed, Md_trayed])
  · rcases (by omega : a < 0 ∨ 4 ≤ a) with q | q
    · exact OKc.no (w := 1) (r := -1) h (by simp (disch := omega) only [↓jb_m, ↓jm_s, ↓reduceIte, t_lt, t_nlt, t_le, t_nle, t_eq, t_neq, w32_id, w64_id, jb_s, and_true, true_and, and_self, and_false, false_and, or_true, true_or, or_false, false_or, or_self, not_false_eq_true, not_true_eq_false, u_ne, u_eq, u_u, Int.reduceAdd, Int.reduceSub, Int.reduceMul, Int.reduceNeg, Int.zero_add, Int.add_zero, n15, n16, q10, q11, q12, q13, q14, Jc_read, Jc_placeTrouble, Jc_trayTrouble, Jc_isTray, Jc_refuse]) (by simp (disch := omega) only [↓jb_m, ↓jm_s, ↓reduceIte, t_lt, t_nlt, t_le, t_nle, t_eq, t_neq, w32_id, w64_id, jb_s, and_true, true_and, and_self, and_false, false_and, or_true, true_or, or_false, false_or, or_self, not_false_eq_true, not_true_eq_false, u_ne, u_eq, u_u, Int.reduceAdd, Int.reduceSub, Int.reduceMul, Int.reduceNeg, Int.zero_add, Int.add_zero, n15, n16, q10, q11, q12, q13, q14, Md_read, Md_placed, Md_trayed])
    · exact OKc.no (w := 1) (r := -1) h (by simp (disch := omega) only [↓jb_m, ↓jm_s, ↓reduceIte, t_lt, t_nlt, t_le, t_nle, t_eq, t_neq, w32_id, w64_id, jb_s, and_true, true_and, and_self, and_false, false_and, or_true, true_or, or_false, false_or, or_self, not_false_eq_true, not_true_eq_false, u_ne, u_eq, u_u, Int.reduceAdd, Int.reduceSub, Int.reduceMul, Int.reduceNeg, Int.zero_add, Int.add_zero, n15, n16, q10, q11, q12, q13, q14, Jc_read, Jc_placeTrouble, Jc_trayTrouble, Jc_isTray, Jc_refuse]) (by simp (disch := omega) only [↓jb_m, ↓jm_s, ↓reduceIte, t_lt, t_nlt, t_le, t_nle, t_eq, t_neq, w32_id, w64_id, jb_s, and_true, true_and, and_self, and_false, false_and, or_true, true_or, or_false, false_or, or_self, not_false_eq_true, not_true_eq_false, u_ne, u_eq, u_u, Int.reduceAdd, Int.reduceSub, Int.reduceMul, Int.reduceNeg, Int.zero_add, Int.add_zero, n15, n16, q10, q11, q12, q13, q14, Md_read, Md_placed, Md_trayed])
