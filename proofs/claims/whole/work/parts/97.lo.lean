/-! live: the whole run, the call -/
def fR (x y : Int) : Prop := rdy x y ∨ (x = 155 ∧ 38 ≤ y ∧ y ≤ 45)
theorem dA12 (b : Int) (u : jM) : Md_doAll 12 155 0 b u = Md_doAll_2 (Md_doAll 11) jFU 155 b 0 u := by
  rw [show (12 : Nat) = 11 + 1 from rfl, Md_doAll, Md_doAll_b]
theorem run_both {B : Int} (hB : B = 30 ∨ B = 55) {s u : jM} {w : Int → Int} {a : Int} (ha : 0 ≤ a ∧ a ≤ 20000) (h : iSe (vw s B) (cw u 0)) (h5 : u 160 5 ≤ 9999) (hX : iX (vw s B) (cw u 0) w) (h9 : u 160 109 ≠ 0) : ∃ t v, Li_run 27 B a s = some (0, t) ∧ Md_runsFeasts 155 a u = some (0, v) ∧ (iSe (vw t B) (cw v 0) ∧ v 160 5 ≤ 9999 ∧ iX (vw t B) (cw v 0) w) ∧ EX (eC B) s t ∧ EX fR u v ∧ t 27 3 = v 155 40 ∧ t 27 4 = v 155 41 ∧ t 27 5 = v 155 45 ∧ v 155 42 = v 160 5 - u 160 5 ∧ v 155 43 = u 160 7 ∧ v 155 44 = u 160 6 := by
  obtain ⟨s1, hs1⟩ : ∃ s1, s1 = jup (jup (jup (jup (jup (jup s 27 0 B) 27 1 (B + 9)) 27 2 a) 27 3 0) 27 4 0) 27 5 0 := ⟨_, rfl⟩
  obtain ⟨u1, hu1⟩ : ∃ u1, u1 = jup (jup (jup (jup (jup (jup (jup (jup u 155 39 a) 155 40 0) 155 41 0) 155 42 0) 155 43 (u 160 7)) 155 44 (u 160 6)) 155 45 0) 155 38 0 := ⟨_, rfl⟩
  have rC : Li_run 27 B a s = LR 0 0 s1 := by
    rw [hs1]
    rfl
  have rM : Md_runsFeasts 155 a u = jb (Md_doAll_2 (Md_doAll 11) jFU 155 (u1 160 110) 0 u1) fun _ s2 => some (0, s2) := by
    rw [hu1]
    simp (disch := omega) only [↓jb_m, ↓jm_s, ↓reduceIte, t_lt, t_nlt, t_le, t_nle, t_eq, t_neq, w32_id, w64_id, jb_s, and_true, true_and, and_self, and_false, false_and, or_true, true_or, or_false, false_or, or_self, not_false_eq_true, not_true_eq_false, u_ne, u_eq, u_u, Int.reduceAdd, Int.reduceSub, Int.reduceMul, Int.reduceNeg, Int.zero_add, Int.add_zero, n15, n16, q10, q11, q12, q13, q14, Md_runsFeasts, dA12]
  have E : ∀ x y, ¬ (x = 27 ∧ 0 ≤ y ∧ y ≤ 5) → s1 x y = s x y := fun x y q => by
    rw [hs1, u_ne (by omega), u_ne (by omega), u_ne (by omega), u_ne (by omega), u_ne (by omega), u_ne (by omega)]
  have F : ∀ x y, ¬ (x = 155 ∧ 38 ≤ y ∧ y ≤ 45) → u1 x y = u x y := fun x y q => by
    rw [hu1, u_ne (by omega), u_ne (by omega), u_ne (by omega), u_ne (by omega), u_ne (by omega), u_ne (by omega), u_ne (by omega), u_ne (by omega)]
  have V : vw s1 B = vw s B := vw_congr (fun i j _ _ => E _ _ (by omega))
  have C : cw u1 0 = cw u 0 := cw_congr (fun o _ _ => F _ _ (by omega))
  have p0 : s1 27 0 = B := by rw [hs1]; simp (disch := omega) only [↓jb_m, ↓jm_s, ↓reduceIte, t_lt, t_nlt, t_le, t_nle, t_eq, t_neq, w32_id, w64_id, jb_s, and_true, true_and, and_self, and_false, false_and, or_true, true_or, or_false, false_or, or_self, not_false_eq_true, not_true_eq_false, u_ne, u_eq, u_u, Int.reduceAdd, Int.reduceSub, Int.reduceMul, Int.reduceNeg, Int.zero_add, Int.add_zero, n15, n16, q10, q11, q12, q13, q14]
  have p1 : s1 27 1 = B + 9 := by rw [hs1]; simp (disch := omega) only [↓jb_m, ↓jm_s, ↓reduceIte, t_lt, t_nlt, t_le, t_nle, t_eq, t_neq, w32_id, w64_id, jb_s, and_true, true_and, and_self, and_false, false_and, or_true, true_or, or_false, false_or, or_self, not_false_eq_true, not_true_eq_false, u_ne, u_eq, u_u, Int.reduceAdd, Int.reduceSub, Int.reduceMul, Int.reduceNeg, Int.zero_add, Int.add_zero, n15, n16, q10, q11, q12, q13, q14]
  have p2 : s1 27 2 = a := by rw [hs1]; simp (disch := omega) only [↓jb_m, ↓jm_s, ↓reduceIte, t_lt, t_nlt, t_le, t_nle, t_eq, t_neq, w32_id, w64_id, jb_s, and_true, true_and, and_self, and_false, false_and, or_true, true_or, or_false, false_or, or_self, not_false_eq_true, not_true_eq_false, u_ne, u_eq, u_u, Int.reduceAdd, Int.reduceSub, Int.reduceMul, Int.reduceNeg, Int.zero_add, Int.add_zero, n15, n16, q10, q11, q12, q13, q14]
  have p3 : s1 27 3 = 0 := by rw [hs1]; simp (disch := omega) only [↓jb_m, ↓jm_s, ↓reduceIte, t_lt, t_nlt, t_le, t_nle, t_eq, t_neq, w32_id, w64_id, jb_s, and_true, true_and, and_self, and_false, false_and, or_true, true_or, or_false, false_or, or_self, not_false_eq_true, not_true_eq_false, u_ne, u_eq, u_u, Int.reduceAdd, Int.reduceSub, Int.reduceMul, Int.reduceNeg, Int.zero_add, Int.add_zero, n15, n16, q10, q11, q12, q13, q14]
  have p4 : s1 27 4 = 0 := by rw [hs1]; simp (disch := omega) only [↓jb_m, ↓jm_s, ↓reduceIte, t_lt, t_nlt, t_le, t_nle, t_eq, t_neq, w32_id, w64_id, jb_s, and_true, true_and, and_self, and_false, false_and, or_true, true_or, or_false, false_or, or_self, not_false_eq_true, not_true_eq_false, u_ne, u_eq, u_u, Int.reduceAdd, Int.reduceSub, Int.reduceMul, Int.reduceNeg, Int.zero_add, Int.add_zero, n15, n16, q10, q11, q12, q13, q14]
  have p5 : s1 27 5 = 0 := by rw [hs1]; simp (disch := omega) only [↓jb_m, ↓jm_s, ↓reduceIte, t_lt, t_nlt, t_le, t_nle, t_eq, t_neq, w32_id, w64_id, jb_s, and_true, true_and, and_self, and_false, false_and, or_true, true_or, or_false, false_or, or_self, not_false_eq_true, not_true_eq_false, u_ne, u_eq, u_u, Int.reduceAdd, Int.reduceSub, Int.reduceMul, Int.reduceNeg, Int.zero_add, Int.add_zero, n15, n16, q10, q11, q12, q13, q14]
  have r8 : u1 155 38 = 0 := by rw [hu1]; simp (disch := omega) only [↓jb_m, ↓jm_s, ↓reduceIte, t_lt, t_nlt, t_le, t_nle, t_eq, t_neq, w32_id, w64_id, jb_s, and_true, true_and, and_self, and_false, false_and, or_true, true_or, or_false, false_or, or_self, not_false_eq_true, not_true_eq_false, u_ne, u_eq, u_u, Int.reduceAdd, Int.reduceSub, Int.reduceMul, Int.reduceNeg, Int.zero_add, Int.add_zero, n15, n16, q10, q11, q12, q13, q14]
  have r9 : u1 155 39 = a := by rw [hu1]; simp (disch := omega) only [↓jb_m, ↓jm_s, ↓reduceIte, t_lt, t_nlt, t_le, t_nle, t_eq, t_neq, w32_id, w64_id, jb_s, and_true, true_and, and_self, and_false, false_and, or_true, true_or, or_false, false_or, or_self, not_false_eq_true, not_true_eq_false, u_ne, u_eq, u_u, Int.reduceAdd, Int.reduceSub, Int.reduceMul, Int.reduceNeg, Int.zero_add, Int.add_zero, n15, n16, q10, q11, q12, q13, q14]
  have r0 : u1 155 40 = 0 := by rw [hu1]; simp (disch := omega) only [↓jb_m, ↓jm_s, ↓reduceIte, t_lt, t_nlt, t_le, t_nle, t_eq, t_neq, w32_id, w64_id, jb_s, and_true, true_and, and_self, and_false, false_and, or_true, true_or, or_false, false_or, or_self, not_false_eq_true, not_true_eq_false, u_ne, u_eq, u_u, Int.reduceAdd, Int.reduceSub, Int.reduceMul, Int.reduceNeg, Int.zero_add, Int.add_zero, n15, n16, q10, q11, q12, q13, q14]
  have r1 : u1 155 41 = 0 := by rw [hu1]; simp (disch := omega) only [↓jb_m, ↓jm_s, ↓reduceIte, t_lt, t_nlt, t_le, t_nle, t_eq, t_neq, w32_id, w64_id, jb_s, and_true, true_and, and_self, and_false, false_and, or_true, true_or, or_false, false_or, or_self, not_false_eq_true, not_true_eq_false, u_ne, u_eq, u_u, Int.reduceAdd, Int.reduceSub, Int.reduceMul, Int.reduceNeg, Int.zero_add, Int.add_zero, n15, n16, q10, q11, q12, q13, q14]
  have r2 : u1 155 42 = 0 := by rw [hu1]; simp (disch := omega) only [↓jb_m, ↓jm_s, ↓reduceIte, t_lt, t_nlt, t_le, t_nle, t_eq, t_neq, w32_id, w64_id, jb_s, and_true, true_and, and_self, and_false, false_and, or_true, true_or, or_false, false_or, or_self, not_false_eq_true, not_true_eq_false, u_ne, u_eq, u_u, Int.reduceAdd, Int.reduceSub, Int.reduceMul, Int.reduceNeg, Int.zero_add, Int.add_zero, n15, n16, q10, q11, q12, q13, q14]
  have r3 : u1 155 43 = u 160 7 := by rw [hu1]; simp (disch := omega) only [↓jb_m, ↓jm_s, ↓reduceIte, t_lt, t_nlt, t_le, t_nle, t_eq, t_neq, w32_id, w64_id, jb_s, and_true, true_and, and_self, and_false, false_and, or_true, true_or, or_false, false_or, or_self, not_false_eq_true, not_true_eq_false, u_ne, u_eq, u_u, Int.reduceAdd, Int.reduceSub, Int.reduceMul, Int.reduceNeg, Int.zero_add, Int.add_zero, n15, n16, q10, q11, q12, q13, q14]
  have r4 : u1 155 44 = u 160 6 := by rw [hu1]; simp (disch := omega) only [↓jb_m, ↓jm_s, ↓reduceIte, t_lt, t_nlt, t_le, t_nle, t_eq, t_neq, w32_id, w64_id, jb_s, and_true, true_and, and_self, and_false, false_and, or_true, true_or, or_false, false_or, or_self, not_false_eq_true, not_true_eq_false, u_ne, u_eq, u_u, Int.reduceAdd, Int.reduceSub, Int.reduceMul, Int.reduceNeg, Int.zero_add, Int.add_zero, n15, n16, q10, q11, q12, q13, q14]
  have r5 : u1 155 45 = 0 := by rw [hu1]; simp (disch := omega) only [↓jb_m, ↓jm_s, ↓reduceIte, t_lt, t_nlt, t_le, t_nle, t_eq, t_neq, w32_id, w64_id, jb_s, and_true, true_and, and_self, and_false, false_and, or_true, true_or, or_false, false_or, or_self, not_false_eq_true, not_true_eq_false, u_ne, u_eq, u_u, Int.reduceAdd, Int.reduceSub, Int.reduceMul, Int.reduceNeg, Int.zero_add, Int.add_zero, n15, n16, q10, q11, q12, q13, q14]
  clear hs1 hu1
  have X0 : LX B s1 u1 w s1 u1 := by
    refine ⟨⟨p0, p1, by rw [p2, r9], by rw [p2]; omega, by rw [V, C]; exact h, by rw [F _ _ (by omega)]; exact h5, by rw [V, C]; exact hX⟩, EX.rf _ _, EX.rf _ _, by rw [p3, r0], by rw [p3]; omega, by rw [p4, r1], by rw [p5, r5], rfl⟩
  have fin : ∀ s' u', LR 0 0 s1 = some (0, s') → Md_doAll_2 (Md_doAll 11) jFU 155 (u1 160 110) 0 u1 = some (0, u') → LX B s1 u1 w s' u' → ∃ t v, Li_run 27 B a s = some (0, t) ∧ Md_runsFeasts 155 a u = some (0, v) ∧ (iSe (vw t B) (cw v 0) ∧ v 160 5 ≤ 9999 ∧ iX (vw t B) (cw v 0) w) ∧ EX (eC B) s t ∧ EX fR u v ∧ t 27 3 = v 155 40 ∧ t 27 4 = v 155 41 ∧ t 27 5 = v 155 45 ∧ v 155 42 = v 160 5 - u 160 5 ∧ v 155 43 = u 160 7 ∧ v 155 44 = u 160 6 := fun s' u' a1 a2 L => by
    obtain ⟨⟨-, -, -, -, b5, b6, b7⟩, L2, L3, L4, -, L6, L7, L8⟩ := L
    refine ⟨s', u', rC.trans a1, by rw [rM, a2, jb_t], ⟨b5, b6, b7⟩, fun x y q => (L2 x y q).trans (E x y (fun z => q (Or.inr (Or.inl z)))), fun x y q => (L3 x y (fun z => q (by unfold eR rdy at z; unfold fR rdy; omega))).trans (F x y (fun z => q (Or.inr z))), L4, L6, L7, ?_, ?_, ?_⟩
    · rw [r2, F 160 5 (by omega)] at L8
      omega
    · rw [L3 _ _ (by unfold eR rdy; omega)]; exact r3
    · rw [L3 _ _ (by unfold eR rdy; omega)]; exact r4
  have f := hX.2.2.2
  unfold FST at f
  rcases f with ⟨-, f, -⟩ | ⟨-, -, -, f1, f2, f3, f4, n, f8⟩
  · rw [xc_at (by omega), cw_at (by omega)] at f
    exact absurd f h9
  rw [← V] at f3 f4 f8
  rw [← C] at f1 f2 f8
  have e110 : u1 160 110 = xc (cw u1 0) 110 := LX_q (EX.rf _ _) (by omega)
  rw [← e110] at f1 f2 f8
  have hf : u1 160 110 - 0 < jFU := by
    have := bub_ge (m := 40) (by omega)
    omega
  rcases run_blk hB f4 n 3 0 _ 0 _ 11 jFU 0 s1 u1 f8 (by omega) (by omega) f2 (by omega) (Int.le_refl _) hf X0 r8 (by rw [p3]; omega) with ⟨s', u', a1, a2, a3, a4⟩ | ⟨x', s', u', a1, a2, a3, a4, a5, a6, a7⟩
  · exact fin s' u' a1 a2 a4
  · have sb := a3.2.2.2.2.1
    rw [p3] at a5
    refine fin s' u' (a1.trans (lr_out hB a3.1.2.1 (by omega) ?_ ⟨f3, f4⟩)) a2 a3
    exact LX_v hB a3.2.1 (by omega)
theorem live_ok {s : jM} (h : INV s) {a : Int} (ha : i32 a) : OKc s (Jc_live 0 a) (Md_live 155 a) := by
  unfold i32 at ha
  obtain ⟨hb, hj, hj2, -⟩ := h.b
  have hse := h.2.2.2.2.2.1.1
  have hX := h.2.2.2.2.2.1.2.2
  have h5 := h.2.2.2.2.2.1.2.1
  have hl := lines_at hX
  rw [cw_at (by omega)] at h5
  rw [vw_at (by omega), vw_at (by omega), vw_at (by omega), cw_at (by omega), cw_at (by omega)] at hl
  obtain ⟨-, -, hl1, hl2, -⟩ := hl
  by_cases hv : 0 ≤ a ∧ a ≤ 9999
  · by_cases ht : s 160 109 = 0
    · have e9 : s (s 0 5 + 9) 0 = 0 := by omega
      exact OKc.no (w := 8) (r := -1) h (by simp (disch := omega) only [↓jb_m, ↓jm_s, ↓reduceIte, t_lt, t_nlt, t_le, t_nle, t_eq, t_neq, w32_id, w64_id, jb_s, and_true, true_and, and_self, and_false, false_and, or_true, true_or, or_false, false_or, or_self, not_false_eq_true, not_true_eq_false, u_ne, u_eq, u_u, Int.reduceAdd, Int.reduceSub, Int.reduceMul, Int.reduceNeg, Int.zero_add, Int.add_zero, n15, n16, q10, q11, q12, q13, q14, Jc_live, e9, Jc_answer, Jc_refuse, Jc_deny, Jc_grant, Se_isMould, Se_isStuff, Se_isPlace, hj]) (by simp (disch := omega) only [↓jb_m, ↓jm_s, ↓reduceIte, t_lt, t_nlt, t_le, t_nle, t_eq, t_neq, w32_id, w64_id, jb_s, and_true, true_and, and_self, and_false, false_and, or_true, true_or, or_false, false_or, or_self, not_false_eq_true, not_true_eq_false, u_ne, u_eq, u_u, Int.reduceAdd, Int.reduceSub, Int.reduceMul, Int.reduceNeg, Int.zero_add, Int.add_zero, n15, n16, q10, q11, q12, q13, q14, Md_live, Md_isMouldAt, Md_isStuffAt, Md_isPlaceAt, Md_isTray, Md_isIn_1, Md_isIn_0, Md_refuse, Md_no])
    · have e9 : s (s 0 5 + 9) 0 = 1 := by omega
      have e109 : s 160 109 = 1 := by omega
      obtain ⟨t, v1, r1, -, ⟨i1, -, -⟩, x1, -, -⟩ := run_both hb (a := a) (by omega) hse h5 hX ht
      have f1 := falls_at hse
      have o0 : t 0 5 = s 0 5 := x1 _ _ (by unfold eC cdy; omega)
      have vs6 : ∀ p q, Se_fallen (s 0 5) (jup (jup t 29 0 p) 29 1 q) = some (v1 160 7, jup (jup t 29 0 p) 29 1 q) := fun p q => falls_at (by rw [vw_congr (s := t) (b := s 0 5) (fun i j _ _ => by rw [u_ne (by omega), u_ne (by omega)])]; exact i1)
      obtain ⟨S1, hS1⟩ : ∃ S1, S1 = jup (jup (jup (jup (jup (jup (jup t 29 0 (t 27 4)) 29 1 (t (s 0 5) 2 - s (s 0 5) 2)) 29 2 (v1 160 7 - s 160 7)) 29 3 (t (s 0 5) 3 - s (s 0 5) 3)) 29 4 (t 27 5)) 0 8 1) 0 0 0 := ⟨_, rfl⟩
      have hf : Jc_live 0 a s = some (t 27 3, S1) := by
        rw [hS1]
        simp (disch := omega) only [↓jb_m, ↓jm_s, ↓reduceIte, t_lt, t_nlt, t_le, t_nle, t_eq, t_neq, w32_id, w64_id, jb_s, and_true, true_and, and_self, and_false, false_and, or_true, true_or, or_false, false_or, or_self, not_false_eq_true, not_true_eq_false, u_ne, u_eq, u_u, Int.reduceAdd, Int.reduceSub, Int.reduceMul, Int.reduceNeg, Int.zero_add, Int.add_zero, n15, n16, q10, q11, q12, q13, q14, Jc_live, f1, r1, o0, vs6, e9, Jc_answer, Jc_refuse, hj]
      have g1 : ∀ x y, x ≠ 29 → ¬ (x = 0 ∧ (y = 0 ∨ y = 8)) → S1 x y = t x y := fun x y q2 q3 => by
        rw [hS1, u_ne (by omega), u_ne (by omega), u_ne (by omega), u_ne (by omega), u_ne (by omega), u_ne (by omega), u_ne (by omega)]
      have z0 : S1 0 0 = 0 := by rw [hS1]; simp (disch := omega) only [↓jb_m, ↓jm_s, ↓reduceIte, t_lt, t_nlt, t_le, t_nle, t_eq, t_neq, w32_id, w64_id, jb_s, and_true, true_and, and_self, and_false, false_and, or_true, true_or, or_false, false_or, or_self, not_false_eq_true, not_true_eq_false, u_ne, u_eq, u_u, Int.reduceAdd, Int.reduceSub, Int.reduceMul, Int.reduceNeg, Int.zero_add, Int.add_zero, n15, n16, q10, q11, q12, q13, q14]
      have z8 : S1 0 8 = 1 := by rw [hS1]; simp (disch := omega) only [↓jb_m, ↓jm_s, ↓reduceIte, t_lt, t_nlt, t_le, t_nle, t_eq, t_neq, w32_id, w64_id, jb_s, and_true, true_and, and_self, and_false, false_and, or_true, true_or, or_false, false_or, or_self, not_false_eq_true, not_true_eq_false, u_ne, u_eq, u_u, Int.reduceAdd, Int.reduceSub, Int.reduceMul, Int.reduceNeg, Int.zero_add, Int.add_zero, n15, n16, q10, q11, q12, q13, q14]
      have y0 : S1 29 0 = t 27 4 := by rw [hS1]; simp (disch := omega) only [↓jb_m, ↓jm_s, ↓reduceIte, t_lt, t_nlt, t_le, t_nle, t_eq, t_neq, w32_id, w64_id, jb_s, and_true, true_and, and_self, and_false, false_and, or_true, true_or, or_false, false_or, or_self, not_false_eq_true, not_true_eq_false, u_ne, u_eq, u_u, Int.reduceAdd, Int.reduceSub, Int.reduceMul, Int.reduceNeg, Int.zero_add, Int.add_zero, n15, n16, q10, q11, q12, q13, q14]
      have y1 : S1 29 1 = t (s 0 5) 2 - s (s 0 5) 2 := by rw [hS1]; simp (disch := omega) only [↓jb_m, ↓jm_s, ↓reduceIte, t_lt, t_nlt, t_le, t_nle, t_eq, t_neq, w32_id, w64_id, jb_s, and_true, true_and, and_self, and_false, false_and, or_true, true_or, or_false, false_or, or_self, not_false_eq_true, not_true_eq_false, u_ne, u_eq, u_u, Int.reduceAdd, Int.reduceSub, Int.reduceMul, Int.reduceNeg, Int.zero_add, Int.add_zero, n15, n16, q10, q11, q12, q13, q14]
      have y2 : S1 29 2 = v1 160 7 - s 160 7 := by rw [hS1]; simp (disch := omega) only [↓jb_m, ↓jm_s, ↓reduceIte, t_lt, t_nlt, t_le, t_nle, t_eq, t_neq, w32_id, w64_id, jb_s, and_true, true_and, and_self, and_false, false_and, or_true, true_or, or_false, false_or, or_self, not_false_eq_true, not_true_eq_false, u_ne, u_eq, u_u, Int.reduceAdd, Int.reduceSub, Int.reduceMul, Int.reduceNeg, Int.zero_add, Int.add_zero, n15, n16, q10, q11, q12, q13, q14]
      have y3 : S1 29 3 = t (s 0 5) 3 - s (s 0 5) 3 := by rw [hS1]; simp (disch := omega) only [↓jb_m, ↓jm_s, ↓reduceIte, t_lt, t_nlt, t_le, t_nle, t_eq, t_neq, w32_id, w64_id, jb_s, and_true, true_and, and_self, and_false, false_and, or_true, true_or, or_false, false_or, or_self, not_false_eq_true, not_true_eq_false, u_ne, u_eq, u_u, Int.reduceAdd, Int.reduceSub, Int.reduceMul, Int.reduceNeg, Int.zero_add, Int.add_zero, n15, n16, q10, q11, q12, q13, q14]
      have y4 : S1 29 4 = t 27 5 := by rw [hS1]; simp (disch := omega) only [↓jb_m, ↓jm_s, ↓reduceIte, t_lt, t_nlt, t_le, t_nle, t_eq, t_neq, w32_id, w64_id, jb_s, and_true, true_and, and_self, and_false, false_and, or_true, true_or, or_false, false_or, or_self, not_false_eq_true, not_true_eq_false, u_ne, u_eq, u_u, Int.reduceAdd, Int.reduceSub, Int.reduceMul, Int.reduceNeg, Int.zero_add, Int.add_zero, n15, n16, q10, q11, q12, q13, q14]
      clear hS1 vs6
      have e160 : ∀ y, jup (jup S1 155 1 0) 155 0 0 160 y = s 160 y := fun y => by
        rw [u_ne (by omega), u_ne (by omega), g1 _ _ (by omega) (by omega)]
        exact x1 _ _ (by unfold eC cdy; omega)
      have ec : cw (jup (jup S1 155 1 0) 155 0 0) 0 = cw s 0 := cw_congr (fun o _ _ => e160 _)
      obtain ⟨t', v, r1', r2, ⟨j1, j2, j3⟩, -, x2, k1, k2, k3, k4, k5, k6⟩ := run_both hb (s := s) (u := jup (jup S1 155 1 0) 155 0 0) (w := ww s 0) (a := a) (by omega) (by rw [ec]; exact hse) (by rw [e160]; exact h5) (by rw [ec]; exact hX) (by rw [e160]; exact ht)
      rw [r1] at r1'
      cases r1'
      rw [e160] at k4 k5 k6
      have e7 : v 160 7 = v1 160 7 := congrArg Prod.fst (Option.some.inj ((falls_at j1).symm.trans (falls_at i1)))
      have d1 := (hd_at hse).1
      have d2 := (hd_at j1).1
      have E109 := e160 109
      rw [e109, u_ne (by omega), u_ne (by omega)] at E109
      obtain ⟨S2, hS2⟩ : ∃ S2, S2 = jup (jup (jup (jup (jup (jup v 170 0 (v 155 41)) 170 1 (v 155 42)) 170 2 (v 160 7 - v 155 43)) 170 3 (v 160 6 - v 155 44)) 170 4 (v 155 45)) 155 37 1 := ⟨_, rfl⟩
      have hg : Md_live 155 a S1 = some (t 27 3, S2) := by
        rw [hS2, k1]
        simp (disch := omega) only [↓jb_m, ↓jm_s, ↓reduceIte, t_lt, t_nlt, t_le, t_nle, t_eq, t_neq, w32_id, w64_id, jb_s, and_true, true_and, and_self, and_false, false_and, or_true, true_or, or_false, false_or, or_self, not_false_eq_true, not_true_eq_false, u_ne, u_eq, u_u, Int.reduceAdd, Int.reduceSub, Int.reduceMul, Int.reduceNeg, Int.zero_add, Int.add_zero, n15, n16, q10, q11, q12, q13, q14, Md_live, r2, E109, Md_isMouldAt, Md_isStuffAt, Md_isPlaceAt, Md_isTray, Md_isIn_1, Md_isIn_0, Md_refuse, Md_no]
      have g2 : ∀ x y, x ≠ 170 → ¬ (x = 155 ∧ y = 37) → S2 x y = v x y := fun x y q2 q3 => by
        rw [hS2, u_ne (by omega), u_ne (by omega), u_ne (by omega), u_ne (by omega), u_ne (by omega), u_ne (by omega)]
      have w7 : S2 155 37 = 1 := by rw [hS2]; simp (disch := omega) only [↓jb_m, ↓jm_s, ↓reduceIte, t_lt, t_nlt, t_le, t_nle, t_eq, t_neq, w32_id, w64_id, jb_s, and_true, true_and, and_self, and_false, false_and, or_true, true_or, or_false, false_or, or_self, not_false_eq_true, not_true_eq_false, u_ne, u_eq, u_u, Int.reduceAdd, Int.reduceSub, Int.reduceMul, Int.reduceNeg, Int.zero_add, Int.add_zero, n15, n16, q10, q11, q12, q13, q14]
      have q0 : S2 170 0 = v 155 41 := by rw [hS2]; simp (disch := omega) only [↓jb_m, ↓jm_s, ↓reduceIte, t_lt, t_nlt, t_le, t_nle, t_eq, t_neq, w32_id, w64_id, jb_s, and_true, true_and, and_self, and_false, false_and, or_true, true_or, or_false, false_or, or_self, not_false_eq_true, not_true_eq_false, u_ne, u_eq, u_u, Int.reduceAdd, Int.reduceSub, Int.reduceMul, Int.reduceNeg, Int.zero_add, Int.add_zero, n15, n16, q10, q11, q12, q13, q14]
      have q1 : S2 170 1 = v 155 42 := by rw [hS2]; simp (disch := omega) only [↓jb_m, ↓jm_s, ↓reduceIte, t_lt, t_nlt, t_le, t_nle, t_eq, t_neq, w32_id, w64_id, jb_s, and_true, true_and, and_self, and_false, false_and, or_true, true_or, or_false, false_or, or_self, not_false_eq_true, not_true_eq_false, u_ne, u_eq, u_u, Int.reduceAdd, Int.reduceSub, Int.reduceMul, Int.reduceNeg, Int.zero_add, Int.add_zero, n15, n16, q10, q11, q12, q13, q14]
      have q2 : S2 170 2 = v 160 7 - v 155 43 := by rw [hS2]; simp (disch := omega) only [↓jb_m, ↓jm_s, ↓reduceIte, t_lt, t_nlt, t_le, t_nle, t_eq, t_neq, w32_id, w64_id, jb_s, and_true, true_and, and_self, and_false, false_and, or_true, true_or, or_false, false_or, or_self, not_false_eq_true, not_true_eq_false, u_ne, u_eq, u_u, Int.reduceAdd, Int.reduceSub, Int.reduceMul, Int.reduceNeg, Int.zero_add, Int.add_zero, n15, n16, q10, q11, q12, q13, q14]
      have q3 : S2 170 3 = v 160 6 - v 155 44 := by rw [hS2]; simp (disch := omega) only [↓jb_m, ↓jm_s, ↓reduceIte, t_lt, t_nlt, t_le, t_nle, t_eq, t_neq, w32_id, w64_id, jb_s, and_true, true_and, and_self, and_false, false_and, or_true, true_or, or_false, false_or, or_self, not_false_eq_true, not_true_eq_false, u_ne, u_eq, u_u, Int.reduceAdd, Int.reduceSub, Int.reduceMul, Int.reduceNeg, Int.zero_add, Int.add_zero, n15, n16, q10, q11, q12, q13, q14]
      have q4 : S2 170 4 = v 155 45 := by rw [hS2]; simp (disch := omega) only [↓jb_m, ↓jm_s, ↓reduceIte, t_lt, t_nlt, t_le, t_nle, t_eq, t_neq, w32_id, w64_id, jb_s, and_true, true_and, and_self, and_false, false_and, or_true, true_or, or_false, false_or, or_self, not_false_eq_true, not_true_eq_false, u_ne, u_eq, u_u, Int.reduceAdd, Int.reduceSub, Int.reduceMul, Int.reduceNeg, Int.zero_add, Int.add_zero, n15, n16, q10, q11, q12, q13, q14]
      clear hS2
      have g3 : ∀ x y, ¬ fR x y → x ≠ 170 → ¬ (x = 155 ∧ (y = 37 ∨ y = 1 ∨ y = 0)) → S2 x y = S1 x y := fun x y n1 n2 n3 => by
        rw [g2 x y n2 (by omega), x2 x y n1, u_ne (by omega), u_ne (by omega)]
      have W : ∀ x y, ¬ eC (s 0 5) x y → x ≠ 29 → ¬ (x = 0 ∧ (y = 0 ∨ y = 8)) → ¬ fR x y → x ≠ 170 → ¬ (x = 155 ∧ (y = 37 ∨ y = 1 ∨ y = 0)) → S2 x y = s x y := fun x y n1 n2 n3 n4 n5 n6 => by
        rw [g3 x y n4 n5 n6, g1 x y n2 n3]
        exact x1 x y n1
      have Y : ∀ x y, x ≠ 29 → ¬ (x = 0 ∧ (y = 0 ∨ y = 8)) → ¬ fR x y → x ≠ 170 → ¬ (x = 155 ∧ (y = 37 ∨ y = 1 ∨ y = 0)) → S2 x y = t x y := fun x y n2 n3 n4 n5 n6 => by
        rw [g3 x y n4 n5 n6, g1 x y n2 n3]
      have h29 : ∀ y, S2 29 y = S1 29 y := fun y => g3 _ _ (by unfold fR rdy; omega) (by omega) (by omega)
      have h08 : S2 0 8 = 1 := by rw [g3 _ _ (by unfold fR rdy; omega) (by omega) (by omega)]; exact z8
      have h00 : S2 0 0 = 0 := by rw [g3 _ _ (by unfold fR rdy; omega) (by omega) (by omega)]; exact z0
      have h150 : S2 155 0 = 0 := by rw [g2 _ _ (by omega) (by omega), x2 _ _ (by unfold fR rdy; omega), u_eq ⟨rfl, rfl⟩]
      refine ⟨t 27 3, S1, S2, hf, hg, ?_, funext fun y => W _ _ (by unfold eC cdy; omega) (by omega) (by omega) (by unfold fR rdy; omega) (by omega) (by omega), funext fun y => W _ _ (by unfold eC cdy; omega) (by omega) (by omega) (by unfold fR rdy; omega) (by omega) (by omega)⟩
      obtain ⟨h1, h2, h3, h4, h5', h6, h7⟩ := h
      refine ⟨iMi_fr h1 (by rw [h00, h150]) (fun x y q => ?_), iTrs_fr h2 (fun x y q => ?_), iTp_fr h3 (fun x y q => ?_), ?_, iBs_fr h5' (fun x y q => ?_), ?_, iMk_fr h7 (W _ _ (by unfold eC cdy; omega) (by omega) (by omega) (by unfold fR rdy; omega) (by omega) (by omega)) h5'.2.2.1 (fun x y q => ?_)⟩
      · unfold rMi at q; exact W _ _ (by unfold eC cdy; omega) (by omega) (by omega) (by unfold fR rdy; omega) (by omega) (by omega)
      · unfold rTr at q; exact W _ _ (by unfold eC cdy; omega) (by omega) (by omega) (by unfold fR rdy; omega) (by omega) (by omega)
      · unfold rTp at q; exact W _ _ (by unfold eC cdy; omega) (by omega) (by omega) (by unfold fR rdy; omega) (by omega) (by omega)
      · refine ⟨by rw [h08, w7], Or.inr h08, fun j j1 j2 => ?_⟩
        rw [h29]
        rcases (by omega : j = 0 ∨ j = 1 ∨ j = 2 ∨ j = 3 ∨ j = 4) with e | e | e | e | e <;> subst e
        · rw [y0, q0]; exact k2
        · rw [y1, q1]; omega
        · rw [y2, q2]; omega
        · rw [y3, q3]; omega
        · rw [y4, q4]; exact k3
      · unfold rBs at q; exact W _ _ (by unfold eC cdy; omega) (by omega) (by omega) (by unfold fR rdy; omega) (by omega) (by omega)
      · rw [W 0 5 (by unfold eC cdy; omega) (by omega) (by omega) (by unfold fR rdy; omega) (by omega) (by omega)]
        have a1 : vw S2 (s 0 5) = vw t (s 0 5) := vw_congr (fun i j _ _ => Y _ _ (by omega) (by omega) (by unfold fR rdy; omega) (by omega) (by omega))
        have a2 : cw S2 0 = cw v 0 := cw_congr (fun o _ _ => g2 _ _ (by omega) (by omega))
        have a3 : ww S2 0 = ww s 0 := ww_congr (fun o _ _ => W _ _ (by unfold eC cdy; omega) (by omega) (by omega) (by unfold fR rdy; omega) (by omega) (by omega))
        rw [a1, a2, a3]
        exact ⟨j1, by rw [cw_at (by omega)]; exact j2, j3⟩
      · unfold rMk at q; exact W _ _ (by unfold eC cdy; omega) (by omega) (by omega) (by unfold fR rdy; omega) (by omega) (by omega)
  · rcases (by omega : a < 0 ∨ 9999 < a) with q | q
    · exact OKc.no (w := 5) (r := -1) h (by simp (disch := omega) only [↓jb_m, ↓jm_s, ↓reduceIte, t_lt, t_nlt, t_le, t_nle, t_eq, t_neq, w32_id, w64_id, jb_s, and_true, true_and, and_self, and_false, false_and, or_true, true_or, or_false, false_or, or_self, not_false_eq_true, not_true_eq_false, u_ne, u_eq, u_u, Int.reduceAdd, Int.reduceSub, Int.reduceMul, Int.reduceNeg, Int.zero_add, Int.add_zero, n15, n16, q10, q11, q12, q13, q14, Jc_live, Jc_answer, Jc_refuse, Jc_deny, Jc_grant, Se_isMould, Se_isStuff, Se_isPlace, hj]) (by simp (disch := omega) only [↓jb_m, ↓jm_s, ↓reduceIte, t_lt, t_nlt, t_le, t_nle, t_eq, t_neq, w32_id, w64_id, jb_s, and_true, true_and, and_self, and_false, false_and, or_true, true_or, or_false, false_or, or_self, not_false_eq_true, not_true_eq_false, u_ne, u_eq, u_u, Int.reduceAdd, Int.reduceSub, Int.reduceMul, Int.reduceNeg, Int.zero_add, Int.add_zero, n15, n16, q10, q11, q12, q13, q14, Md_live, Md_isMouldAt, Md_isStuffAt, Md_isPlaceAt, Md_isTray, Md_isIn_1, Md_isIn_0, Md_refuse, Md_no])
    · exact OKc.no (w := 5) (r := -1) h (by simp (disch := omega) only [↓jb_m, ↓jm_s, ↓reduceIte, t_lt, t_nlt, t_le, t_nle, t_eq, t_neq, w32_id, w64_id, jb_s, and_true, true_and, and_self, and_false, false_and, or_true, true_or, or_false, false_or, or_self, not_false_eq_true, not_true_eq_false, u_ne, u_eq, u_u, Int.reduceAdd, Int.reduceSub, Int.reduceMul, Int.reduceNeg, Int.zero_add, Int.add_zero, n15, n16, q10, q11, q12, q13, q14, Jc_live, Jc_answer, Jc_refuse, Jc_deny, Jc_grant, Se_isMould, Se_isStuff, Se_isPlace, hj]) (by simp (disch := omega) only [↓jb_m, ↓jm_s, ↓reduceIte, t_lt, t_nlt, t_le, t_nle, t_eq, t_neq, w32_id, w64_id, jb_s, and_true, true_and, and_self, and_false, false_and, or_true, true_or, or_false, false_or, or_self, not_false_eq_true, not_true_eq_false, u_ne, u_eq, u_u, Int.reduceAdd, Int.reduceSub, Int.reduceMul, Int.reduceNeg, Int.zero_add, Int.add_zero, n15, n16, q10, q11, q12, q13, q14, Md_live, Md_isMouldAt, Md_isStuffAt, Md_isPlaceAt, Md_isTray, Md_isIn_1, Md_isIn_0, Md_refuse, Md_no])
