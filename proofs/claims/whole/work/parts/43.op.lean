/-! what is done to a See: the class's See at b in s, the reference's block in u -/
theorem mcnt_at {u : jM} {m : Int} (h : 0 ≤ m ∧ m < 5) : mcnt (cw u 0) m = sum5 (fun j => u 160 (84 + 5 * m + j)) := sum5_congr (fun j j1 j2 => cw_at (by omega))
theorem mstr_at {u : jM} {m : Int} (h : 0 ≤ m ∧ m < 5) : mstr (cw u 0) m = sum5 (fun j => u 160 (84 + 5 * m + j) * u 160 (9 + j)) := sum5_congr (fun j j1 j2 => by rw [cw_at (by omega), cw_at (by omega)])
theorem hd_at {s u : jM} {b : Int} (h : iSe (vw s b) (cw u 0)) : (s b 0 = u 160 3 ∧ s b 1 = u 160 4 ∧ s b 2 = u 160 5 ∧ s b 3 = u 160 6 ∧ s b 4 = u 160 0 ∧ s b 5 = u 160 1 ∧ s b 6 = u 160 2 ∧ s b 7 = u 160 8) ∧ (0 ≤ u 160 0 ∧ u 160 0 ≤ 5 ∧ 0 ≤ u 160 1 ∧ u 160 1 ≤ 6 ∧ 0 ≤ u 160 2 ∧ u 160 2 ≤ 5 ∧ 0 ≤ u 160 3 ∧ u 160 3 ≤ 9 ∧ 0 ≤ u 160 4 ∧ u 160 4 ≤ 16 ∧ 0 ≤ u 160 5 ∧ 0 ≤ u 160 8 ∧ u 160 8 ≤ 10) := by
  have h1 := h.1
  unfold iHd at h1
  simp (disch := omega) only [vw_at, cw_at, Int.add_zero] at h1
  exact h1
theorem st_at {s u : jM} {b k : Int} (h : iSe (vw s b) (cw u 0)) (hk : 0 ≤ k ∧ k < u 160 0) : k < 5 ∧ s (b + 1) k = u 160 (9 + k) ∧ s (b + 2) k = u 160 (14 + k) ∧ s (b + 3) k = u 160 (19 + k) ∧ 0 ≤ u 160 (9 + k) ∧ u 160 (9 + k) ≤ 9 ∧ 0 ≤ u 160 (14 + k) ∧ u 160 (14 + k) ≤ 99 ∧ 0 ≤ u 160 (19 + k) ∧ u 160 (19 + k) ≤ 999 := by
  have hh := (hd_at h).2
  have h1 := h.2.1 k hk.1 (by rw [cw_at (by omega)]; exact hk.2)
  unfold iSt at h1
  simp (disch := omega) only [vw_at, cw_at] at h1
  exact ⟨by omega, h1⟩
theorem mo_at {s u : jM} {b m : Int} (h : iSe (vw s b) (cw u 0)) (hm : 0 ≤ m ∧ m < u 160 2) : m < 5 ∧ (s (b + (15 + 2 * m)) 0 = u 160 (54 + m) ∧ s (b + (15 + 2 * m)) 1 = u 160 (59 + m) ∧ s (b + (15 + 2 * m)) 2 = u 160 (64 + m) ∧ s (b + (15 + 2 * m)) 3 = u 160 (69 + m) ∧ s (b + (15 + 2 * m)) 4 = u 160 (74 + m) ∧ s (b + (15 + 2 * m)) 5 = mstr (cw u 0) m ∧ s (b + (15 + 2 * m)) 6 = mcnt (cw u 0) m ∧ s (b + (15 + 2 * m)) 7 = u 160 (79 + m)) ∧
  (∀ j, 0 ≤ j → j < 5 → s (b + (16 + 2 * m)) j = u 160 (84 + 5 * m + j) ∧ 0 ≤ u 160 (84 + 5 * m + j)) ∧ (∀ j, 0 ≤ j → u 160 0 ≤ j → j < 5 → u 160 (84 + 5 * m + j) = 0) ∧
  (1 ≤ u 160 (54 + m) ∧ u 160 (54 + m) ≤ 30 ∧ 1 ≤ u 160 (59 + m) ∧ u 160 (59 + m) ≤ 9 ∧ 0 ≤ u 160 (64 + m) ∧ u 160 (64 + m) < u 160 1 ∧ 0 ≤ u 160 (69 + m) ∧ u 160 (69 + m) ≤ 2 ∧ 0 ≤ mcnt (cw u 0) m ∧ mcnt (cw u 0) m ≤ u 160 (59 + m) ∧ 0 ≤ u 160 (74 + m) ∧ u 160 (74 + m) ≤ mstr (cw u 0) m ∧ mstr (cw u 0) m ≤ 9 * mcnt (cw u 0) m) ∧
  (u 160 (69 + m) = 0 → mcnt (cw u 0) m = 0 ∧ u 160 (74 + m) = 0) ∧ (u 160 (69 + m) ≠ 0 → 1 ≤ mcnt (cw u 0) m) ∧ (u 160 (69 + m) = 2 → mcnt (cw u 0) m = u 160 (59 + m) ∧ u 160 (54 + m) ≤ u 160 (74 + m)) := by
  have hh := (hd_at h).2
  have h1 := h.2.2.1 m hm.1 (by rw [cw_at (by omega)]; exact hm.2)
  unfold iMo at h1
  simp (disch := omega) only [vw_at, cw_at] at h1
  obtain ⟨g1, g2, g3, g4⟩ := h1
  refine ⟨by omega, g1, fun j j1 j2 => ?_, fun j j0 j1 j2 => ?_, g4⟩
  · have := g2 j j1 j2
    rw [cw_at (by omega)] at this
    exact this
  · have := g3 j j0 j1 j2
    rw [cw_at (by omega)] at this
    exact this
theorem parts_at {s u : jM} {b m : Int} (h : iSe (vw s b) (cw u 0)) (hm : 0 ≤ m ∧ m < u 160 2) : Md_partsIn 155 m u = some (mcnt (cw u 0) m, u) := by
  have h1 := mo_at h hm
  have hh := (hd_at h).2
  rw [Md_partsIn_eq ⟨hm.1, h1.1⟩ ⟨hh.1, hh.2.1⟩ h1.2.2.2.1, mcnt_at ⟨hm.1, h1.1⟩]
theorem str_at {s u : jM} {b m : Int} (h : iSe (vw s b) (cw u 0)) (hm : 0 ≤ m ∧ m < u 160 2) : Md_strengthOf 155 m u = some (mstr (cw u 0) m, u) := by
  have h1 := mo_at h hm
  have hh := (hd_at h).2
  rw [Md_strengthOf_eq ⟨hm.1, h1.1⟩ ⟨hh.1, hh.2.1⟩ h1.2.2.2.1, mstr_at ⟨hm.1, h1.1⟩]
/-- what changes of the class's See at b; of the reference -/
def cdy (b a j : Int) : Prop := (b ≤ a ∧ a < b + 25) ∧ ¬ (b + 5 ≤ a ∧ a < b + 15) ∧ ¬ (a = b ∧ 4 ≤ j)
def rdy (a o : Int) : Prop := (a = 160 ∧ ((3 ≤ o ∧ o ≤ 7) ∨ (9 ≤ o ∧ o < 24) ∨ (54 ≤ o ∧ o < 109))) ∨ a = 164
def R2 (b : Int) (s u t v : jM) : Prop := EX (cdy b) s t ∧ EX rdy u v ∧ iSe (vw t b) (cw v 0) ∧ (u 160 5 ≤ 9999 → v 160 5 ≤ 9999)
theorem R2.tr {b : Int} {s u t v t2 v2 : jM} (h : R2 b s u t v) (h2 : R2 b t v t2 v2) : R2 b s u t2 v2 := ⟨h.1.tr h2.1, h.2.1.tr h2.2.1, h2.2.2.1, fun q => h2.2.2.2 (h.2.2.2 q)⟩
theorem R2.rf {b : Int} {s u : jM} (h : iSe (vw s b) (cw u 0)) : R2 b s u s u := ⟨EX.rf _ _, EX.rf _ _, h, id⟩
theorem vwm {s : jM} {b i j : Int} (h : 0 ≤ i ∧ i < 25) (x : Int) (hx : s (b + i) j = x) : vw s b i j = x := (vw_at h).trans hx
/-- emptied -/
theorem op_void {s u : jM} {b m : Int} (h : iSe (vw s b) (cw u 0)) (hm : 0 ≤ m ∧ m < u 160 2) : ∃ r t v, Se_voidOut b m s = some (r, t) ∧ Md_voids 155 m u = some (r, v) ∧ R2 b s u t v ∧ (r = 0 ∨ r = 1) := by
  obtain ⟨m5, ⟨e0, e1, e2, e3, e4, e5, e6, e7⟩, hp, hz, hb, h0, h1, h2⟩ := mo_at h hm
  by_cases hs : u 160 (69 + m) = 0
  · refine ⟨0, s, u, ?_, ?_, R2.rf h, Or.inl rfl⟩
    · simp (disch := omega) only [↓jb_m, ↓jm_s, ↓reduceIte, t_lt, t_nlt, t_le, t_nle, t_eq, t_neq, w32_id, w64_id, jb_s, and_true, true_and, and_self, and_false, false_and, or_true, true_or, or_false, false_or, or_self, not_false_eq_true, not_true_eq_false, u_ne, u_eq, u_u, Int.reduceAdd, Int.reduceSub, Int.reduceMul, Int.reduceNeg, Int.zero_add, Int.add_zero, n15, n16, q10, q11, q12, q13, q14, Se_voidOut]
    · simp (disch := omega) only [↓jb_m, ↓jm_s, ↓reduceIte, t_lt, t_nlt, t_le, t_nle, t_eq, t_neq, w32_id, w64_id, jb_s, and_true, true_and, and_self, and_false, false_and, or_true, true_or, or_false, false_or, or_self, not_false_eq_true, not_true_eq_false, u_ne, u_eq, u_u, Int.reduceAdd, Int.reduceSub, Int.reduceMul, Int.reduceNeg, Int.zero_add, Int.add_zero, n15, n16, q10, q11, q12, q13, q14, Md_voids]
  · refine ⟨1, moV s (b + (15 + 2 * m)), mdV u m, ?_, ?_, ⟨?_, ?_, ?_, ?_⟩, Or.inr rfl⟩
    · simp (disch := omega) only [↓jb_m, ↓jm_s, ↓reduceIte, t_lt, t_nlt, t_le, t_nle, t_eq, t_neq, w32_id, w64_id, jb_s, and_true, true_and, and_self, and_false, false_and, or_true, true_or, or_false, false_or, or_self, not_false_eq_true, not_true_eq_false, u_ne, u_eq, u_u, Int.reduceAdd, Int.reduceSub, Int.reduceMul, Int.reduceNeg, Int.zero_add, Int.add_zero, n15, n16, q10, q11, q12, q13, q14, Se_voidOut, Mo_makeVoid_eq]
    · simp (disch := omega) only [↓jb_m, ↓jm_s, ↓reduceIte, t_lt, t_nlt, t_le, t_nle, t_eq, t_neq, w32_id, w64_id, jb_s, and_true, true_and, and_self, and_false, false_and, or_true, true_or, or_false, false_or, or_self, not_false_eq_true, not_true_eq_false, u_ne, u_eq, u_u, Int.reduceAdd, Int.reduceSub, Int.reduceMul, Int.reduceNeg, Int.zero_add, Int.add_zero, n15, n16, q10, q11, q12, q13, q14, Md_voids, Md_goes_eq]
    · unfold moV
      exact (((((EX.rf _ _).up (by unfold cdy; omega)).up (by unfold cdy; omega)).up (by unfold cdy; omega)).up (by unfold cdy; omega)).fill (fun j _ _ => by unfold cdy; omega)
    · unfold mdV
      exact (((EX.rf _ _).fill (fun j _ _ => by unfold rdy; omega)).up (by unfold rdy; omega)).up (by unfold rdy; omega)
    · refine iSe_void (m := m) (p := u 160 (64 + m)) (d := 0) h ⟨hm.1, by rw [cw_at (by omega)]; exact hm.2⟩ (vw_ext (fun i j i1 i2 q => ?_)) (vwm (by omega) _ ?_) (vwm (by omega) _ ?_) (vwm (by omega) _ ?_) (vwm (by omega) _ ?_) (vwm (by omega) _ ?_) (vwm (by omega) _ ?_) (fun j j1 j2 => vwm (by omega) _ ?_) (cw_ext (fun o o1 o2 q => ?_)) ?_ ?_ ?_ ?_ (fun j j1 j2 => ?_) ?_ ?_
      · unfold moV; simp (disch := omega) only [↓jb_m, ↓jm_s, ↓reduceIte, t_lt, t_nlt, t_le, t_nle, t_eq, t_neq, w32_id, w64_id, jb_s, and_true, true_and, and_self, and_false, false_and, or_true, true_or, or_false, false_or, or_self, not_false_eq_true, not_true_eq_false, u_ne, u_eq, u_u, Int.reduceAdd, Int.reduceSub, Int.reduceMul, Int.reduceNeg, Int.zero_add, Int.add_zero, n15, n16, q10, q11, q12, q13, q14, f_out]
      · unfold moV; simp (disch := omega) only [↓jb_m, ↓jm_s, ↓reduceIte, t_lt, t_nlt, t_le, t_nle, t_eq, t_neq, w32_id, w64_id, jb_s, and_true, true_and, and_self, and_false, false_and, or_true, true_or, or_false, false_or, or_self, not_false_eq_true, not_true_eq_false, u_ne, u_eq, u_u, Int.reduceAdd, Int.reduceSub, Int.reduceMul, Int.reduceNeg, Int.zero_add, Int.add_zero, n15, n16, q10, q11, q12, q13, q14, f_out]
      · unfold moV; simp (disch := omega) only [↓jb_m, ↓jm_s, ↓reduceIte, t_lt, t_nlt, t_le, t_nle, t_eq, t_neq, w32_id, w64_id, jb_s, and_true, true_and, and_self, and_false, false_and, or_true, true_or, or_false, false_or, or_self, not_false_eq_true, not_true_eq_false, u_ne, u_eq, u_u, Int.reduceAdd, Int.reduceSub, Int.reduceMul, Int.reduceNeg, Int.zero_add, Int.add_zero, n15, n16, q10, q11, q12, q13, q14, f_out]
      · unfold moV; simp (disch := omega) only [↓jb_m, ↓jm_s, ↓reduceIte, t_lt, t_nlt, t_le, t_nle, t_eq, t_neq, w32_id, w64_id, jb_s, and_true, true_and, and_self, and_false, false_and, or_true, true_or, or_false, false_or, or_self, not_false_eq_true, not_true_eq_false, u_ne, u_eq, u_u, Int.reduceAdd, Int.reduceSub, Int.reduceMul, Int.reduceNeg, Int.zero_add, Int.add_zero, n15, n16, q10, q11, q12, q13, q14, f_out]
      · unfold moV; simp (disch := omega) only [↓jb_m, ↓jm_s, ↓reduceIte, t_lt, t_nlt, t_le, t_nle, t_eq, t_neq, w32_id, w64_id, jb_s, and_true, true_and, and_self, and_false, false_and, or_true, true_or, or_false, false_or, or_self, not_false_eq_true, not_true_eq_false, u_ne, u_eq, u_u, Int.reduceAdd, Int.reduceSub, Int.reduceMul, Int.reduceNeg, Int.zero_add, Int.add_zero, n15, n16, q10, q11, q12, q13, q14, f_out]
      · unfold moV; simp (disch := omega) only [↓jb_m, ↓jm_s, ↓reduceIte, t_lt, t_nlt, t_le, t_nle, t_eq, t_neq, w32_id, w64_id, jb_s, and_true, true_and, and_self, and_false, false_and, or_true, true_or, or_false, false_or, or_self, not_false_eq_true, not_true_eq_false, u_ne, u_eq, u_u, Int.reduceAdd, Int.reduceSub, Int.reduceMul, Int.reduceNeg, Int.zero_add, Int.add_zero, n15, n16, q10, q11, q12, q13, q14, f_out]
      · unfold moV; simp (disch := omega) only [↓jb_m, ↓jm_s, ↓reduceIte, t_lt, t_nlt, t_le, t_nle, t_eq, t_neq, w32_id, w64_id, jb_s, and_true, true_and, and_self, and_false, false_and, or_true, true_or, or_false, false_or, or_self, not_false_eq_true, not_true_eq_false, u_ne, u_eq, u_u, Int.reduceAdd, Int.reduceSub, Int.reduceMul, Int.reduceNeg, Int.zero_add, Int.add_zero, n15, n16, q10, q11, q12, q13, q14, f_out, vw_at]
      · unfold moV; simp (disch := omega) only [↓jb_m, ↓jm_s, ↓reduceIte, t_lt, t_nlt, t_le, t_nle, t_eq, t_neq, w32_id, w64_id, jb_s, and_true, true_and, and_self, and_false, false_and, or_true, true_or, or_false, false_or, or_self, not_false_eq_true, not_true_eq_false, u_ne, u_eq, u_u, Int.reduceAdd, Int.reduceSub, Int.reduceMul, Int.reduceNeg, Int.zero_add, Int.add_zero, n15, n16, q10, q11, q12, q13, q14, f_in]
      · unfold mdV; simp (disch := omega) only [↓jb_m, ↓jm_s, ↓reduceIte, t_lt, t_nlt, t_le, t_nle, t_eq, t_neq, w32_id, w64_id, jb_s, and_true, true_and, and_self, and_false, false_and, or_true, true_or, or_false, false_or, or_self, not_false_eq_true, not_true_eq_false, u_ne, u_eq, u_u, Int.reduceAdd, Int.reduceSub, Int.reduceMul, Int.reduceNeg, Int.zero_add, Int.add_zero, n15, n16, q10, q11, q12, q13, q14, f_out]
      · unfold mdV; simp (disch := omega) only [↓jb_m, ↓jm_s, ↓reduceIte, t_lt, t_nlt, t_le, t_nle, t_eq, t_neq, w32_id, w64_id, jb_s, and_true, true_and, and_self, and_false, false_and, or_true, true_or, or_false, false_or, or_self, not_false_eq_true, not_true_eq_false, u_ne, u_eq, u_u, Int.reduceAdd, Int.reduceSub, Int.reduceMul, Int.reduceNeg, Int.zero_add, Int.add_zero, n15, n16, q10, q11, q12, q13, q14, f_out, cw_at]
      · unfold mdV; simp (disch := omega) only [↓jb_m, ↓jm_s, ↓reduceIte, t_lt, t_nlt, t_le, t_nle, t_eq, t_neq, w32_id, w64_id, jb_s, and_true, true_and, and_self, and_false, false_and, or_true, true_or, or_false, false_or, or_self, not_false_eq_true, not_true_eq_false, u_ne, u_eq, u_u, Int.reduceAdd, Int.reduceSub, Int.reduceMul, Int.reduceNeg, Int.zero_add, Int.add_zero, n15, n16, q10, q11, q12, q13, q14, f_out, cw_at]
      · unfold mdV; simp (disch := omega) only [↓jb_m, ↓jm_s, ↓reduceIte, t_lt, t_nlt, t_le, t_nle, t_eq, t_neq, w32_id, w64_id, jb_s, and_true, true_and, and_self, and_false, false_and, or_true, true_or, or_false, false_or, or_self, not_false_eq_true, not_true_eq_false, u_ne, u_eq, u_u, Int.reduceAdd, Int.reduceSub, Int.reduceMul, Int.reduceNeg, Int.zero_add, Int.add_zero, n15, n16, q10, q11, q12, q13, q14, f_out, cw_at]
      · unfold mdV; simp (disch := omega) only [↓jb_m, ↓jm_s, ↓reduceIte, t_lt, t_nlt, t_le, t_nle, t_eq, t_neq, w32_id, w64_id, jb_s, and_true, true_and, and_self, and_false, false_and, or_true, true_or, or_false, false_or, or_self, not_false_eq_true, not_true_eq_false, u_ne, u_eq, u_u, Int.reduceAdd, Int.reduceSub, Int.reduceMul, Int.reduceNeg, Int.zero_add, Int.add_zero, n15, n16, q10, q11, q12, q13, q14, f_out, cw_at]
      · unfold mdV; simp (disch := omega) only [↓jb_m, ↓jm_s, ↓reduceIte, t_lt, t_nlt, t_le, t_nle, t_eq, t_neq, w32_id, w64_id, jb_s, and_true, true_and, and_self, and_false, false_and, or_true, true_or, or_false, false_or, or_self, not_false_eq_true, not_true_eq_false, u_ne, u_eq, u_u, Int.reduceAdd, Int.reduceSub, Int.reduceMul, Int.reduceNeg, Int.zero_add, Int.add_zero, n15, n16, q10, q11, q12, q13, q14, f_in, cw_at]
      · unfold mdV; simp (disch := omega) only [↓jb_m, ↓jm_s, ↓reduceIte, t_lt, t_nlt, t_le, t_nle, t_eq, t_neq, w32_id, w64_id, jb_s, and_true, true_and, and_self, and_false, false_and, or_true, true_or, or_false, false_or, or_self, not_false_eq_true, not_true_eq_false, u_ne, u_eq, u_u, Int.reduceAdd, Int.reduceSub, Int.reduceMul, Int.reduceNeg, Int.zero_add, Int.add_zero, n15, n16, q10, q11, q12, q13, q14, f_out, cw_at]
      · simp (disch := omega) only [↓jb_m, ↓jm_s, ↓reduceIte, t_lt, t_nlt, t_le, t_nle, t_eq, t_neq, w32_id, w64_id, jb_s, and_true, true_and, and_self, and_false, false_and, or_true, true_or, or_false, false_or, or_self, not_false_eq_true, not_true_eq_false, u_ne, u_eq, u_u, Int.reduceAdd, Int.reduceSub, Int.reduceMul, Int.reduceNeg, Int.zero_add, Int.add_zero, n15, n16, q10, q11, q12, q13, q14, cw_at]
    · unfold mdV; simp (disch := omega) only [↓jb_m, ↓jm_s, ↓reduceIte, t_lt, t_nlt, t_le, t_nle, t_eq, t_neq, w32_id, w64_id, jb_s, and_true, true_and, and_self, and_false, false_and, or_true, true_or, or_false, false_or, or_self, not_false_eq_true, not_true_eq_false, u_ne, u_eq, u_u, Int.reduceAdd, Int.reduceSub, Int.reduceMul, Int.reduceNeg, Int.zero_add, Int.add_zero, n15, n16, q10, q11, q12, q13, q14, f_out]; exact id
/-- its FIRM is f: it falls if that is too little; on both sides, f told -/
theorem op_fall {s u : jM} {b m f p : Int} (h : iSe (vw s b) (cw u 0)) (hm : 0 ≤ m ∧ m < u 160 2) (hfull : mcnt (cw u 0) m = u 160 (59 + m)) (hf : -1000 ≤ f ∧ f ≤ mstr (cw u 0) m) (hp : 0 ≤ p ∧ p < u 160 1) {s1 u1 : jM} {y : Int}
    (hs : EX (fun a j => a = b + (15 + 2 * m) ∧ (j = 2 ∨ j = 3 ∨ j = 4)) s s1) (s3 : s1 (b + (15 + 2 * m)) 3 = 2) (s2 : s1 (b + (15 + 2 * m)) 2 = p) (s4 : s1 (b + (15 + 2 * m)) 4 - y = f)
    (hu : EX (fun a o => (a = 160 ∧ (o = 64 + m ∨ o = 69 + m ∨ o = 74 + m)) ∨ a = 164) u u1) (u3 : u1 160 (69 + m) = 2) (u2 : u1 160 (64 + m) = p) (u4 : u1 160 (74 + m) = f) :
    ∃ t v r, Mo_weaken (b + (15 + 2 * m)) y s1 = some (0, t) ∧ Md_falls 155 m u1 = some (r, v) ∧ R2 b s u t v := by
  obtain ⟨m5, ⟨e0, e1, e2, e3, e4, e5, e6, e7⟩, hq, hz, hb, h0, h1, h2⟩ := mo_at h hm
  have hh := (hd_at h).2
  have k0 : s1 (b + (15 + 2 * m)) 0 = u 160 (54 + m) := (hs _ _ (by omega)).trans e0
  have k7 : s1 (b + (15 + 2 * m)) 7 = u 160 (79 + m) := (hs _ _ (by omega)).trans e7
  have g0 : u1 160 (54 + m) = u 160 (54 + m) := hu _ _ (by omega)
  have g9 : u1 160 (79 + m) = u 160 (79 + m) := hu _ _ (by omega)
  have g7 : u1 160 7 = u 160 7 := hu _ _ (by omega)
  have hs' : EX (cdy b) s s1 := hs.wk (fun a j q => by unfold cdy; omega)
  have hu' : EX rdy u u1 := hu.wk (fun a o q => by unfold rdy; omega)
  have hmc : 0 ≤ m ∧ m < cw u 0 2 := ⟨hm.1, by rw [cw_at (by omega)]; exact hm.2⟩
  by_cases hfl : f < u 160 (54 + m)
  · refine ⟨_, _, _, Mo_weaken_2 s3 (by omega) (by omega) (by omega), Md_falls_2 ⟨hm.1, m5⟩ u3 (by omega) (by omega) (by omega), ?_, ?_, ?_, ?_⟩
    · unfold moV
      exact (((((((hs'.up (by unfold cdy; omega)).up (by unfold cdy; omega)).up (by unfold cdy; omega)).up (by unfold cdy; omega)).up (by unfold cdy; omega)).fill (fun j _ _ => by unfold cdy; omega)).up (by unfold cdy; omega))
    · unfold mdV
      exact ((((hu'.fill (fun j _ _ => by unfold rdy; omega)).up (by unfold rdy; omega)).up (by unfold rdy; omega)).up (by unfold rdy; omega)).up (by unfold rdy; omega)
    · refine iSe_void (m := m) (p := p) (d := 1) h hmc (vw_ext (fun i j i1 i2 q => ?_)) (vwm (by omega) _ ?_) (vwm (by omega) _ ?_) (vwm (by omega) _ ?_) (vwm (by omega) _ ?_) (vwm (by omega) _ ?_) (vwm (by omega) _ ?_) (fun j j1 j2 => vwm (by omega) _ ?_) (cw_ext (fun o o1 o2 q => ?_)) ?_ ?_ ?_ ?_ (fun j j1 j2 => ?_) ?_ ?_
      · unfold moV
        simp (disch := omega) only [↓jb_m, ↓jm_s, ↓reduceIte, t_lt, t_nlt, t_le, t_nle, t_eq, t_neq, w32_id, w64_id, jb_s, and_true, true_and, and_self, and_false, false_and, or_true, true_or, or_false, false_or, or_self, not_false_eq_true, not_true_eq_false, u_ne, u_eq, u_u, Int.reduceAdd, Int.reduceSub, Int.reduceMul, Int.reduceNeg, Int.zero_add, Int.add_zero, n15, n16, q10, q11, q12, q13, q14, f_out]
        exact hs _ _ (by omega)
      · unfold moV; simp (disch := omega) only [↓jb_m, ↓jm_s, ↓reduceIte, t_lt, t_nlt, t_le, t_nle, t_eq, t_neq, w32_id, w64_id, jb_s, and_true, true_and, and_self, and_false, false_and, or_true, true_or, or_false, false_or, or_self, not_false_eq_true, not_true_eq_false, u_ne, u_eq, u_u, Int.reduceAdd, Int.reduceSub, Int.reduceMul, Int.reduceNeg, Int.zero_add, Int.add_zero, n15, n16, q10, q11, q12, q13, q14, f_out]
      · unfold moV; simp (disch := omega) only [↓jb_m, ↓jm_s, ↓reduceIte, t_lt, t_nlt, t_le, t_nle, t_eq, t_neq, w32_id, w64_id, jb_s, and_true, true_and, and_self, and_false, false_and, or_true, true_or, or_false, false_or, or_self, not_false_eq_true, not_true_eq_false, u_ne, u_eq, u_u, Int.reduceAdd, Int.reduceSub, Int.reduceMul, Int.reduceNeg, Int.zero_add, Int.add_zero, n15, n16, q10, q11, q12, q13, q14, f_out]
      · unfold moV; simp (disch := omega) only [↓jb_m, ↓jm_s, ↓reduceIte, t_lt, t_nlt, t_le, t_nle, t_eq, t_neq, w32_id, w64_id, jb_s, and_true, true_and, and_self, and_false, false_and, or_true, true_or, or_false, false_or, or_self, not_false_eq_true, not_true_eq_false, u_ne, u_eq, u_u, Int.reduceAdd, Int.reduceSub, Int.reduceMul, Int.reduceNeg, Int.zero_add, Int.add_zero, n15, n16, q10, q11, q12, q13, q14, f_out]
      · unfold moV; simp (disch := omega) only [↓jb_m, ↓jm_s, ↓reduceIte, t_lt, t_nlt, t_le, t_nle, t_eq, t_neq, w32_id, w64_id, jb_s, and_true, true_and, and_self, and_false, false_and, or_true, true_or, or_false, false_or, or_self, not_false_eq_true, not_true_eq_false, u_ne, u_eq, u_u, Int.reduceAdd, Int.reduceSub, Int.reduceMul, Int.reduceNeg, Int.zero_add, Int.add_zero, n15, n16, q10, q11, q12, q13, q14, f_out]
      · unfold moV; simp (disch := omega) only [↓jb_m, ↓jm_s, ↓reduceIte, t_lt, t_nlt, t_le, t_nle, t_eq, t_neq, w32_id, w64_id, jb_s, and_true, true_and, and_self, and_false, false_and, or_true, true_or, or_false, false_or, or_self, not_false_eq_true, not_true_eq_false, u_ne, u_eq, u_u, Int.reduceAdd, Int.reduceSub, Int.reduceMul, Int.reduceNeg, Int.zero_add, Int.add_zero, n15, n16, q10, q11, q12, q13, q14, f_out]
      · unfold moV; simp (disch := omega) only [↓jb_m, ↓jm_s, ↓reduceIte, t_lt, t_nlt, t_le, t_nle, t_eq, t_neq, w32_id, w64_id, jb_s, and_true, true_and, and_self, and_false, false_and, or_true, true_or, or_false, false_or, or_self, not_false_eq_true, not_true_eq_false, u_ne, u_eq, u_u, Int.reduceAdd, Int.reduceSub, Int.reduceMul, Int.reduceNeg, Int.zero_add, Int.add_zero, n15, n16, q10, q11, q12, q13, q14, f_out, vw_at]
      · unfold moV; simp (disch := omega) only [↓jb_m, ↓jm_s, ↓reduceIte, t_lt, t_nlt, t_le, t_nle, t_eq, t_neq, w32_id, w64_id, jb_s, and_true, true_and, and_self, and_false, false_and, or_true, true_or, or_false, false_or, or_self, not_false_eq_true, not_true_eq_false, u_ne, u_eq, u_u, Int.reduceAdd, Int.reduceSub, Int.reduceMul, Int.reduceNeg, Int.zero_add, Int.add_zero, n15, n16, q10, q11, q12, q13, q14, f_in]
      · unfold mdV
        simp (disch := omega) only [↓jb_m, ↓jm_s, ↓reduceIte, t_lt, t_nlt, t_le, t_nle, t_eq, t_neq, w32_id, w64_id, jb_s, and_true, true_and, and_self, and_false, false_and, or_true, true_or, or_false, false_or, or_self, not_false_eq_true, not_true_eq_false, u_ne, u_eq, u_u, Int.reduceAdd, Int.reduceSub, Int.reduceMul, Int.reduceNeg, Int.zero_add, Int.add_zero, n15, n16, q10, q11, q12, q13, q14, f_out]
        exact hu _ _ (by omega)
      · unfold mdV; simp (disch := omega) only [↓jb_m, ↓jm_s, ↓reduceIte, t_lt, t_nlt, t_le, t_nle, t_eq, t_neq, w32_id, w64_id, jb_s, and_true, true_and, and_self, and_false, false_and, or_true, true_or, or_false, false_or, or_self, not_false_eq_true, not_true_eq_false, u_ne, u_eq, u_u, Int.reduceAdd, Int.reduceSub, Int.reduceMul, Int.reduceNeg, Int.zero_add, Int.add_zero, n15, n16, q10, q11, q12, q13, q14, f_out, cw_at]
      · unfold mdV; simp (disch := omega) only [↓jb_m, ↓jm_s, ↓reduceIte, t_lt, t_nlt, t_le, t_nle, t_eq, t_neq, w32_id, w64_id, jb_s, and_true, true_and, and_self, and_false, false_and, or_true, true_or, or_false, false_or, or_self, not_false_eq_true, not_true_eq_false, u_ne, u_eq, u_u, Int.reduceAdd, Int.reduceSub, Int.reduceMul, Int.reduceNeg, Int.zero_add, Int.add_zero, n15, n16, q10, q11, q12, q13, q14, f_out, cw_at]
      · unfold mdV; simp (disch := omega) only [↓jb_m, ↓jm_s, ↓reduceIte, t_lt, t_nlt, t_le, t_nle, t_eq, t_neq, w32_id, w64_id, jb_s, and_true, true_and, and_self, and_false, false_and, or_true, true_or, or_false, false_or, or_self, not_false_eq_true, not_true_eq_false, u_ne, u_eq, u_u, Int.reduceAdd, Int.reduceSub, Int.reduceMul, Int.reduceNeg, Int.zero_add, Int.add_zero, n15, n16, q10, q11, q12, q13, q14, f_out, cw_at]
      · unfold mdV; simp (disch := omega) only [↓jb_m, ↓jm_s, ↓reduceIte, t_lt, t_nlt, t_le, t_nle, t_eq, t_neq, w32_id, w64_id, jb_s, and_true, true_and, and_self, and_false, false_and, or_true, true_or, or_false, false_or, or_self, not_false_eq_true, not_true_eq_false, u_ne, u_eq, u_u, Int.reduceAdd, Int.reduceSub, Int.reduceMul, Int.reduceNeg, Int.zero_add, Int.add_zero, n15, n16, q10, q11, q12, q13, q14, f_out, cw_at]
      · unfold mdV; simp (disch := omega) only [↓jb_m, ↓jm_s, ↓reduceIte, t_lt, t_nlt, t_le, t_nle, t_eq, t_neq, w32_id, w64_id, jb_s, and_true, true_and, and_self, and_false, false_and, or_true, true_or, or_false, false_or, or_self, not_false_eq_true, not_true_eq_false, u_ne, u_eq, u_u, Int.reduceAdd, Int.reduceSub, Int.reduceMul, Int.reduceNeg, Int.zero_add, Int.add_zero, n15, n16, q10, q11, q12, q13, q14, f_in, cw_at]
      · unfold mdV; simp (disch := omega) only [↓jb_m, ↓jm_s, ↓reduceIte, t_lt, t_nlt, t_le, t_nle, t_eq, t_neq, w32_id, w64_id, jb_s, and_true, true_and, and_self, and_false, false_and, or_true, true_or, or_false, false_or, or_self, not_false_eq_true, not_true_eq_false, u_ne, u_eq, u_u, Int.reduceAdd, Int.reduceSub, Int.reduceMul, Int.reduceNeg, Int.zero_add, Int.add_zero, n15, n16, q10, q11, q12, q13, q14, f_out, cw_at]
      · simp (disch := omega) only [↓jb_m, ↓jm_s, ↓reduceIte, t_lt, t_nlt, t_le, t_nle, t_eq, t_neq, w32_id, w64_id, jb_s, and_true, true_and, and_self, and_false, false_and, or_true, true_or, or_false, false_or, or_self, not_false_eq_true, not_true_eq_false, u_ne, u_eq, u_u, Int.reduceAdd, Int.reduceSub, Int.reduceMul, Int.reduceNeg, Int.zero_add, Int.add_zero, n15, n16, q10, q11, q12, q13, q14, cw_at]
    · unfold mdV
      simp (disch := omega) only [↓jb_m, ↓jm_s, ↓reduceIte, t_lt, t_nlt, t_le, t_nle, t_eq, t_neq, w32_id, w64_id, jb_s, and_true, true_and, and_self, and_false, false_and, or_true, true_or, or_false, false_or, or_self, not_false_eq_true, not_true_eq_false, u_ne, u_eq, u_u, Int.reduceAdd, Int.reduceSub, Int.reduceMul, Int.reduceNeg, Int.zero_add, Int.add_zero, n15, n16, q10, q11, q12, q13, q14, f_out]
      rw [hu 160 5 (by omega)]
      exact id
  · refine ⟨_, _, _, Mo_weaken_1 s3 (by omega) (by omega) (by omega), Md_falls_1 ⟨hm.1, m5⟩ u3 (by omega) (by omega) (by omega), hs'.up (by unfold cdy; omega), hu', ?_, by rw [hu 160 5 (by omega)]; exact id⟩
    refine iSe_set (m := m) (p := p) (st := 2) (f := f) h hmc (vw_ext (fun i j i1 i2 q => ?_)) (vwm (by omega) _ ?_) (vwm (by omega) _ ?_) (vwm (by omega) _ ?_) (cw_ext (fun o o1 o2 q => ?_)) ?_ ?_ ?_ ?_ (by omega) ?_ (by omega) ?_ ?_
    · simp (disch := omega) only [↓jb_m, ↓jm_s, ↓reduceIte, t_lt, t_nlt, t_le, t_nle, t_eq, t_neq, w32_id, w64_id, jb_s, and_true, true_and, and_self, and_false, false_and, or_true, true_or, or_false, false_or, or_self, not_false_eq_true, not_true_eq_false, u_ne, u_eq, u_u, Int.reduceAdd, Int.reduceSub, Int.reduceMul, Int.reduceNeg, Int.zero_add, Int.add_zero, n15, n16, q10, q11, q12, q13, q14]
      exact hs _ _ (by omega)
    · simp (disch := omega) only [↓jb_m, ↓jm_s, ↓reduceIte, t_lt, t_nlt, t_le, t_nle, t_eq, t_neq, w32_id, w64_id, jb_s, and_true, true_and, and_self, and_false, false_and, or_true, true_or, or_false, false_or, or_self, not_false_eq_true, not_true_eq_false, u_ne, u_eq, u_u, Int.reduceAdd, Int.reduceSub, Int.reduceMul, Int.reduceNeg, Int.zero_add, Int.add_zero, n15, n16, q10, q11, q12, q13, q14]
    · simp (disch := omega) only [↓jb_m, ↓jm_s, ↓reduceIte, t_lt, t_nlt, t_le, t_nle, t_eq, t_neq, w32_id, w64_id, jb_s, and_true, true_and, and_self, and_false, false_and, or_true, true_or, or_false, false_or, or_self, not_false_eq_true, not_true_eq_false, u_ne, u_eq, u_u, Int.reduceAdd, Int.reduceSub, Int.reduceMul, Int.reduceNeg, Int.zero_add, Int.add_zero, n15, n16, q10, q11, q12, q13, q14]
    · simp (disch := omega) only [↓jb_m, ↓jm_s, ↓reduceIte, t_lt, t_nlt, t_le, t_nle, t_eq, t_neq, w32_id, w64_id, jb_s, and_true, true_and, and_self, and_false, false_and, or_true, true_or, or_false, false_or, or_self, not_false_eq_true, not_true_eq_false, u_ne, u_eq, u_u, Int.reduceAdd, Int.reduceSub, Int.reduceMul, Int.reduceNeg, Int.zero_add, Int.add_zero, n15, n16, q10, q11, q12, q13, q14]
    · exact hu _ _ (by omega)
    · simp (disch := omega) only [↓jb_m, ↓jm_s, ↓reduceIte, t_lt, t_nlt, t_le, t_nle, t_eq, t_neq, w32_id, w64_id, jb_s, and_true, true_and, and_self, and_false, false_and, or_true, true_or, or_false, false_or, or_self, not_false_eq_true, not_true_eq_false, u_ne, u_eq, u_u, Int.reduceAdd, Int.reduceSub, Int.reduceMul, Int.reduceNeg, Int.zero_add, Int.add_zero, n15, n16, q10, q11, q12, q13, q14, cw_at]
    · simp (disch := omega) only [↓jb_m, ↓jm_s, ↓reduceIte, t_lt, t_nlt, t_le, t_nle, t_eq, t_neq, w32_id, w64_id, jb_s, and_true, true_and, and_self, and_false, false_and, or_true, true_or, or_false, false_or, or_self, not_false_eq_true, not_true_eq_false, u_ne, u_eq, u_u, Int.reduceAdd, Int.reduceSub, Int.reduceMul, Int.reduceNeg, Int.zero_add, Int.add_zero, n15, n16, q10, q11, q12, q13, q14, cw_at]
    · simp (disch := omega) only [↓jb_m, ↓jm_s, ↓reduceIte, t_lt, t_nlt, t_le, t_nle, t_eq, t_neq, w32_id, w64_id, jb_s, and_true, true_and, and_self, and_false, false_and, or_true, true_or, or_false, false_or, or_self, not_false_eq_true, not_true_eq_false, u_ne, u_eq, u_u, Int.reduceAdd, Int.reduceSub, Int.reduceMul, Int.reduceNeg, Int.zero_add, Int.add_zero, n15, n16, q10, q11, q12, q13, q14, cw_at]
    · simp (disch := omega) only [↓jb_m, ↓jm_s, ↓reduceIte, t_lt, t_nlt, t_le, t_nle, t_eq, t_neq, w32_id, w64_id, jb_s, and_true, true_and, and_self, and_false, false_and, or_true, true_or, or_false, false_or, or_self, not_false_eq_true, not_true_eq_false, u_ne, u_eq, u_u, Int.reduceAdd, Int.reduceSub, Int.reduceMul, Int.reduceNeg, Int.zero_add, Int.add_zero, n15, n16, q10, q11, q12, q13, q14, cw_at]
    · omega
    · intro _
      rw [hfull]
      omega
    · intro _
      simp (disch := omega) only [↓jb_m, ↓jm_s, ↓reduceIte, t_lt, t_nlt, t_le, t_nle, t_eq, t_neq, w32_id, w64_id, jb_s, and_true, true_and, and_self, and_false, false_and, or_true, true_or, or_false, false_or, or_self, not_false_eq_true, not_true_eq_false, u_ne, u_eq, u_u, Int.reduceAdd, Int.reduceSub, Int.reduceMul, Int.reduceNeg, Int.zero_add, Int.add_zero, n15, n16, q10, q11, q12, q13, q14, cw_at]
/-- knocked -/
theorem op_knock {s u : jM} {b m : Int} (h : iSe (vw s b) (cw u 0)) (hm : 0 ≤ m ∧ m < u 160 2) : ∃ r t v, Se_turnOut b m s = some (r, t) ∧ Md_knocks 155 m u = some (r, v) ∧ R2 b s u t v ∧ (r = 0 ∨ r = 1) := by
  obtain ⟨m5, ⟨e0, e1, e2, e3, e4, e5, e6, e7⟩, hq, hz, hb, h0, h1, h2⟩ := mo_at h hm
  have hh := (hd_at h).2
  have hpa := parts_at h hm
  by_cases hs : u 160 (69 + m) = 1 ∧ mcnt (cw u 0) m = u 160 (59 + m)
  · obtain ⟨t, v, r, g1, g2, g3⟩ := op_fall (y := 0) (f := u 160 (74 + m)) (p := u 160 (64 + m)) (s1 := jup s (b + (15 + 2 * m)) 3 2) (u1 := jup u 160 (69 + m) 2) h hm hs.2 (by omega) (by omega) ((EX.rf _ _).up (by omega)) (by simp (disch := omega) only [↓jb_m, ↓jm_s, ↓reduceIte, t_lt, t_nlt, t_le, t_nle, t_eq, t_neq, w32_id, w64_id, jb_s, and_true, true_and, and_self, and_false, false_and, or_true, true_or, or_false, false_or, or_self, not_false_eq_true, not_true_eq_false, u_ne, u_eq, u_u, Int.reduceAdd, Int.reduceSub, Int.reduceMul, Int.reduceNeg, Int.zero_add, Int.add_zero, n15, n16, q10, q11, q12, q13, q14]) (by simp (disch := omega) only [↓jb_m, ↓jm_s, ↓reduceIte, t_lt, t_nlt, t_le, t_nle, t_eq, t_neq, w32_id, w64_id, jb_s, and_true, true_and, and_self, and_false, false_and, or_true, true_or, or_false, false_or, or_self, not_false_eq_true, not_true_eq_false, u_ne, u_eq, u_u, Int.reduceAdd, Int.reduceSub, Int.reduceMul, Int.reduceNeg, Int.zero_add, Int.add_zero, n15, n16, q10, q11, q12, q13, q14]) (by simp (disch := omega) only [↓jb_m, ↓jm_s, ↓reduceIte, t_lt, t_nlt, t_le, t_nle, t_eq, t_neq, w32_id, w64_id, jb_s, and_true, true_and, and_self, and_false, false_and, or_true, true_or, or_false, false_or, or_self, not_false_eq_true, not_true_eq_false, u_ne, u_eq, u_u, Int.reduceAdd, Int.reduceSub, Int.reduceMul, Int.reduceNeg, Int.zero_add, Int.add_zero, n15, n16, q10, q11, q12, q13, q14, Int.sub_zero]) ((EX.rf _ _).up (by omega)) (by simp (disch := omega) only [↓jb_m, ↓jm_s, ↓reduceIte, t_lt, t_nlt, t_le, t_nle, t_eq, t_neq, w32_id, w64_id, jb_s, and_true, true_and, and_self, and_false, false_and, or_true, true_or, or_false, false_or, or_self, not_false_eq_true, not_true_eq_false, u_ne, u_eq, u_u, Int.reduceAdd, Int.reduceSub, Int.reduceMul, Int.reduceNeg, Int.zero_add, Int.add_zero, n15, n16, q10, q11, q12, q13, q14]) (by simp (disch := omega) only [↓jb_m, ↓jm_s, ↓reduceIte, t_lt, t_nlt, t_le, t_nle, t_eq, t_neq, w32_id, w64_id, jb_s, and_true, true_and, and_self, and_false, false_and, or_true, true_or, or_false, false_or, or_self, not_false_eq_true, not_true_eq_false, u_ne, u_eq, u_u, Int.reduceAdd, Int.reduceSub, Int.reduceMul, Int.reduceNeg, Int.zero_add, Int.add_zero, n15, n16, q10, q11, q12, q13, q14]) (by simp (disch := omega) only [↓jb_m, ↓jm_s, ↓reduceIte, t_lt, t_nlt, t_le, t_nle, t_eq, t_neq, w32_id, w64_id, jb_s, and_true, true_and, and_self, and_false, false_and, or_true, true_or, or_false, false_or, or_self, not_false_eq_true, not_true_eq_false, u_ne, u_eq, u_u, Int.reduceAdd, Int.reduceSub, Int.reduceMul, Int.reduceNeg, Int.zero_add, Int.add_zero, n15, n16, q10, q11, q12, q13, q14])
    refine ⟨1, t, v, ?_, ?_, g3, Or.inr rfl⟩
    · simp (disch := omega) only [↓jb_m, ↓jm_s, ↓reduceIte, t_lt, t_nlt, t_le, t_nle, t_eq, t_neq, w32_id, w64_id, jb_s, and_true, true_and, and_self, and_false, false_and, or_true, true_or, or_false, false_or, or_self, not_false_eq_true, not_true_eq_false, u_ne, u_eq, u_u, Int.reduceAdd, Int.reduceSub, Int.reduceMul, Int.reduceNeg, Int.zero_add, Int.add_zero, n15, n16, q10, q11, q12, q13, q14, Se_turnOut, Mo_canBeTurnedOut, g1]
    · simp (disch := omega) only [↓jb_m, ↓jm_s, ↓reduceIte, t_lt, t_nlt, t_le, t_nle, t_eq, t_neq, w32_id, w64_id, jb_s, and_true, true_and, and_self, and_false, false_and, or_true, true_or, or_false, false_or, or_self, not_false_eq_true, not_true_eq_false, u_ne, u_eq, u_u, Int.reduceAdd, Int.reduceSub, Int.reduceMul, Int.reduceNeg, Int.zero_add, Int.add_zero, n15, n16, q10, q11, q12, q13, q14, Md_knocks, Md_isReady, hpa, g2]
  · refine ⟨0, s, u, ?_, ?_, R2.rf h, Or.inl rfl⟩
    · by_cases hs1 : u 160 (69 + m) = 1
      · simp (disch := omega) only [↓jb_m, ↓jm_s, ↓reduceIte, t_lt, t_nlt, t_le, t_nle, t_eq, t_neq, w32_id, w64_id, jb_s, and_true, true_and, and_self, and_false, false_and, or_true, true_or, or_false, false_or, or_self, not_false_eq_true, not_true_eq_false, u_ne, u_eq, u_u, Int.reduceAdd, Int.reduceSub, Int.reduceMul, Int.reduceNeg, Int.zero_add, Int.add_zero, n15, n16, q10, q11, q12, q13, q14, Se_turnOut, Mo_canBeTurnedOut]
      · simp (disch := omega) only [↓jb_m, ↓jm_s, ↓reduceIte, t_lt, t_nlt, t_le, t_nle, t_eq, t_neq, w32_id, w64_id, jb_s, and_true, true_and, and_self, and_false, false_and, or_true, true_or, or_false, false_or, or_self, not_false_eq_true, not_true_eq_false, u_ne, u_eq, u_u, Int.reduceAdd, Int.reduceSub, Int.reduceMul, Int.reduceNeg, Int.zero_add, Int.add_zero, n15, n16, q10, q11, q12, q13, q14, Se_turnOut, Mo_canBeTurnedOut]
    · by_cases hs1 : u 160 (69 + m) = 1
      · simp (disch := omega) only [↓jb_m, ↓jm_s, ↓reduceIte, t_lt, t_nlt, t_le, t_nle, t_eq, t_neq, w32_id, w64_id, jb_s, and_true, true_and, and_self, and_false, false_and, or_true, true_or, or_false, false_or, or_self, not_false_eq_true, not_true_eq_false, u_ne, u_eq, u_u, Int.reduceAdd, Int.reduceSub, Int.reduceMul, Int.reduceNeg, Int.zero_add, Int.add_zero, n15, n16, q10, q11, q12, q13, q14, Md_knocks, Md_isReady, hpa]
      · simp (disch := omega) only [↓jb_m, ↓jm_s, ↓reduceIte, t_lt, t_nlt, t_le, t_nle, t_eq, t_neq, w32_id, w64_id, jb_s, and_true, true_and, and_self, and_false, false_and, or_true, true_or, or_false, false_or, or_self, not_false_eq_true, not_true_eq_false, u_ne, u_eq, u_u, Int.reduceAdd, Int.reduceSub, Int.reduceMul, Int.reduceNeg, Int.zero_add, Int.add_zero, n15, n16, q10, q11, q12, q13, q14, Md_knocks, Md_isReady, hpa]
/-- touched -/
theorem op_touch {s u : jM} {b m : Int} (h : iSe (vw s b) (cw u 0)) (hm : 0 ≤ m ∧ m < u 160 2) : ∃ r t v, Se_press b m s = some (r, t) ∧ Md_touches 155 m u = some (r, v) ∧ R2 b s u t v ∧ (r = 0 ∨ r = 1) := by
  obtain ⟨m5, ⟨e0, e1, e2, e3, e4, e5, e6, e7⟩, hq, hz, hb, h0, h1, h2⟩ := mo_at h hm
  have hh := (hd_at h).2
  by_cases hs : u 160 (69 + m) = 2
  · by_cases h9 : 9 < u 160 (54 + m)
    · obtain ⟨t, v, r, g1, g2, g3⟩ := op_fall (y := 2) (f := u 160 (74 + m) - 2) (p := u 160 (64 + m)) (s1 := s) (u1 := jup u 160 (74 + m) (u 160 (74 + m) - 2)) h hm (h2 hs).1 (by omega) (by omega) (EX.rf _ _) (by omega) (by omega) (by omega) ((EX.rf _ _).up (by omega)) (by simp (disch := omega) only [↓jb_m, ↓jm_s, ↓reduceIte, t_lt, t_nlt, t_le, t_nle, t_eq, t_neq, w32_id, w64_id, jb_s, and_true, true_and, and_self, and_false, false_and, or_true, true_or, or_false, false_or, or_self, not_false_eq_true, not_true_eq_false, u_ne, u_eq, u_u, Int.reduceAdd, Int.reduceSub, Int.reduceMul, Int.reduceNeg, Int.zero_add, Int.add_zero, n15, n16, q10, q11, q12, q13, q14]) (by simp (disch := omega) only [↓jb_m, ↓jm_s, ↓reduceIte, t_lt, t_nlt, t_le, t_nle, t_eq, t_neq, w32_id, w64_id, jb_s, and_true, true_and, and_self, and_false, false_and, or_true, true_or, or_false, false_or, or_self, not_false_eq_true, not_true_eq_false, u_ne, u_eq, u_u, Int.reduceAdd, Int.reduceSub, Int.reduceMul, Int.reduceNeg, Int.zero_add, Int.add_zero, n15, n16, q10, q11, q12, q13, q14]) (by simp (disch := omega) only [↓jb_m, ↓jm_s, ↓reduceIte, t_lt, t_nlt, t_le, t_nle, t_eq, t_neq, w32_id, w64_id, jb_s, and_true, true_and, and_self, and_false, false_and, or_true, true_or, or_false, false_or, or_self, not_false_eq_true, not_true_eq_false, u_ne, u_eq, u_u, Int.reduceAdd, Int.reduceSub, Int.reduceMul, Int.reduceNeg, Int.zero_add, Int.add_zero, n15, n16, q10, q11, q12, q13, q14])
      refine ⟨1, t, v, ?_, ?_, g3, Or.inr rfl⟩
      · simp (disch := omega) only [↓jb_m, ↓jm_s, ↓reduceIte, t_lt, t_nlt, t_le, t_nle, t_eq, t_neq, w32_id, w64_id, jb_s, and_true, true_and, and_self, and_false, false_and, or_true, true_or, or_false, false_or, or_self, not_false_eq_true, not_true_eq_false, u_ne, u_eq, u_u, Int.reduceAdd, Int.reduceSub, Int.reduceMul, Int.reduceNeg, Int.zero_add, Int.add_zero, n15, n16, q10, q11, q12, q13, q14, Se_press, g1]
      · simp (disch := omega) only [↓jb_m, ↓jm_s, ↓reduceIte, t_lt, t_nlt, t_le, t_nle, t_eq, t_neq, w32_id, w64_id, jb_s, and_true, true_and, and_self, and_false, false_and, or_true, true_or, or_false, false_or, or_self, not_false_eq_true, not_true_eq_false, u_ne, u_eq, u_u, Int.reduceAdd, Int.reduceSub, Int.reduceMul, Int.reduceNeg, Int.zero_add, Int.add_zero, n15, n16, q10, q11, q12, q13, q14, Md_touches, g2]
    · obtain ⟨t, v, r, g1, g2, g3⟩ := op_fall (y := 1) (f := u 160 (74 + m) - 1) (p := u 160 (64 + m)) (s1 := s) (u1 := jup u 160 (74 + m) (u 160 (74 + m) - 1)) h hm (h2 hs).1 (by omega) (by omega) (EX.rf _ _) (by omega) (by omega) (by omega) ((EX.rf _ _).up (by omega)) (by simp (disch := omega) only [↓jb_m, ↓jm_s, ↓reduceIte, t_lt, t_nlt, t_le, t_nle, t_eq, t_neq, w32_id, w64_id, jb_s, and_true, true_and, and_self, and_false, false_and, or_true, true_or, or_false, false_or, or_self, not_false_eq_true, not_true_eq_false, u_ne, u_eq, u_u, Int.reduceAdd, Int.reduceSub, Int.reduceMul, Int.reduceNeg, Int.zero_add, Int.add_zero, n15, n16, q10, q11, q12, q13, q14]) (by simp (disch := omega) only [↓jb_m, ↓jm_s, ↓reduceIte, t_lt, t_nlt, t_le, t_nle, t_eq, t_neq, w32_id, w64_id, jb_s, and_true, true_and, and_self, and_false, false_and, or_true, true_or, or_false, false_or, or_self, not_false_eq_true, not_true_eq_false, u_ne, u_eq, u_u, Int.reduceAdd, Int.reduceSub, Int.reduceMul, Int.reduceNeg, Int.zero_add, Int.add_zero, n15, n16, q10, q11, q12, q13, q14]) (by simp (disch := omega) only [↓jb_m, ↓jm_s, ↓reduceIte, t_lt, t_nlt, t_le, t_nle, t_eq, t_neq, w32_id, w64_id, jb_s, and_true, true_and, and_self, and_false, false_and, or_true, true_or, or_false, false_or, or_self, not_false_eq_true, not_true_eq_false, u_ne, u_eq, u_u, Int.reduceAdd, Int.reduceSub, Int.reduceMul, Int.reduceNeg, Int.zero_add, Int.add_zero, n15, n16, q10, q11, q12, q13, q14])
      refine ⟨1, t, v, ?_, ?_, g3, Or.inr rfl⟩
      · simp (disch := omega) only [↓jb_m, ↓jm_s, ↓reduceIte, t_lt, t_nlt, t_le, t_nle, t_eq, t_neq, w32_id, w64_id, jb_s, and_true, true_and, and_self, and_false, false_and, or_true, true_or, or_false, false_or, or_self, not_false_eq_true, not_true_eq_false, u_ne, u_eq, u_u, Int.reduceAdd, Int.reduceSub, Int.reduceMul, Int.reduceNeg, Int.zero_add, Int.add_zero, n15, n16, q10, q11, q12, q13, q14, Se_press, g1]
      · simp (disch := omega) only [↓jb_m, ↓jm_s, ↓reduceIte, t_lt, t_nlt, t_le, t_nle, t_eq, t_neq, w32_id, w64_id, jb_s, and_true, true_and, and_self, and_false, false_and, or_true, true_or, or_false, false_or, or_self, not_false_eq_true, not_true_eq_false, u_ne, u_eq, u_u, Int.reduceAdd, Int.reduceSub, Int.reduceMul, Int.reduceNeg, Int.zero_add, Int.add_zero, n15, n16, q10, q11, q12, q13, q14, Md_touches, g2]
  · refine ⟨0, s, u, ?_, ?_, R2.rf h, Or.inl rfl⟩
    · simp (disch := omega) only [↓jb_m, ↓jm_s, ↓reduceIte, t_lt, t_nlt, t_le, t_nle, t_eq, t_neq, w32_id, w64_id, jb_s, and_true, true_and, and_self, and_false, false_and, or_true, true_or, or_false, false_or, or_self, not_false_eq_true, not_true_eq_false, u_ne, u_eq, u_u, Int.reduceAdd, Int.reduceSub, Int.reduceMul, Int.reduceNeg, Int.zero_add, Int.add_zero, n15, n16, q10, q11, q12, q13, q14, Se_press]
    · simp (disch := omega) only [↓jb_m, ↓jm_s, ↓reduceIte, t_lt, t_nlt, t_le, t_nle, t_eq, t_neq, w32_id, w64_id, jb_s, and_true, true_and, and_self, and_false, false_and, or_true, true_or, or_false, false_or, or_self, not_false_eq_true, not_true_eq_false, u_ne, u_eq, u_u, Int.reduceAdd, Int.reduceSub, Int.reduceMul, Int.reduceNeg, Int.zero_add, Int.add_zero, n15, n16, q10, q11, q12, q13, q14, Md_touches]
/-- STOCK of one, SPENT -/
theorem iSe_st {V V' : jM} {c c' : Int → Int} {k : Int} (h : iSe V c) (hk : 0 ≤ k ∧ k < c 0) (hV : ∀ i j, ¬ ((i = 3 ∧ j = k) ∨ (i = 0 ∧ j = 3)) → V' i j = V i j) (hc : ∀ o, ¬ (o = 19 + k ∨ o = 6) → c' o = c o) (v3 : V' 3 k = c' (19 + k)) (v0 : V' 0 3 = c' 6) (hb : 0 ≤ c' (19 + k) ∧ c' (19 + k) ≤ 999) : iSe V' c' := by
  obtain ⟨⟨g1, g2⟩, g3, g4, g5, g6⟩ := h
  have c0 := hc 0 (by omega)
  have c1 := hc 1 (by omega)
  have c2 := hc 2 (by omega)
  refine ⟨⟨?_, ?_⟩, ?_, ?_, ?_, ?_⟩
  · rw [hV 0 0 (by omega), hV 0 1 (by omega), hV 0 2 (by omega), v0, hV 0 4 (by omega), hV 0 5 (by omega), hV 0 6 (by omega), hV 0 7 (by omega), c0, c1, c2, hc 3 (by omega), hc 4 (by omega), hc 5 (by omega), hc 8 (by omega)]
    obtain ⟨a0, a1, a2, a3, a4⟩ := g1
    exact ⟨a0, a1, a2, rfl, a4⟩
  · rw [c0, c1, c2, hc 3 (by omega), hc 4 (by omega), hc 5 (by omega), hc 8 (by omega)]
    exact g2
  · intro j j1 j2
    rw [c0] at j2
    have := g3 j j1 j2
    unfold iSt at this ⊢
    rw [hV 1 j (by omega), hV 2 j (by omega), hc (9 + j) (by omega), hc (14 + j) (by omega)]
    by_cases e : j = k
    · subst e
      rw [v3]
      omega
    · rw [hV 3 j (by omega), hc (19 + j) (by omega)]
      exact this
  · intro i i1 i2
    rw [c2] at i2
    exact iMo_congr (g4 i i1 i2) (fun j => hV _ j (by omega)) (fun j _ _ => hV _ j (by omega)) c0 c1 (fun j _ _ => hc _ (by omega)) (fun j _ _ => hc _ (by omega)) (hc _ (by omega)) (hc _ (by omega)) (hc _ (by omega)) (hc _ (by omega)) (hc _ (by omega)) (hc _ (by omega))
  · intro i i1 i2
    rw [c2] at i1
    rw [hc _ (by omega)]
    exact g5 i i1 i2
  · rw [hc 7 (by omega), g6]
    exact (sum5_congr (fun j _ _ => hc _ (by omega))).symm
/-- HEAT, ODDS, the MINUTE -/
theorem iSe_hd {V V' : jM} {c c' : Int → Int} (h : iSe V c) (hV : ∀ i j, ¬ (i = 0 ∧ 0 ≤ j ∧ j ≤ 2) → V' i j = V i j) (hc : ∀ o, ¬ (3 ≤ o ∧ o ≤ 5) → c' o = c o) (v0 : V' 0 0 = c' 3) (v1 : V' 0 1 = c' 4) (v2 : V' 0 2 = c' 5) (hb : 0 ≤ c' 3 ∧ c' 3 ≤ 9 ∧ 0 ≤ c' 4 ∧ c' 4 ≤ 16 ∧ 0 ≤ c' 5) : iSe V' c' := by
  obtain ⟨⟨g1, g2⟩, g3, g4, g5, g6⟩ := h
  have c0 := hc 0 (by omega)
  have c1 := hc 1 (by omega)
  have c2 := hc 2 (by omega)
  refine ⟨⟨?_, ?_⟩, ?_, ?_, ?_, ?_⟩
  · rw [v0, v1, v2, hV 0 3 (by omega), hV 0 4 (by omega), hV 0 5 (by omega), hV 0 6 (by omega), hV 0 7 (by omega), c0, c1, c2, hc 6 (by omega), hc 8 (by omega)]
    obtain ⟨a0, a1, a2, a3⟩ := g1
    exact ⟨rfl, rfl, rfl, a3⟩
  · rw [c0, c1, c2, hc 8 (by omega)]
    omega
  · intro j j1 j2
    rw [c0] at j2
    unfold iSt
    rw [hV 1 j (by omega), hV 2 j (by omega), hV 3 j (by omega), hc (9 + j) (by omega), hc (14 + j) (by omega), hc (19 + j) (by omega)]
    exact g3 j j1 j2
  · intro i i1 i2
    rw [c2] at i2
    exact iMo_congr (g4 i i1 i2) (fun j => hV _ j (by omega)) (fun j _ _ => hV _ j (by omega)) c0 c1 (fun j _ _ => hc _ (by omega)) (fun j _ _ => hc _ (by omega)) (hc _ (by omega)) (hc _ (by omega)) (hc _ (by omega)) (hc _ (by omega)) (hc _ (by omega)) (hc _ (by omega))
  · intro i i1 i2
    rw [c2] at i1
    rw [hc _ (by omega)]
    exact g5 i i1 i2
  · rw [hc 7 (by omega), g6]
    exact (sum5_congr (fun j _ _ => hc _ (by omega))).symm
theorem iSe_pour {V V' : jM} {c c' : Int → Int} {m k n : Int} (h : iSe V c) (hm : 0 ≤ m ∧ m < c 2) (hk : 0 ≤ k ∧ k < c 0) (hn : 1 ≤ n) (hst : c (69 + m) ≠ 2) (hsk : n ≤ c (19 + k)) (hro : mcnt c m + n ≤ c (59 + m))
    (hV : ∀ i j, ¬ ((i = 3 ∧ j = k) ∨ (i = 0 ∧ j = 3) ∨ (i = 15 + 2 * m ∧ 3 ≤ j ∧ j ≤ 6) ∨ (i = 16 + 2 * m ∧ j = k)) → V' i j = V i j) (v3 : V' 3 k = V 3 k - n) (v0 : V' 0 3 = V 0 3 + n * V 2 k) (w3 : V' (15 + 2 * m) 3 = 1) (w4 : V' (15 + 2 * m) 4 = 0) (w5 : V' (15 + 2 * m) 5 = V (15 + 2 * m) 5 + n * V 1 k) (w6 : V' (15 + 2 * m) 6 = V (15 + 2 * m) 6 + n) (w7 : V' (16 + 2 * m) k = V (16 + 2 * m) k + n)
    (hc : ∀ o, ¬ (o = 19 + k ∨ o = 6 ∨ o = 69 + m ∨ o = 74 + m ∨ o = 84 + 5 * m + k) → c' o = c o) (x3 : c' (19 + k) = c (19 + k) - n) (x0 : c' 6 = c 6 + n * c (14 + k)) (y3 : c' (69 + m) = 1) (y4 : c' (74 + m) = 0) (y7 : c' (84 + 5 * m + k) = c (84 + 5 * m + k) + n) : iSe V' c' := by
  have hmo := h.2.2.1 m hm.1 hm.2
  have hhd := h.1.2
  have hst' := h.2.1 k hk.1 hk.2
  have a0 := h.1.1.2.2.2.1
  unfold iSt at hst'
  have hA : iSe (fun i j => if (i = 3 ∧ j = k) ∨ (i = 0 ∧ j = 3) then V' i j else V i j) (fun o => if o = 19 + k ∨ o = 6 then c' o else c o) := by
    refine iSe_st (k := k) h hk (fun i j q => if_neg q) (fun o q => if_neg q) ?_ ?_ ?_
    · show (if (3 = (3 : Int) ∧ k = k) ∨ (3 = (0 : Int) ∧ k = 3) then V' 3 k else V 3 k) = (if 19 + k = 19 + k ∨ 19 + k = 6 then c' (19 + k) else c (19 + k))
      rw [if_pos (by omega), if_pos (by omega)]
      omega
    · show (if (0 = (3 : Int) ∧ 3 = k) ∨ (0 = (0 : Int) ∧ 3 = (3 : Int)) then V' 0 3 else V 0 3) = (if 6 = 19 + k ∨ 6 = (6 : Int) then c' 6 else c 6)
      rw [if_pos (by omega), if_pos (by omega), v0, x0, hst'.2.1, a0]
    · show 0 ≤ (if 19 + k = 19 + k ∨ 19 + k = 6 then c' (19 + k) else c (19 + k)) ∧ (if 19 + k = 19 + k ∨ 19 + k = 6 then c' (19 + k) else c (19 + k)) ≤ 999
      rw [if_pos (by omega)]
      omega
  have cc : ∀ o, ¬ (o = 69 + m ∨ o = 74 + m ∨ o = 84 + 5 * m + k) → c' o = (if o = 19 + k ∨ o = 6 then c' o else c o) := by
    intro o q
    by_cases e : o = 19 + k ∨ o = 6
    · rw [if_pos e]
    · rw [if_neg e]; exact hc o (by omega)
  have vv : ∀ i j, ¬ ((i = 15 + 2 * m ∧ 3 ≤ j ∧ j ≤ 6) ∨ (i = 16 + 2 * m ∧ j = k)) → V' i j = (if (i = 3 ∧ j = k) ∨ (i = 0 ∧ j = 3) then V' i j else V i j) := by
    intro i j q
    by_cases e : (i = 3 ∧ j = k) ∨ (i = 0 ∧ j = 3)
    · rw [if_pos e]
    · rw [if_neg e]; exact hV i j (by omega)
  refine iSe_mo (m := m) hA ⟨hm.1, ?_⟩ (fun i j q1 q2 => vv i j (by omega)) (fun o q => cc o (by omega)) ?_ ?_
  · show m < (if 2 = 19 + k ∨ 2 = (6 : Int) then c' 2 else c 2)
    rw [if_neg (by omega)]
    exact hm.2
  · show c' 7 = (if 7 = 19 + k ∨ 7 = (6 : Int) then c' 7 else c 7) + (c' (79 + m) - (if 79 + m = 19 + k ∨ 79 + m = 6 then c' (79 + m) else c (79 + m)))
    rw [if_neg (by omega), if_neg (by omega), hc 7 (by omega), hc (79 + m) (by omega)]
    omega
  · unfold iMo at hmo ⊢
    obtain ⟨⟨o0, o1, o2, o3, o4, o5, o6, o7⟩, hp, hz, hb, g0, g1, g2⟩ := hmo
    have e1 : mcnt c' m = mcnt c m + n := sum5_add (k := k) hk.1 (by omega) (by exact y7) (fun j _ _ _ => hc _ (by omega))
    have e2 : mstr c' m = mstr c m + n * c (9 + k) := by
      refine sum5_add (k := k) hk.1 (by omega) ?_ (fun j _ _ _ => ?_)
      · show c' (84 + 5 * m + k) * c' (9 + k) = c (84 + 5 * m + k) * c (9 + k) + n * c (9 + k)
        rw [y7, hc (9 + k) (by omega), Int.add_mul]
      · show c' (84 + 5 * m + j) * c' (9 + j) = c (84 + 5 * m + j) * c (9 + j)
        rw [hc _ (by omega), hc (9 + j) (by omega)]
    have e3 : 0 ≤ n * c (9 + k) ∧ n * c (9 + k) ≤ 9 * n := by
      obtain ⟨-, -, -, q1, q2, -⟩ := hst'
      exact ⟨Int.mul_nonneg (by omega) q1, by rw [Int.mul_comm]; exact Int.mul_le_mul_of_nonneg_right q2 (by omega)⟩
    rw [e1, e2, y3, y4, w3, w4, w5, w6, hV _ 0 (by omega), hV _ 1 (by omega), hV _ 2 (by omega), hV _ 7 (by omega), hc (54 + m) (by omega), hc (59 + m) (by omega), hc (64 + m) (by omega), hc (79 + m) (by omega), hc 0 (by omega), hc 1 (by omega), hst'.1]
    refine ⟨⟨o0, o1, o2, rfl, rfl, by omega, by omega, o7⟩, fun j j1 j2 => ?_, fun j j0 j1 j2 => ?_, by omega, fun q => absurd q (by decide), fun _ => by omega, fun q => absurd q (by decide)⟩
    · have := hp j j1 j2
      by_cases e : j = k
      · subst e
        rw [w7, y7]
        omega
      · rw [hV _ j (by omega), hc _ (by omega)]
        exact this
    · rw [hc _ (by omega)]
      exact hz j j0 j1 j2
/-- poured -/
theorem op_pour {s u : jM} {b m k n : Int} (h : iSe (vw s b) (cw u 0)) (hm : 0 ≤ m ∧ m < u 160 2) (hk : 0 ≤ k ∧ k < u 160 0) (hn : 1 ≤ n ∧ n ≤ 9) : ∃ r t v, Se_pourInto b m k n s = some (r, t) ∧ Md_pours 155 m k n u = some (r, v) ∧ R2 b s u t v ∧ (r = 0 ∨ r = 1) := by
  obtain ⟨m5, ⟨e0, e1, e2, e3, e4, e5, e6, e7⟩, hq, hz, hb, h0, h1, h2⟩ := mo_at h hm
  obtain ⟨k5, s1, s2, s3, sb⟩ := st_at h hk
  have hh := (hd_at h).2
  have hpa := parts_at h hm
  have hp := hq k hk.1 k5
  by_cases hs : u 160 (69 + m) = 2 ∨ u 160 (19 + k) < n ∨ u 160 (59 + m) < mcnt (cw u 0) m + n
  · refine ⟨0, s, u, ?_, ?_, R2.rf h, Or.inl rfl⟩
    · by_cases q1 : u 160 (69 + m) = 2
      · simp (disch := omega) only [↓jb_m, ↓jm_s, ↓reduceIte, t_lt, t_nlt, t_le, t_nle, t_eq, t_neq, w32_id, w64_id, jb_s, and_true, true_and, and_self, and_false, false_and, or_true, true_or, or_false, false_or, or_self, not_false_eq_true, not_true_eq_false, u_ne, u_eq, u_u, Int.reduceAdd, Int.reduceSub, Int.reduceMul, Int.reduceNeg, Int.zero_add, Int.add_zero, n15, n16, q10, q11, q12, q13, q14, Se_pourInto]
      · by_cases q2 : u 160 (19 + k) < n
        · simp (disch := omega) only [↓jb_m, ↓jm_s, ↓reduceIte, t_lt, t_nlt, t_le, t_nle, t_eq, t_neq, w32_id, w64_id, jb_s, and_true, true_and, and_self, and_false, false_and, or_true, true_or, or_false, false_or, or_self, not_false_eq_true, not_true_eq_false, u_ne, u_eq, u_u, Int.reduceAdd, Int.reduceSub, Int.reduceMul, Int.reduceNeg, Int.zero_add, Int.add_zero, n15, n16, q10, q11, q12, q13, q14, Se_pourInto]
        · simp (disch := omega) only [↓jb_m, ↓jm_s, ↓reduceIte, t_lt, t_nlt, t_le, t_nle, t_eq, t_neq, w32_id, w64_id, jb_s, and_true, true_and, and_self, and_false, false_and, or_true, true_or, or_false, false_or, or_self, not_false_eq_true, not_true_eq_false, u_ne, u_eq, u_u, Int.reduceAdd, Int.reduceSub, Int.reduceMul, Int.reduceNeg, Int.zero_add, Int.add_zero, n15, n16, q10, q11, q12, q13, q14, Se_pourInto]
    · by_cases q1 : u 160 (69 + m) = 2
      · simp (disch := omega) only [↓jb_m, ↓jm_s, ↓reduceIte, t_lt, t_nlt, t_le, t_nle, t_eq, t_neq, w32_id, w64_id, jb_s, and_true, true_and, and_self, and_false, false_and, or_true, true_or, or_false, false_or, or_self, not_false_eq_true, not_true_eq_false, u_ne, u_eq, u_u, Int.reduceAdd, Int.reduceSub, Int.reduceMul, Int.reduceNeg, Int.zero_add, Int.add_zero, n15, n16, q10, q11, q12, q13, q14, Md_pours]
      · by_cases q2 : u 160 (19 + k) < n
        · simp (disch := omega) only [↓jb_m, ↓jm_s, ↓reduceIte, t_lt, t_nlt, t_le, t_nle, t_eq, t_neq, w32_id, w64_id, jb_s, and_true, true_and, and_self, and_false, false_and, or_true, true_or, or_false, false_or, or_self, not_false_eq_true, not_true_eq_false, u_ne, u_eq, u_u, Int.reduceAdd, Int.reduceSub, Int.reduceMul, Int.reduceNeg, Int.zero_add, Int.add_zero, n15, n16, q10, q11, q12, q13, q14, Md_pours]
        · simp (disch := omega) only [↓jb_m, ↓jm_s, ↓reduceIte, t_lt, t_nlt, t_le, t_nle, t_eq, t_neq, w32_id, w64_id, jb_s, and_true, true_and, and_self, and_false, false_and, or_true, true_or, or_false, false_or, or_self, not_false_eq_true, not_true_eq_false, u_ne, u_eq, u_u, Int.reduceAdd, Int.reduceSub, Int.reduceMul, Int.reduceNeg, Int.zero_add, Int.add_zero, n15, n16, q10, q11, q12, q13, q14, Md_pours, hpa]
  · refine ⟨1, jup (jup (jup (jup (jup (jup (jup s (b + 3) k (u 160 (19 + k) - n)) b 3 (s b 3 + n * u 160 (14 + k))) (b + (15 + 2 * m)) 3 1) (b + (15 + 2 * m)) 4 0) (b + (15 + 2 * m)) 5 (mstr (cw u 0) m + n * u 160 (9 + k))) (b + (15 + 2 * m)) 6 (mcnt (cw u 0) m + n)) (b + (16 + 2 * m)) k (u 160 (84 + 5 * m + k) + n), jup (jup (jup (jup (jup u 160 (84 + 5 * m + k) (u 160 (84 + 5 * m + k) + n)) 160 (19 + k) (u 160 (19 + k) - n)) 160 6 (u 160 6 + n * u 160 (14 + k))) 160 (69 + m) 1) 160 (74 + m) 0, ?_, ?_, ⟨?_, ?_, ?_, ?_⟩, Or.inr rfl⟩
    · simp (disch := omega) only [↓jb_m, ↓jm_s, ↓reduceIte, t_lt, t_nlt, t_le, t_nle, t_eq, t_neq, w32_id, w64_id, jb_s, and_true, true_and, and_self, and_false, false_and, or_true, true_or, or_false, false_or, or_self, not_false_eq_true, not_true_eq_false, u_ne, u_eq, u_u, Int.reduceAdd, Int.reduceSub, Int.reduceMul, Int.reduceNeg, Int.zero_add, Int.add_zero, n15, n16, q10, q11, q12, q13, q14, Se_pourInto, Mo_add]
      rw [s2, s3, s1, e5, e6, hp.1]
    · simp (disch := omega) only [↓jb_m, ↓jm_s, ↓reduceIte, t_lt, t_nlt, t_le, t_nle, t_eq, t_neq, w32_id, w64_id, jb_s, and_true, true_and, and_self, and_false, false_and, or_true, true_or, or_false, false_or, or_self, not_false_eq_true, not_true_eq_false, u_ne, u_eq, u_u, Int.reduceAdd, Int.reduceSub, Int.reduceMul, Int.reduceNeg, Int.zero_add, Int.add_zero, n15, n16, q10, q11, q12, q13, q14, Md_pours, hpa]
    · exact (((((((EX.rf _ _).up (by unfold cdy; omega)).up (by unfold cdy; omega)).up (by unfold cdy; omega)).up (by unfold cdy; omega)).up (by unfold cdy; omega)).up (by unfold cdy; omega)).up (by unfold cdy; omega)
    · exact (((((EX.rf _ _).up (by unfold rdy; omega)).up (by unfold rdy; omega)).up (by unfold rdy; omega)).up (by unfold rdy; omega)).up (by unfold rdy; omega)
    · refine iSe_pour (m := m) (k := k) (n := n) h ⟨hm.1, by rw [cw_at (by omega)]; exact hm.2⟩ ⟨hk.1, by rw [cw_at (by omega)]; exact hk.2⟩ hn.1 (by rw [cw_at (by omega)]; omega) (by rw [cw_at (by omega)]; omega) (by rw [cw_at (o := 59 + m) (by omega)]; omega) (vw_ext (fun i j i1 i2 q => ?_)) (vwm (by omega) _ ?_) (vwm (by omega) _ ?_) (vwm (by omega) _ ?_) (vwm (by omega) _ ?_) (vwm (by omega) _ ?_) (vwm (by omega) _ ?_) (vwm (by omega) _ ?_) (cw_ext (fun o o1 o2 q => ?_)) ?_ ?_ ?_ ?_ ?_
      · simp (disch := omega) only [↓jb_m, ↓jm_s, ↓reduceIte, t_lt, t_nlt, t_le, t_nle, t_eq, t_neq, w32_id, w64_id, jb_s, and_true, true_and, and_self, and_false, false_and, or_true, true_or, or_false, false_or, or_self, not_false_eq_true, not_true_eq_false, u_ne, u_eq, u_u, Int.reduceAdd, Int.reduceSub, Int.reduceMul, Int.reduceNeg, Int.zero_add, Int.add_zero, n15, n16, q10, q11, q12, q13, q14]
      · simp (disch := omega) only [↓jb_m, ↓jm_s, ↓reduceIte, t_lt, t_nlt, t_le, t_nle, t_eq, t_neq, w32_id, w64_id, jb_s, and_true, true_and, and_self, and_false, false_and, or_true, true_or, or_false, false_or, or_self, not_false_eq_true, not_true_eq_false, u_ne, u_eq, u_u, Int.reduceAdd, Int.reduceSub, Int.reduceMul, Int.reduceNeg, Int.zero_add, Int.add_zero, n15, n16, q10, q11, q12, q13, q14, vw_at]
      · simp (disch := omega) only [↓jb_m, ↓jm_s, ↓reduceIte, t_lt, t_nlt, t_le, t_nle, t_eq, t_neq, w32_id, w64_id, jb_s, and_true, true_and, and_self, and_false, false_and, or_true, true_or, or_false, false_or, or_self, not_false_eq_true, not_true_eq_false, u_ne, u_eq, u_u, Int.reduceAdd, Int.reduceSub, Int.reduceMul, Int.reduceNeg, Int.zero_add, Int.add_zero, n15, n16, q10, q11, q12, q13, q14, vw_at, s2]
      · simp (disch := omega) only [↓jb_m, ↓jm_s, ↓reduceIte, t_lt, t_nlt, t_le, t_nle, t_eq, t_neq, w32_id, w64_id, jb_s, and_true, true_and, and_self, and_false, false_and, or_true, true_or, or_false, false_or, or_self, not_false_eq_true, not_true_eq_false, u_ne, u_eq, u_u, Int.reduceAdd, Int.reduceSub, Int.reduceMul, Int.reduceNeg, Int.zero_add, Int.add_zero, n15, n16, q10, q11, q12, q13, q14]
      · simp (disch := omega) only [↓jb_m, ↓jm_s, ↓reduceIte, t_lt, t_nlt, t_le, t_nle, t_eq, t_neq, w32_id, w64_id, jb_s, and_true, true_and, and_self, and_false, false_and, or_true, true_or, or_false, false_or, or_self, not_false_eq_true, not_true_eq_false, u_ne, u_eq, u_u, Int.reduceAdd, Int.reduceSub, Int.reduceMul, Int.reduceNeg, Int.zero_add, Int.add_zero, n15, n16, q10, q11, q12, q13, q14]
      · simp (disch := omega) only [↓jb_m, ↓jm_s, ↓reduceIte, t_lt, t_nlt, t_le, t_nle, t_eq, t_neq, w32_id, w64_id, jb_s, and_true, true_and, and_self, and_false, false_and, or_true, true_or, or_false, false_or, or_self, not_false_eq_true, not_true_eq_false, u_ne, u_eq, u_u, Int.reduceAdd, Int.reduceSub, Int.reduceMul, Int.reduceNeg, Int.zero_add, Int.add_zero, n15, n16, q10, q11, q12, q13, q14, vw_at, s1, e5]
      · simp (disch := omega) only [↓jb_m, ↓jm_s, ↓reduceIte, t_lt, t_nlt, t_le, t_nle, t_eq, t_neq, w32_id, w64_id, jb_s, and_true, true_and, and_self, and_false, false_and, or_true, true_or, or_false, false_or, or_self, not_false_eq_true, not_true_eq_false, u_ne, u_eq, u_u, Int.reduceAdd, Int.reduceSub, Int.reduceMul, Int.reduceNeg, Int.zero_add, Int.add_zero, n15, n16, q10, q11, q12, q13, q14, vw_at]
      · simp (disch := omega) only [↓jb_m, ↓jm_s, ↓reduceIte, t_lt, t_nlt, t_le, t_nle, t_eq, t_neq, w32_id, w64_id, jb_s, and_true, true_and, and_self, and_false, false_and, or_true, true_or, or_false, false_or, or_self, not_false_eq_true, not_true_eq_false, u_ne, u_eq, u_u, Int.reduceAdd, Int.reduceSub, Int.reduceMul, Int.reduceNeg, Int.zero_add, Int.add_zero, n15, n16, q10, q11, q12, q13, q14, vw_at]
      · simp (disch := omega) only [↓jb_m, ↓jm_s, ↓reduceIte, t_lt, t_nlt, t_le, t_nle, t_eq, t_neq, w32_id, w64_id, jb_s, and_true, true_and, and_self, and_false, false_and, or_true, true_or, or_false, false_or, or_self, not_false_eq_true, not_true_eq_false, u_ne, u_eq, u_u, Int.reduceAdd, Int.reduceSub, Int.reduceMul, Int.reduceNeg, Int.zero_add, Int.add_zero, n15, n16, q10, q11, q12, q13, q14]
      · simp (disch := omega) only [↓jb_m, ↓jm_s, ↓reduceIte, t_lt, t_nlt, t_le, t_nle, t_eq, t_neq, w32_id, w64_id, jb_s, and_true, true_and, and_self, and_false, false_and, or_true, true_or, or_false, false_or, or_self, not_false_eq_true, not_true_eq_false, u_ne, u_eq, u_u, Int.reduceAdd, Int.reduceSub, Int.reduceMul, Int.reduceNeg, Int.zero_add, Int.add_zero, n15, n16, q10, q11, q12, q13, q14, cw_at]
      · simp (disch := omega) only [↓jb_m, ↓jm_s, ↓reduceIte, t_lt, t_nlt, t_le, t_nle, t_eq, t_neq, w32_id, w64_id, jb_s, and_true, true_and, and_self, and_false, false_and, or_true, true_or, or_false, false_or, or_self, not_false_eq_true, not_true_eq_false, u_ne, u_eq, u_u, Int.reduceAdd, Int.reduceSub, Int.reduceMul, Int.reduceNeg, Int.zero_add, Int.add_zero, n15, n16, q10, q11, q12, q13, q14, cw_at]
      · simp (disch := omega) only [↓jb_m, ↓jm_s, ↓reduceIte, t_lt, t_nlt, t_le, t_nle, t_eq, t_neq, w32_id, w64_id, jb_s, and_true, true_and, and_self, and_false, false_and, or_true, true_or, or_false, false_or, or_self, not_false_eq_true, not_true_eq_false, u_ne, u_eq, u_u, Int.reduceAdd, Int.reduceSub, Int.reduceMul, Int.reduceNeg, Int.zero_add, Int.add_zero, n15, n16, q10, q11, q12, q13, q14, cw_at]
      · simp (disch := omega) only [↓jb_m, ↓jm_s, ↓reduceIte, t_lt, t_nlt, t_le, t_nle, t_eq, t_neq, w32_id, w64_id, jb_s, and_true, true_and, and_self, and_false, false_and, or_true, true_or, or_false, false_or, or_self, not_false_eq_true, not_true_eq_false, u_ne, u_eq, u_u, Int.reduceAdd, Int.reduceSub, Int.reduceMul, Int.reduceNeg, Int.zero_add, Int.add_zero, n15, n16, q10, q11, q12, q13, q14, cw_at]
      · simp (disch := omega) only [↓jb_m, ↓jm_s, ↓reduceIte, t_lt, t_nlt, t_le, t_nle, t_eq, t_neq, w32_id, w64_id, jb_s, and_true, true_and, and_self, and_false, false_and, or_true, true_or, or_false, false_or, or_self, not_false_eq_true, not_true_eq_false, u_ne, u_eq, u_u, Int.reduceAdd, Int.reduceSub, Int.reduceMul, Int.reduceNeg, Int.zero_add, Int.add_zero, n15, n16, q10, q11, q12, q13, q14, cw_at]
    · simp (disch := omega) only [↓jb_m, ↓jm_s, ↓reduceIte, t_lt, t_nlt, t_le, t_nle, t_eq, t_neq, w32_id, w64_id, jb_s, and_true, true_and, and_self, and_false, false_and, or_true, true_or, or_false, false_or, or_self, not_false_eq_true, not_true_eq_false, u_ne, u_eq, u_u, Int.reduceAdd, Int.reduceSub, Int.reduceMul, Int.reduceNeg, Int.zero_add, Int.add_zero, n15, n16, q10, q11, q12, q13, q14]
      exact id
theorem op_heat {s u : jM} {b n : Int} (h : iSe (vw s b) (cw u 0)) (hn : 0 ≤ n ∧ n ≤ 9) : ∃ r t v, Se_heatTo b n s = some (r, t) ∧ Md_becomes 155 3 n u = some (r, v) ∧ R2 b s u t v ∧ (r = 0 ∨ r = 1) := by
  obtain ⟨⟨e0, e1, e2, -⟩, hh⟩ := hd_at h
  by_cases hs : u 160 3 = n
  · refine ⟨0, s, u, ?_, ?_, R2.rf h, Or.inl rfl⟩
    · simp (disch := omega) only [↓jb_m, ↓jm_s, ↓reduceIte, t_lt, t_nlt, t_le, t_nle, t_eq, t_neq, w32_id, w64_id, jb_s, and_true, true_and, and_self, and_false, false_and, or_true, true_or, or_false, false_or, or_self, not_false_eq_true, not_true_eq_false, u_ne, u_eq, u_u, Int.reduceAdd, Int.reduceSub, Int.reduceMul, Int.reduceNeg, Int.zero_add, Int.add_zero, n15, n16, q10, q11, q12, q13, q14, Se_heatTo]
    · simp (disch := omega) only [↓jb_m, ↓jm_s, ↓reduceIte, t_lt, t_nlt, t_le, t_nle, t_eq, t_neq, w32_id, w64_id, jb_s, and_true, true_and, and_self, and_false, false_and, or_true, true_or, or_false, false_or, or_self, not_false_eq_true, not_true_eq_false, u_ne, u_eq, u_u, Int.reduceAdd, Int.reduceSub, Int.reduceMul, Int.reduceNeg, Int.zero_add, Int.add_zero, n15, n16, q10, q11, q12, q13, q14, Md_becomes]
  · refine ⟨1, jup s b 0 n, jup u 160 3 n, ?_, ?_, ⟨?_, ?_, ?_, ?_⟩, Or.inr rfl⟩
    · simp (disch := omega) only [↓jb_m, ↓jm_s, ↓reduceIte, t_lt, t_nlt, t_le, t_nle, t_eq, t_neq, w32_id, w64_id, jb_s, and_true, true_and, and_self, and_false, false_and, or_true, true_or, or_false, false_or, or_self, not_false_eq_true, not_true_eq_false, u_ne, u_eq, u_u, Int.reduceAdd, Int.reduceSub, Int.reduceMul, Int.reduceNeg, Int.zero_add, Int.add_zero, n15, n16, q10, q11, q12, q13, q14, Se_heatTo]
    · simp (disch := omega) only [↓jb_m, ↓jm_s, ↓reduceIte, t_lt, t_nlt, t_le, t_nle, t_eq, t_neq, w32_id, w64_id, jb_s, and_true, true_and, and_self, and_false, false_and, or_true, true_or, or_false, false_or, or_self, not_false_eq_true, not_true_eq_false, u_ne, u_eq, u_u, Int.reduceAdd, Int.reduceSub, Int.reduceMul, Int.reduceNeg, Int.zero_add, Int.add_zero, n15, n16, q10, q11, q12, q13, q14, Md_becomes]
    · exact (EX.rf _ _).up (by unfold cdy; omega)
    · exact (EX.rf _ _).up (by unfold rdy; omega)
    · refine iSe_hd h (vw_ext (fun i j i1 i2 q => ?_)) (cw_ext (fun o o1 o2 q => ?_)) (vwm (by omega) _ ?_) (vwm (by omega) _ ?_) (vwm (by omega) _ ?_) ?_
      · simp (disch := omega) only [↓jb_m, ↓jm_s, ↓reduceIte, t_lt, t_nlt, t_le, t_nle, t_eq, t_neq, w32_id, w64_id, jb_s, and_true, true_and, and_self, and_false, false_and, or_true, true_or, or_false, false_or, or_self, not_false_eq_true, not_true_eq_false, u_ne, u_eq, u_u, Int.reduceAdd, Int.reduceSub, Int.reduceMul, Int.reduceNeg, Int.zero_add, Int.add_zero, n15, n16, q10, q11, q12, q13, q14]
      · simp (disch := omega) only [↓jb_m, ↓jm_s, ↓reduceIte, t_lt, t_nlt, t_le, t_nle, t_eq, t_neq, w32_id, w64_id, jb_s, and_true, true_and, and_self, and_false, false_and, or_true, true_or, or_false, false_or, or_self, not_false_eq_true, not_true_eq_false, u_ne, u_eq, u_u, Int.reduceAdd, Int.reduceSub, Int.reduceMul, Int.reduceNeg, Int.zero_add, Int.add_zero, n15, n16, q10, q11, q12, q13, q14]
      · simp (disch := omega) only [↓jb_m, ↓jm_s, ↓reduceIte, t_lt, t_nlt, t_le, t_nle, t_eq, t_neq, w32_id, w64_id, jb_s, and_true, true_and, and_self, and_false, false_and, or_true, true_or, or_false, false_or, or_self, not_false_eq_true, not_true_eq_false, u_ne, u_eq, u_u, Int.reduceAdd, Int.reduceSub, Int.reduceMul, Int.reduceNeg, Int.zero_add, Int.add_zero, n15, n16, q10, q11, q12, q13, q14, cw_at]
      · simp (disch := omega) only [↓jb_m, ↓jm_s, ↓reduceIte, t_lt, t_nlt, t_le, t_nle, t_eq, t_neq, w32_id, w64_id, jb_s, and_true, true_and, and_self, and_false, false_and, or_true, true_or, or_false, false_or, or_self, not_false_eq_true, not_true_eq_false, u_ne, u_eq, u_u, Int.reduceAdd, Int.reduceSub, Int.reduceMul, Int.reduceNeg, Int.zero_add, Int.add_zero, n15, n16, q10, q11, q12, q13, q14, cw_at]
      · simp (disch := omega) only [↓jb_m, ↓jm_s, ↓reduceIte, t_lt, t_nlt, t_le, t_nle, t_eq, t_neq, w32_id, w64_id, jb_s, and_true, true_and, and_self, and_false, false_and, or_true, true_or, or_false, false_or, or_self, not_false_eq_true, not_true_eq_false, u_ne, u_eq, u_u, Int.reduceAdd, Int.reduceSub, Int.reduceMul, Int.reduceNeg, Int.zero_add, Int.add_zero, n15, n16, q10, q11, q12, q13, q14, cw_at]
      · simp (disch := omega) only [↓jb_m, ↓jm_s, ↓reduceIte, t_lt, t_nlt, t_le, t_nle, t_eq, t_neq, w32_id, w64_id, jb_s, and_true, true_and, and_self, and_false, false_and, or_true, true_or, or_false, false_or, or_self, not_false_eq_true, not_true_eq_false, u_ne, u_eq, u_u, Int.reduceAdd, Int.reduceSub, Int.reduceMul, Int.reduceNeg, Int.zero_add, Int.add_zero, n15, n16, q10, q11, q12, q13, q14, cw_at]
    · simp (disch := omega) only [↓jb_m, ↓jm_s, ↓reduceIte, t_lt, t_nlt, t_le, t_nle, t_eq, t_neq, w32_id, w64_id, jb_s, and_true, true_and, and_self, and_false, false_and, or_true, true_or, or_false, false_or, or_self, not_false_eq_true, not_true_eq_false, u_ne, u_eq, u_u, Int.reduceAdd, Int.reduceSub, Int.reduceMul, Int.reduceNeg, Int.zero_add, Int.add_zero, n15, n16, q10, q11, q12, q13, q14]
      exact id
