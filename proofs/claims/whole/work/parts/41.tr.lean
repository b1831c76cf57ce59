/-! trays -/
theorem Tr_become_17_eq : ∀ (n : Nat) (x0 x3 : Int) (s : jM), 0 ≤ x3 → x3 ≤ 60 → (60 - x3).toNat < n → Tr_become_17 n x0 x3 s = some (0, jfill s (x0 + 1) x3 60 0) := by
  intro n
  induction n with
  | zero => intro x0 x3 s h1 h2 h3; omega
  | succ n ih =>
    intro x0 x3 s h1 h2 h3
    rw [Tr_become_17, w32_id (by omega) (by omega)]
    by_cases h : x3 < 60
    · rw [if_pos h, if_pos ⟨h1, h⟩, ih _ _ _ (by omega) (by omega) (by omega), jfill_s h]
    · rw [if_neg h, jfill_0 _ _ _ _ _ (by omega)]
theorem Tr_become_eq (a0 a1 a2 : Int) (s : jM) : Tr_become a0 a1 a2 s = some (0, jfill (jup (jup (jup s a0 0 1) a0 1 a1) a0 2 a2) (a0 + 1) 0 60 0) := by
  rw [Tr_become, Tr_become_17_eq _ _ _ _ (by omega) (by omega) (jFU_ge (by decide))]
theorem Md_tray_74_eq {a b : Int} (ha : 0 ≤ a) (ha2 : a < 4) (hb : b ≤ 60) : ∀ (n : Nat) (x0 x4 : Int) (s : jM), 0 ≤ x4 → x4 ≤ b → (b - x4).toNat < n → Md_tray_74 n x0 a b x4 s = some (1, jfill s (x0 + 3) (60 * a + x4) (60 * a + b) 0) := by
  intro n
  induction n with
  | zero => intro x0 x4 s h1 h2 h3; omega
  | succ n ih =>
    intro x0 x4 s h1 h2 h3
    rw [Md_tray_74, w32_id (x := x4) (by omega) (by omega), w32_id (x := b) (by omega) (by omega), w32_id (x := 60 * a + x4) (by omega) (by omega)]
    by_cases h : x4 < b
    · rw [if_pos h, if_pos ⟨by omega, by omega⟩, ih _ _ _ (by omega) (by omega) (by omega), show 60 * a + (x4 + 1) = 60 * a + x4 + 1 by omega, jfill_s (by omega)]
    · rw [if_neg h, jfill_0 _ _ _ _ _ (by omega)]
/-- the cells of tray x -/
def tcl (x a b : Int) : Prop := a = 2 + 2 * x ∨ a = 3 + 2 * x ∨ (a = 156 ∧ b = x) ∨ (a = 157 ∧ b = x) ∨ (a = 158 ∧ 60 * x ≤ b ∧ b < 60 * x + 60) ∨ (a = 0 ∧ b = 0) ∨ (a = 155 ∧ (b = 0 ∨ b = 1))
theorem INV_tr {s t : jM} (h : INV s) {x : Int} (hx : 0 ≤ x) (hx2 : x < 4) (hs : t 0 0 = t 155 0) (hr : EX (tcl x) s t) (ht : iTr t x) : INV t := by
  have hb := h.b.1
  obtain ⟨h1, h2, h3, h4, h5, h6, h7⟩ := h
  refine ⟨iMi_fr h1 hs (fun a b q => hr a b (by unfold rMi at q; unfold tcl; omega)), fun y y1 y2 => ?_, iTp_fr h3 (fun a b q => hr a b (by unfold rTp at q; unfold tcl; omega)), iLv_fr h4 (fun a b q => hr a b (by unfold rLv at q; unfold tcl; omega)), iBs_fr h5 (fun a b q => hr a b (by unfold rBs at q; unfold tcl; omega)), ?_, iMk_fr h7 (hr 0 7 (by unfold tcl; omega)) h5.2.2.1 (fun a b q => hr a b (by unfold rMk at q; unfold tcl; omega))⟩
  · by_cases e : y = x
    · rw [e]; exact ht
    · exact iTr_congr (h2 y y1 y2) (fun b => hr _ _ (by unfold tcl; omega)) (fun b => hr _ _ (by unfold tcl; omega)) (hr _ _ (by unfold tcl; omega)) (hr _ _ (by unfold tcl; omega)) (fun k _ _ => hr _ _ (by unfold tcl; omega))
  · rw [hr 0 5 (by unfold tcl; omega)]
    exact iNo_fr h6 (fun a b q => hr a b (by unfold rNo at q; unfold tcl; omega))
theorem EX.tneg {x : Int} {s t : jM} (h : EX (tcl x) s t) (hx : 0 ≤ x) : t (-1) = s (-1) ∧ t (-2) = s (-2) := ⟨funext fun b => h _ _ (by unfold tcl; omega), funext fun b => h _ _ (by unfold tcl; omega)⟩
theorem tray_ok {s : jM} (h : INV s) {a b c : Int} (ha : i32 a) (hb : i32 b) (hc : i32 c) : OKc s (Jc_tray 0 a b c) (Md_tray 155 a b c) := by
  unfold i32 at ha hb hc
  by_cases h1 : 0 ≤ a ∧ a ≤ 3 ∧ 0 ≤ b ∧ b ≤ 3
  · by_cases h2 : 60 < c
    · exact OKc.no (w := 5) (r := 0) h (by simp (disch := omega) only [↓jb_m, ↓jm_s, ↓reduceIte, t_lt, t_nlt, t_le, t_nle, t_eq, t_neq, w32_id, w64_id, jb_s, and_true, true_and, and_self, and_false, false_and, or_true, true_or, or_false, false_or, or_self, not_false_eq_true, not_true_eq_false, u_ne, u_eq, u_u, Int.reduceAdd, Int.reduceSub, Int.reduceMul, Int.reduceNeg, Int.zero_add, Int.add_zero, n15, n16, q10, q11, q12, q13, q14, Jc_tray, Jc_isTray, Jc_deny]) (by simp (disch := omega) only [↓jb_m, ↓jm_s, ↓reduceIte, t_lt, t_nlt, t_le, t_nle, t_eq, t_neq, w32_id, w64_id, jb_s, and_true, true_and, and_self, and_false, false_and, or_true, true_or, or_false, false_or, or_self, not_false_eq_true, not_true_eq_false, u_ne, u_eq, u_u, Int.reduceAdd, Int.reduceSub, Int.reduceMul, Int.reduceNeg, Int.zero_add, Int.add_zero, n15, n16, q10, q11, q12, q13, q14, Md_tray, Md_no])
    by_cases h3 : c < 0
    · exact OKc.no (w := 6) (r := 0) h (by simp (disch := omega) only [↓jb_m, ↓jm_s, ↓reduceIte, t_lt, t_nlt, t_le, t_nle, t_eq, t_neq, w32_id, w64_id, jb_s, and_true, true_and, and_self, and_false, false_and, or_true, true_or, or_false, false_or, or_self, not_false_eq_true, not_true_eq_false, u_ne, u_eq, u_u, Int.reduceAdd, Int.reduceSub, Int.reduceMul, Int.reduceNeg, Int.zero_add, Int.add_zero, n15, n16, q10, q11, q12, q13, q14, Jc_tray, Jc_isTray, Jc_deny]) (by simp (disch := omega) only [↓jb_m, ↓jm_s, ↓reduceIte, t_lt, t_nlt, t_le, t_nle, t_eq, t_neq, w32_id, w64_id, jb_s, and_true, true_and, and_self, and_false, false_and, or_true, true_or, or_false, false_or, or_self, not_false_eq_true, not_true_eq_false, u_ne, u_eq, u_u, Int.reduceAdd, Int.reduceSub, Int.reduceMul, Int.reduceNeg, Int.zero_add, Int.add_zero, n15, n16, q10, q11, q12, q13, q14, Md_tray, Md_no])
    have hf : Jc_tray 0 a b c s = some (1, jup (jfill (jup (jup (jup s (2 + 2 * a) 0 1) (2 + 2 * a) 1 b) (2 + 2 * a) 2 c) (2 + 2 * a + 1) 0 60 0) 0 0 0) := by simp (disch := omega) only [↓jb_m, ↓jm_s, ↓reduceIte, t_lt, t_nlt, t_le, t_nle, t_eq, t_neq, w32_id, w64_id, jb_s, and_true, true_and, and_self, and_false, false_and, or_true, true_or, or_false, false_or, or_self, not_false_eq_true, not_true_eq_false, u_ne, u_eq, u_u, Int.reduceAdd, Int.reduceSub, Int.reduceMul, Int.reduceNeg, Int.zero_add, Int.add_zero, n15, n16, q10, q11, q12, q13, q14, Jc_tray, Jc_isTray, Tr_become_eq, Jc_grant]
    have hg : Md_tray 155 a b c (jup (jfill (jup (jup (jup s (2 + 2 * a) 0 1) (2 + 2 * a) 1 b) (2 + 2 * a) 2 c) (2 + 2 * a + 1) 0 60 0) 0 0 0) = some (1, jfill (jup (jup (jup (jup (jup (jfill (jup (jup (jup s (2 + 2 * a) 0 1) (2 + 2 * a) 1 b) (2 + 2 * a) 2 c) (2 + 2 * a + 1) 0 60 0) 0 0 0) 155 1 0) 155 0 0) 156 a b) 157 a c) 158 (60 * a) (60 * a + c) 0) := by
      simp (disch := omega) only [↓jb_m, ↓jm_s, ↓reduceIte, t_lt, t_nlt, t_le, t_nle, t_eq, t_neq, w32_id, w64_id, jb_s, and_true, true_and, and_self, and_false, false_and, or_true, true_or, or_false, false_or, or_self, not_false_eq_true, not_true_eq_false, u_ne, u_eq, u_u, Int.reduceAdd, Int.reduceSub, Int.reduceMul, Int.reduceNeg, Int.zero_add, Int.add_zero, n15, n16, q10, q11, q12, q13, q14, Md_tray]
      rw [Md_tray_74_eq (by omega) (by omega) (by omega) _ _ _ _ (by omega) (by omega) (by unfold jFU; omega)]
      simp (disch := omega) only [↓jb_m, ↓jm_s, ↓reduceIte, t_lt, t_nlt, t_le, t_nle, t_eq, t_neq, w32_id, w64_id, jb_s, and_true, true_and, and_self, and_false, false_and, or_true, true_or, or_false, false_or, or_self, not_false_eq_true, not_true_eq_false, u_ne, u_eq, u_u, Int.reduceAdd, Int.reduceSub, Int.reduceMul, Int.reduceNeg, Int.zero_add, Int.add_zero, n15, n16, q10, q11, q12, q13, q14]
    have hE : EX (tcl a) s (jfill (jup (jup (jup (jup (jup (jfill (jup (jup (jup s (2 + 2 * a) 0 1) (2 + 2 * a) 1 b) (2 + 2 * a) 2 c) (2 + 2 * a + 1) 0 60 0) 0 0 0) 155 1 0) 155 0 0) 156 a b) 157 a c) 158 (60 * a) (60 * a + c) 0) :=
      (((((((((EX.rf _ s).up (by unfold tcl; omega)).up (by unfold tcl; omega)).up (by unfold tcl; omega)).fill (fun j _ _ => by unfold tcl; omega)).up (by unfold tcl; omega)).up (by unfold tcl; omega)).up (by unfold tcl; omega)).up (by unfold tcl; omega)).up (by unfold tcl; omega) |>.fill (fun j _ _ => by unfold tcl; omega)
    refine ⟨1, _, _, hf, hg, INV_tr h (x := a) (by omega) (by omega) ?_ hE ?_, hE.tneg (by omega)⟩
    · simp (disch := omega) only [↓jb_m, ↓jm_s, ↓reduceIte, t_lt, t_nlt, t_le, t_nle, t_eq, t_neq, w32_id, w64_id, jb_s, and_true, true_and, and_self, and_false, false_and, or_true, true_or, or_false, false_or, or_self, not_false_eq_true, not_true_eq_false, u_ne, u_eq, u_u, Int.reduceAdd, Int.reduceSub, Int.reduceMul, Int.reduceNeg, Int.zero_add, Int.add_zero, n15, n16, q10, q11, q12, q13, q14, f_out]
    · refine Or.inr ⟨?_, ?_, ?_, ?_, ?_, ?_, ?_, fun k hk1 hk2 => ?_⟩
      · simp (disch := omega) only [↓jb_m, ↓jm_s, ↓reduceIte, t_lt, t_nlt, t_le, t_nle, t_eq, t_neq, w32_id, w64_id, jb_s, and_true, true_and, and_self, and_false, false_and, or_true, true_or, or_false, false_or, or_self, not_false_eq_true, not_true_eq_false, u_ne, u_eq, u_u, Int.reduceAdd, Int.reduceSub, Int.reduceMul, Int.reduceNeg, Int.zero_add, Int.add_zero, n15, n16, q10, q11, q12, q13, q14, f_out]
      · simp (disch := omega) only [↓jb_m, ↓jm_s, ↓reduceIte, t_lt, t_nlt, t_le, t_nle, t_eq, t_neq, w32_id, w64_id, jb_s, and_true, true_and, and_self, and_false, false_and, or_true, true_or, or_false, false_or, or_self, not_false_eq_true, not_true_eq_false, u_ne, u_eq, u_u, Int.reduceAdd, Int.reduceSub, Int.reduceMul, Int.reduceNeg, Int.zero_add, Int.add_zero, n15, n16, q10, q11, q12, q13, q14, f_out]
      · simp (disch := omega) only [↓jb_m, ↓jm_s, ↓reduceIte, t_lt, t_nlt, t_le, t_nle, t_eq, t_neq, w32_id, w64_id, jb_s, and_true, true_and, and_self, and_false, false_and, or_true, true_or, or_false, false_or, or_self, not_false_eq_true, not_true_eq_false, u_ne, u_eq, u_u, Int.reduceAdd, Int.reduceSub, Int.reduceMul, Int.reduceNeg, Int.zero_add, Int.add_zero, n15, n16, q10, q11, q12, q13, q14, f_out]
      · simp (disch := omega) only [↓jb_m, ↓jm_s, ↓reduceIte, t_lt, t_nlt, t_le, t_nle, t_eq, t_neq, w32_id, w64_id, jb_s, and_true, true_and, and_self, and_false, false_and, or_true, true_or, or_false, false_or, or_self, not_false_eq_true, not_true_eq_false, u_ne, u_eq, u_u, Int.reduceAdd, Int.reduceSub, Int.reduceMul, Int.reduceNeg, Int.zero_add, Int.add_zero, n15, n16, q10, q11, q12, q13, q14, f_out]
      · simp (disch := omega) only [↓jb_m, ↓jm_s, ↓reduceIte, t_lt, t_nlt, t_le, t_nle, t_eq, t_neq, w32_id, w64_id, jb_s, and_true, true_and, and_self, and_false, false_and, or_true, true_or, or_false, false_or, or_self, not_false_eq_true, not_true_eq_false, u_ne, u_eq, u_u, Int.reduceAdd, Int.reduceSub, Int.reduceMul, Int.reduceNeg, Int.zero_add, Int.add_zero, n15, n16, q10, q11, q12, q13, q14, f_out]
      · simp (disch := omega) only [↓jb_m, ↓jm_s, ↓reduceIte, t_lt, t_nlt, t_le, t_nle, t_eq, t_neq, w32_id, w64_id, jb_s, and_true, true_and, and_self, and_false, false_and, or_true, true_or, or_false, false_or, or_self, not_false_eq_true, not_true_eq_false, u_ne, u_eq, u_u, Int.reduceAdd, Int.reduceSub, Int.reduceMul, Int.reduceNeg, Int.zero_add, Int.add_zero, n15, n16, q10, q11, q12, q13, q14, f_out]
      · simp (disch := omega) only [↓jb_m, ↓jm_s, ↓reduceIte, t_lt, t_nlt, t_le, t_nle, t_eq, t_neq, w32_id, w64_id, jb_s, and_true, true_and, and_self, and_false, false_and, or_true, true_or, or_false, false_or, or_self, not_false_eq_true, not_true_eq_false, u_ne, u_eq, u_u, Int.reduceAdd, Int.reduceSub, Int.reduceMul, Int.reduceNeg, Int.zero_add, Int.add_zero, n15, n16, q10, q11, q12, q13, q14, f_out]
      · have hk3 : k < c := by revert hk2; simp (disch := omega) only [↓jb_m, ↓jm_s, ↓reduceIte, t_lt, t_nlt, t_le, t_nle, t_eq, t_neq, w32_id, w64_id, jb_s, and_true, true_and, and_self, and_false, false_and, or_true, true_or, or_false, false_or, or_self, not_false_eq_true, not_true_eq_false, u_ne, u_eq, u_u, Int.reduceAdd, Int.reduceSub, Int.reduceMul, Int.reduceNeg, Int.zero_add, Int.add_zero, n15, n16, q10, q11, q12, q13, q14, f_out]; exact id
        have e1 : ∀ z : Int, 3 + 2 * z = 2 + 2 * z + 1 := fun z => by omega
        rw [e1]
        simp (disch := omega) only [↓jb_m, ↓jm_s, ↓reduceIte, t_lt, t_nlt, t_le, t_nle, t_eq, t_neq, w32_id, w64_id, jb_s, and_true, true_and, and_self, and_false, false_and, or_true, true_or, or_false, false_or, or_self, not_false_eq_true, not_true_eq_false, u_ne, u_eq, u_u, Int.reduceAdd, Int.reduceSub, Int.reduceMul, Int.reduceNeg, Int.zero_add, Int.add_zero, n15, n16, q10, q11, q12, q13, q14, f_out, f_in]
        unfold i64; omega
  · rcases (by omega : a < 0 ∨ 3 < a ∨ (0 ≤ a ∧ a ≤ 3 ∧ b < 0) ∨ (0 ≤ a ∧ a ≤ 3 ∧ 3 < b)) with q | q | q | q <;> exact OKc.no (w := 1) (r := 0) h (by simp (disch := omega) only [↓jb_m, ↓jm_s, ↓reduceIte, t_lt, t_nlt, t_le, t_nle, t_eq, t_neq, w32_id, w64_id, jb_s, and_true, true_and, and_self, and_false, false_and, or_true, true_or, or_false, false_or, or_self, not_false_eq_true, not_true_eq_false, u_ne, u_eq, u_u, Int.reduceAdd, Int.reduceSub, Int.reduceMul, Int.reduceNeg, Int.zero_add, Int.add_zero, n15, n16, q10, q11, q12, q13, q14, Jc_tray, Jc_isTray, Jc_deny]) (by simp (disch := omega) only [↓jb_m, ↓jm_s, ↓reduceIte, t_lt, t_nlt, t_le, t_nle, t_eq, t_neq, w32_id, w64_id, jb_s, and_true, true_and, and_self, and_false, false_and, or_true, true_or, or_false, false_or, or_self, not_false_eq_true, not_true_eq_false, u_ne, u_eq, u_u, Int.reduceAdd, Int.reduceSub, Int.reduceMul, Int.reduceNeg, Int.zero_add, Int.add_zero, n15, n16, q10, q11, q12, q13, q14, Md_tray, Md_no])
