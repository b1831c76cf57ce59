/-! FRACTIONS; MARKS -/
theorem jlrem_e {a b : Int} (h : 0 ≤ a) (h2 : a < 9223372036854775808) (h3 : 1 ≤ b) (h4 : b < 9223372036854775808) : jlrem a b = a % b := by
  unfold jlrem
  rw [w64_id (by omega) h2, w64_id (by omega) h4, Int.tmod_eq_emod_of_nonneg h]
theorem mod_half {a b : Int} (ha : 0 ≤ a) (hb : 1 ≤ b) (hr : 1 ≤ a % b) : 0 ≤ b % (a % b) ∧ 2 * (b % (a % b)) < b ∧ a % b < b := by
  have h1 : a % b < b := Int.emod_lt_of_pos a (by omega)
  have h2 : 0 ≤ b % (a % b) := Int.emod_nonneg b (by omega)
  have h3 : b % (a % b) < a % b := Int.emod_lt_of_pos b (by omega)
  refine ⟨h2, ?_, h1⟩
  by_cases h : 2 * (a % b) ≤ b
  · omega
  · have h5 : (b - (a % b)) % (a % b) = b % (a % b) := Int.sub_emod_right b (a % b)
    have h6 : (b - (a % b)) % (a % b) = b - (a % b) := Int.emod_eq_of_lt (by omega) (by omega)
    omega
/-- both ways to the common divisor -/
theorem euclid : ∀ (k : Nat) (a b i : Int), 0 ≤ a → 0 ≤ b → a < 4611686018427387904 → b < (2 : Int) ^ k → k ≤ 60 → 0 ≤ i → i + 2 * k ≤ 180 → (1 ≤ a ∨ 1 ≤ b) → ∃ g, 1 ≤ g ∧ g < 4611686018427387904 ∧ (∀ (n : Nat) (s : jM), 2 * k + 1 < n → Jc_commonDivisor_9 n a b i s = some (g, s)) ∧ ∀ (n : Nat) (x1 x3 : Int) (u : jM), 2 * k + 1 < n → Md_fraction_9 n 155 x1 x3 a b u = some (1, jup (jup u 155 2 (jldiv x1 g)) 155 3 (jldiv x3 g)) := by
  have b60 : ∀ k : Nat, k ≤ 60 → (2 : Int) ^ k ≤ 1152921504606846976 := fun k hk => by
    have : (2 : Nat) ^ k ≤ 2 ^ 60 := Nat.pow_le_pow_right (by omega) hk
    have h2 : ((2 ^ k : Nat) : Int) ≤ ((2 ^ 60 : Nat) : Int) := by exact_mod_cast this
    rw [Int.natCast_pow] at h2
    exact Int.le_trans h2 (by decide)
  have fin0 : ∀ (a i : Int), 1 ≤ a → a < 4611686018427387904 → 0 ≤ i → i ≤ 190 → (∀ (n : Nat) (s : jM), 0 < n → Jc_commonDivisor_9 n a 0 i s = some (a, s)) ∧ ∀ (n : Nat) (x1 x3 : Int) (u : jM), 0 < n → Md_fraction_9 n 155 x1 x3 a 0 u = some (1, jup (jup u 155 2 (jldiv x1 a)) 155 3 (jldiv x3 a)) := by
    intro a i h1 h2 h3 h4
    refine ⟨fun n s hn => ?_, fun n x1 x3 u hn => ?_⟩
    · obtain ⟨n, rfl⟩ : ∃ g, n = g + 1 := ⟨n - 1, by omega⟩
      rw [Jc_commonDivisor_9]
      simp (disch := omega) only [↓jb_m, ↓jm_s, ↓reduceIte, t_lt, t_nlt, t_le, t_nle, t_eq, t_neq, w32_id, w64_id, jb_s, and_true, true_and, and_self, and_false, false_and, or_true, true_or, or_false, false_or, or_self, not_false_eq_true, not_true_eq_false, u_ne, u_eq, u_u, Int.reduceAdd, Int.reduceSub, Int.reduceMul, Int.reduceNeg, Int.zero_add, Int.add_zero, n15, n16, q10, q11, q12, q13, q14, lcmp_eq]
    · obtain ⟨n, rfl⟩ : ∃ g, n = g + 1 := ⟨n - 1, by omega⟩
      rw [Md_fraction_9]
      simp (disch := omega) only [↓jb_m, ↓jm_s, ↓reduceIte, t_lt, t_nlt, t_le, t_nle, t_eq, t_neq, w32_id, w64_id, jb_s, and_true, true_and, and_self, and_false, false_and, or_true, true_or, or_false, false_or, or_self, not_false_eq_true, not_true_eq_false, u_ne, u_eq, u_u, Int.reduceAdd, Int.reduceSub, Int.reduceMul, Int.reduceNeg, Int.zero_add, Int.add_zero, n15, n16, q10, q11, q12, q13, q14, lcmp_eq]
  intro k
  induction k with
  | zero =>
    intro a b i h1 h2 h3 h4 h5 h6 h7 h8
    have hb : b = 0 := by
      rw [Int.pow_zero] at h4
      omega
    subst hb
    obtain ⟨q1, q2⟩ := fin0 a i (by omega) h3 h6 (by omega)
    exact ⟨a, by omega, h3, fun n s hn => q1 n s (by omega), fun n x1 x3 u hn => q2 n x1 x3 u (by omega)⟩
  | succ k ih =>
    intro a b i h1 h2 h3 h4 h5 h6 h7 h8
    have hk := b60 (k + 1) h5
    by_cases hb : b = 0
    · subst hb
      obtain ⟨q1, q2⟩ := fin0 a i (by omega) h3 h6 (by omega)
      exact ⟨a, by omega, h3, fun n s hn => q1 n s (by omega), fun n x1 x3 u hn => q2 n x1 x3 u (by omega)⟩
    · have e1 := jlrem_e (a := a) (b := b) h1 (by omega) (by omega) (by omega)
      have s1 : ∀ (n : Nat) (s : jM), Jc_commonDivisor_9 (n + 1) a b i s = Jc_commonDivisor_9 n b (a % b) (i + 1) s := fun n s => by
        rw [Jc_commonDivisor_9]
        simp (disch := omega) only [↓jb_m, ↓jm_s, ↓reduceIte, t_lt, t_nlt, t_le, t_nle, t_eq, t_neq, w32_id, w64_id, jb_s, and_true, true_and, and_self, and_false, false_and, or_true, true_or, or_false, false_or, or_self, not_false_eq_true, not_true_eq_false, u_ne, u_eq, u_u, Int.reduceAdd, Int.reduceSub, Int.reduceMul, Int.reduceNeg, Int.zero_add, Int.add_zero, n15, n16, q10, q11, q12, q13, q14, lcmp_eq, e1]
      have s2 : ∀ (n : Nat) (x1 x3 : Int) (u : jM), Md_fraction_9 (n + 1) 155 x1 x3 a b u = Md_fraction_9 n 155 x1 x3 b (a % b) u := fun n x1 x3 u => by
        rw [Md_fraction_9]
        simp (disch := omega) only [↓jb_m, ↓jm_s, ↓reduceIte, t_lt, t_nlt, t_le, t_nle, t_eq, t_neq, w32_id, w64_id, jb_s, and_true, true_and, and_self, and_false, false_and, or_true, true_or, or_false, false_or, or_self, not_false_eq_true, not_true_eq_false, u_ne, u_eq, u_u, Int.reduceAdd, Int.reduceSub, Int.reduceMul, Int.reduceNeg, Int.zero_add, Int.add_zero, n15, n16, q10, q11, q12, q13, q14, lcmp_eq, e1]
      have hr0 : 0 ≤ a % b := Int.emod_nonneg a hb
      by_cases hr : a % b = 0
      · obtain ⟨q1, q2⟩ := fin0 b (i + 1) (by omega) (by omega) (by omega) (by omega)
        refine ⟨b, by omega, by omega, fun n s hn => ?_, fun n x1 x3 u hn => ?_⟩
        · obtain ⟨n, rfl⟩ : ∃ g, n = g + 1 := ⟨n - 1, by omega⟩
          rw [s1, hr]
          exact q1 n s (by omega)
        · obtain ⟨n, rfl⟩ : ∃ g, n = g + 1 := ⟨n - 1, by omega⟩
          rw [s2, hr]
          exact q2 n x1 x3 u (by omega)
      · obtain ⟨m1, m2, m3⟩ := mod_half h1 (by omega) (by omega : 1 ≤ a % b)
        have e2 := jlrem_e (a := b) (b := a % b) (by omega) (by omega) (by omega) (by omega)
        have t1 : ∀ (n : Nat) (s : jM), Jc_commonDivisor_9 (n + 1) b (a % b) (i + 1) s = Jc_commonDivisor_9 n (a % b) (b % (a % b)) (i + 1 + 1) s := fun n s => by
          rw [Jc_commonDivisor_9]
          simp (disch := omega) only [↓jb_m, ↓jm_s, ↓reduceIte, t_lt, t_nlt, t_le, t_nle, t_eq, t_neq, w32_id, w64_id, jb_s, and_true, true_and, and_self, and_false, false_and, or_true, true_or, or_false, false_or, or_self, not_false_eq_true, not_true_eq_false, u_ne, u_eq, u_u, Int.reduceAdd, Int.reduceSub, Int.reduceMul, Int.reduceNeg, Int.zero_add, Int.add_zero, n15, n16, q10, q11, q12, q13, q14, lcmp_eq, e2]
        have t2 : ∀ (n : Nat) (x1 x3 : Int) (u : jM), Md_fraction_9 (n + 1) 155 x1 x3 b (a % b) u = Md_fraction_9 n 155 x1 x3 (a % b) (b % (a % b)) u := fun n x1 x3 u => by
          rw [Md_fraction_9]
          simp (disch := omega) only [↓jb_m, ↓jm_s, ↓reduceIte, t_lt, t_nlt, t_le, t_nle, t_eq, t_neq, w32_id, w64_id, jb_s, and_true, true_and, and_self, and_false, false_and, or_true, true_or, or_false, false_or, or_self, not_false_eq_true, not_true_eq_false, u_ne, u_eq, u_u, Int.reduceAdd, Int.reduceSub, Int.reduceMul, Int.reduceNeg, Int.zero_add, Int.add_zero, n15, n16, q10, q11, q12, q13, q14, lcmp_eq, e2]
        have h9 : b % (a % b) < (2 : Int) ^ k := by
          rw [Int.pow_succ] at h4
          omega
        obtain ⟨g, g1, g2, g3, g4⟩ := ih (a % b) (b % (a % b)) (i + 1 + 1) (by omega) m1 (by omega) h9 (by omega) (by omega) (by omega) (Or.inl (by omega))
        refine ⟨g, g1, g2, fun n s hn => ?_, fun n x1 x3 u hn => ?_⟩
        · obtain ⟨n, rfl⟩ : ∃ g, n = g + 2 := ⟨n - 2, by omega⟩
          rw [s1, t1]
          exact g3 n s (by omega)
        · obtain ⟨n, rfl⟩ : ∃ g, n = g + 2 := ⟨n - 2, by omega⟩
          rw [s2, t2]
          exact g4 n x1 x3 u (by omega)
theorem tell_eq {a b : Int} (ha : 0 ≤ a ∧ a < 4611686018427387904) (hb : 1 ≤ b ∧ b < 1152921504606846976) : ∃ x y, (∀ s : jM, Jc_tell 0 a b s = some (1, jup (jup (jup s 0 1 x) 0 2 y) 0 0 0)) ∧ ∀ u : jM, Md_fraction 155 a b u = some (1, jup (jup u 155 2 x) 155 3 y) := by
  obtain ⟨g, g1, g2, g3, g4⟩ := euclid 60 a b 0 ha.1 (by omega) ha.2 (by rw [show (2 : Int) ^ 60 = 1152921504606846976 by decide]; exact hb.2) (by omega) (by omega) (by omega) (Or.inr hb.1)
  refine ⟨jldiv a g, jldiv b g, fun s => ?_, fun u => ?_⟩
  · have := g3 jFU s (Nat.lt_of_lt_of_le (m := 400) (by omega) (jFU_ge (by decide)))
    simp (disch := omega) only [↓jb_m, ↓jm_s, ↓reduceIte, t_lt, t_nlt, t_le, t_nle, t_eq, t_neq, w32_id, w64_id, jb_s, and_true, true_and, and_self, and_false, false_and, or_true, true_or, or_false, false_or, or_self, not_false_eq_true, not_true_eq_false, u_ne, u_eq, u_u, Int.reduceAdd, Int.reduceSub, Int.reduceMul, Int.reduceNeg, Int.zero_add, Int.add_zero, n15, n16, q10, q11, q12, q13, q14, Jc_tell, Jc_commonDivisor, this, lcmp_gt, Jc_grant]
  · have h1 : jlabs a = a := by
      unfold jlabs
      rw [w64_id (by omega) (by omega)]
      by_cases q : 0 < a
      · rw [if_pos q]
      · rw [if_neg q]; omega
    rw [Md_fraction, h1]
    exact g4 jFU a b u (Nat.lt_of_lt_of_le (m := 400) (by omega) (jFU_ge (by decide)))
/-- what may change of the object's and the reference's own numbers, and what does not count -/
def mis (a b : Int) : Prop := (a = 0 ∧ b ≤ 4) ∨ (a = 155 ∧ b ≠ 8 ∧ b ≠ 24 ∧ b ≠ 37) ∨ a = 161 ∨ a = 162 ∨ (164 ≤ a ∧ a ≤ 169) ∨ (16 ≤ a ∧ a ≤ 28) ∨ (13 ≤ a ∧ a ≤ 15) ∨ (a = 160 ∧ 1524 ≤ b) ∨ (a = 163 ∧ 64 ≤ b) ∨ (a = 11 ∧ b ≠ 0)
theorem INV_mi {s t : jM} (h : INV s) (hm : iMi t) (hr : EX mis s t) : INV t := by
  have hb := h.b.1
  obtain ⟨h1, h2, h3, h4, h5, h6, h7⟩ := h
  refine ⟨hm, iTrs_fr h2 (fun a b q => hr a b (by unfold rTr at q; unfold mis; omega)), iTp_fr h3 (fun a b q => hr a b (by unfold rTp at q; unfold mis; omega)), iLv_fr h4 (fun a b q => hr a b (by unfold rLv at q; unfold mis; omega)), iBs_fr h5 (fun a b q => hr a b (by unfold rBs at q; unfold mis; omega)), ?_, iMk_fr h7 (hr 0 7 (by unfold mis; omega)) h5.2.2.1 (fun a b q => hr a b (by unfold rMk at q; unfold mis; omega))⟩
  rw [hr 0 5 (by unfold mis; omega)]
  exact iNo_fr h6 (fun a b q => hr a b (by unfold rNo at q; unfold mis; omega))
theorem EX.mneg {s t : jM} (h : EX mis s t) : t (-1) = s (-1) ∧ t (-2) = s (-2) := ⟨funext fun b => h _ _ (by unfold mis; omega), funext fun b => h _ _ (by unfold mis; omega)⟩
/-- a FRACTION told -/
theorem OKc.fr {s u v : jM} {x y : Int} {f g : jM → Option (Int × jM)} (h : INV s) (hf : f s = some (1, jup (jup (jup s 0 1 x) 0 2 y) 0 0 0)) (hg : g (jup (jup (jup s 0 1 x) 0 2 y) 0 0 0) = some (1, jup (jup v 155 2 x) 155 3 y)) (hv : EX (fun a b => (161 ≤ a ∧ a ≤ 169 ∧ a ≠ 163) ∨ (a = 155 ∧ ((12 ≤ b ∧ b ≤ 19) ∨ (25 ≤ b ∧ b ≤ 34) ∨ (38 ≤ b ∧ b ≤ 45))) ) (jup (jup (jup (jup (jup s 0 1 x) 0 2 y) 0 0 0) 155 1 0) 155 0 0) v) : OKc s f g := by
  have hE : EX mis s (jup (jup v 155 2 x) 155 3 y) := (EX.tr ((((((EX.rf _ _).up (by unfold mis; omega)).up (by unfold mis; omega)).up (by unfold mis; omega)).up (by unfold mis; omega)).up (by unfold mis; omega)) (hv.wk (fun a b q => by unfold mis; omega))).up (by unfold mis; omega) |>.up (by unfold mis; omega)
  have hv' : ∀ a b, ¬ ((161 ≤ a ∧ a ≤ 169 ∧ a ≠ 163) ∨ (a = 155 ∧ ((12 ≤ b ∧ b ≤ 19) ∨ (25 ≤ b ∧ b ≤ 34) ∨ (38 ≤ b ∧ b ≤ 45)))) → v a b = jup (jup (jup (jup (jup s 0 1 x) 0 2 y) 0 0 0) 155 1 0) 155 0 0 a b := fun a b q => hv a b q
  refine ⟨1, _, _, hf, hg, INV_mi h ⟨?_, ?_, ?_, ?_, ?_⟩ hE, hE.mneg⟩
  · rw [u_ne (by omega), u_ne (by omega), u_ne (by omega), u_ne (by omega), hv' _ _ (by omega), hv' _ _ (by omega)]
    simp (disch := omega) only [↓jb_m, ↓jm_s, ↓reduceIte, t_lt, t_nlt, t_le, t_nle, t_eq, t_neq, w32_id, w64_id, jb_s, and_true, true_and, and_self, and_false, false_and, or_true, true_or, or_false, false_or, or_self, not_false_eq_true, not_true_eq_false, u_ne, u_eq, u_u, Int.reduceAdd, Int.reduceSub, Int.reduceMul, Int.reduceNeg, Int.zero_add, Int.add_zero, n15, n16, q10, q11, q12, q13, q14]
  · rw [u_ne (by omega), u_ne (by omega), u_ne (by omega), u_eq ⟨rfl, rfl⟩, hv' _ _ (by omega)]
    simp (disch := omega) only [↓jb_m, ↓jm_s, ↓reduceIte, t_lt, t_nlt, t_le, t_nle, t_eq, t_neq, w32_id, w64_id, jb_s, and_true, true_and, and_self, and_false, false_and, or_true, true_or, or_false, false_or, or_self, not_false_eq_true, not_true_eq_false, u_ne, u_eq, u_u, Int.reduceAdd, Int.reduceSub, Int.reduceMul, Int.reduceNeg, Int.zero_add, Int.add_zero, n15, n16, q10, q11, q12, q13, q14]
  · rw [u_ne (by omega), u_ne (by omega), u_eq ⟨rfl, rfl⟩, hv' _ _ (by omega)]
    simp (disch := omega) only [↓jb_m, ↓jm_s, ↓reduceIte, t_lt, t_nlt, t_le, t_nle, t_eq, t_neq, w32_id, w64_id, jb_s, and_true, true_and, and_self, and_false, false_and, or_true, true_or, or_false, false_or, or_self, not_false_eq_true, not_true_eq_false, u_ne, u_eq, u_u, Int.reduceAdd, Int.reduceSub, Int.reduceMul, Int.reduceNeg, Int.zero_add, Int.add_zero, n15, n16, q10, q11, q12, q13, q14]
  · rw [u_ne (by omega), u_ne (by omega), u_ne (by omega), u_ne (by omega), hv' _ _ (by omega), hv' _ _ (by omega)]
    simp (disch := omega) only [↓jb_m, ↓jm_s, ↓reduceIte, t_lt, t_nlt, t_le, t_nle, t_eq, t_neq, w32_id, w64_id, jb_s, and_true, true_and, and_self, and_false, false_and, or_true, true_or, or_false, false_or, or_self, not_false_eq_true, not_true_eq_false, u_ne, u_eq, u_u, Int.reduceAdd, Int.reduceSub, Int.reduceMul, Int.reduceNeg, Int.zero_add, Int.add_zero, n15, n16, q10, q11, q12, q13, q14]
    exact h.1.2.2.2.1
  · rw [u_ne (by omega), u_ne (by omega), u_ne (by omega), u_ne (by omega), hv' _ _ (by omega), hv' _ _ (by omega)]
    simp (disch := omega) only [↓jb_m, ↓jm_s, ↓reduceIte, t_lt, t_nlt, t_le, t_nle, t_eq, t_neq, w32_id, w64_id, jb_s, and_true, true_and, and_self, and_false, false_and, or_true, true_or, or_false, false_or, or_self, not_false_eq_true, not_true_eq_false, u_ne, u_eq, u_u, Int.reduceAdd, Int.reduceSub, Int.reduceMul, Int.reduceNeg, Int.zero_add, Int.add_zero, n15, n16, q10, q11, q12, q13, q14]
    exact h.1.2.2.2.2
theorem poise_ok {s : jM} (h : INV s) {m : Int} (hm : i32 m) : OKc s (Jc_poise 0 m) (Md_poise 155 m) := by
  unfold i32 at hm
  obtain ⟨hb, hj, hj2, -⟩ := h.b
  have hse := h.2.2.2.2.2.1.1
  obtain ⟨e6, c2⟩ := hd2 hse
  by_cases hv : 0 ≤ m ∧ m < s 160 2
  · obtain ⟨m5, ⟨f0, f1, f2, f3, f4, f5, f6, f7⟩, -, -, fb, g0, g1, g2⟩ := mo_at hse hv
    by_cases hs : s 160 (69 + m) = 2
    · obtain ⟨x, y, t1, t2⟩ := tell_eq (a := s 160 (74 + m)) (b := s 160 (54 + m)) (by omega) (by omega)
      exact OKc.fr (x := x) (y := y) (u := s) (v := jup (jup (jup (jup (jup s 0 1 x) 0 2 y) 0 0 0) 155 1 0) 155 0 0) h (by simp (disch := omega) only [↓jb_m, ↓jm_s, ↓reduceIte, t_lt, t_nlt, t_le, t_nle, t_eq, t_neq, w32_id, w64_id, jb_s, and_true, true_and, and_self, and_false, false_and, or_true, true_or, or_false, false_or, or_self, not_false_eq_true, not_true_eq_false, u_ne, u_eq, u_u, Int.reduceAdd, Int.reduceSub, Int.reduceMul, Int.reduceNeg, Int.zero_add, Int.add_zero, n15, n16, q10, q11, q12, q13, q14, Jc_poise, f0, f3, f4, t1, Jc_answer, Jc_refuse, Jc_deny, Jc_grant, Se_isMould, Se_isStuff, Se_isPlace, hj]) (by simp (disch := omega) only [↓jb_m, ↓jm_s, ↓reduceIte, t_lt, t_nlt, t_le, t_nle, t_eq, t_neq, w32_id, w64_id, jb_s, and_true, true_and, and_self, and_false, false_and, or_true, true_or, or_false, false_or, or_self, not_false_eq_true, not_true_eq_false, u_ne, u_eq, u_u, Int.reduceAdd, Int.reduceSub, Int.reduceMul, Int.reduceNeg, Int.zero_add, Int.add_zero, n15, n16, q10, q11, q12, q13, q14, Md_poise, t2, Md_isMouldAt, Md_isStuffAt, Md_isPlaceAt, Md_isTray, Md_isIn_1, Md_isIn_0, Md_refuse, Md_no]) (EX.rf _ _)
    · exact OKc.no (w := 9) (r := 0) h (by simp (disch := omega) only [↓jb_m, ↓jm_s, ↓reduceIte, t_lt, t_nlt, t_le, t_nle, t_eq, t_neq, w32_id, w64_id, jb_s, and_true, true_and, and_self, and_false, false_and, or_true, true_or, or_false, false_or, or_self, not_false_eq_true, not_true_eq_false, u_ne, u_eq, u_u, Int.reduceAdd, Int.reduceSub, Int.reduceMul, Int.reduceNeg, Int.zero_add, Int.add_zero, n15, n16, q10, q11, q12, q13, q14, Jc_poise, f3, Jc_answer, Jc_refuse, Jc_deny, Jc_grant, Se_isMould, Se_isStuff, Se_isPlace, hj]) (by simp (disch := omega) only [↓jb_m, ↓jm_s, ↓reduceIte, t_lt, t_nlt, t_le, t_nle, t_eq, t_neq, w32_id, w64_id, jb_s, and_true, true_and, and_self, and_false, false_and, or_true, true_or, or_false, false_or, or_self, not_false_eq_true, not_true_eq_false, u_ne, u_eq, u_u, Int.reduceAdd, Int.reduceSub, Int.reduceMul, Int.reduceNeg, Int.zero_add, Int.add_zero, n15, n16, q10, q11, q12, q13, q14, Md_poise, Md_isMouldAt, Md_isStuffAt, Md_isPlaceAt, Md_isTray, Md_isIn_1, Md_isIn_0, Md_refuse, Md_no])
  · rcases (by omega : m < 0 ∨ s 160 2 ≤ m) with q | q
    · exact OKc.no (w := 2) (r := 0) h (by simp (disch := omega) only [↓jb_m, ↓jm_s, ↓reduceIte, t_lt, t_nlt, t_le, t_nle, t_eq, t_neq, w32_id, w64_id, jb_s, and_true, true_and, and_self, and_false, false_and, or_true, true_or, or_false, false_or, or_self, not_false_eq_true, not_true_eq_false, u_ne, u_eq, u_u, Int.reduceAdd, Int.reduceSub, Int.reduceMul, Int.reduceNeg, Int.zero_add, Int.add_zero, n15, n16, q10, q11, q12, q13, q14, Jc_poise, Jc_answer, Jc_refuse, Jc_deny, Jc_grant, Se_isMould, Se_isStuff, Se_isPlace, hj]) (by simp (disch := omega) only [↓jb_m, ↓jm_s, ↓reduceIte, t_lt, t_nlt, t_le, t_nle, t_eq, t_neq, w32_id, w64_id, jb_s, and_true, true_and, and_self, and_false, false_and, or_true, true_or, or_false, false_or, or_self, not_false_eq_true, not_true_eq_false, u_ne, u_eq, u_u, Int.reduceAdd, Int.reduceSub, Int.reduceMul, Int.reduceNeg, Int.zero_add, Int.add_zero, n15, n16, q10, q11, q12, q13, q14, Md_poise, Md_isMouldAt, Md_isStuffAt, Md_isPlaceAt, Md_isTray, Md_isIn_1, Md_isIn_0, Md_refuse, Md_no])
    · exact OKc.no (w := 2) (r := 0) h (by simp (disch := omega) only [↓jb_m, ↓jm_s, ↓reduceIte, t_lt, t_nlt, t_le, t_nle, t_eq, t_neq, w32_id, w64_id, jb_s, and_true, true_and, and_self, and_false, false_and, or_true, true_or, or_false, false_or, or_self, not_false_eq_true, not_true_eq_false, u_ne, u_eq, u_u, Int.reduceAdd, Int.reduceSub, Int.reduceMul, Int.reduceNeg, Int.zero_add, Int.add_zero, n15, n16, q10, q11, q12, q13, q14, Jc_poise, Jc_answer, Jc_refuse, Jc_deny, Jc_grant, Se_isMould, Se_isStuff, Se_isPlace, hj]) (by simp (disch := omega) only [↓jb_m, ↓jm_s, ↓reduceIte, t_lt, t_nlt, t_le, t_nle, t_eq, t_neq, w32_id, w64_id, jb_s, and_true, true_and, and_self, and_false, false_and, or_true, true_or, or_false, false_or, or_self, not_false_eq_true, not_true_eq_false, u_ne, u_eq, u_u, Int.reduceAdd, Int.reduceSub, Int.reduceMul, Int.reduceNeg, Int.zero_add, Int.add_zero, n15, n16, q10, q11, q12, q13, q14, Md_poise, Md_isMouldAt, Md_isStuffAt, Md_isPlaceAt, Md_isTray, Md_isIn_1, Md_isIn_0, Md_refuse, Md_no])
/-! MARKS -/
theorem iSe_copy {V V' : jM} {c : Int → Int} (h : iSe V c) (h0 : ∀ j, 0 ≤ j → j ≤ 7 → V' 0 j = V 0 j) (h1 : ∀ i j, 1 ≤ i → i ≤ 3 → 0 ≤ j → j < 5 → V' i j = V i j) (h2 : ∀ m j, 0 ≤ m → m < c 2 → 0 ≤ j → j ≤ 7 → V' (15 + 2 * m) j = V (15 + 2 * m) j) (h3 : ∀ m j, 0 ≤ m → m < c 2 → 0 ≤ j → j < 5 → V' (16 + 2 * m) j = V (16 + 2 * m) j) : iSe V' c := by
  obtain ⟨⟨g1, g2⟩, g3, g4, g5, g6⟩ := h
  refine ⟨⟨?_, g2⟩, fun j j1 j2 => ?_, fun m m1 m2 => ?_, g5, g6⟩
  · rw [h0 0 (by omega) (by omega), h0 1 (by omega) (by omega), h0 2 (by omega) (by omega), h0 3 (by omega) (by omega), h0 4 (by omega) (by omega), h0 5 (by omega) (by omega), h0 6 (by omega) (by omega), h0 7 (by omega) (by omega)]
    exact g1
  · unfold iSt
    rw [h1 1 j (by omega) (by omega) j1 (by omega), h1 2 j (by omega) (by omega) j1 (by omega), h1 3 j (by omega) (by omega) j1 (by omega)]
    exact g3 j j1 j2
  · have := g4 m m1 m2
    unfold iMo at this ⊢
    rw [h2 m 0 m1 m2 (by omega) (by omega), h2 m 1 m1 m2 (by omega) (by omega), h2 m 2 m1 m2 (by omega) (by omega), h2 m 3 m1 m2 (by omega) (by omega), h2 m 4 m1 m2 (by omega) (by omega), h2 m 5 m1 m2 (by omega) (by omega), h2 m 6 m1 m2 (by omega) (by omega), h2 m 7 m1 m2 (by omega) (by omega)]
    obtain ⟨a1, a2, a3⟩ := this
    refine ⟨a1, fun j j1 j2 => ?_, a3⟩
    rw [h3 m j m1 m2 j1 j2]
    exact a2 j j1 j2
theorem xV_at {V : jM} {i j : Int} (h : (5 ≤ i ∧ i < 15) ∨ (i = 0 ∧ j = 8)) : xV V i j = V i j := if_pos h
theorem xc_at {c : Int → Int} {o : Int} (h : (0 ≤ o ∧ o ≤ 2) ∨ o = 8 ∨ (24 ≤ o ∧ o < 54) ∨ 109 ≤ o) : xc c o = c o := if_pos h
/-- how many lines the feasts have -/
theorem lines_at {V : jM} {c w : Int → Int} (h : iX V c w) : 0 ≤ V 9 2 ∧ V 9 2 ≤ 60 ∧ (V 9 0 = 0 ∨ V 9 0 = 1) ∧ V 9 0 = c 109 ∧ (V 9 0 = 1 → V 9 1 = c 110 ∧ 0 ≤ c 110 ∧ c 110 ≤ 30) := by
  have f := h.2.2.2
  unfold FST at f
  rw [xV_at (by omega), xV_at (by omega), xV_at (by omega), xc_at (by omega), xc_at (by omega)] at f
  rcases f with f | f <;> omega
/-- a See copied: what counts of it -/
def CPY (s t : jM) (d b : Int) : Prop := (∀ j, 0 ≤ j → j ≤ 8 → t d j = s b j) ∧ (∀ i j, 1 ≤ i → i ≤ 3 → 0 ≤ j → j < 5 → t (d + i) j = s (b + i) j) ∧ (∀ j, 0 ≤ j → j < 36 → t (d + 5) j = s (b + 5) j) ∧ (∀ i j, 6 ≤ i → i ≤ 8 → 0 ≤ j → j < 16 → t (d + i) j = s (b + i) j) ∧ (∀ j, 0 ≤ j → j ≤ 2 → t (d + 9) j = s (b + 9) j) ∧ (∀ i j, 10 ≤ i → i ≤ 14 → 0 ≤ j → j < s (b + 9) 2 → t (d + i) j = s (b + i) j) ∧
  (∀ m j, 0 ≤ m → m < s b 6 → 0 ≤ j → j ≤ 7 → t (d + (15 + 2 * m)) j = s (b + (15 + 2 * m)) j) ∧ (∀ m j, 0 ≤ m → m < s b 6 → 0 ≤ j → j < 5 → t (d + (16 + 2 * m)) j = s (b + (16 + 2 * m)) j)
theorem iB_copy {s t : jM} {d b : Int} {c w : Int → Int} (h : iB (vw s b) c w) (hc : CPY s t d b) : iB (vw t d) c w := by
  obtain ⟨h1, h2, h3⟩ := h
  have hl := lines_at h3
  rw [vw_at (by omega), vw_at (by omega), vw_at (by omega)] at hl
  obtain ⟨c1, c2, c3, c4, c5, c6, c7, c8⟩ := hc
  have hhd := h1.1
  unfold iHd at hhd
  have e6 : s b 6 = c 2 := by
    have := hhd.1.2.2.2.2.2.2.1
    rw [vw_at (by omega), Int.add_zero] at this
    exact this
  refine ⟨iSe_copy h1 (fun j j1 j2 => ?_) (fun i j i1 i2 j1 j2 => ?_) (fun m j m1 m2 j1 j2 => ?_) (fun m j m1 m2 j1 j2 => ?_), h2, ?_⟩
  · rw [vw_at (by omega), vw_at (by omega), Int.add_zero, Int.add_zero]
    exact c1 j j1 (by omega)
  · rw [vw_at (by omega), vw_at (by omega)]
    exact c2 i j i1 i2 j1 j2
  · rw [vw_at (by omega), vw_at (by omega)]
    exact c7 m j m1 (by omega) j1 j2
  · rw [vw_at (by omega), vw_at (by omega)]
    exact c8 m j m1 (by omega) j1 j2
  · have n1 := h3.1.1
    rw [xV_at (by omega), xc_at (by omega), xc_at (by omega), xc_at (by omega)] at n1
    refine iY_copy h3 (by rw [xV_at (by omega)]; omega) ?_ (fun j j1 j2 => ?_) (fun i j i1 i2 j1 j2 => ?_) (fun j j1 j2 => ?_) (fun i j i1 i2 j1 j2 => ?_)
    · rw [xV_at (by omega), xV_at (by omega), vw_at (by omega), vw_at (by omega), Int.add_zero, Int.add_zero]
      exact c1 8 (by omega) (by omega)
    · rw [xV_at (by omega), xV_at (by omega), vw_at (by omega), vw_at (by omega)]
      exact c3 j j1 j2
    · rw [xV_at (by omega), xV_at (by omega), vw_at (by omega), vw_at (by omega)]
      exact c4 i j i1 i2 j1 j2
    · rw [xV_at (by omega), xV_at (by omega), vw_at (by omega), vw_at (by omega)]
      exact c5 j j1 j2
    · rw [xV_at (by omega), vw_at (by omega)] at j2
      rw [xV_at (by omega), xV_at (by omega), vw_at (by omega), vw_at (by omega)]
      exact c6 i j i1 i2 j1 j2
theorem Mo_copyOf_eq {s : jM} {a x : Int} (h : a ≠ x ∧ a + 1 ≠ x ∧ a ≠ x + 1 ∧ a + 1 ≠ x + 1) : ∃ t, Mo_copyOf a x s = some (0, t) ∧ (∀ j, 0 ≤ j → j ≤ 7 → t a j = s x j) ∧ (∀ j, 0 ≤ j → j < 5 → t (a + 1) j = s (x + 1) j) ∧ ∀ y, y ≠ a → y ≠ a + 1 → t y = s y := by
  refine ⟨jcp (jup (jup (jup (jup (jup (jup (jup (jup s a 0 (s x 0)) a 1 (s x 1)) a 2 (s x 2)) a 3 (s x 3)) a 4 (s x 4)) a 5 (s x 5)) a 6 (s x 6)) a 7 (s x 7)) (x + 1) 0 (a + 1) 0 5, ?_, fun j j1 j2 => ?_, fun j j1 j2 => ?_, fun y y1 y2 => ?_⟩
  · simp (disch := omega) only [↓jb_m, ↓jm_s, ↓reduceIte, t_lt, t_nlt, t_le, t_nle, t_eq, t_neq, w32_id, w64_id, jb_s, and_true, true_and, and_self, and_false, false_and, or_true, true_or, or_false, false_or, or_self, not_false_eq_true, not_true_eq_false, u_ne, u_eq, u_u, Int.reduceAdd, Int.reduceSub, Int.reduceMul, Int.reduceNeg, Int.zero_add, Int.add_zero, n15, n16, q10, q11, q12, q13, q14, Mo_copyOf]
  · rcases (by omega : j = 0 ∨ j = 1 ∨ j = 2 ∨ j = 3 ∨ j = 4 ∨ j = 5 ∨ j = 6 ∨ j = 7) with q | q | q | q | q | q | q | q <;> subst q <;> simp (disch := omega) only [↓jb_m, ↓jm_s, ↓reduceIte, t_lt, t_nlt, t_le, t_nle, t_eq, t_neq, w32_id, w64_id, jb_s, and_true, true_and, and_self, and_false, false_and, or_true, true_or, or_false, false_or, or_self, not_false_eq_true, not_true_eq_false, u_ne, u_eq, u_u, Int.reduceAdd, Int.reduceSub, Int.reduceMul, Int.reduceNeg, Int.zero_add, Int.add_zero, n15, n16, q10, q11, q12, q13, q14, c_out]
  · simp (disch := omega) only [↓jb_m, ↓jm_s, ↓reduceIte, t_lt, t_nlt, t_le, t_nle, t_eq, t_neq, w32_id, w64_id, jb_s, and_true, true_and, and_self, and_false, false_and, or_true, true_or, or_false, false_or, or_self, not_false_eq_true, not_true_eq_false, u_ne, u_eq, u_u, Int.reduceAdd, Int.reduceSub, Int.reduceMul, Int.reduceNeg, Int.zero_add, Int.add_zero, n15, n16, q10, q11, q12, q13, q14, c_in]
    rw [show j - 0 = j by omega]
  · funext j
    simp (disch := omega) only [↓jb_m, ↓jm_s, ↓reduceIte, t_lt, t_nlt, t_le, t_nle, t_eq, t_neq, w32_id, w64_id, jb_s, and_true, true_and, and_self, and_false, false_and, or_true, true_or, or_false, false_or, or_self, not_false_eq_true, not_true_eq_false, u_ne, u_eq, u_u, Int.reduceAdd, Int.reduceSub, Int.reduceMul, Int.reduceNeg, Int.zero_add, Int.add_zero, n15, n16, q10, q11, q12, q13, q14, c_out]
theorem Fe_copyOf_eq {s : jM} {d b : Int} (h : d + 20 ≤ b ∨ b + 20 ≤ d) (h0 : s b 0 = 0 ∨ s b 0 = 1) (h2 : 0 ≤ s b 2 ∧ s b 2 ≤ 60) : ∃ t, Fe_copyOf d b s = some (0, t) ∧ (∀ j, 0 ≤ j → j ≤ 2 → t d j = s b j) ∧ (∀ i j, 1 ≤ i → i ≤ 5 → 0 ≤ j → j < s b 2 → t (d + i) j = s (b + i) j) ∧ ∀ y, ¬ (d ≤ y ∧ y ≤ d + 5) → t y = s y := by
  refine ⟨jcp (jcp (jcp (jcp (jcp (jup (jup (jup s d 0 (s b 0)) d 1 (s b 1)) d 2 (s b 2)) (b + 1) 0 (d + 1) 0 (s b 2)) (b + 2) 0 (d + 2) 0 (s b 2)) (b + 3) 0 (d + 3) 0 (s b 2)) (b + 4) 0 (d + 4) 0 (s b 2)) (b + 5) 0 (d + 5) 0 (s b 2), ?_, fun j j1 j2 => ?_, fun i j i1 i2 j1 j2 => ?_, fun y y1 => ?_⟩
  · rcases h0 with q | q <;> simp (disch := omega) only [↓jb_m, ↓jm_s, ↓reduceIte, t_lt, t_nlt, t_le, t_nle, t_eq, t_neq, w32_id, w64_id, jb_s, and_true, true_and, and_self, and_false, false_and, or_true, true_or, or_false, false_or, or_self, not_false_eq_true, not_true_eq_false, u_ne, u_eq, u_u, Int.reduceAdd, Int.reduceSub, Int.reduceMul, Int.reduceNeg, Int.zero_add, Int.add_zero, n15, n16, q10, q11, q12, q13, q14, Fe_copyOf, c_out]
  · rcases (by omega : j = 0 ∨ j = 1 ∨ j = 2) with q | q | q <;> subst q <;> simp (disch := omega) only [↓jb_m, ↓jm_s, ↓reduceIte, t_lt, t_nlt, t_le, t_nle, t_eq, t_neq, w32_id, w64_id, jb_s, and_true, true_and, and_self, and_false, false_and, or_true, true_or, or_false, false_or, or_self, not_false_eq_true, not_true_eq_false, u_ne, u_eq, u_u, Int.reduceAdd, Int.reduceSub, Int.reduceMul, Int.reduceNeg, Int.zero_add, Int.add_zero, n15, n16, q10, q11, q12, q13, q14, c_out]
  · rcases (by omega : i = 1 ∨ i = 2 ∨ i = 3 ∨ i = 4 ∨ i = 5) with q | q | q | q | q <;> subst q <;> simp (disch := omega) only [↓jb_m, ↓jm_s, ↓reduceIte, t_lt, t_nlt, t_le, t_nle, t_eq, t_neq, w32_id, w64_id, jb_s, and_true, true_and, and_self, and_false, false_and, or_true, true_or, or_false, false_or, or_self, not_false_eq_true, not_true_eq_false, u_ne, u_eq, u_u, Int.reduceAdd, Int.reduceSub, Int.reduceMul, Int.reduceNeg, Int.zero_add, Int.add_zero, n15, n16, q10, q11, q12, q13, q14, c_out, c_in] <;> rw [show j - 0 = j by omega]
  · funext j
    simp (disch := omega) only [↓jb_m, ↓jm_s, ↓reduceIte, t_lt, t_nlt, t_le, t_nle, t_eq, t_neq, w32_id, w64_id, jb_s, and_true, true_and, and_self, and_false, false_and, or_true, true_or, or_false, false_or, or_self, not_false_eq_true, not_true_eq_false, u_ne, u_eq, u_u, Int.reduceAdd, Int.reduceSub, Int.reduceMul, Int.reduceNeg, Int.zero_add, Int.add_zero, n15, n16, q10, q11, q12, q13, q14, c_out]
set_option maxHeartbeats 4000000 in
theorem Se_copyOf_eq {s : jM} {d b : Int} (h : d + 25 ≤ b ∨ b + 25 ≤ d) (h0 : s (b + 9) 0 = 0 ∨ s (b + 9) 0 = 1) (h2 : 0 ≤ s (b + 9) 2 ∧ s (b + 9) 2 ≤ 60) (h6 : 0 ≤ s b 6 ∧ s b 6 ≤ 5) : ∃ t, Se_copyOf d b s = some (0, t) ∧ CPY s t d b ∧ ∀ y, ¬ (d ≤ y ∧ y < d + 25) → t y = s y := by
  -- the numbers of its own, the arrays
  obtain ⟨s1, hs1⟩ : ∃ s1, s1 = jcp (jcp (jcp (jcp (jcp (jcp (jcp (jup (jup (jup (jup (jup (jup (jup (jup (jup s d 0 (s b 0)) d 1 (s b 1)) d 2 (s b 2)) d 3 (s b 3)) d 4 (s b 4)) d 5 (s b 5)) d 6 (s b 6)) d 7 (s b 7)) d 8 (s b 8)) (b + 1) 0 (d + 1) 0 5) (b + 2) 0 (d + 2) 0 5) (b + 3) 0 (d + 3) 0 5) (b + 5) 0 (d + 5) 0 36) (b + 6) 0 (d + 6) 0 16) (b + 7) 0 (d + 7) 0 16) (b + 8) 0 (d + 8) 0 16 := ⟨_, rfl⟩
  have k1 : Se_copyOf d b s = Se_copyOf_179 jFU d b 0 s1 := by
    rw [hs1]
    simp (disch := omega) only [↓jb_m, ↓jm_s, ↓reduceIte, t_lt, t_nlt, t_le, t_nle, t_eq, t_neq, w32_id, w64_id, jb_s, and_true, true_and, and_self, and_false, false_and, or_true, true_or, or_false, false_or, or_self, not_false_eq_true, not_true_eq_false, u_ne, u_eq, u_u, Int.reduceAdd, Int.reduceSub, Int.reduceMul, Int.reduceNeg, Int.zero_add, Int.add_zero, n15, n16, q10, q11, q12, q13, q14, Se_copyOf, c_out]
  have a0 : ∀ j, 0 ≤ j → j ≤ 8 → s1 d j = s b j := fun j j1 j2 => by
    rw [hs1]
    rcases (by omega : j = 0 ∨ j = 1 ∨ j = 2 ∨ j = 3 ∨ j = 4 ∨ j = 5 ∨ j = 6 ∨ j = 7 ∨ j = 8) with q | q | q | q | q | q | q | q | q <;> subst q <;> simp (disch := omega) only [↓jb_m, ↓jm_s, ↓reduceIte, t_lt, t_nlt, t_le, t_nle, t_eq, t_neq, w32_id, w64_id, jb_s, and_true, true_and, and_self, and_false, false_and, or_true, true_or, or_false, false_or, or_self, not_false_eq_true, not_true_eq_false, u_ne, u_eq, u_u, Int.reduceAdd, Int.reduceSub, Int.reduceMul, Int.reduceNeg, Int.zero_add, Int.add_zero, n15, n16, q10, q11, q12, q13, q14, c_out]
  have a1 : ∀ i j, 1 ≤ i → i ≤ 3 → 0 ≤ j → j < 5 → s1 (d + i) j = s (b + i) j := fun i j i1 i2 j1 j2 => by
    rw [hs1]
    rcases (by omega : i = 1 ∨ i = 2 ∨ i = 3) with q | q | q <;> subst q <;> simp (disch := omega) only [↓jb_m, ↓jm_s, ↓reduceIte, t_lt, t_nlt, t_le, t_nle, t_eq, t_neq, w32_id, w64_id, jb_s, and_true, true_and, and_self, and_false, false_and, or_true, true_or, or_false, false_or, or_self, not_false_eq_true, not_true_eq_false, u_ne, u_eq, u_u, Int.reduceAdd, Int.reduceSub, Int.reduceMul, Int.reduceNeg, Int.zero_add, Int.add_zero, n15, n16, q10, q11, q12, q13, q14, c_out, c_in] <;> rw [show j - 0 = j by omega]
  have a5 : ∀ j, 0 ≤ j → j < 36 → s1 (d + 5) j = s (b + 5) j := fun j j1 j2 => by
    rw [hs1]
    simp (disch := omega) only [↓jb_m, ↓jm_s, ↓reduceIte, t_lt, t_nlt, t_le, t_nle, t_eq, t_neq, w32_id, w64_id, jb_s, and_true, true_and, and_self, and_false, false_and, or_true, true_or, or_false, false_or, or_self, not_false_eq_true, not_true_eq_false, u_ne, u_eq, u_u, Int.reduceAdd, Int.reduceSub, Int.reduceMul, Int.reduceNeg, Int.zero_add, Int.add_zero, n15, n16, q10, q11, q12, q13, q14, c_out, c_in]
    rw [show j - 0 = j by omega]
  have a6 : ∀ i j, 6 ≤ i → i ≤ 8 → 0 ≤ j → j < 16 → s1 (d + i) j = s (b + i) j := fun i j i1 i2 j1 j2 => by
    rw [hs1]
    rcases (by omega : i = 6 ∨ i = 7 ∨ i = 8) with q | q | q <;> subst q <;> simp (disch := omega) only [↓jb_m, ↓jm_s, ↓reduceIte, t_lt, t_nlt, t_le, t_nle, t_eq, t_neq, w32_id, w64_id, jb_s, and_true, true_and, and_self, and_false, false_and, or_true, true_or, or_false, false_or, or_self, not_false_eq_true, not_true_eq_false, u_ne, u_eq, u_u, Int.reduceAdd, Int.reduceSub, Int.reduceMul, Int.reduceNeg, Int.zero_add, Int.add_zero, n15, n16, q10, q11, q12, q13, q14, c_out, c_in] <;> rw [show j - 0 = j by omega]
  have ao : ∀ y, ¬ (d ≤ y ∧ y < d + 9) → s1 y = s y := fun y hy => by
    rw [hs1]
    funext j
    simp (disch := omega) only [↓jb_m, ↓jm_s, ↓reduceIte, t_lt, t_nlt, t_le, t_nle, t_eq, t_neq, w32_id, w64_id, jb_s, and_true, true_and, and_self, and_false, false_and, or_true, true_or, or_false, false_or, or_self, not_false_eq_true, not_true_eq_false, u_ne, u_eq, u_u, Int.reduceAdd, Int.reduceSub, Int.reduceMul, Int.reduceNeg, Int.zero_add, Int.add_zero, n15, n16, q10, q11, q12, q13, q14, c_out]
  clear hs1
  have key : ∀ (n : Nat) (k : Int) (u : jM), 0 ≤ k → k ≤ s b 6 → (s b 6 - k).toNat < n → (∀ y, ¬ (d + 15 ≤ y ∧ y < d + 25) → u y = s1 y) → (∀ m j, 0 ≤ m → m < k → 0 ≤ j → j ≤ 7 → u (d + (15 + 2 * m)) j = s (b + (15 + 2 * m)) j) → (∀ m j, 0 ≤ m → m < k → 0 ≤ j → j < 5 → u (d + (16 + 2 * m)) j = s (b + (16 + 2 * m)) j) → ∃ t, Se_copyOf_179 n d b k u = some (0, t) ∧ CPY s t d b ∧ ∀ y, ¬ (d ≤ y ∧ y < d + 25) → t y = s y := by
    intro n
    induction n with
    | zero => intro k u h1 h2 h3; omega
    | succ n ih =>
      intro k u q1 q2 q3 q4 q5 q6
      have ed6 : u d 6 = s b 6 := by rw [q4 d (by omega)]; exact a0 6 (by omega) (by omega)
      by_cases hk : k < s b 6
      · obtain ⟨t, t1, t2, t3, t4⟩ := Mo_copyOf_eq (s := u) (a := d + (15 + 2 * k)) (x := b + (15 + 2 * k)) (by omega)
        have eb : ∀ i, 0 ≤ i → i < 25 → u (b + i) = s (b + i) := fun i i1 i2 => by rw [q4 _ (by omega), ao _ (by omega)]
        rw [Se_copyOf_179]
        simp (disch := omega) only [↓jb_m, ↓jm_s, ↓reduceIte, t_lt, t_nlt, t_le, t_nle, t_eq, t_neq, w32_id, w64_id, jb_s, and_true, true_and, and_self, and_false, false_and, or_true, true_or, or_false, false_or, or_self, not_false_eq_true, not_true_eq_false, u_ne, u_eq, u_u, Int.reduceAdd, Int.reduceSub, Int.reduceMul, Int.reduceNeg, Int.zero_add, Int.add_zero, n15, n16, q10, q11, q12, q13, q14, ed6, t1]
        refine ih (k + 1) t (by omega) (by omega) (by omega) (fun y hy => ?_) (fun m j m1 m2 j1 j2 => ?_) (fun m j m1 m2 j1 j2 => ?_)
        · rw [t4 y (by omega) (by omega)]
          exact q4 y hy
        · by_cases e : m = k
          · subst e
            rw [t2 j j1 j2, eb _ (by omega) (by omega)]
          · rw [t4 _ (by omega) (by omega)]
            exact q5 m j m1 (by omega) j1 j2
        · by_cases e : m = k
          · subst e
            have := t3 j j1 j2
            rw [show d + (15 + 2 * m) + 1 = d + (16 + 2 * m) by omega, show b + (15 + 2 * m) + 1 = b + (16 + 2 * m) by omega] at this
            rw [this, eb _ (by omega) (by omega)]
          · rw [t4 _ (by omega) (by omega)]
            exact q6 m j m1 (by omega) j1 j2
      · have ek : k = s b 6 := by omega
        have eb : ∀ i, 0 ≤ i → i < 25 → u (b + i) = s (b + i) := fun i i1 i2 => by rw [q4 _ (by omega), ao _ (by omega)]
        obtain ⟨t, t1, t2, t3, t4⟩ := Fe_copyOf_eq (s := u) (d := d + 9) (b := b + 9) (by omega) (by rw [eb _ (by omega) (by omega)]; exact h0) (by rw [eb _ (by omega) (by omega)]; exact h2)
        refine ⟨t, ?_, ⟨fun j j1 j2 => ?_, fun i j i1 i2 j1 j2 => ?_, fun j j1 j2 => ?_, fun i j i1 i2 j1 j2 => ?_, fun j j1 j2 => ?_, fun i j i1 i2 j1 j2 => ?_, fun m j m1 m2 j1 j2 => ?_, fun m j m1 m2 j1 j2 => ?_⟩, fun y hy => ?_⟩
        · rw [Se_copyOf_179]
          simp (disch := omega) only [↓jb_m, ↓jm_s, ↓reduceIte, t_lt, t_nlt, t_le, t_nle, t_eq, t_neq, w32_id, w64_id, jb_s, and_true, true_and, and_self, and_false, false_and, or_true, true_or, or_false, false_or, or_self, not_false_eq_true, not_true_eq_false, u_ne, u_eq, u_u, Int.reduceAdd, Int.reduceSub, Int.reduceMul, Int.reduceNeg, Int.zero_add, Int.add_zero, n15, n16, q10, q11, q12, q13, q14, ed6, t1]
        · rw [t4 _ (by omega), q4 _ (by omega)]
          exact a0 j j1 j2
        · rw [t4 _ (by omega), q4 _ (by omega)]
          exact a1 i j i1 i2 j1 j2
        · rw [t4 _ (by omega), q4 _ (by omega)]
          exact a5 j j1 j2
        · rw [t4 _ (by omega), q4 _ (by omega)]
          exact a6 i j i1 i2 j1 j2
        · rw [t2 j j1 j2, eb _ (by omega) (by omega)]
        · have := t3 (i - 9) j (by omega) (by omega) j1 (by rw [eb _ (by omega) (by omega)]; exact j2)
          rw [show d + 9 + (i - 9) = d + i by omega, show b + 9 + (i - 9) = b + i by omega, eb _ (by omega) (by omega)] at this
          exact this
        · rw [t4 _ (by omega)]
          exact q5 m j m1 (by omega) j1 j2
        · rw [t4 _ (by omega)]
          exact q6 m j m1 (by omega) j1 j2
        · rw [t4 _ (by omega), q4 _ (by omega), ao _ (by omega)]
  rw [k1]
  exact key jFU 0 s1 (by omega) h6.1 (by unfold jFU; omega) (fun y _ => rfl) (fun m j m1 m2 => by omega) (fun m j m1 m2 => by omega)
theorem Md_copy_eq {x y : Int} (hx : 0 ≤ x ∧ x ≤ 4) (hy : 0 ≤ y ∧ y ≤ 4) (hxy : x ≠ y) (s : jM) : Md_copy 155 x y s = some (0, jcp (jcp s 160 (381 * x) 160 (381 * y) 381) 163 (16 * x) 163 (16 * y) 16) := by
  have st : ∀ (s : jM) (k sp dp n : Int), 0 ≤ n → (sp + n < dp ∨ dp + n ≤ sp) → jup (jcp s k sp k dp n) k (dp + n) (jcp s k sp k dp n k (sp + n)) = jcp s k sp k dp (n + 1) := by
    intro s k sp dp n hn hd
    funext a b
    rw [c_out (a := k) (by omega)]
    simp only [jup_at, jcp_at]
    by_cases h1 : a = k ∧ b = dp + n
    · rw [if_pos h1, if_pos (by omega)]
      rw [show sp + (b - dp) = sp + n by omega]
    · rw [if_neg h1]
      by_cases h2 : a = k ∧ dp ≤ b ∧ b < dp + n
      · rw [if_pos h2, if_pos (by omega)]
      · rw [if_neg h2, if_neg (by omega)]
  have k2 : ∀ (n : Nat) (k : Int) (s : jM), 0 ≤ k → k ≤ 16 → (16 - k).toNat < n → Md_copy_41 n 155 x y k (jcp s 163 (16 * x) 163 (16 * y) k) = some (0, jcp s 163 (16 * x) 163 (16 * y) 16) := by
    intro n
    induction n with
    | zero => intro k s h1 h2 h3; omega
    | succ n ih =>
      intro k s h1 h2 h3
      by_cases hk : k < 16
      · rw [Md_copy_41]
        simp (disch := omega) only [↓jb_m, ↓jm_s, ↓reduceIte, t_lt, t_nlt, t_le, t_nle, t_eq, t_neq, w32_id, w64_id, jb_s, and_true, true_and, and_self, and_false, false_and, or_true, true_or, or_false, false_or, or_self, not_false_eq_true, not_true_eq_false, u_ne, u_eq, u_u, Int.reduceAdd, Int.reduceSub, Int.reduceMul, Int.reduceNeg, Int.zero_add, Int.add_zero, n15, n16, q10, q11, q12, q13, q14, st s 163 (16 * x) (16 * y) k h1 (by omega)]
        exact ih (k + 1) s (by omega) (by omega) (by omega)
      · have e : k = 16 := by omega
        subst e
        rw [Md_copy_41]
        simp (disch := omega) only [↓jb_m, ↓jm_s, ↓reduceIte, t_lt, t_nlt, t_le, t_nle, t_eq, t_neq, w32_id, w64_id, jb_s, and_true, true_and, and_self, and_false, false_and, or_true, true_or, or_false, false_or, or_self, not_false_eq_true, not_true_eq_false, u_ne, u_eq, u_u, Int.reduceAdd, Int.reduceSub, Int.reduceMul, Int.reduceNeg, Int.zero_add, Int.add_zero, n15, n16, q10, q11, q12, q13, q14]
  have k1 : ∀ (n : Nat) (k : Int) (s : jM), 0 ≤ k → k ≤ 381 → (381 - k).toNat < n → Md_copy_2 n 155 x y k (jcp s 160 (381 * x) 160 (381 * y) k) = some (0, jcp (jcp s 160 (381 * x) 160 (381 * y) 381) 163 (16 * x) 163 (16 * y) 16) := by
    intro n
    induction n with
    | zero => intro k s h1 h2 h3; omega
    | succ n ih =>
      intro k s h1 h2 h3
      by_cases hk : k < 381
      · rw [Md_copy_2]
        simp (disch := omega) only [↓jb_m, ↓jm_s, ↓reduceIte, t_lt, t_nlt, t_le, t_nle, t_eq, t_neq, w32_id, w64_id, jb_s, and_true, true_and, and_self, and_false, false_and, or_true, true_or, or_false, false_or, or_self, not_false_eq_true, not_true_eq_false, u_ne, u_eq, u_u, Int.reduceAdd, Int.reduceSub, Int.reduceMul, Int.reduceNeg, Int.zero_add, Int.add_zero, n15, n16, q10, q11, q12, q13, q14, st s 160 (381 * x) (381 * y) k h1 (by omega)]
        exact ih (k + 1) s (by omega) (by omega) (by omega)
      · have e : k = 381 := by omega
        subst e
        have := k2 jFU 0 (jcp s 160 (381 * x) 160 (381 * y) 381) (by omega) (by omega) (by unfold jFU; omega)
        rw [jcp_0] at this
        rw [Md_copy_2]
        simp (disch := omega) only [↓jb_m, ↓jm_s, ↓reduceIte, t_lt, t_nlt, t_le, t_nle, t_eq, t_neq, w32_id, w64_id, jb_s, and_true, true_and, and_self, and_false, false_and, or_true, true_or, or_false, false_or, or_self, not_false_eq_true, not_true_eq_false, u_ne, u_eq, u_u, Int.reduceAdd, Int.reduceSub, Int.reduceMul, Int.reduceNeg, Int.zero_add, Int.add_zero, n15, n16, q10, q11, q12, q13, q14]
        exact this
  have := k1 jFU 0 s (by omega) (by omega) (by unfold jFU; omega)
  rw [jcp_0] at this
  exact this
