/-! the reference lays how far all is -/
theorem jrem_e {a b : Int} (h : 0 ≤ a) (h2 : a < 2147483648) (h3 : 1 ≤ b) (h4 : b < 2147483648) : jrem a b = a % b := by
  unfold jrem
  rw [w32_id (by omega) h2, w32_id (by omega) h4, Int.tmod_eq_emod_of_nonneg h]
theorem xcw_at {u : jM} {o : Int} (h : (0 ≤ o ∧ o ≤ 2) ∨ o = 8 ∨ (24 ≤ o ∧ o < 54) ∨ (109 ≤ o ∧ o < 381)) : xc (cw u 0) o = u 160 o := by rw [xc_at (by omega), cw_at (by omega)]
def a164 (a _j : Int) : Prop := a = 164
theorem far_2 : ∀ (f : Nat) (k : Int) (s : jM), 0 ≤ k → k ≤ 36 → (36 - k).toNat < f → (∀ j, 0 ≤ j → j < k → s 164 j = if j / 6 = j % 6 then 0 else 10000) → ∃ t, Md_laysFar_2 f 155 k s = Md_laysFar_40 jFU 155 0 t ∧ EX a164 s t ∧ ∀ j, 0 ≤ j → j < 36 → t 164 j = if j / 6 = j % 6 then 0 else 10000 := by
  intro f
  induction f with
  | zero => intro k s h1 h2 h3; omega
  | succ f ih =>
    intro k s h1 h2 h3 h4
    by_cases hk : k < 36
    · have e1 := jdiv_e (a := k) (b := 6) h1 (by omega) (by omega) (by omega)
      have e2 := jrem_e (a := k) (b := 6) h1 (by omega) (by omega) (by omega)
      by_cases hd : k / 6 = k % 6
      · obtain ⟨t, t1, t2, t3⟩ := ih (k + 1) (jup s 164 k 0) (by omega) (by omega) (by omega) (fun j j1 j2 => by
          by_cases e : j = k
          · rw [u_eq ⟨rfl, e⟩, e, if_pos hd]
          · rw [u_ne (by omega)]; exact h4 j j1 (by omega))
        refine ⟨t, ?_, EX.tr ((EX.rf _ _).up rfl) t2, t3⟩
        rw [Md_laysFar_2]
        simp (disch := omega) only [↓jb_m, ↓jm_s, ↓reduceIte, t_lt, t_nlt, t_le, t_nle, t_eq, t_neq, w32_id, w64_id, jb_s, and_true, true_and, and_self, and_false, false_and, or_true, true_or, or_false, false_or, or_self, not_false_eq_true, not_true_eq_false, u_ne, u_eq, u_u, Int.reduceAdd, Int.reduceSub, Int.reduceMul, Int.reduceNeg, Int.zero_add, Int.add_zero, n15, n16, q10, q11, q12, q13, q14, e1, e2]
        exact t1
      · obtain ⟨t, t1, t2, t3⟩ := ih (k + 1) (jup s 164 k 10000) (by omega) (by omega) (by omega) (fun j j1 j2 => by
          by_cases e : j = k
          · rw [u_eq ⟨rfl, e⟩, e, if_neg hd]
          · rw [u_ne (by omega)]; exact h4 j j1 (by omega))
        refine ⟨t, ?_, EX.tr ((EX.rf _ _).up rfl) t2, t3⟩
        rw [Md_laysFar_2]
        simp (disch := omega) only [↓jb_m, ↓jm_s, ↓reduceIte, t_lt, t_nlt, t_le, t_nle, t_eq, t_neq, w32_id, w64_id, jb_s, and_true, true_and, and_self, and_false, false_and, or_true, true_or, or_false, false_or, or_self, not_false_eq_true, not_true_eq_false, u_ne, u_eq, u_u, Int.reduceAdd, Int.reduceSub, Int.reduceMul, Int.reduceNeg, Int.zero_add, Int.add_zero, n15, n16, q10, q11, q12, q13, q14, e1, e2]
        exact t1
    · refine ⟨s, ?_, EX.rf _ _, fun j j1 j2 => h4 j j1 (by omega)⟩
      rw [Md_laysFar_2]
      simp (disch := omega) only [↓jb_m, ↓jm_s, ↓reduceIte, t_lt, t_nlt, t_le, t_nle, t_eq, t_neq, w32_id, w64_id, jb_s, and_true, true_and, and_self, and_false, false_and, or_true, true_or, or_false, false_or, or_self, not_false_eq_true, not_true_eq_false, u_ne, u_eq, u_u, Int.reduceAdd, Int.reduceSub, Int.reduceMul, Int.reduceNeg, Int.zero_add, Int.add_zero, n15, n16, q10, q11, q12, q13, q14]
/-- a walk more -/
theorem E0_step {k far : Int} {d d' c : Int → Int} {w x y h : Int} (hE : E0 k far d c w) (hw : 0 ≤ w) (hx : c (24 + w) = x) (hy : c (34 + w) = y) (hh : c (44 + w) = h) (h1 : 0 ≤ x ∧ x < 6) (h2 : 0 ≤ y ∧ y < 6) (hne : x ≠ y) (hd : ∀ p q, 0 ≤ p → p < 6 → 0 ≤ q → q < 6 → d' (6 * p + q) = if (p = x ∧ q = y) ∨ (p = y ∧ q = x) then (if k * h + 1 < d (6 * x + y) then k * h + 1 else d (6 * x + y)) else d (6 * p + q)) (hk : 1 ≤ k) (hf : k * h + 1 < far) (hs : d (6 * x + y) = d (6 * y + x)) : E0 k far d' c (w + 1) := by
  intro p q p1 p2 q1 q2
  obtain ⟨a1, a2⟩ := hE p q p1 p2 q1 q2
  rw [hd p q p1 p2 q1 q2]
  refine ⟨fun e => ?_, fun e => ?_⟩
  · rw [if_neg (by clear a2; omega)]
    exact a1 e
  · obtain ⟨a3, a4⟩ := a2 e
    by_cases hc : (p = x ∧ q = y) ∨ (p = y ∧ q = x)
    · rw [if_pos hc]
      have hdd : d (6 * x + y) = d (6 * p + q) := by
        rcases hc with z | z
        · rw [z.1, z.2]
        · rw [z.1, z.2]; exact hs
      rw [hdd]
      have hed : EDW c (w + 1) p q h := by
        refine ⟨w, hw, by omega, ?_, hh⟩
        rcases hc with z | z
        · exact Or.inl ⟨hx.trans z.1.symm, hy.trans z.2.symm⟩
        · exact Or.inr ⟨hx.trans z.2.symm, hy.trans z.1.symm⟩
      refine ⟨fun z hz => ?_, ?_⟩
      · obtain ⟨i, i1, i2, i3, i4⟩ := hz
        by_cases ei : i = w
        · subst ei
          rw [hh] at i4
          subst i4
          split <;> omega
        · have := a3 z ⟨i, i1, by omega, i3, i4⟩
          split <;> omega
      · by_cases hlt : k * h + 1 < d (6 * p + q)
        · rw [if_pos hlt]
          exact Or.inr ⟨h, hed, rfl⟩
        · rw [if_neg hlt]
          rcases a4 with a4 | ⟨z, ⟨i, i1, i2, i3, i4⟩, a4⟩
          · exact absurd a4 (by omega)
          · exact Or.inr ⟨z, ⟨i, i1, by omega, i3, i4⟩, a4⟩
    · rw [if_neg hc]
      refine ⟨fun z hz => ?_, ?_⟩
      · obtain ⟨i, i1, i2, i3, i4⟩ := hz
        by_cases ei : i = w
        · subst ei
          exact absurd (i3.imp (fun z => ⟨z.1.symm.trans hx, z.2.symm.trans hy⟩) (fun z => ⟨z.2.symm.trans hy, z.1.symm.trans hx⟩)) hc
        · exact a3 z ⟨i, i1, by omega, i3, i4⟩
      · rcases a4 with a4 | ⟨z, ⟨i, i1, i2, i3, i4⟩, a4⟩
        · exact Or.inl a4
        · exact Or.inr ⟨z, ⟨i, i1, by omega, i3, i4⟩, a4⟩
theorem EDW_sym {c : Int → Int} {w p q h : Int} (hd : EDW c w p q h) : EDW c w q p h := by
  obtain ⟨x, x1, x2, x3, x4⟩ := hd
  exact ⟨x, x1, x2, x3.symm, x4⟩
theorem E0_sym {k far : Int} {d c : Int → Int} {w : Int} (h : E0 k far d c w) (hb : ∀ z, (∃ p q, EDW c w p q z) → k * z + 1 ≤ far) {p q : Int} (hp : 0 ≤ p ∧ p < 6) (hq : 0 ≤ q ∧ q < 6) (hne : p ≠ q) : d (6 * p + q) = d (6 * q + p) := by
  obtain ⟨a1, a2⟩ := (h p q hp.1 hp.2 hq.1 hq.2).2 hne
  obtain ⟨b1, b2⟩ := (h q p hq.1 hq.2 hp.1 hp.2).2 (fun e => hne e.symm)
  rcases a2 with a2 | ⟨x, x1, x2⟩
  · rcases b2 with b2 | ⟨y, y1, y2⟩
    · omega
    · have := a1 y (EDW_sym y1)
      have := hb y ⟨_, _, y1⟩
      omega
  · rcases b2 with b2 | ⟨y, y1, y2⟩
    · have := b1 x (EDW_sym x1)
      have := hb x ⟨_, _, x1⟩
      omega
    · have := b1 x (EDW_sym x1)
      have := a1 y (EDW_sym y1)
      omega
theorem WKS_at {u : jM} (h : WKS (xc (cw u 0))) {x : Int} (h1 : 0 ≤ x) (h2 : x < u 160 8) (h8 : u 160 8 ≤ 10) : 0 ≤ u 160 (24 + x) ∧ u 160 (24 + x) < u 160 1 ∧ 0 ≤ u 160 (34 + x) ∧ u 160 (34 + x) < u 160 1 ∧ u 160 (24 + x) ≠ u 160 (34 + x) ∧ 0 ≤ u 160 (44 + x) ∧ u 160 (44 + x) ≤ 9 := by
  have := h x h1 (by rw [xcw_at (by omega)]; exact h2)
  rw [xcw_at (by omega), xcw_at (by omega), xcw_at (by omega), xcw_at (by omega)] at this
  exact this
theorem far_40 {u : jM} (hw : WKS (xc (cw u 0))) (h8 : 0 ≤ u 160 8 ∧ u 160 8 ≤ 10) (h1 : u 160 1 ≤ 6) : ∀ (f : Nat) (w : Int) (s : jM), EX a164 u s → 0 ≤ w → w ≤ u 160 8 → (u 160 8 - w).toNat < f → E0 16 10000 (s 164) (xc (cw u 0)) w → ∃ t, Md_laysFar_40 f 155 w s = Md_laysFar_146 jFU 155 0 t ∧ EX a164 u t ∧ E0 16 10000 (t 164) (xc (cw u 0)) (u 160 8) := by
  intro f
  induction f with
  | zero => intro w s h0 h2 h3 h4; omega
  | succ f ih =>
    intro w s h0 h2 h3 h4 h5
    have e160 : ∀ o, s 160 o = u 160 o := fun o => h0 160 o (by unfold a164; omega)
    by_cases hk : w < u 160 8
    · have hwk := WKS_at hw h2 hk h8.2
      have b1 : ∀ z, (∃ p q, EDW (xc (cw u 0)) w p q z) → 16 * z + 1 ≤ 10000 := by
        rintro z ⟨p, q, x, x1, x2, x3, x4⟩
        have := WKS_at hw x1 (by omega : x < u 160 8) h8.2
        rw [xcw_at (by omega)] at x4
        omega
      have hsy := E0_sym h5 b1 (p := u 160 (24 + w)) (q := u 160 (34 + w)) (by omega) (by omega) (by omega)
      have hbd : 0 ≤ s 164 (6 * u 160 (24 + w) + u 160 (34 + w)) ∧ s 164 (6 * u 160 (24 + w) + u 160 (34 + w)) ≤ 10000 := by
        rcases ((h5 _ _ (by omega) (by omega) (by omega) (by omega)).2 hwk.2.2.2.2.1).2 with z | ⟨z, ⟨x, x1, x2, x3, x4⟩, z2⟩
        · omega
        · have := WKS_at hw x1 (by omega : x < u 160 8) h8.2
          rw [xcw_at (by omega)] at x4
          omega
      have hjm := jmin_e (a := s 164 (6 * u 160 (24 + w) + u 160 (34 + w))) (b := 16 * u 160 (44 + w) + 1) ⟨by omega, by omega⟩ ⟨by omega, by omega⟩
      obtain ⟨M, hM⟩ : ∃ M, M = (if 16 * u 160 (44 + w) + 1 < s 164 (6 * u 160 (24 + w) + u 160 (34 + w)) then 16 * u 160 (44 + w) + 1 else s 164 (6 * u 160 (24 + w) + u 160 (34 + w))) := ⟨_, rfl⟩
      rw [← hM] at hjm
      obtain ⟨t, t1, t2, t3⟩ := ih (w + 1) (jup (jup s 164 (6 * u 160 (24 + w) + u 160 (34 + w)) M) 164 (6 * u 160 (34 + w) + u 160 (24 + w)) M) ((h0.up rfl).up rfl) (by omega) (by omega) (by omega) (by
        refine E0_step (x := u 160 (24 + w)) (y := u 160 (34 + w)) (h := u 160 (44 + w)) h5 h2 (xcw_at (by omega)) (xcw_at (by omega)) (xcw_at (by omega)) (by omega) (by omega) (by omega) (fun p q p1 p2 q1 q2 => ?_) (by omega) (by omega) hsy
        rw [← hM]
        by_cases hc : (p = u 160 (24 + w) ∧ q = u 160 (34 + w)) ∨ (p = u 160 (34 + w) ∧ q = u 160 (24 + w))
        · rw [if_pos hc]
          rcases hc with z | z
          · rw [u_ne (by omega), u_eq ⟨rfl, by omega⟩]
          · rw [u_eq ⟨rfl, by omega⟩]
        · rw [if_neg hc, u_ne (by omega), u_ne (by omega)])
      refine ⟨t, ?_, t2, t3⟩
      rw [Md_laysFar_40]
      simp (disch := omega) only [↓jb_m, ↓jm_s, ↓reduceIte, t_lt, t_nlt, t_le, t_nle, t_eq, t_neq, w32_id, w64_id, jb_s, and_true, true_and, and_self, and_false, false_and, or_true, true_or, or_false, false_or, or_self, not_false_eq_true, not_true_eq_false, u_ne, u_eq, u_u, Int.reduceAdd, Int.reduceSub, Int.reduceMul, Int.reduceNeg, Int.zero_add, Int.add_zero, n15, n16, q10, q11, q12, q13, q14, e160, hjm]
      exact t1
    · have e : w = u 160 8 := by omega
      refine ⟨s, ?_, h0, by rw [← e]; exact h5⟩
      rw [Md_laysFar_40]
      simp (disch := omega) only [↓jb_m, ↓jm_s, ↓reduceIte, t_lt, t_nlt, t_le, t_nle, t_eq, t_neq, w32_id, w64_id, jb_s, and_true, true_and, and_self, and_false, false_and, or_true, true_or, or_false, false_or, or_self, not_false_eq_true, not_true_eq_false, u_ne, u_eq, u_u, Int.reduceAdd, Int.reduceSub, Int.reduceMul, Int.reduceNeg, Int.zero_add, Int.add_zero, n15, n16, q10, q11, q12, q13, q14, e160]
def cur (d : Int → Int) (m t j : Int) : Int := if j < t then dP d m j else d j
theorem dP_m1 {d : Int → Int} {m p : Int} (hm : 0 ≤ m ∧ m < 6) (h0 : d (6 * m + m) = 0) : dP d m (6 * p + m) = d (6 * p + m) := by
  rw [dP_at hm, h0, if_neg (by omega)]
theorem dP_m2 {d : Int → Int} {m q : Int} (hq : 0 ≤ q ∧ q < 6) (h0 : d (6 * m + m) = 0) : dP d m (6 * m + q) = d (6 * m + q) := by
  rw [dP_at hq, h0, if_neg (by omega)]
theorem cur_m1 {d : Int → Int} {m p t : Int} (hm : 0 ≤ m ∧ m < 6) (h0 : d (6 * m + m) = 0) : cur d m t (6 * p + m) = d (6 * p + m) := by
  unfold cur
  rw [dP_m1 hm h0]
  split <;> rfl
theorem cur_m2 {d : Int → Int} {m q t : Int} (hq : 0 ≤ q ∧ q < 6) (h0 : d (6 * m + m) = 0) : cur d m t (6 * m + q) = d (6 * m + q) := by
  unfold cur
  rw [dP_m2 hq h0]
  split <;> rfl
theorem far_162 {d : Int → Int} {m p : Int} {k154 : Int → Int → Int → jM → Option (Int × jM)} (hm : 0 ≤ m ∧ m < 6) (hp : 0 ≤ p ∧ p < 6) (h0 : d (6 * m + m) = 0) (hb : ∀ j, 0 ≤ j → j < 36 → 0 ≤ d j ∧ d j ≤ 10000) : ∀ (f : Nat) (q : Int) (s : jM), 0 ≤ q → q ≤ 6 → (6 - q).toNat < f → (∀ j, 0 ≤ j → j < 36 → s 164 j = cur d m (6 * p + q) j) → ∃ t, Md_laysFar_162 k154 f 155 m p q s = k154 155 m (p + 1) t ∧ EX a164 s t ∧ ∀ j, 0 ≤ j → j < 36 → t 164 j = cur d m (6 * (p + 1)) j := by
  intro f
  induction f with
  | zero => intro q s h1 h2 h3; omega
  | succ f ih =>
    intro q s h1 h2 h3 h4
    by_cases hk : q < 6
    · have g1 : s 164 (6 * p + q) = d (6 * p + q) := by rw [h4 _ (by omega) (by omega)]; unfold cur; rw [if_neg (by omega)]
      have g2 : s 164 (6 * p + m) = d (6 * p + m) := by rw [h4 _ (by omega) (by omega), cur_m1 hm h0]
      have g3 : s 164 (6 * m + q) = d (6 * m + q) := by rw [h4 _ (by omega) (by omega), cur_m2 ⟨h1, hk⟩ h0]
      have b1 := hb (6 * p + q) (by omega) (by omega)
      have b2 := hb (6 * p + m) (by omega) (by omega)
      have b3 := hb (6 * m + q) (by omega) (by omega)
      have hjm := jmin_e (a := d (6 * p + q)) (b := d (6 * p + m) + d (6 * m + q)) ⟨by omega, by omega⟩ ⟨by omega, by omega⟩
      rw [← dP_at ⟨h1, hk⟩] at hjm
      obtain ⟨t, t1, t2, t3⟩ := ih (q + 1) (jup s 164 (6 * p + q) (dP d m (6 * p + q))) (by omega) (by omega) (by omega) (fun j j1 j2 => by
        by_cases e : j = 6 * p + q
        · rw [u_eq ⟨rfl, e⟩, e]
          unfold cur
          rw [if_pos (by omega)]
        · rw [u_ne (by omega), h4 j j1 j2]
          unfold cur
          by_cases e2 : j < 6 * p + q
          · rw [if_pos e2, if_pos (by omega)]
          · rw [if_neg e2, if_neg (by omega)])
      refine ⟨t, ?_, EX.tr ((EX.rf _ _).up rfl) t2, t3⟩
      rw [Md_laysFar_162]
      simp (disch := omega) only [↓jb_m, ↓jm_s, ↓reduceIte, t_lt, t_nlt, t_le, t_nle, t_eq, t_neq, w32_id, w64_id, jb_s, and_true, true_and, and_self, and_false, false_and, or_true, true_or, or_false, false_or, or_self, not_false_eq_true, not_true_eq_false, u_ne, u_eq, u_u, Int.reduceAdd, Int.reduceSub, Int.reduceMul, Int.reduceNeg, Int.zero_add, Int.add_zero, n15, n16, q10, q11, q12, q13, q14, g1, g2, g3, hjm]
      exact t1
    · refine ⟨s, ?_, EX.rf _ _, fun j j1 j2 => ?_⟩
      · rw [Md_laysFar_162]
        simp (disch := omega) only [↓jb_m, ↓jm_s, ↓reduceIte, t_lt, t_nlt, t_le, t_nle, t_eq, t_neq, w32_id, w64_id, jb_s, and_true, true_and, and_self, and_false, false_and, or_true, true_or, or_false, false_or, or_self, not_false_eq_true, not_true_eq_false, u_ne, u_eq, u_u, Int.reduceAdd, Int.reduceSub, Int.reduceMul, Int.reduceNeg, Int.zero_add, Int.add_zero, n15, n16, q10, q11, q12, q13, q14]
      · rw [h4 j j1 j2, show 6 * p + q = 6 * (p + 1) by omega]
theorem far_154 {d : Int → Int} {m : Int} {k146 : Int → Int → jM → Option (Int × jM)} (hm : 0 ≤ m ∧ m < 6) (h0 : d (6 * m + m) = 0) (hb : ∀ j, 0 ≤ j → j < 36 → 0 ≤ d j ∧ d j ≤ 10000) : ∀ (f : Nat) (p : Int) (s : jM), 0 ≤ p → p ≤ 6 → (6 - p).toNat < f → (∀ j, 0 ≤ j → j < 36 → s 164 j = cur d m (6 * p) j) → ∃ t, Md_laysFar_154 k146 f 155 m p s = k146 155 (m + 1) t ∧ EX a164 s t ∧ ∀ j, 0 ≤ j → j < 36 → t 164 j = dP d m j := by
  intro f
  induction f with
  | zero => intro p s h1 h2 h3; omega
  | succ f ih =>
    intro p s h1 h2 h3 h4
    by_cases hk : p < 6
    · obtain ⟨t, t1, t2, t3⟩ := far_162 (k154 := Md_laysFar_154 k146 f) hm ⟨h1, hk⟩ h0 hb jFU 0 s (by omega) (by omega) (by unfold jFU; omega) (fun j j1 j2 => by rw [h4 j j1 j2, Int.add_zero])
      obtain ⟨v, v1, v2, v3⟩ := ih (p + 1) t (by omega) (by omega) (by omega) t3
      refine ⟨v, ?_, t2.tr v2, v3⟩
      rw [Md_laysFar_154]
      simp (disch := omega) only [↓jb_m, ↓jm_s, ↓reduceIte, t_lt, t_nlt, t_le, t_nle, t_eq, t_neq, w32_id, w64_id, jb_s, and_true, true_and, and_self, and_false, false_and, or_true, true_or, or_false, false_or, or_self, not_false_eq_true, not_true_eq_false, u_ne, u_eq, u_u, Int.reduceAdd, Int.reduceSub, Int.reduceMul, Int.reduceNeg, Int.zero_add, Int.add_zero, n15, n16, q10, q11, q12, q13, q14]
      rw [t1]
      exact v1
    · refine ⟨s, ?_, EX.rf _ _, fun j j1 j2 => ?_⟩
      · rw [Md_laysFar_154]
        simp (disch := omega) only [↓jb_m, ↓jm_s, ↓reduceIte, t_lt, t_nlt, t_le, t_nle, t_eq, t_neq, w32_id, w64_id, jb_s, and_true, true_and, and_self, and_false, false_and, or_true, true_or, or_false, false_or, or_self, not_false_eq_true, not_true_eq_false, u_ne, u_eq, u_u, Int.reduceAdd, Int.reduceSub, Int.reduceMul, Int.reduceNeg, Int.zero_add, Int.add_zero, n15, n16, q10, q11, q12, q13, q14]
      · rw [h4 j j1 j2]
        unfold cur
        rw [if_pos (by omega)]
theorem far_146 {c : Int → Int} : ∀ (f : Nat) (m : Int) (s : jM), 0 ≤ m → m ≤ 6 → (6 - m).toNat < f → FWI 16 10000 (s 164) c m → ∃ t, Md_laysFar_146 f 155 m s = some (0, t) ∧ EX a164 s t ∧ FWI 16 10000 (t 164) c 6 := by
  intro f
  induction f with
  | zero => intro m s h1 h2 h3; omega
  | succ f ih =>
    intro m s h1 h2 h3 h4
    by_cases hk : m < 6
    · have hb : ∀ j, 0 ≤ j → j < 36 → 0 ≤ s 164 j ∧ s 164 j ≤ 10000 := fun j j1 j2 => by
        have := h4.1 (j / 6) (j % 6) (by omega) (by omega) (by omega) (by omega)
        rw [show 6 * (j / 6) + j % 6 = j by omega] at this
        exact ⟨this.1, this.2.1⟩
      have h0 := (h4.1 m m h1 hk h1 hk).2.2.1 rfl
      obtain ⟨t, t1, t2, t3⟩ := far_154 (d := s 164) (k146 := Md_laysFar_146 f) ⟨h1, hk⟩ h0 hb jFU 0 s (by omega) (by omega) (by unfold jFU; omega) (fun j j1 j2 => by unfold cur; rw [if_neg (by omega)])
      obtain ⟨v, v1, v2, v3⟩ := ih (m + 1) t (by omega) (by omega) (by omega) (FWI_step h4 ⟨h1, hk⟩ (fun p q p1 p2 q1 q2 => t3 _ (by omega) (by omega)))
      refine ⟨v, ?_, t2.tr v2, v3⟩
      rw [Md_laysFar_146]
      simp (disch := omega) only [↓jb_m, ↓jm_s, ↓reduceIte, t_lt, t_nlt, t_le, t_nle, t_eq, t_neq, w32_id, w64_id, jb_s, and_true, true_and, and_self, and_false, false_and, or_true, true_or, or_false, false_or, or_self, not_false_eq_true, not_true_eq_false, u_ne, u_eq, u_u, Int.reduceAdd, Int.reduceSub, Int.reduceMul, Int.reduceNeg, Int.zero_add, Int.add_zero, n15, n16, q10, q11, q12, q13, q14]
      rw [t1]
      exact v1
    · have e : m = 6 := by omega
      refine ⟨s, ?_, EX.rf _ _, by rw [← e]; exact h4⟩
      rw [Md_laysFar_146]
      simp (disch := omega) only [↓jb_m, ↓jm_s, ↓reduceIte, t_lt, t_nlt, t_le, t_nle, t_eq, t_neq, w32_id, w64_id, jb_s, and_true, true_and, and_self, and_false, false_and, or_true, true_or, or_false, false_or, or_self, not_false_eq_true, not_true_eq_false, u_ne, u_eq, u_u, Int.reduceAdd, Int.reduceSub, Int.reduceMul, Int.reduceNeg, Int.zero_add, Int.add_zero, n15, n16, q10, q11, q12, q13, q14]
theorem far_eq {u : jM} (hw : WKS (xc (cw u 0))) (h8 : 0 ≤ u 160 8 ∧ u 160 8 ≤ 10) (h1 : u 160 1 ≤ 6) : ∃ t, Md_laysFar 155 u = some (0, t) ∧ EX a164 u t ∧ MINP 16 10000 (t 164) (xc (cw u 0)) := by
  obtain ⟨t, t1, t2, t3⟩ := far_2 jFU 0 u (by omega) (by omega) (by unfold jFU; omega) (fun j j1 j2 => by omega)
  obtain ⟨v, v1, v2, v3⟩ := far_40 hw h8 h1 jFU 0 t t2 (by omega) (by omega) (by unfold jFU; omega) (fun p q p1 p2 q1 q2 => by
    rw [t3 _ (by omega) (by omega)]
    refine ⟨fun e => ?_, fun e => ⟨fun h hh => ?_, Or.inl ?_⟩⟩
    · rw [if_pos (by omega)]
    · obtain ⟨x, x1, x2, -⟩ := hh
      omega
    · rw [if_neg (by omega)])
  obtain ⟨y, y1, y2, y3⟩ := far_146 jFU 0 v (by omega) (by omega) (by unfold jFU; omega) (E0_FWI (by rw [xcw_at (by omega)]; exact v3) hw (by omega) (by omega))
  refine ⟨y, ?_, v2.tr y2, FWI_MINP y3 hw (by rw [xcw_at (by omega)]; exact h1) (by omega) (by omega)⟩
  rw [Md_laysFar, t1, v1]
  exact y1
/-! carried; how much it is shaken -/
theorem iY_at {s u : jM} {b : Int} {w : Int → Int} (h : iX (vw s b) (cw u 0) w) : MINP 64 1000000 (s (b + 5)) (xc (cw u 0)) ∧ WKS (xc (cw u 0)) := by
  refine ⟨?_, h.2.2.1⟩
  have : xV (vw s b) 5 = s (b + 5) := funext fun j => by rw [xV_at (by omega), vw_at (by omega)]
  rw [← this]
  exact h.2.1
theorem m6 (x : Int) : x * 6 = 6 * x := Int.mul_comm x 6
/-- how much one is shaken from p to q: -1 where there is no way -/
def shk (e : Int → Int) (p q : Int) : Int := if e (6 * p + q) < 10000 then e (6 * p + q) / 16 else -1
theorem shk_b {e c : Int → Int} (h : MINP 16 10000 e c) {p q : Int} (hp : 0 ≤ p ∧ p < 6) (hq : 0 ≤ q ∧ q < 6) : -1 ≤ shk e p q ∧ shk e p q ≤ 45 := by
  unfold shk
  rcases (h p q hp.1 hp.2 hq.1 hq.2).2 with ⟨z, -⟩ | ⟨n, S, -, z1, z2, z3, z4⟩
  · rw [if_neg (by omega)]; omega
  · rw [if_pos (by omega)]; omega
theorem shakesC {s u : jM} {b p q : Int} {e : Int → Int} (h : MINP 64 1000000 (s (b + 5)) (xc (cw u 0))) (h2 : MINP 16 10000 e (xc (cw u 0))) (hp : 0 ≤ p ∧ p < 6) (hq : 0 ≤ q ∧ q < 6) : Se_shakesBetween b p q s = some (shk e p q, s) := by
  unfold shk
  rcases MINP_2 h h2 hp hq with ⟨a1, a2, -⟩ | ⟨n, S, -, a1, a2, a3, a4, a5⟩
  · rw [if_neg (by omega)]
    simp (disch := omega) only [↓jb_m, ↓jm_s, ↓reduceIte, t_lt, t_nlt, t_le, t_nle, t_eq, t_neq, w32_id, w64_id, jb_s, and_true, true_and, and_self, and_false, false_and, or_true, true_or, or_false, false_or, or_self, not_false_eq_true, not_true_eq_false, u_ne, u_eq, u_u, Int.reduceAdd, Int.reduceSub, Int.reduceMul, Int.reduceNeg, Int.zero_add, Int.add_zero, n15, n16, q10, q11, q12, q13, q14, Se_shakesBetween, Se_wayLength, m6]
  · have e1 := jdiv_e (a := s (b + 5) (6 * p + q)) (b := 64) (by omega) (by omega) (by omega) (by omega)
    rw [if_pos (by omega)]
    simp (disch := omega) only [↓jb_m, ↓jm_s, ↓reduceIte, t_lt, t_nlt, t_le, t_nle, t_eq, t_neq, w32_id, w64_id, jb_s, and_true, true_and, and_self, and_false, false_and, or_true, true_or, or_false, false_or, or_self, not_false_eq_true, not_true_eq_false, u_ne, u_eq, u_u, Int.reduceAdd, Int.reduceSub, Int.reduceMul, Int.reduceNeg, Int.zero_add, Int.add_zero, n15, n16, q10, q11, q12, q13, q14, Se_shakesBetween, Se_wayLength, m6, e1]
    congr 2
    omega
theorem shakenR {u t : jM} {p q : Int} (h : MINP 16 10000 (t 164) (xc (cw u 0))) (ht : Md_laysFar 155 u = some (0, t)) (hp : 0 ≤ p ∧ p < 6) (hq : 0 ≤ q ∧ q < 6) : Md_shakenTo 155 p q u = some (shk (t 164) p q, t) := by
  unfold shk
  rcases (h p q hp.1 hp.2 hq.1 hq.2).2 with ⟨z, -⟩ | ⟨n, S, -, z1, z2, z3, z4⟩
  · rw [if_neg (by omega)]
    simp (disch := omega) only [↓jb_m, ↓jm_s, ↓reduceIte, t_lt, t_nlt, t_le, t_nle, t_eq, t_neq, w32_id, w64_id, jb_s, and_true, true_and, and_self, and_false, false_and, or_true, true_or, or_false, false_or, or_self, not_false_eq_true, not_true_eq_false, u_ne, u_eq, u_u, Int.reduceAdd, Int.reduceSub, Int.reduceMul, Int.reduceNeg, Int.zero_add, Int.add_zero, n15, n16, q10, q11, q12, q13, q14, Md_shakenTo, ht, Md_farOf]
  · have e1 := jdiv_e (a := t 164 (6 * p + q)) (b := 16) (by omega) (by omega) (by omega) (by omega)
    rw [if_pos (by omega)]
    simp (disch := omega) only [↓jb_m, ↓jm_s, ↓reduceIte, t_lt, t_nlt, t_le, t_nle, t_eq, t_neq, w32_id, w64_id, jb_s, and_true, true_and, and_self, and_false, false_and, or_true, true_or, or_false, false_or, or_self, not_false_eq_true, not_true_eq_false, u_ne, u_eq, u_u, Int.reduceAdd, Int.reduceSub, Int.reduceMul, Int.reduceNeg, Int.zero_add, Int.add_zero, n15, n16, q10, q11, q12, q13, q14, Md_shakenTo, ht, Md_farOf, e1]
/-- laid again it tells the same -/
theorem shk_same {e e' c : Int → Int} (h : MINP 16 10000 e c) (h' : MINP 16 10000 e' c) {p q : Int} (hp : 0 ≤ p ∧ p < 6) (hq : 0 ≤ q ∧ q < 6) : shk e p q = shk e' p q := by
  have : e (6 * p + q) = e' (6 * p + q) := by
    obtain ⟨a1, a2⟩ := h p q hp.1 hp.2 hq.1 hq.2
    obtain ⟨b1, b2⟩ := h' p q hp.1 hp.2 hq.1 hq.2
    rcases a2 with ⟨a2, a3⟩ | ⟨n, S, a2, a3, a4, a5, a6⟩
    · rcases b2 with ⟨b2, b3⟩ | ⟨m, T, b2, b3, b4, b5, b6⟩
      · omega
      · exact absurd b2 (a3 m T)
    · rcases b2 with ⟨b2, b3⟩ | ⟨m, T, b2, b3, b4, b5, b6⟩
      · exact absurd a2 (b3 n S)
      · have x1 := a1 m T b2
        have x2 := b1 n S a2
        omega
  unfold shk
  rw [this]
theorem xc_164 {u t : jM} (h : EX a164 u t) : cw t 0 = cw u 0 := cw_congr (fun o _ _ => h 160 _ (by unfold a164; omega))
/-- carried -/
theorem op_carry {s u : jM} {b m p : Int} {w : Int → Int} (h : iSe (vw s b) (cw u 0)) (hx : iX (vw s b) (cw u 0) w) (hm : 0 ≤ m ∧ m < u 160 2) (hp : 0 ≤ p ∧ p < u 160 1) : ∃ r t v, Se_bring b m p s = some (r, t) ∧ Md_carries 155 m p u = some (r, v) ∧ R2 b s u t v ∧ (r = 0 ∨ r = 1) := by
  obtain ⟨m5, ⟨e0, e1, e2, e3, e4, e5, e6, e7⟩, hq, hz, hb, h0, h1, h2⟩ := mo_at h hm
  have hh := (hd_at h).2
  obtain ⟨g1, g2⟩ := iY_at hx
  obtain ⟨t, t1, t2, t3⟩ := far_eq g2 (by omega) (by omega)
  have hC := shakesC g1 t3 (p := u 160 (64 + m)) (q := p) (by omega) (by omega)
  have hR := shakenR t3 t1 (p := u 160 (64 + m)) (q := p) (by omega) (by omega)
  have hsb := shk_b t3 (p := u 160 (64 + m)) (q := p) (by omega) (by omega)
  have et : ∀ o, t 160 o = u 160 o := fun o => t2 160 o (by unfold a164; omega)
  have ht2 : EX rdy u t := t2.wk (fun a o q => by unfold a164 at q; unfold rdy; omega)
  have same : R2 b s u s t := ⟨EX.rf _ _, ht2, by rw [xc_164 t2]; exact h, by rw [et]; exact id⟩
  generalize hS : shk (t 164) (u 160 (64 + m)) p = S at hC hR hsb
  by_cases hc : S = -1 ∨ u 160 (64 + m) = p
  · refine ⟨0, s, t, ?_, ?_, same, Or.inl rfl⟩
    · by_cases q : u 160 (64 + m) = p
      · simp (disch := omega) only [↓jb_m, ↓jm_s, ↓reduceIte, t_lt, t_nlt, t_le, t_nle, t_eq, t_neq, w32_id, w64_id, jb_s, and_true, true_and, and_self, and_false, false_and, or_true, true_or, or_false, false_or, or_self, not_false_eq_true, not_true_eq_false, u_ne, u_eq, u_u, Int.reduceAdd, Int.reduceSub, Int.reduceMul, Int.reduceNeg, Int.zero_add, Int.add_zero, n15, n16, q10, q11, q12, q13, q14, Se_bring, e2, hC]
      · simp (disch := omega) only [↓jb_m, ↓jm_s, ↓reduceIte, t_lt, t_nlt, t_le, t_nle, t_eq, t_neq, w32_id, w64_id, jb_s, and_true, true_and, and_self, and_false, false_and, or_true, true_or, or_false, false_or, or_self, not_false_eq_true, not_true_eq_false, u_ne, u_eq, u_u, Int.reduceAdd, Int.reduceSub, Int.reduceMul, Int.reduceNeg, Int.zero_add, Int.add_zero, n15, n16, q10, q11, q12, q13, q14, Se_bring, e2, hC]
    · by_cases q : S = -1
      · simp (disch := omega) only [↓jb_m, ↓jm_s, ↓reduceIte, t_lt, t_nlt, t_le, t_nle, t_eq, t_neq, w32_id, w64_id, jb_s, and_true, true_and, and_self, and_false, false_and, or_true, true_or, or_false, false_or, or_self, not_false_eq_true, not_true_eq_false, u_ne, u_eq, u_u, Int.reduceAdd, Int.reduceSub, Int.reduceMul, Int.reduceNeg, Int.zero_add, Int.add_zero, n15, n16, q10, q11, q12, q13, q14, Md_carries, hR]
      · simp (disch := omega) only [↓jb_m, ↓jm_s, ↓reduceIte, t_lt, t_nlt, t_le, t_nle, t_eq, t_neq, w32_id, w64_id, jb_s, and_true, true_and, and_self, and_false, false_and, or_true, true_or, or_false, false_or, or_self, not_false_eq_true, not_true_eq_false, u_ne, u_eq, u_u, Int.reduceAdd, Int.reduceSub, Int.reduceMul, Int.reduceNeg, Int.zero_add, Int.add_zero, n15, n16, q10, q11, q12, q13, q14, Md_carries, hR, et]
  · by_cases hs : u 160 (69 + m) = 2
    · obtain ⟨t', v, r, q1, q2, q3⟩ := op_fall (y := S) (f := u 160 (74 + m) - S) (p := p) (s1 := jup s (b + (15 + 2 * m)) 2 p) (u1 := jup (jup t 160 (64 + m) p) 160 (74 + m) (u 160 (74 + m) - S)) h hm (h2 hs).1 (by omega) hp ((EX.rf _ _).up (by omega)) (by simp (disch := omega) only [↓jb_m, ↓jm_s, ↓reduceIte, t_lt, t_nlt, t_le, t_nle, t_eq, t_neq, w32_id, w64_id, jb_s, and_true, true_and, and_self, and_false, false_and, or_true, true_or, or_false, false_or, or_self, not_false_eq_true, not_true_eq_false, u_ne, u_eq, u_u, Int.reduceAdd, Int.reduceSub, Int.reduceMul, Int.reduceNeg, Int.zero_add, Int.add_zero, n15, n16, q10, q11, q12, q13, q14]) (by simp (disch := omega) only [↓jb_m, ↓jm_s, ↓reduceIte, t_lt, t_nlt, t_le, t_nle, t_eq, t_neq, w32_id, w64_id, jb_s, and_true, true_and, and_self, and_false, false_and, or_true, true_or, or_false, false_or, or_self, not_false_eq_true, not_true_eq_false, u_ne, u_eq, u_u, Int.reduceAdd, Int.reduceSub, Int.reduceMul, Int.reduceNeg, Int.zero_add, Int.add_zero, n15, n16, q10, q11, q12, q13, q14]) (by simp (disch := omega) only [↓jb_m, ↓jm_s, ↓reduceIte, t_lt, t_nlt, t_le, t_nle, t_eq, t_neq, w32_id, w64_id, jb_s, and_true, true_and, and_self, and_false, false_and, or_true, true_or, or_false, false_or, or_self, not_false_eq_true, not_true_eq_false, u_ne, u_eq, u_u, Int.reduceAdd, Int.reduceSub, Int.reduceMul, Int.reduceNeg, Int.zero_add, Int.add_zero, n15, n16, q10, q11, q12, q13, q14]) (((t2.wk (fun a o q => by unfold a164 at q; omega)).up (by omega)).up (by omega)) (by simp (disch := omega) only [↓jb_m, ↓jm_s, ↓reduceIte, t_lt, t_nlt, t_le, t_nle, t_eq, t_neq, w32_id, w64_id, jb_s, and_true, true_and, and_self, and_false, false_and, or_true, true_or, or_false, false_or, or_self, not_false_eq_true, not_true_eq_false, u_ne, u_eq, u_u, Int.reduceAdd, Int.reduceSub, Int.reduceMul, Int.reduceNeg, Int.zero_add, Int.add_zero, n15, n16, q10, q11, q12, q13, q14, et]) (by simp (disch := omega) only [↓jb_m, ↓jm_s, ↓reduceIte, t_lt, t_nlt, t_le, t_nle, t_eq, t_neq, w32_id, w64_id, jb_s, and_true, true_and, and_self, and_false, false_and, or_true, true_or, or_false, false_or, or_self, not_false_eq_true, not_true_eq_false, u_ne, u_eq, u_u, Int.reduceAdd, Int.reduceSub, Int.reduceMul, Int.reduceNeg, Int.zero_add, Int.add_zero, n15, n16, q10, q11, q12, q13, q14]) (by simp (disch := omega) only [↓jb_m, ↓jm_s, ↓reduceIte, t_lt, t_nlt, t_le, t_nle, t_eq, t_neq, w32_id, w64_id, jb_s, and_true, true_and, and_self, and_false, false_and, or_true, true_or, or_false, false_or, or_self, not_false_eq_true, not_true_eq_false, u_ne, u_eq, u_u, Int.reduceAdd, Int.reduceSub, Int.reduceMul, Int.reduceNeg, Int.zero_add, Int.add_zero, n15, n16, q10, q11, q12, q13, q14])
      refine ⟨1, t', v, ?_, ?_, q3, Or.inr rfl⟩
      · simp (disch := omega) only [↓jb_m, ↓jm_s, ↓reduceIte, t_lt, t_nlt, t_le, t_nle, t_eq, t_neq, w32_id, w64_id, jb_s, and_true, true_and, and_self, and_false, false_and, or_true, true_or, or_false, false_or, or_self, not_false_eq_true, not_true_eq_false, u_ne, u_eq, u_u, Int.reduceAdd, Int.reduceSub, Int.reduceMul, Int.reduceNeg, Int.zero_add, Int.add_zero, n15, n16, q10, q11, q12, q13, q14, Se_bring, e2, hC, q1]
      · simp (disch := omega) only [↓jb_m, ↓jm_s, ↓reduceIte, t_lt, t_nlt, t_le, t_nle, t_eq, t_neq, w32_id, w64_id, jb_s, and_true, true_and, and_self, and_false, false_and, or_true, true_or, or_false, false_or, or_self, not_false_eq_true, not_true_eq_false, u_ne, u_eq, u_u, Int.reduceAdd, Int.reduceSub, Int.reduceMul, Int.reduceNeg, Int.zero_add, Int.add_zero, n15, n16, q10, q11, q12, q13, q14, Md_carries, hR, et, q2]
    · have hw0 := Mo_weaken_0 (a := b + (15 + 2 * m)) (y := S) (s := jup s (b + (15 + 2 * m)) 2 p) (by simp (disch := omega) only [↓jb_m, ↓jm_s, ↓reduceIte, t_lt, t_nlt, t_le, t_nle, t_eq, t_neq, w32_id, w64_id, jb_s, and_true, true_and, and_self, and_false, false_and, or_true, true_or, or_false, false_or, or_self, not_false_eq_true, not_true_eq_false, u_ne, u_eq, u_u, Int.reduceAdd, Int.reduceSub, Int.reduceMul, Int.reduceNeg, Int.zero_add, Int.add_zero, n15, n16, q10, q11, q12, q13, q14]; omega)
      refine ⟨1, jup s (b + (15 + 2 * m)) 2 p, jup t 160 (64 + m) p, ?_, ?_, ⟨?_, ?_, ?_, ?_⟩, Or.inr rfl⟩
      · simp (disch := omega) only [↓jb_m, ↓jm_s, ↓reduceIte, t_lt, t_nlt, t_le, t_nle, t_eq, t_neq, w32_id, w64_id, jb_s, and_true, true_and, and_self, and_false, false_and, or_true, true_or, or_false, false_or, or_self, not_false_eq_true, not_true_eq_false, u_ne, u_eq, u_u, Int.reduceAdd, Int.reduceSub, Int.reduceMul, Int.reduceNeg, Int.zero_add, Int.add_zero, n15, n16, q10, q11, q12, q13, q14, Se_bring, e2, hC, hw0]
      · simp (disch := omega) only [↓jb_m, ↓jm_s, ↓reduceIte, t_lt, t_nlt, t_le, t_nle, t_eq, t_neq, w32_id, w64_id, jb_s, and_true, true_and, and_self, and_false, false_and, or_true, true_or, or_false, false_or, or_self, not_false_eq_true, not_true_eq_false, u_ne, u_eq, u_u, Int.reduceAdd, Int.reduceSub, Int.reduceMul, Int.reduceNeg, Int.zero_add, Int.add_zero, n15, n16, q10, q11, q12, q13, q14, Md_carries, hR, et]
      · exact (EX.rf _ _).up (by unfold cdy; omega)
      · exact ht2.up (by unfold rdy; omega)
      · refine iSe_set (m := m) (p := p) (st := u 160 (69 + m)) (f := u 160 (74 + m)) h ⟨hm.1, by rw [cw_at (by omega)]; exact hm.2⟩ (vw_ext (fun i j i1 i2 q => ?_)) (vwm (by omega) _ ?_) (vwm (by omega) _ ?_) (vwm (by omega) _ ?_) (cw_ext (fun o o1 o2 q => ?_)) ?_ ?_ ?_ ?_ (by omega) ?_ h0 h1 ?_
        · simp (disch := omega) only [↓jb_m, ↓jm_s, ↓reduceIte, t_lt, t_nlt, t_le, t_nle, t_eq, t_neq, w32_id, w64_id, jb_s, and_true, true_and, and_self, and_false, false_and, or_true, true_or, or_false, false_or, or_self, not_false_eq_true, not_true_eq_false, u_ne, u_eq, u_u, Int.reduceAdd, Int.reduceSub, Int.reduceMul, Int.reduceNeg, Int.zero_add, Int.add_zero, n15, n16, q10, q11, q12, q13, q14]
        · simp (disch := omega) only [↓jb_m, ↓jm_s, ↓reduceIte, t_lt, t_nlt, t_le, t_nle, t_eq, t_neq, w32_id, w64_id, jb_s, and_true, true_and, and_self, and_false, false_and, or_true, true_or, or_false, false_or, or_self, not_false_eq_true, not_true_eq_false, u_ne, u_eq, u_u, Int.reduceAdd, Int.reduceSub, Int.reduceMul, Int.reduceNeg, Int.zero_add, Int.add_zero, n15, n16, q10, q11, q12, q13, q14]
        · simp (disch := omega) only [↓jb_m, ↓jm_s, ↓reduceIte, t_lt, t_nlt, t_le, t_nle, t_eq, t_neq, w32_id, w64_id, jb_s, and_true, true_and, and_self, and_false, false_and, or_true, true_or, or_false, false_or, or_self, not_false_eq_true, not_true_eq_false, u_ne, u_eq, u_u, Int.reduceAdd, Int.reduceSub, Int.reduceMul, Int.reduceNeg, Int.zero_add, Int.add_zero, n15, n16, q10, q11, q12, q13, q14]
        · simp (disch := omega) only [↓jb_m, ↓jm_s, ↓reduceIte, t_lt, t_nlt, t_le, t_nle, t_eq, t_neq, w32_id, w64_id, jb_s, and_true, true_and, and_self, and_false, false_and, or_true, true_or, or_false, false_or, or_self, not_false_eq_true, not_true_eq_false, u_ne, u_eq, u_u, Int.reduceAdd, Int.reduceSub, Int.reduceMul, Int.reduceNeg, Int.zero_add, Int.add_zero, n15, n16, q10, q11, q12, q13, q14]
        · simp (disch := omega) only [↓jb_m, ↓jm_s, ↓reduceIte, t_lt, t_nlt, t_le, t_nle, t_eq, t_neq, w32_id, w64_id, jb_s, and_true, true_and, and_self, and_false, false_and, or_true, true_or, or_false, false_or, or_self, not_false_eq_true, not_true_eq_false, u_ne, u_eq, u_u, Int.reduceAdd, Int.reduceSub, Int.reduceMul, Int.reduceNeg, Int.zero_add, Int.add_zero, n15, n16, q10, q11, q12, q13, q14, et]
        · simp (disch := omega) only [↓jb_m, ↓jm_s, ↓reduceIte, t_lt, t_nlt, t_le, t_nle, t_eq, t_neq, w32_id, w64_id, jb_s, and_true, true_and, and_self, and_false, false_and, or_true, true_or, or_false, false_or, or_self, not_false_eq_true, not_true_eq_false, u_ne, u_eq, u_u, Int.reduceAdd, Int.reduceSub, Int.reduceMul, Int.reduceNeg, Int.zero_add, Int.add_zero, n15, n16, q10, q11, q12, q13, q14, cw_at]
        · simp (disch := omega) only [↓jb_m, ↓jm_s, ↓reduceIte, t_lt, t_nlt, t_le, t_nle, t_eq, t_neq, w32_id, w64_id, jb_s, and_true, true_and, and_self, and_false, false_and, or_true, true_or, or_false, false_or, or_self, not_false_eq_true, not_true_eq_false, u_ne, u_eq, u_u, Int.reduceAdd, Int.reduceSub, Int.reduceMul, Int.reduceNeg, Int.zero_add, Int.add_zero, n15, n16, q10, q11, q12, q13, q14, cw_at, et]
        · simp (disch := omega) only [↓jb_m, ↓jm_s, ↓reduceIte, t_lt, t_nlt, t_le, t_nle, t_eq, t_neq, w32_id, w64_id, jb_s, and_true, true_and, and_self, and_false, false_and, or_true, true_or, or_false, false_or, or_self, not_false_eq_true, not_true_eq_false, u_ne, u_eq, u_u, Int.reduceAdd, Int.reduceSub, Int.reduceMul, Int.reduceNeg, Int.zero_add, Int.add_zero, n15, n16, q10, q11, q12, q13, q14, cw_at, et]
        · simp (disch := omega) only [↓jb_m, ↓jm_s, ↓reduceIte, t_lt, t_nlt, t_le, t_nle, t_eq, t_neq, w32_id, w64_id, jb_s, and_true, true_and, and_self, and_false, false_and, or_true, true_or, or_false, false_or, or_self, not_false_eq_true, not_true_eq_false, u_ne, u_eq, u_u, Int.reduceAdd, Int.reduceSub, Int.reduceMul, Int.reduceNeg, Int.zero_add, Int.add_zero, n15, n16, q10, q11, q12, q13, q14, cw_at]
        · omega
        · intro z
          rw [cw_at (by omega), cw_at (by omega)]
          exact h2 z
      · simp (disch := omega) only [↓jb_m, ↓jm_s, ↓reduceIte, t_lt, t_nlt, t_le, t_nle, t_eq, t_neq, w32_id, w64_id, jb_s, and_true, true_and, and_self, and_false, false_and, or_true, true_or, or_false, false_or, or_self, not_false_eq_true, not_true_eq_false, u_ne, u_eq, u_u, Int.reduceAdd, Int.reduceSub, Int.reduceMul, Int.reduceNeg, Int.zero_add, Int.add_zero, n15, n16, q10, q11, q12, q13, q14, et]
        exact id
