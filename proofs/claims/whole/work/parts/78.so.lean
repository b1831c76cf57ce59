/-! see -/
def rCs (B a b : Int) : Prop := (a = 11 ∧ 1 ≤ b ∧ b ≤ 9) ∨ (a = 13 ∧ 0 ≤ b ∧ b ≤ 3) ∨ (B ≤ a ∧ a < B + 25)
def rRs (a b : Int) : Prop := (a = 155 ∧ (b = 8 ∨ b = 9 ∨ (12 ≤ b ∧ b ≤ 19) ∨ b = 25)) ∨ (a = 160 ∧ 1524 ≤ b) ∨ (a = 163 ∧ 64 ≤ b)
def opR (L : Int) (u : jM) : Option (Int × jM) := Md_advance 155 (jup (jup (jup (jup u 155 9 L) 155 8 0) 155 16 0) 155 12 0)
/-- the text is opened -/
theorem open_both {s u : jM} {L : Int} (hL : 0 ≤ L ∧ L ≤ 900) (ht : ∀ i, 0 ≤ i → i < L → s 12 i = u 159 i ∧ -128 ≤ s 12 i ∧ s 12 i ≤ 127) : ∃ s3 u3, Te_open 11 L s = some (0, s3) ∧ opR L u = some (0, u3) ∧ TW s3 u3 ∧ (∀ a b, ¬ (a = 11 ∧ 1 ≤ b ∧ b ≤ 9) → s3 a b = s a b) ∧ (∀ a b, ¬ (a = 155 ∧ (b = 8 ∨ b = 9 ∨ (12 ≤ b ∧ b ≤ 19))) → u3 a b = u a b) ∧ u3 155 8 = 0 := by
  obtain ⟨S, hS⟩ : ∃ S, S = jup (jup (jup (jup s 11 1 L) 11 2 0) 11 8 0) 11 9 (-1) := ⟨_, rfl⟩
  obtain ⟨U, hU⟩ : ∃ U, U = jup (jup (jup (jup u 155 9 L) 155 8 0) 155 16 0) 155 12 0 := ⟨_, rfl⟩
  have S1 : S 11 1 = L := by rw [hS]; simp (disch := omega) only [↓jb_m, ↓jm_s, ↓reduceIte, t_lt, t_nlt, t_le, t_nle, t_eq, t_neq, w32_id, w64_id, jb_s, and_true, true_and, and_self, and_false, false_and, or_true, true_or, or_false, false_or, or_self, not_false_eq_true, not_true_eq_false, u_ne, u_eq, u_u, Int.reduceAdd, Int.reduceSub, Int.reduceMul, Int.reduceNeg, Int.zero_add, Int.add_zero, n15, n16, q10, q11, q12, q13, q14]
  have S2 : S 11 2 = 0 := by rw [hS]; simp (disch := omega) only [↓jb_m, ↓jm_s, ↓reduceIte, t_lt, t_nlt, t_le, t_nle, t_eq, t_neq, w32_id, w64_id, jb_s, and_true, true_and, and_self, and_false, false_and, or_true, true_or, or_false, false_or, or_self, not_false_eq_true, not_true_eq_false, u_ne, u_eq, u_u, Int.reduceAdd, Int.reduceSub, Int.reduceMul, Int.reduceNeg, Int.zero_add, Int.add_zero, n15, n16, q10, q11, q12, q13, q14]
  have S8 : S 11 8 = 0 := by rw [hS]; simp (disch := omega) only [↓jb_m, ↓jm_s, ↓reduceIte, t_lt, t_nlt, t_le, t_nle, t_eq, t_neq, w32_id, w64_id, jb_s, and_true, true_and, and_self, and_false, false_and, or_true, true_or, or_false, false_or, or_self, not_false_eq_true, not_true_eq_false, u_ne, u_eq, u_u, Int.reduceAdd, Int.reduceSub, Int.reduceMul, Int.reduceNeg, Int.zero_add, Int.add_zero, n15, n16, q10, q11, q12, q13, q14]
  have St : ∀ i, S 12 i = s 12 i := fun i => by rw [hS]; simp (disch := omega) only [↓jb_m, ↓jm_s, ↓reduceIte, t_lt, t_nlt, t_le, t_nle, t_eq, t_neq, w32_id, w64_id, jb_s, and_true, true_and, and_self, and_false, false_and, or_true, true_or, or_false, false_or, or_self, not_false_eq_true, not_true_eq_false, u_ne, u_eq, u_u, Int.reduceAdd, Int.reduceSub, Int.reduceMul, Int.reduceNeg, Int.zero_add, Int.add_zero, n15, n16, q10, q11, q12, q13, q14]
  have U9 : U 155 9 = L := by rw [hU]; simp (disch := omega) only [↓jb_m, ↓jm_s, ↓reduceIte, t_lt, t_nlt, t_le, t_nle, t_eq, t_neq, w32_id, w64_id, jb_s, and_true, true_and, and_self, and_false, false_and, or_true, true_or, or_false, false_or, or_self, not_false_eq_true, not_true_eq_false, u_ne, u_eq, u_u, Int.reduceAdd, Int.reduceSub, Int.reduceMul, Int.reduceNeg, Int.zero_add, Int.add_zero, n15, n16, q10, q11, q12, q13, q14]
  have U16 : U 155 16 = 0 := by rw [hU]; simp (disch := omega) only [↓jb_m, ↓jm_s, ↓reduceIte, t_lt, t_nlt, t_le, t_nle, t_eq, t_neq, w32_id, w64_id, jb_s, and_true, true_and, and_self, and_false, false_and, or_true, true_or, or_false, false_or, or_self, not_false_eq_true, not_true_eq_false, u_ne, u_eq, u_u, Int.reduceAdd, Int.reduceSub, Int.reduceMul, Int.reduceNeg, Int.zero_add, Int.add_zero, n15, n16, q10, q11, q12, q13, q14]
  have U12 : U 155 12 = 0 := by rw [hU]; simp (disch := omega) only [↓jb_m, ↓jm_s, ↓reduceIte, t_lt, t_nlt, t_le, t_nle, t_eq, t_neq, w32_id, w64_id, jb_s, and_true, true_and, and_self, and_false, false_and, or_true, true_or, or_false, false_or, or_self, not_false_eq_true, not_true_eq_false, u_ne, u_eq, u_u, Int.reduceAdd, Int.reduceSub, Int.reduceMul, Int.reduceNeg, Int.zero_add, Int.add_zero, n15, n16, q10, q11, q12, q13, q14]
  have U8 : U 155 8 = 0 := by rw [hU]; simp (disch := omega) only [↓jb_m, ↓jm_s, ↓reduceIte, t_lt, t_nlt, t_le, t_nle, t_eq, t_neq, w32_id, w64_id, jb_s, and_true, true_and, and_self, and_false, false_and, or_true, true_or, or_false, false_or, or_self, not_false_eq_true, not_true_eq_false, u_ne, u_eq, u_u, Int.reduceAdd, Int.reduceSub, Int.reduceMul, Int.reduceNeg, Int.zero_add, Int.add_zero, n15, n16, q10, q11, q12, q13, q14]
  have Ut : ∀ i, U 159 i = u 159 i := fun i => by rw [hU]; simp (disch := omega) only [↓jb_m, ↓jm_s, ↓reduceIte, t_lt, t_nlt, t_le, t_nle, t_eq, t_neq, w32_id, w64_id, jb_s, and_true, true_and, and_self, and_false, false_and, or_true, true_or, or_false, false_or, or_self, not_false_eq_true, not_true_eq_false, u_ne, u_eq, u_u, Int.reduceAdd, Int.reduceSub, Int.reduceMul, Int.reduceNeg, Int.zero_add, Int.add_zero, n15, n16, q10, q11, q12, q13, q14]
  obtain ⟨s', u', a1, a2, a3, a4, a5, a6⟩ := adv_eq (s := S) (u := U) ⟨by omega, by omega, by omega, by omega, fun i i1 i2 => by rw [St]; exact (ht i i1 (by omega)).2⟩ ⟨by rw [S1, U9], by rw [S2, U16], fun i i1 i2 => by rw [St, Ut]; exact (ht i i1 (by omega)).1⟩
  refine ⟨s', u', by rw [Te_open, ← hS, a1, jb_t], by rw [opR, ← hU]; exact a2, ⟨a3, by rw [a4 _ _ (by unfold rT; omega)]; exact S8, by rw [a5 _ _ (by unfold rU; omega)]; exact U12⟩, fun a b z => ?_, fun a b z => ?_, by rw [a5 _ _ (by unfold rU; omega)]; exact U8⟩
  · rw [a4 a b (by unfold rT; omega), hS, u_ne (by omega), u_ne (by omega), u_ne (by omega), u_ne (by omega)]
  · rw [a5 a b (by unfold rU; omega), hU, u_ne (by omega), u_ne (by omega), u_ne (by omega), u_ne (by omega)]
theorem see_run {B : Int} (hB : B = 30 ∨ B = 55) {s u : jM} {L : Int} (hL : 0 ≤ L ∧ L ≤ 900) (ht : ∀ i, 0 ≤ i → i < L → s 12 i = u 159 i ∧ -128 ≤ s 12 i ∧ s 12 i ≤ 127) : ∃ s3 v s4 u4, Te_open 11 L s = some (0, s3) ∧ (∀ b, s3 0 b = s 0 b) ∧ Sr_take 13 11 B s3 = some (v, s4) ∧ EX (rCs B) s s4 ∧ (jb (opR L u) fun _ s6 => jb (Md_empties 155 4 s6) fun _ s7 => Md_see_33 jFU 155 (jup s7 155 25 0)) = Md_see_64 155 u4 ∧ EX rRs u u4 ∧ u4 155 8 = 0 ∧ ((v = 1 ∧ u4 155 12 = 0 ∧ ∃ sr, RDs B sr u4 ∧ EX (r5 B) sr s4 ∧ MINP 64 1000000 (s4 (B + 5)) (cR u4)) ∨ (v = 0 ∧ s4 11 8 = u4 155 12 ∧ (0 < u4 155 12 ∧ u4 155 12 ≤ 100) ∧ s4 11 9 = u4 155 13)) := by
  have hb : 20 ≤ B := by omega
  obtain ⟨s3, u3, a1, a2, a3, a4, a5, a6⟩ := open_both hL ht
  obtain ⟨S, hS⟩ : ∃ S, S = jup (jup (jup (jup s3 13 0 11) 13 1 B) 13 2 0) 13 3 0 := ⟨_, rfl⟩
  have S0 : S 13 0 = 11 := by rw [hS]; simp (disch := omega) only [↓jb_m, ↓jm_s, ↓reduceIte, t_lt, t_nlt, t_le, t_nle, t_eq, t_neq, w32_id, w64_id, jb_s, and_true, true_and, and_self, and_false, false_and, or_true, true_or, or_false, false_or, or_self, not_false_eq_true, not_true_eq_false, u_ne, u_eq, u_u, Int.reduceAdd, Int.reduceSub, Int.reduceMul, Int.reduceNeg, Int.zero_add, Int.add_zero, n15, n16, q10, q11, q12, q13, q14]
  have S1 : S 13 1 = B := by rw [hS]; simp (disch := omega) only [↓jb_m, ↓jm_s, ↓reduceIte, t_lt, t_nlt, t_le, t_nle, t_eq, t_neq, w32_id, w64_id, jb_s, and_true, true_and, and_self, and_false, false_and, or_true, true_or, or_false, false_or, or_self, not_false_eq_true, not_true_eq_false, u_ne, u_eq, u_u, Int.reduceAdd, Int.reduceSub, Int.reduceMul, Int.reduceNeg, Int.zero_add, Int.add_zero, n15, n16, q10, q11, q12, q13, q14]
  have S2 : S 13 2 = 0 := by rw [hS]; simp (disch := omega) only [↓jb_m, ↓jm_s, ↓reduceIte, t_lt, t_nlt, t_le, t_nle, t_eq, t_neq, w32_id, w64_id, jb_s, and_true, true_and, and_self, and_false, false_and, or_true, true_or, or_false, false_or, or_self, not_false_eq_true, not_true_eq_false, u_ne, u_eq, u_u, Int.reduceAdd, Int.reduceSub, Int.reduceMul, Int.reduceNeg, Int.zero_add, Int.add_zero, n15, n16, q10, q11, q12, q13, q14]
  have S3 : S 13 3 = 0 := by rw [hS]; simp (disch := omega) only [↓jb_m, ↓jm_s, ↓reduceIte, t_lt, t_nlt, t_le, t_nle, t_eq, t_neq, w32_id, w64_id, jb_s, and_true, true_and, and_self, and_false, false_and, or_true, true_or, or_false, false_or, or_self, not_false_eq_true, not_true_eq_false, u_ne, u_eq, u_u, Int.reduceAdd, Int.reduceSub, Int.reduceMul, Int.reduceNeg, Int.zero_add, Int.add_zero, n15, n16, q10, q11, q12, q13, q14]
  have Se : ∀ a b, a ≠ 13 → S a b = s3 a b := fun a b z => by rw [hS, u_ne (by omega), u_ne (by omega), u_ne (by omega), u_ne (by omega)]
  obtain ⟨t, t1, t2, t3, t4, t5, t6⟩ := clear_eq (B := B) S
  have te : ∀ a b, ¬ rB9 B a b → t a b = S a b := fun a b z => t2 a b z
  obtain ⟨w, w1, w2, w3, w4, w5⟩ := emp_eq u3
  obtain ⟨U, hU⟩ : ∃ U, U = jup w 155 25 0 := ⟨_, rfl⟩
  have Uc : ∀ o, U 160 o = w 160 o := fun o => by rw [hU, u_ne (by omega)]
  have tw : TW t U := TW_ex a3 (fun b => by rw [te _ _ (by unfold rB9; omega), Se _ _ (by omega)]) (fun b => by rw [te _ _ (by unfold rB9; omega), Se _ _ (by omega)]) (fun b z => by rw [hU, u_ne (by omega), w5 _ _ (by unfold r152; omega)]) (fun b => by rw [hU, u_ne (by omega), w5 _ _ (by unfold r152; omega)])
  have z0 : U 160 1524 = 0 := by rw [Uc]; exact w4 _ (by omega) (by omega) (by omega) (by omega)
  have z1 : U 160 1525 = 0 := by rw [Uc]; exact w4 _ (by omega) (by omega) (by omega) (by omega)
  have z2 : U 160 1526 = 0 := by rw [Uc]; exact w4 _ (by omega) (by omega) (by omega) (by omega)
  have z8 : U 160 1532 = 0 := by rw [Uc]; exact w4 _ (by omega) (by omega) (by omega) (by omega)
  have z3 : U 160 1527 = 3 := by rw [Uc]; exact w2
  have z4 : U 160 1528 = 2 := by rw [Uc]; exact w3
  have rd : RDs B t U := by
    refine ⟨⟨?_, ?_, ?_, ?_, ?_⟩, ?_, ?_, fun j j1 j2 => by omega, fun j j1 j2 => by omega, ⟨fun x x1 x2 => ?_, fun p q p1 p2 q1 q2 => ?_⟩, t5, t6, fun o q => ?_⟩
    · rw [te _ _ (by unfold rB9; omega)]; exact S0
    · rw [te _ _ (by unfold rB9; omega)]; exact S1
    · left; rw [te _ _ (by unfold rB9; omega)]; exact S2
    · left; rw [te _ _ (by unfold rB9; omega)]; exact S3
    · rw [te _ _ (by unfold rB9; omega), te _ _ (by unfold rB9; omega), S2, S3, hU, u_eq ⟨rfl, rfl⟩]
      rfl
    · have y2 := t3.2.2 2 (by omega) (by omega)
      have y3 := t3.2.2 3 (by omega) (by omega)
      have y4 := t3.2.2 4 (by omega) (by omega)
      have y5 := t3.2.2 5 (by omega) (by omega)
      have y6 := t3.2.2 6 (by omega) (by omega)
      have y7 := t3.2.2 7 (by omega) (by omega)
      unfold RHd
      rw [t3.1, t3.2.1, y2, y3, y4, y5, y6, y7, z0, z1, z2, z3, z4, z8]
      omega
    · have y8 := t3.2.2 8 (by omega) (by omega)
      have k : ∀ t, 0 ≤ t → t ≤ 2 → cR U t = 0 := fun t t1 t2 => by
        show U 160 (1524 + t) = 0
        rw [Uc]
        exact w4 _ (by omega) (by omega) (by omega) (by omega)
      unfold RNm
      rw [y8]
      refine ⟨by rw [k 0 (by omega) (by omega), k 1 (by omega) (by omega), k 2 (by omega) (by omega)]; rfl, fun o o1 o2 => by rw [k o o1 o2]; split <;> omega, fun k k1 k2 => by omega, fun o j o1 o2 j1 j2 => by rw [k o o1 o2] at j2; omega, fun k k' k1 k2 => by omega⟩
    · have x2 : x < U 160 1532 := x2
      omega
    · rw [t4 _ (by omega) (by omega)]
      refine ⟨fun e => by rw [if_pos (by omega)], fun e => ⟨fun h hh => ?_, Or.inl (by rw [if_neg (by omega)])⟩⟩
      obtain ⟨x, x1, x2, -⟩ := hh
      omega
    · rw [Uc]
      exact w4 _ (by omega) (by omega) (by omega) (by omega)
  obtain ⟨s', u', b1, b2, b3, b4, b5⟩ := sr_loop hB 902 jFU jFU 0 t U (by omega) (by omega) (Nat.lt_of_lt_of_le (m := 1000) (by omega) (jFU_ge (by decide))) (Nat.lt_of_lt_of_le (m := 1000) (by omega) (jFU_ge (by decide))) (Or.inl ⟨tw, rd, tw.1.2.2.2.1⟩)
  have hE : EX (rCs B) s s' := fun a b z => by
    unfold rCs at z
    rw [b3 a b (by unfold rS; omega), te a b (by unfold rB9; omega)]
    by_cases y : a = 13
    · rw [hS, u_ne (by omega), u_ne (by omega), u_ne (by omega), u_ne (by omega), a4 a b (by omega)]
    · rw [Se a b y, a4 a b (by omega)]
  have hR : (jb (opR L u) fun _ s6 => jb (Md_empties 155 4 s6) fun _ s7 => Md_see_33 jFU 155 (jup s7 155 25 0)) = Md_see_64 155 u' := by
    rw [a2, jb_t, w1, jb_t, ← hU]
    exact b2
  have hRE : EX rRs u u' := fun a b z => by
    unfold rRs at z
    rw [b4 a b (by unfold rQ; omega), hU, u_ne (by omega), w5 a b (by unfold r152; omega), a5 a b (by omega)]
  have h8 : u' 155 8 = 0 := by rw [b4 _ _ (by unfold rQ; omega), hU, u_ne (by omega), w5 _ _ (by unfold r152; omega)]; exact a6
  have hT : Sr_take 13 11 B s3 = srE B s' := by
    rw [Sr_take, ← hS, S1, if_pos (jok3 hB), t1, jb_t]
    exact b1
  rcases b5 with ⟨c1, c2⟩ | ⟨c1, c2⟩
  · obtain ⟨y, y1, y2, y3⟩ := join_eq c2
    have sv := RS_SV c2
    refine ⟨s3, 1, y, u', a1, fun b => a4 _ _ (by omega), ?_, hE.tr (y2.wk (fun a b q => by unfold r5 at q; unfold rCs; omega)), hR, hRE, h8, Or.inl ⟨rfl, c1.2.2, s', c2, y2, y3⟩⟩
    rw [hT, srE, y1, jb_t, y2 13 0 (by unfold r5; omega), sv.1, if_pos jok5, Te_isWell, y2 11 8 (by unfold r5; omega), c1.2.1, if_pos (by decide), jb_t]
    rfl
  · obtain ⟨y, y1, y2⟩ := join_t (B := B) (s := s') c2.2.2.2.2.1
    have e8 : y 11 8 = u' 155 12 := by rw [y2 _ _ (by unfold r5; omega)]; exact c1.2.1
    refine ⟨s3, 0, y, u', a1, fun b => a4 _ _ (by omega), ?_, hE.tr (y2.wk (fun a b q => by unfold r5 at q; unfold rCs; omega)), hR, hRE, h8, Or.inr ⟨rfl, e8, bdb c1, by rw [y2 _ _ (by unfold r5; omega)]; exact c1.2.2.2.2⟩⟩
    rw [hT, srE, y1, jb_t, y2 13 0 (by unfold r5; omega), c2.1, if_pos jok5, Te_isWell, e8, if_neg (bd12n (bdb c1)), jb_t]
    rfl
