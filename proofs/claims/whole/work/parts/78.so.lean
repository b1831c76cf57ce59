/-! see -/
def rCs (B a b : Int) : Prop := (a = 11 ∧ 1 ≤ b ∧ b ≤ 9) ∨ (a = 13 ∧ 0 ≤ b ∧ b ≤ 3) ∨ (B ≤ a ∧ a < B + 25)
def rRs (a b : Int) : Prop := (a = 155 ∧ (b = 8 ∨ b = 9 ∨ (12 ≤ b ∧ b ≤ 19) ∨ b = 25)) ∨ (a = 160 ∧ 1524 ≤ b) ∨ (a = 163 ∧ 64 ≤ b)
def opR (L : Int) (u : jM) : Option (Int × jM) := Md_advance 155 (jup (jup (jup (jup u 155 9 L) 155 8 0) 155 16 0) 155 12 0)
/-- the text is opened -/
theorem open_both {s u : jM} {L : Int} (hL : 0 ≤ L ∧ L ≤ 900) (ht : ∀ i, 0 ≤ i → i < L → s 12 i = u 159 i ∧ -128 ≤ s 12 i ∧ s 12 i ≤ 127) : ∃ s3 u3, Te_open 11 L s = some (0, s3) ∧ opR L u = some (0, u3) ∧ TW s3 u3 ∧ (∀ a b, ¬ (a = 11 ∧ 1 ≤ b ∧ b ≤ 9) → s3 a b = s a b) ∧ (∀ a b, ¬ (a = 155 ∧ (b = 8 ∨ b = 9 ∨ (12 ≤ b ∧ b ≤ 19))) → u3 a b = u a b) ∧ u3 155 8 = 0 := by
  obtain ⟨S, hS⟩ : ∃ S, S = jup (jup (jup (jup s 11 1 L) 11 2 0) 11 8 0) 11 9 (-1) := ⟨_, rfl⟩
  obtain ⟨U, hU⟩ : ∃ U, U = jup (jup (jup (jup u 155 9 L) 155 8 0) 155 16 0) 155 12 0 := ⟨_, rfl⟩
  have S1 : S 11 1 = L := by rw [hS]; simp (disch := omega) only [↓jb_m, ↓jm_s, ↓reduceIte, t_lt, t_nlt, t_le, t_nle, t_eq, t_neq, w32_id, w64_id, jb_s, and_true, true_and, and_self, and_false, false_and, or_true, true_or, or_false, false_or, or_self, not_false_eq_true, not_true_eq_false, u_ne, u_eq, u_u, Int.reduceAdd, Int.reduceSub, Int.reduceMul, Int.reduceNeg, Int.zero_add, Int.add_zero, n15, n16, q10, q11, q12, q13, q14]
  have S2 : S 11 2 = 0 := by rw [hS]; simp (disch := omega) only [↓jb_m, ↓jm_s, ↓reduceIte, t_lt, t_nlt, t_le, t_nle, t_eq, t_neq, w32_id, w64_id, jb_s, and_true, true_and, and_self, and_false, false_and, or_true, true_or, or_false, false_or, or_self, not_false_eq_true, not_true_eq_false, u_ne, u_eq, u_u, Int.reduceAdd, Int.reduceSub, Int.reduceMul, Int.reduceNeg, Int.zero_add, Int.add_zero, n15, n16, q10, q11, q12, q13, q14]
  have S8 : S 11 8 = 0 := by rw [hS]; simp (disch := omega) only [↓jb_m, ↓jm_s, ↓reduceIte, t_lt, t_nlt, t_le, t_nle, t_eq, t_neq, w32_id, w64_id, jb_s, and_true, true_and, and_self, and_false, false_and, or_true, true_or, or_false, false_or, or_self, not_false_eq_true, not_true_eq_false, u_ne, u_eq, u_u, Int.reduceAdd, Int.reduceSub, Int.reduceMul, Int.reduceNeg, Int.zero_add, Int.add_zero, n15, n16, q10, q11, q12, q13, q14]
  have St : ∀ i, S 12 i = s 12 i := fun i => by rw [hS]; simp (disch := omega) only [↓jb_m, ↓jm_s, ↓reduceIte, t_lt, t_nlt, t_le, t_nle, t_eq, t_neq, w32_id, w64_id, jb_s, and_true, true_and, and_self, and_false, false_and, or_true, true_or, or_false, false_or, or_self, not_false_eq_true, not_true_eq_false, u_ne, u_eq, u_u, Int.reduceAdd, Int.reduceSub, Int.reduceMul, Int.reduceNeg, Int.zero_add, Int.add_zero, n15, n16, q10, q11, q12, q13, q14]
  have U9 : U 155 9 = L := by rw [hU]; simp (disch := omega) only [↓jb_m, ↓jm_s, ↓reduceIte, t_lt, t_nlt, t_le, t_nle, t_eq, t_neq, w32_id, w64_id, jb_s, and_true, true_and, and_self, and_false, false_and, or_true, true_or, or_false, false_or, or_self, not_false_eq_true, not_true_eq_false, u_ne, u_eq, u_u, Int.reduceAdd, Int.reduceSub, Int.reduceMul, Int.reduceNeg, Int.zero_add, Int.add_zero, n15, n16, q10, q11, q12, q13, q14]
  have U16 : U 155 16 = 0 := by rw [hU]; simp (disch := omega) only [↓jb_m, ↓jm_s, ↓reduceIte, t_lt, t_nlt, t_le, t_nle, t_eq, t_neq, w32_id, w64_id, jb_s, and_true, true_and, and_self, and_false, false_and, or_true, true_or, or_false, false_or, or_self, not_false_eq_true, not_true_eq_false, u_ne, u_eq, u_u, Int.reduceAdd, Int.reduceSub, Int.reduceMul, Int.reduceNeg, Int.zero_add, Int.add_zero, n15, n16, q10, q11, q12, q13, q14]
  have U12 : U 155 12 = 0 := by rw [hU]; simp (disch := omega) only [↓jb_m, ↓jm_s, ↓reduceIte, t_lt, t_nlt, t_le, t_nle, t_eq, t_neq, w32_id, w64_id, jb_s, and_true, true_and, and_self, and_false, false_and, or_true, true_or, or_false, false_or, or_self, not_false_eq_true, not_true_eq_false, u_ne, u_eq, u_u, Int.reduceAdd, Int.reduceSub, Int.reduceMul, Int.reduceNeg, Int.zero_add, Int.add_zero, n15, n16, q10, q11, q12, q13, q14]
  have U8 : U 155 8 = 0 := by rw [hU]; simp (disch := omega) only [↓jb_m, ↓jm_s, ↓reduceIte, t_lt, t_nlt, t_le, t_nle, t_eq, t_neq, w32_id, w64_id, jb_s, and_true, true_and, and_self, and_false, false_and, or_true, true_or, or_false, false_or, or_self, not_false_eq_true, not_true_eq_false, u_ne, u_eq, u_u, Int.reduceAdd, Int.reduceSub, Int.reduceMul, Int.reduceNeg, Int.zero_add, Int.add_zero, n15, n16, q10, q11, q12, q13, q14]
  have Ut : ∀ i, U 159 i = u 159 i := fun i => by rw [hU]; simp (disch := omega) only [↓jb_m, ↓jm_s, ↓reduceIte, t_lt, t_nlt, t_le, t_nle, t_eq, t_neq, w32_id, w64_id, jb_s, and_true, true_and, and_self, and_false, false_and, or_true, true_or, or_false, false_or, or_self, not_false_eq_true, not_true_eq_false, u_ne, u_eq, u_u, Int.reduceAdd, Int.reduceSub, Int.reduceMul, Int.reduceNeg, Int.zero_add, Int.add_zero, n15, n16, q10, q11, q12, q13, q14]
  obtain ⟨s', u', a1, a2, a3, a4, a5, a6⟩ := adv_eq (s := S) (u := U) ⟨by omega, by omega, by omega, by omega, fun i i1 i2 => by rw [St]; exact (ht i i1 (by omega)).2⟩ ⟨by rw [S1, U9], by rw [S2, U16], fun i i1 i2 => by rw [St, Ut]; exact (ht i i1 (by omega)).1⟩
  refine ⟨s', u', by rw [Te_open, ← hS, a1, jb_t], by rw [opR, ← hU]; exact a2, ⟨a3, by rw [a4 _ _ (by unfold rT; omega)]; exact S8, by rw [a5 _ _ (by unfold rU; omega)]; exact U12⟩, fun a b z => ?_, fun a b z => ?_, by rw [a5 _ _ (by unfold rU; omega)]; exact U8⟩
  · rw [a4 a b (by unfold rT; omega), hS, u_ne (by omega), u_ne (by omega), u_ne (by omega), u_ne (by omega)]
  · rw [a5 a b (by unfold rU; omega), hU, u_ne (by omega), u_ne (by omega), u_ne (by omega), u_ne (by omega)]
theorem see_run {B : Int} (hB : B = 30 ∨ B = 55) {s u : jM} {L : Int} (hL : 0 ≤ L ∧ L ≤ 900) (ht : ∀ i, 0 ≤ i → i < L → s 12 i = u 159 i ∧ -128 ≤ s 12 i ∧ s 12 i ≤ 127) : ∃ s3 v s4 u4, Te_open 11 L s = some (0, s3) ∧ (∀ b, s3 0 b = s 0 b) ∧ Sr_take 13 11 B s3 = some (v, s4) ∧ EX (rCs B) s s4 ∧ (jb (opR L u) fun _ s6 => jb (Md_empties 155 4 s6) fun _ s7 => Md_see_33 jFU 155 (jup s7 155 25 0)) = Md_see_64 155 u4 ∧ EX rRs u u4 ∧ u4 155 8 = 0 ∧ ((v = 1 ∧ u4 155 12 = 0 ∧ ∃ sr, RDs B sr u4 ∧ EX (r5 B) sr s4 ∧ MINP 64 1000000 (s4 (B + 5)) (cR u4)) ∨ (v = 0 ∧ s4 11 8 = u4 155 12 ∧ (0 < u4 155 12 ∧ u4 155 12 ≤ 100) ∧ s4 11 9 = u4 155 13)) := by
  have hb : 20 ≤ B := by omega
  obtain ⟨s3, u3, a1, a2, a3, a4, a5, a6⟩ := open_both hL ht
  obtain ⟨S, hS⟩ : ∃ S, S = jup (jup (jup (jup s3 13 0 11) 13 1 B) 13 2 0) 13 3 0 := ⟨_, rfl⟩
  have S0 : S 13 0 = 11 := by rw [hS]; simp (disch := omega) only [↓jb_m, ↓jm_s, ↓reduceIte, t_lt, t_nlt, t_le, t_nle, t_eq, t_neq, w32_id, w64_id, jb_s, and_true, true_and, and_self, and_false, false_and, or_true, true_or, or_false, false_or, or_self, not_false_eq_true, not_true_eq_false, u_ne, u_eq, u_u, Int.reduceAdd, Int.reduceSub, Int.reduceMul, Int.reduceNeg, Int.zero_add, Int.add_zero, n15, n16, q10, q11, q12, q13, q14]
  have S1 : S 13 1 = B := by rw [hS]; simp (disch := omega) only [↓jb_m, ↓jm_s, ↓reduceIte, t_lt, t_nlt, t_le, t_nle, t_eq, t_neq, w32_id, w64_id, jb_s, and_true, true_and, and_self, and_false, false_and, or_true, true_or, or_false, false_or, or_self, not_false_eq_true, not_true_eq_false, u_ne, u_eq, u_u, Int.reduceAdd, Int.reduceSub, Int.reduceMul, Int.reduceNeg, Int.zero_add, Int.add_zero, n15, n16, q10, q11, q12, q13, q14]
  have S2 : S 13 2 = 0 := by rw [hS]; simp (disch := omega) only [↓jb_m, ↓jm_s, ↓reduceIte, t_lt, t_nlt, t_le, t_nle, t_eq, t_neq, w32_id, w64_id, jb_s, and_true, true_and, and_self, and_false, false_and, or_true, true_or, or_false, false_or, or_self, not_false_eq_true, not_true_eq_false, u_ne, u_eq, u_u, Int.reduceAdd, Int.reduceSub, Int.reduceMul, Int.reduceNeg, Int.zero_add, Int.add_zero, n15, n16, q10, q11, q12, q13, q14]
  have S3 : S 13 3 = 0 := by rw [hS]; simp (disch := omega) only [↓jb_m, ↓jm_s, ↓reduceIte, t_lt, t_nlt, t_le, t_nle, t_eq, t_neq, w32_id, w64_id, jb_s, and_true, true_and, and_self, and_false, false_and, or_true, true_or, or_false, false_or, or_self, not_false_eq_true, not_true_eq_false, u_ne, u_eq, u_u, Int.reduceAdd, Int.reduceSub, Int.reduceMul, Int.reduceNeg, Int.zero_add, Int.add_zero, n15, n16, q10, q11, q12, q13, q14]
  have Se : ∀ a b, a ≠ 13 → S a b = s3 a b := fun a b z => by rw [hS, u_ne (by omega), u_ne (by omega), u_ne (by omega), u_ne (by omega)]
  obtain ⟨t, t1, t2, t3, t4, t5, t6⟩ := clear_eq (B := B) S
  have te : ∀ a b, ¬ rB9 B a b → t a b = S a b := fun a b z => t2 a b z
  obtain ⟨w, w1, w2, w3, w4, w5⟩ := emp_eq u3
  obtain ⟨U, hU⟩ : ∃ U, U = jup w 155 25 0 := ⟨_, rfl⟩
  have Uc : ∀ o, U 160 o = w 160 o := fun o => by rw [hU, u_ne (by omega)]
  have tw : TW t U := TW_ex a3 (fun b => by rw [te _ _ (by unfold rB9; omega), Se _ _ (by omega)]) (fun b => by rw [te _ _ (by unfold rB9; omega), Se _ _ (by omega)]) (fun b z => by rw [hU, u_ne (by omega), w5 _ _ (by unfold r152; omega)]) (fun b => by rw [hU, u_ne (by omega), w5 _ _ (by unfold r152; omega)])
  have z0 : U 160 1524 = 0 := by rw [Uc]; exact w4 _ (by omega) (by omega) (by omega) (by omega)
  have z1 : U 160 1525 = 0 := by rw [Uc]; exact w4 _ (by omega) (by omega) (by omega) (by omega)
  have z2 : U 160 1526 = 0 := by rw [Uc]; exact w4 _ (by omega) (by omega) (by omega) (by omega)
  have z8 : U 160 1532 = 0 := by rw [Uc]; exact w4 _ (by omega) (by omega) (by omega) (by omega)
  have z3 : U 160 1527 = 3 := by rw [Uc]; exact w2
  have z4 : U 160 1528 = 2 := by rw [Uc]; exact w3
  have rd : RDs B t U := by
    refine ⟨⟨?_, ?_, ?_, ?_, ?_⟩, ?_, ?_, fun j j1 j2 => by omega, fun j j1 j2 => by omega, ⟨fun x x1 x2 => ?_, fun p q p1 p2 q1 q2 => ?_⟩, t5, t6, fun o q => ?_⟩
    · rw [te _ _ (by unfold rB9; omega)]; exact S0
    · rw [te _ _ (by unfold rB9; omega)]; exact S1
    · left; rw [te _ _ (by unfold rB9; omega)]; exact S2
    · left; rw [te _ _ (by unfold rB9; omega)]; exact S3
    · rw [te _ _ (by unfold rB9; omega), te _ _ (by unfold rB9; omega), S2, S3, hU, u_eq ⟨rfl, rfl⟩]
      rfl
    · have y2 := t3.2.2 2 (by omega) (by omega)
      have y3 := t3.2.2 3 (by omega) (by omega)
      have y4 := t3.2.2 4 (by omega) (by omega)
      have y5 := t3.2.2 5 (by omega) (by omega)
      have y6 := t3.2.2 6 (by omega) (by omega)
      have y7 := t3.2.2 7 (by omega) (by omega)
      unfold RHd
      rw [t3.1, t3.2.1, y2, y3, y4, y5, y6, y7, z0, z1, z2, z3, z4, z8]
      omega
    · have y8 := t3.2.2 8 (by omega) (by omega)
      have k : ∀ t, 0 ≤ t → t ≤ 2 → cR U t = 0 := fun t t1 t2 => by
        show U 160 (1524 + t) = 0
        rw [Uc]
        exact w4 _ (by omega) (by omega) (by omega) (by omega)
      unfold RNm
      rw [y8]
      refine ⟨by rw [k 0 (by omega) (by omega), k 1 (by omega) (by omega), k 2 (by omega) (by omega)]; rfl, fun o o1 o2 => by rw [k o o1 o2]; split <;> omega, fun k k1 k2 => by omega, fun o j o1 o2 j1 j2 => by rw [k o o1 o2] at j2; omega, fun k k' k1 k2 => by omega⟩
    · have x2 : x < U 160 1532 := x2
      omega
    · rw [t4 _ (by omega) (by omega)]
      refine ⟨fun e => by rw [if_pos (by omega)], fun e => ⟨fun h hh => ?_, Or.inl (by rw [if_neg (by omega)])⟩⟩
      obtain ⟨x, x1, x2, -⟩ := hh
      omega
    · rw [Uc]
      exact w4 _ (by omega) (by omega) (by omega) (by omega)
  obtain ⟨s', u', b1, b2, b3, b4, b5⟩ := sr_loop hB 902 jFU jFU 0 t U (by omega) (by omega) (Nat.lt_of_lt_of_le (m := 1000) (by omega) (jFU_ge (by decide))) (Nat.lt_of_lt_of_le (m := 1000) (by omega) (jFU_ge (by decide))) (Or.inl ⟨tw, rd, tw.1.2.2.2.1⟩)
  have hE : EX (rCs B) s s' := fun a b z => by
    unfold rCs at z
    rw [b3 a b (by unfold rS; omega), te a b (by unfold rB9; omega)]
    by_cases y : a = 13
    · rw [hS, u_ne (by omega), u_ne (by omega), u_ne (by omega), u_ne (by omega), a4 a b (by omega)]
    · rw [Se a b y, a4 a b (by omega)]
  have hR : (jb (opR L u) fun _ s6 => jb (Md_empties 155 4 s6) fun _ s7 => Md_see_33 jFU 155 (jup s7 155 25 0)) = Md_see_64 155 u' := by
    rw [a2, jb_t, w1, jb_t, ← hU]
    exact b2
  have hRE : EX rRs u u' := fun a b z => by
    unfold rRs at z
    rw [b4 a b (by unfold rQ; omega), hU, u_ne (by omega), w5 a b (by unfold r152; omega), a5 a b (by omega)]
  have h8 : u' 155 8 = 0 := by rw [b4 _ _ (by unfold rQ; omega), hU, u_ne (by omega), w5 _ _ (by unfold r152; omega)]; exact a6
  have hT : Sr_take 13 11 B s3 = srE B s' := by
    rw [Sr_take, ← hS, S1, if_pos (jok3 hB), t1, jb_t]
    exact b1
  rcases b5 with ⟨c1, c2⟩ | ⟨c1, c2⟩
  · obtain ⟨y, y1, y2, y3⟩ := join_eq c2
    have sv := RS_SV c2
    refine ⟨s3, 1, y, u', a1, fun b => a4 _ _ (by omega), ?_, hE.tr (y2.wk (fun a b q => by unfold r5 at q; unfold rCs; omega)), hR, hRE, h8, Or.inl ⟨rfl, c1.2.2, s', c2, y2, y3⟩⟩
    rw [hT, srE, y1, jb_t, y2 13 0 (by unfold r5; omega), sv.1, if_pos jok5, Te_isWell, y2 11 8 (by unfold r5; omega), c1.2.1, if_pos (by decide), jb_t]
    rfl
  · obtain ⟨y, y1, y2⟩ := join_t (B := B) (s := s') c2.2.2.2.2.1
    have e8 : y 11 8 = u' 155 12 := by rw [y2 _ _ (by unfold r5; omega)]; exact c1.2.1
    refine ⟨s3, 0, y, u', a1, fun b => a4 _ _ (by omega), ?_, hE.tr (y2.wk (fun a b q => by unfold r5 at q; unfold rCs; omega)), hR, hRE, h8, Or.inr ⟨rfl, e8, bdb c1, by rw [y2 _ _ (by unfold r5; omega)]; exact c1.2.2.2.2⟩⟩
    rw [hT, srE, y1, jb_t, y2 13 0 (by unfold r5; omega), c2.1, if_pos jok5, Te_isWell, e8, if_neg (bd12n (bdb c1)), jb_t]
    rfl
theorem jb_one {X : Option (Int × jM)} {K G : jM → Option (Int × jM)} : jb (jb X fun _ s => some (1, s)) (fun v s => if (w32 v) = 0 then K s else G s) = jb X fun _ s => G s := by
  cases X with
  | none => rfl
  | some r =>
    obtain ⟨v, s⟩ := r
    rw [jb_t, jb_t, jb_t, if_neg (by decide)]
theorem starts_eq {L lim : Int} {u : jM} (hL : 0 ≤ L ∧ L ≤ u 155 8 ∧ u 155 8 ≤ 900) (hl : L ≤ lim ∧ lim ≤ 900) : Md_starts 155 L lim u = jb (opR L u) fun _ s => some (1, s) := by
  rw [Md_starts, w32_id (x := L) (by omega) (by omega), w32_id (x := u 155 8) (by omega) (by omega), w32_id (x := lim) (by omega) (by omega), if_neg (by omega), if_neg (by omega), if_neg (by omega)]
  rfl
theorem isWell_0 {u : jM} (h : u 155 12 = 0) : Md_isWell 155 u = some (1, jup (jup u 155 10 0) 155 11 (-1)) := by
  rw [Md_isWell, u_ne (by omega), h, if_pos (by decide), Md_isWell_24, u_ne (by omega), u_ne (by omega), h, if_pos (by decide)]
theorem isWell_1 {u : jM} (h : 0 < u 155 12 ∧ u 155 12 ≤ 100) : Md_isWell 155 u = some (0, jup (jup (jup u 155 10 (u 155 12)) 155 11 (u 155 13)) 155 0 10) := by
  rw [Md_isWell, u_ne (by omega), if_neg (bd12n h), u_ne (by omega), Md_isWell_24, u_ne (by omega), u_ne (by omega), if_neg (bd12n h), Md_no, jb_t, if_pos (by decide)]
/-- what a see may change -/
def rBig (B a b : Int) : Prop := (a = 0 ∧ (b = 0 ∨ b = 3 ∨ b = 4)) ∨ (a = 11 ∧ 0 ≤ b ∧ b ≤ 9) ∨ (a = 13 ∧ 0 ≤ b ∧ b ≤ 3) ∨ (B ≤ a ∧ a < B + 25) ∨ (a = 155 ∧ (b = 0 ∨ b = 1 ∨ b = 8 ∨ b = 9 ∨ b = 10 ∨ b = 11 ∨ (12 ≤ b ∧ b ≤ 19) ∨ b = 25)) ∨ (a = 160 ∧ 1524 ≤ b) ∨ (a = 163 ∧ 64 ≤ b)
theorem INV_big {s t : jM} (h : INV s) (hE : EX (rBig (s 0 6)) s t) (h0 : t 0 0 = t 155 0) (h3 : t 0 3 = t 155 10) (h4 : t 0 4 = t 155 11) (h11 : t 11 0 = 0) (h8 : t 155 8 = 0) : INV t ∧ t (-1) = s (-1) ∧ t (-2) = s (-2) := by
  have hb := h.b
  obtain ⟨h1, h2, -, hl, h5, h6, h7⟩ := h
  have b6 := hb.2.2.2.1
  have b5 := hb.1
  have hne : (s 0 5 = 30 ∧ s 0 6 = 55) ∨ (s 0 5 = 55 ∧ s 0 6 = 30) := h5.1
  refine ⟨⟨⟨h0, ?_, ?_, h3, h4⟩, iTrs_fr h2 (fun a b q => hE a b (by unfold rTr at q; unfold rBig; omega)), ⟨by rw [h11, h8], by rw [h11]; omega, by rw [h11]; omega, fun i i1 i2 => by rw [h11] at i2; omega⟩, iLv_fr hl (fun a b q => hE a b (by unfold rLv at q; unfold rBig; omega)), iBs_fr h5 (fun a b q => hE a b (by unfold rBs at q; unfold rBig; omega)), ?_, iMk_fr h7 (hE 0 7 (by unfold rBig; omega)) h5.2.2.1 (fun a b q => hE a b (by unfold rMk at q; unfold rBig; omega))⟩, funext fun b => hE _ _ (by unfold rBig; omega), funext fun b => hE _ _ (by unfold rBig; omega)⟩
  · rw [hE 0 1 (by unfold rBig; omega), hE 155 2 (by unfold rBig; omega)]; exact h1.2.1
  · rw [hE 0 2 (by unfold rBig; omega), hE 155 3 (by unfold rBig; omega)]; exact h1.2.2.1
  · rw [hE 0 5 (by unfold rBig; omega)]
    exact iNo_fr h6 (fun a b q => hE a b (by unfold rNo at q; unfold rBig; omega))
/-- what a good see changes -/
def rBiG (B a b : Int) : Prop := rBig B a b ∨ (a = 0 ∧ (b = 5 ∨ b = 6)) ∨ (a = 160 ∧ 0 ≤ b ∧ b < 381) ∨ (a = 163 ∧ 0 ≤ b ∧ b < 16)
theorem INV_biG {s t : jM} (h : INV s) (hE : EX (rBiG (s 0 6)) s t) (h0 : t 0 0 = t 155 0) (h3 : t 0 3 = t 155 10) (h4 : t 0 4 = t 155 11) (h11 : t 11 0 = 0) (h8 : t 155 8 = 0) (h05 : t 0 5 = s 0 6) (h06 : t 0 6 = s 0 5) (hB : iB (vw t (s 0 6)) (cw t 0) (ww t 0)) : INV t ∧ t (-1) = s (-1) ∧ t (-2) = s (-2) := by
  have hb := h.b
  obtain ⟨h1, h2, -, hl, h5, h6, h7⟩ := h
  have b6 := hb.2.2.2.1
  have b5 := hb.1
  have hne : (s 0 5 = 30 ∧ s 0 6 = 55) ∨ (s 0 5 = 55 ∧ s 0 6 = 30) := h5.1
  refine ⟨⟨⟨h0, ?_, ?_, h3, h4⟩, iTrs_fr h2 (fun a b q => hE a b (by unfold rTr at q; unfold rBiG rBig; omega)), ⟨by rw [h11, h8], by rw [h11]; omega, by rw [h11]; omega, fun i i1 i2 => by rw [h11] at i2; omega⟩, iLv_fr hl (fun a b q => hE a b (by unfold rLv at q; unfold rBiG rBig; omega)), ⟨by rw [h05, h06]; omega, ?_, ?_, ?_⟩, by rw [h05]; exact hB, iMk_fr h7 (hE 0 7 (by unfold rBiG rBig; omega)) h5.2.2.1 (fun a b q => hE a b (by unfold rMk at q; unfold rBiG rBig; omega))⟩, funext fun b => hE _ _ (by unfold rBiG rBig; omega), funext fun b => hE _ _ (by unfold rBiG rBig; omega)⟩
  · rw [hE 0 1 (by unfold rBiG rBig; omega), hE 155 2 (by unfold rBiG rBig; omega)]; exact h1.2.1
  · rw [hE 0 2 (by unfold rBiG rBig; omega), hE 155 3 (by unfold rBiG rBig; omega)]; exact h1.2.2.1
  · rw [hE 0 7 (by unfold rBiG rBig; omega)]; exact h5.2.1
  · rw [hE 0 7 (by unfold rBiG rBig; omega)]; exact h5.2.2.1
  · rw [hE 155 24 (by unfold rBiG rBig; omega), hE 0 7 (by unfold rBiG rBig; omega)]; exact h5.2.2.2
theorem see_ok {s : jM} (h : INV s) {L : Int} (hL : i32 L) : OKc s (Jc_see 0 L) (Md_see 155 L) := by
  unfold i32 at hL
  obtain ⟨p1, p2, p3, p4⟩ := h.2.2.1
  have hb := h.b
  have hB := hb.2.2.2.1
  have hj6 := hb.2.2.1
  have hj := hb.2.1
  by_cases q1 : L < 0
  · exact OKc.no (w := 5) (r := -1) h (by simp (disch := omega) only [↓jb_m, ↓jm_s, ↓reduceIte, t_lt, t_nlt, t_le, t_nle, t_eq, t_neq, w32_id, w64_id, jb_s, and_true, true_and, and_self, and_false, false_and, or_true, true_or, or_false, false_or, or_self, not_false_eq_true, not_true_eq_false, u_ne, u_eq, u_u, Int.reduceAdd, Int.reduceSub, Int.reduceMul, Int.reduceNeg, Int.zero_add, Int.add_zero, n15, n16, q10, q11, q12, q13, q14, Jc_see, Jc_answer, Jc_refuse, Jc_deny, Jc_grant, Se_isMould, Se_isStuff, Se_isPlace, hj]) (by simp (disch := omega) only [↓jb_m, ↓jm_s, ↓reduceIte, t_lt, t_nlt, t_le, t_nle, t_eq, t_neq, w32_id, w64_id, jb_s, and_true, true_and, and_self, and_false, false_and, or_true, true_or, or_false, false_or, or_self, not_false_eq_true, not_true_eq_false, u_ne, u_eq, u_u, Int.reduceAdd, Int.reduceSub, Int.reduceMul, Int.reduceNeg, Int.zero_add, Int.add_zero, n15, n16, q10, q11, q12, q13, q14, Md_see, Md_starts, Md_isMouldAt, Md_isStuffAt, Md_isPlaceAt, Md_isTray, Md_isIn_1, Md_isIn_0, Md_refuse, Md_no])
  by_cases q2 : s 11 0 < L
  · exact OKc.no (w := 5) (r := -1) h (by simp (disch := omega) only [↓jb_m, ↓jm_s, ↓reduceIte, t_lt, t_nlt, t_le, t_nle, t_eq, t_neq, w32_id, w64_id, jb_s, and_true, true_and, and_self, and_false, false_and, or_true, true_or, or_false, false_or, or_self, not_false_eq_true, not_true_eq_false, u_ne, u_eq, u_u, Int.reduceAdd, Int.reduceSub, Int.reduceMul, Int.reduceNeg, Int.zero_add, Int.add_zero, n15, n16, q10, q11, q12, q13, q14, Jc_see, Jc_answer, Jc_refuse, Jc_deny, Jc_grant, Se_isMould, Se_isStuff, Se_isPlace, hj]) (by simp (disch := omega) only [↓jb_m, ↓jm_s, ↓reduceIte, t_lt, t_nlt, t_le, t_nle, t_eq, t_neq, w32_id, w64_id, jb_s, and_true, true_and, and_self, and_false, false_and, or_true, true_or, or_false, false_or, or_self, not_false_eq_true, not_true_eq_false, u_ne, u_eq, u_u, Int.reduceAdd, Int.reduceSub, Int.reduceMul, Int.reduceNeg, Int.zero_add, Int.add_zero, n15, n16, q10, q11, q12, q13, q14, Md_see, Md_starts, Md_isMouldAt, Md_isStuffAt, Md_isPlaceAt, Md_isTray, Md_isIn_1, Md_isIn_0, Md_refuse, Md_no])
  have hLL : 0 ≤ L ∧ L ≤ 900 := by omega
  have hby : ∀ i, 0 ≤ i → i < L → s 12 i = s 159 i ∧ -128 ≤ s 12 i ∧ s 12 i ≤ 127 := fun i i1 i2 => p4 i i1 (by omega)
  obtain ⟨s3, v, s4, u0, a1, a2, a3, a4, -⟩ := see_run hB (s := s) (u := s) hLL hby
  have e05 : s4 0 5 = s 0 5 := a4 _ _ (by unfold rCs; omega)
  have e06 : s4 0 6 = s 0 6 := a4 _ _ (by unfold rCs; omega)
  have a26 := a2 6
  -- the reference, from the class's end on
  have run : ∀ sc : jM, (∀ i, sc 159 i = s 159 i) → sc 155 8 = s 155 8 → ∃ u4, Md_see 155 L sc = Md_see_64 155 u4 ∧ EX rRs (jup (jup sc 155 1 0) 155 0 0) u4 ∧ u4 155 8 = 0 ∧ ((v = 1 ∧ u4 155 12 = 0 ∧ ∃ sr, RDs (s 0 6) sr u4 ∧ EX (r5 (s 0 6)) sr s4 ∧ MINP 64 1000000 (s4 (s 0 6 + 5)) (cR u4)) ∨ (v = 0 ∧ s4 11 8 = u4 155 12 ∧ (0 < u4 155 12 ∧ u4 155 12 ≤ 100) ∧ s4 11 9 = u4 155 13)) := fun sc x1 x2 => by
    obtain ⟨t3, w, t4, u4, b1, b2, b3, b4, b5, b6, b7, b8⟩ := see_run hB (s := s) (u := jup (jup sc 155 1 0) 155 0 0) hLL (fun i i1 i2 => by rw [u_ne (by omega), u_ne (by omega), x1]; exact hby i i1 i2)
    have e3 : some ((0 : Int), t3) = some (0, s3) := b1.symm.trans a1
    have e3 : t3 = s3 := congrArg Prod.snd (Option.some.inj e3)
    subst e3
    have e4 : some (w, t4) = some (v, s4) := b3.symm.trans a3
    have ew : w = v := congrArg Prod.fst (Option.some.inj e4)
    have e5 : t4 = s4 := congrArg Prod.snd (Option.some.inj e4)
    clear e4
    subst ew
    subst e5
    refine ⟨u4, ?_, b6, b7, b8⟩
    rw [Md_see, starts_eq (by rw [u_ne (by omega), u_ne (by omega), x2, ← p1]; omega) (by omega), jb_one]
    exact b5
  have vv : v = 1 ∨ v = 0 := by
    obtain ⟨u4, -, -, -, c⟩ := run s (fun _ => rfl) rfl
    rcases c with ⟨c, -⟩ | ⟨c, -⟩
    · exact Or.inl c
    · exact Or.inr c
  rcases vv with e | e
  · subst e
    obtain ⟨sc, hsc⟩ : ∃ sc, sc = jup (jup (jup (jup (jup (jup s4 11 0 0) 0 3 0) 0 4 (-1)) 0 5 (s 0 6)) 0 6 (s 0 5)) 0 0 0 := ⟨_, rfl⟩
    have hcl : Jc_see 0 L s = some (s4 (s 0 6) 6, sc) := by
      rw [hsc]
      simp (disch := omega) only [↓jb_m, ↓jm_s, ↓reduceIte, t_lt, t_nlt, t_le, t_nle, t_eq, t_neq, w32_id, w64_id, jb_s, and_true, true_and, and_self, and_false, false_and, or_true, true_or, or_false, false_or, or_self, not_false_eq_true, not_true_eq_false, u_ne, u_eq, u_u, Int.reduceAdd, Int.reduceSub, Int.reduceMul, Int.reduceNeg, Int.zero_add, Int.add_zero, n15, n16, q10, q11, q12, q13, q14, Jc_see, Jc_endText, Jc_endText_24, Jc_answer, Jc_refuse, Jc_deny, Jc_grant, Se_isMould, Se_isStuff, Se_isPlace, hj, a1, a26, hj6, a3, e05, e06]
    have sce : ∀ a b, ¬ (a = 0 ∧ (b = 0 ∨ b = 3 ∨ b = 4 ∨ b = 5 ∨ b = 6)) → ¬ (a = 11 ∧ b = 0) → sc a b = s4 a b := fun a b z1 z2 => by
      rw [hsc, u_ne (by omega), u_ne (by omega), u_ne (by omega), u_ne (by omega), u_ne (by omega), u_ne (by omega)]
    obtain ⟨u4, c1, c2, c3, c4⟩ := run sc (fun i => by rw [sce _ _ (by omega) (by omega)]; exact a4 _ _ (by unfold rCs; omega)) (by rw [sce _ _ (by omega) (by omega)]; exact a4 _ _ (by unfold rCs; omega))
    rcases c4 with ⟨-, c5, sr, c6, c7, c8⟩ | ⟨c5, -⟩
    rotate_left
    · omega
    obtain ⟨z, hz⟩ : ∃ z, z = jcp (jcp (jup (jup u4 155 10 0) 155 11 (-1)) 160 (381 * 4) 160 (381 * 0) 381) 163 (16 * 4) 163 (16 * 0) 16 := ⟨_, rfl⟩
    have zc : ∀ o, 0 ≤ o → o < 381 → z 160 o = u4 160 (1524 + o) := fun o o1 o2 => by
      rw [hz, c_out (by omega), c_in ⟨rfl, by omega, by omega⟩, u_ne (by omega), u_ne (by omega), show (381 : Int) * 4 + (o - 381 * 0) = 1524 + o by omega]
    have zw : ∀ i, 0 ≤ i → i < 16 → z 163 i = u4 163 (64 + i) := fun i i1 i2 => by
      rw [hz, c_in ⟨rfl, by omega, by omega⟩, c_out (by omega), u_ne (by omega), u_ne (by omega), show (16 : Int) * 4 + (i - 16 * 0) = 64 + i by omega]
    have ze : ∀ a b, ¬ (a = 155 ∧ (b = 10 ∨ b = 11)) → ¬ (a = 160 ∧ 0 ≤ b ∧ b < 381) → ¬ (a = 163 ∧ 0 ≤ b ∧ b < 16) → z a b = u4 a b := fun a b z1 z2 z3 => by
      rw [hz, c_out (by omega), c_out (by omega), u_ne (by omega), u_ne (by omega)]
    have hm : Md_see 155 L sc = some (z 160 2, z) := by
      rw [c1, Md_see_64, isWell_0 c5, jb_t, if_neg (by decide), Md_copy_eq (by omega) (by omega) (by omega), jb_t, ← hz]
      rfl
    have ue : ∀ a b, a < 155 → u4 a b = sc a b := fun a b q => by rw [c2 a b (by unfold rRs; omega), u_ne (by omega), u_ne (by omega)]
    have zB : ∀ a b, s 0 6 ≤ a → a < s 0 6 + 25 → z a b = s4 a b := fun a b x1 x2 => by rw [ze _ _ (by omega) (by omega) (by omega), ue _ _ (by omega), sce _ _ (by omega) (by omega)]
    have hans : z 160 2 = s4 (s 0 6) 6 := by
      rw [zc 2 (by omega) (by omega)]
      show u4 160 1526 = _
      rw [c7 _ _ (by unfold r5; omega)]
      exact c6.2.1.2.2.2.2.2.2.2.2.2.2.1.symm
    have hiB := iB_of hB c6 (v := z) (fun a b x1 x2 x3 => by rw [zB a b x1 x2]; exact c7 a b (by unfold r5; omega)) (by rw [show z (s 0 6 + 5) = s4 (s 0 6 + 5) from funext fun b => zB _ b (by omega) (by omega)]; exact c8) zc zw
    have hfin : INV z ∧ z (-1) = s (-1) ∧ z (-2) = s (-2) := by
      refine INV_biG h (fun a b x => ?_) ?_ ?_ ?_ ?_ ?_ ?_ ?_ hiB
      · unfold rBiG rBig at x
        rw [ze a b (by omega) (by omega) (by omega), c2 a b (by unfold rRs; omega), u_ne (by omega), u_ne (by omega), sce a b (by omega) (by omega)]
        exact a4 a b (by unfold rCs; omega)
      · rw [ze _ _ (by omega) (by omega) (by omega), ue _ _ (by omega), ze _ _ (by omega) (by omega) (by omega), c2 _ _ (by unfold rRs; omega), u_eq ⟨rfl, rfl⟩, hsc, u_eq ⟨rfl, rfl⟩]
      · rw [ze _ _ (by omega) (by omega) (by omega), ue _ _ (by omega), hsc, hz, c_out (by omega), c_out (by omega)]
        simp (disch := omega) only [↓jb_m, ↓jm_s, ↓reduceIte, t_lt, t_nlt, t_le, t_nle, t_eq, t_neq, w32_id, w64_id, jb_s, and_true, true_and, and_self, and_false, false_and, or_true, true_or, or_false, false_or, or_self, not_false_eq_true, not_true_eq_false, u_ne, u_eq, u_u, Int.reduceAdd, Int.reduceSub, Int.reduceMul, Int.reduceNeg, Int.zero_add, Int.add_zero, n15, n16, q10, q11, q12, q13, q14]
      · rw [ze _ _ (by omega) (by omega) (by omega), ue _ _ (by omega), hsc, hz, c_out (by omega), c_out (by omega)]
        simp (disch := omega) only [↓jb_m, ↓jm_s, ↓reduceIte, t_lt, t_nlt, t_le, t_nle, t_eq, t_neq, w32_id, w64_id, jb_s, and_true, true_and, and_self, and_false, false_and, or_true, true_or, or_false, false_or, or_self, not_false_eq_true, not_true_eq_false, u_ne, u_eq, u_u, Int.reduceAdd, Int.reduceSub, Int.reduceMul, Int.reduceNeg, Int.zero_add, Int.add_zero, n15, n16, q10, q11, q12, q13, q14]
      · rw [ze _ _ (by omega) (by omega) (by omega), ue _ _ (by omega), hsc]
        simp (disch := omega) only [↓jb_m, ↓jm_s, ↓reduceIte, t_lt, t_nlt, t_le, t_nle, t_eq, t_neq, w32_id, w64_id, jb_s, and_true, true_and, and_self, and_false, false_and, or_true, true_or, or_false, false_or, or_self, not_false_eq_true, not_true_eq_false, u_ne, u_eq, u_u, Int.reduceAdd, Int.reduceSub, Int.reduceMul, Int.reduceNeg, Int.zero_add, Int.add_zero, n15, n16, q10, q11, q12, q13, q14]
      · rw [ze _ _ (by omega) (by omega) (by omega)]; exact c3
      · rw [ze _ _ (by omega) (by omega) (by omega), ue _ _ (by omega), hsc]
        simp (disch := omega) only [↓jb_m, ↓jm_s, ↓reduceIte, t_lt, t_nlt, t_le, t_nle, t_eq, t_neq, w32_id, w64_id, jb_s, and_true, true_and, and_self, and_false, false_and, or_true, true_or, or_false, false_or, or_self, not_false_eq_true, not_true_eq_false, u_ne, u_eq, u_u, Int.reduceAdd, Int.reduceSub, Int.reduceMul, Int.reduceNeg, Int.zero_add, Int.add_zero, n15, n16, q10, q11, q12, q13, q14]
      · rw [ze _ _ (by omega) (by omega) (by omega), ue _ _ (by omega), hsc]
        simp (disch := omega) only [↓jb_m, ↓jm_s, ↓reduceIte, t_lt, t_nlt, t_le, t_nle, t_eq, t_neq, w32_id, w64_id, jb_s, and_true, true_and, and_self, and_false, false_and, or_true, true_or, or_false, false_or, or_self, not_false_eq_true, not_true_eq_false, u_ne, u_eq, u_u, Int.reduceAdd, Int.reduceSub, Int.reduceMul, Int.reduceNeg, Int.zero_add, Int.add_zero, n15, n16, q10, q11, q12, q13, q14]
    exact ⟨s4 (s 0 6) 6, sc, z, hcl, by rw [hm, hans], hfin⟩
  · subst e
    obtain ⟨sc, hsc⟩ : ∃ sc, sc = jup (jup (jup (jup s4 11 0 0) 0 3 (s4 11 8)) 0 4 (s4 11 9)) 0 0 10 := ⟨_, rfl⟩
    have hcl : Jc_see 0 L s = some (-1, sc) := by
      rw [hsc]
      simp (disch := omega) only [↓jb_m, ↓jm_s, ↓reduceIte, t_lt, t_nlt, t_le, t_nle, t_eq, t_neq, w32_id, w64_id, jb_s, and_true, true_and, and_self, and_false, false_and, or_true, true_or, or_false, false_or, or_self, not_false_eq_true, not_true_eq_false, u_ne, u_eq, u_u, Int.reduceAdd, Int.reduceSub, Int.reduceMul, Int.reduceNeg, Int.zero_add, Int.add_zero, n15, n16, q10, q11, q12, q13, q14, Jc_see, Jc_endText, Jc_endText_24, Jc_answer, Jc_refuse, Jc_deny, Jc_grant, Se_isMould, Se_isStuff, Se_isPlace, hj, a1, a26, hj6, a3, e05, e06]
    have sce : ∀ a b, ¬ (a = 0 ∧ (b = 0 ∨ b = 3 ∨ b = 4)) → ¬ (a = 11 ∧ b = 0) → sc a b = s4 a b := fun a b z1 z2 => by
      rw [hsc, u_ne (by omega), u_ne (by omega), u_ne (by omega), u_ne (by omega)]
    obtain ⟨u4, c1, c2, c3, c4⟩ := run sc (fun i => by rw [sce _ _ (by omega) (by omega)]; exact a4 _ _ (by unfold rCs; omega)) (by rw [sce _ _ (by omega) (by omega)]; exact a4 _ _ (by unfold rCs; omega))
    rcases c4 with ⟨c5, -⟩ | ⟨-, c5, c6, c7⟩
    · omega
    obtain ⟨z, hz⟩ : ∃ z, z = jup (jup (jup u4 155 10 (u4 155 12)) 155 11 (u4 155 13)) 155 0 10 := ⟨_, rfl⟩
    have ze : ∀ a b, ¬ (a = 155 ∧ (b = 0 ∨ b = 10 ∨ b = 11)) → z a b = u4 a b := fun a b z1 => by
      rw [hz, u_ne (by omega), u_ne (by omega), u_ne (by omega)]
    have hm : Md_see 155 L sc = some (-1, z) := by
      rw [c1, Md_see_64, isWell_1 c6, jb_t, if_pos (by decide), ← hz]
    have ue : ∀ a b, a < 155 → u4 a b = sc a b := fun a b q => by rw [c2 a b (by unfold rRs; omega), u_ne (by omega), u_ne (by omega)]
    have hfin : INV z ∧ z (-1) = s (-1) ∧ z (-2) = s (-2) := by
      refine INV_big h (fun a b x => ?_) ?_ ?_ ?_ ?_ ?_
      · unfold rBig at x
        rw [ze a b (by omega), c2 a b (by unfold rRs; omega), u_ne (by omega), u_ne (by omega), sce a b (by omega) (by omega)]
        exact a4 a b (by unfold rCs; omega)
      · rw [ze _ _ (by omega), ue _ _ (by omega), hsc, hz, u_eq ⟨rfl, rfl⟩, u_eq ⟨rfl, rfl⟩]
      · rw [ze _ _ (by omega), ue _ _ (by omega), hsc, hz]
        simp (disch := omega) only [↓jb_m, ↓jm_s, ↓reduceIte, t_lt, t_nlt, t_le, t_nle, t_eq, t_neq, w32_id, w64_id, jb_s, and_true, true_and, and_self, and_false, false_and, or_true, true_or, or_false, false_or, or_self, not_false_eq_true, not_true_eq_false, u_ne, u_eq, u_u, Int.reduceAdd, Int.reduceSub, Int.reduceMul, Int.reduceNeg, Int.zero_add, Int.add_zero, n15, n16, q10, q11, q12, q13, q14, c5]
      · rw [ze _ _ (by omega), ue _ _ (by omega), hsc, hz]
        simp (disch := omega) only [↓jb_m, ↓jm_s, ↓reduceIte, t_lt, t_nlt, t_le, t_nle, t_eq, t_neq, w32_id, w64_id, jb_s, and_true, true_and, and_self, and_false, false_and, or_true, true_or, or_false, false_or, or_self, not_false_eq_true, not_true_eq_false, u_ne, u_eq, u_u, Int.reduceAdd, Int.reduceSub, Int.reduceMul, Int.reduceNeg, Int.zero_add, Int.add_zero, n15, n16, q10, q11, q12, q13, q14, c7]
      · rw [ze _ _ (by omega), ue _ _ (by omega), hsc]
        simp (disch := omega) only [↓jb_m, ↓jm_s, ↓reduceIte, t_lt, t_nlt, t_le, t_nle, t_eq, t_neq, w32_id, w64_id, jb_s, and_true, true_and, and_self, and_false, false_and, or_true, true_or, or_false, false_or, or_self, not_false_eq_true, not_true_eq_false, u_ne, u_eq, u_u, Int.reduceAdd, Int.reduceSub, Int.reduceMul, Int.reduceNeg, Int.zero_add, Int.add_zero, n15, n16, q10, q11, q12, q13, q14]
      · rw [ze _ _ (by omega)]; exact c3
    exact ⟨-1, sc, z, hcl, hm, hfin⟩
