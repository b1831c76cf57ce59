/-! feasts: what stands behind the word of a test -/
def rFt (F l a b : Int) : Prop := (a = 11 ∧ 2 ≤ b ∧ b ≤ 9) ∨ (F + 1 ≤ a ∧ a ≤ F + 4 ∧ b = l)
def WHr (F l e : Int) (s u : jM) : Prop := s (F + 2) l = u 160 (e + 1) ∧ 0 ≤ u 160 (e + 1) ∧ u 160 (e + 1) < u 160 2 ∧ ((u 160 (e + 5) = 0 ∧ s (F + 1) l = 21) ∨ (u 160 (e + 5) = 1 ∧ s (F + 1) l = 22 ∧ s (F + 3) l = u 160 (e + 7) ∧ s (F + 4) l = u 160 (e + 6) ∧ 60 ≤ u 160 (e + 7) ∧ u 160 (e + 7) ≤ 62 ∧ 0 ≤ u 160 (e + 6) ∧ u 160 (e + 6) ≤ 99) ∨ (u 160 (e + 5) = 2 ∧ s (F + 1) l = 12 ∧ s (F + 3) l = u 160 (e + 2) ∧ 0 ≤ u 160 (e + 2) ∧ u 160 (e + 2) < u 160 1))
theorem rFc_Ft {F l : Int} {s t : jM} (h : EX (rFc F l) s t) : EX (rFt F l) s t := h.wk (fun a b q => q.imp id (fun z => ⟨by omega, z.2.1, z.2.2⟩))
theorem test_both {B F l e : Int} (hB : B = 30 ∨ B = 55) (hF : (B = 30 ∧ F = 64) ∨ (B = 55 ∧ F = 39)) {s u : jM} (h : TW s u) (hx : FX B F s u) (hl : 0 ≤ l ∧ l < 60) (he : 1635 ≤ e ∧ e + 8 < 1905) : ∃ s' u', Fr_takeTest 14 (s 11 5) l s = some (0, s') ∧ Md_readTest 155 e u = some (0, u') ∧ MO s u s' u' ∧ EX (rFt F l) s s' ∧ EX (rFr e) u u' ∧ FX B F s' u' ∧ (TW s' u' → WHr F l e s' u') := by
  have hF' : F = 39 ∨ F = 64 := by omega
  have hB' : 30 ≤ B ∧ B ≤ 55 := by omega
  have hFB : B + 8 < F ∨ F + 5 < B := by omega
  have lw : w32 l = l := w32_id (by omega) (by omega)
  have e1 : w32 (e + 1) = e + 1 := w32_id (by omega) (by omega)
  have e2 : w32 (e + 2) = e + 2 := w32_id (by omega) (by omega)
  have e5 : w32 (e + 5) = e + 5 := w32_id (by omega) (by omega)
  have e6 : w32 (e + 6) = e + 6 := w32_id (by omega) (by omega)
  have e7 : w32 (e + 7) = e + 7 := w32_id (by omega) (by omega)
  have i1 : 0 ≤ e + 1 ∧ e + 1 < 1905 := by omega
  have i2 : 0 ≤ e + 2 ∧ e + 2 < 1905 := by omega
  have i5 : 0 ≤ e + 5 ∧ e + 5 < 1905 := by omega
  have i6 : 0 ≤ e + 6 ∧ e + 6 < 1905 := by omega
  have i7 : 0 ≤ e + 7 ∧ e + 7 < 1905 := by omega
  have k5 := TK_5 h.1
  have w5 : w32 (s 11 5) = s 11 5 := w32_id (by omega) (by omega)
  have tw := testWord_eq h.1
  obtain ⟨x0, x1, x2, x3⟩ := hx
  have hx : FX B F s u := ⟨x0, x1, x2, x3⟩
  -- class, reference
  have hc : Fr_takeTest 14 (s 11 5) l s = if s 11 5 = 21 ∨ s 11 5 = 22 ∨ s 11 5 = 12 then Fr_takeTest_27 14 (s 11 5) l s else (jb (Te_fail 11 2 s) fun v6 s6 => some (0, s6)) := by
    rw [Fr_takeTest, w5, x0, if_pos jok5]
    by_cases q1 : s 11 5 = 21
    · rw [if_pos q1, if_pos (Or.inl q1)]
    by_cases q2 : s 11 5 = 22
    · rw [if_neg q1, if_pos q2, if_pos (Or.inr (Or.inl q2))]
    by_cases q3 : s 11 5 = 12
    · rw [if_neg q1, if_neg q2, if_pos q3, if_pos (Or.inr (Or.inr q3))]
    · rw [if_neg q1, if_neg q2, if_neg q3, if_neg (by omega)]
  have r15 : ∀ (w b : Int), Md_readTest_15 155 e w b 155 u = jb (Md_must 155 b u) fun v6 s6 => if 0 < (w32 ((jup s6 160 (e + 5) w) 155 12)) then (some (0, (jup s6 160 (e + 5) w))) else (jb (Md_readTold 155 0 2 (jup s6 160 (e + 5) w)) fun v7 s7 => if (w32 w) = 2 then (jb (Md_readTold 155 0 1 (jup s7 160 (e + 1) v7)) fun v8 s8 => Md_readTest_68 155 e w (jup s8 160 (e + 2) v8)) else (Md_readTest_68 155 e w (jup s7 160 (e + 1) v7))) := fun w b => by
    rw [Md_readTest_15, e5, e1, e2]
    simp only [if_pos i5, if_pos i1, if_pos i2]
    rfl
  by_cases q : s 11 5 = 21 ∨ s 11 5 = 22 ∨ s 11 5 = 12
  rotate_left
  · obtain ⟨s', u', a1, a2, a3, a4, a5⟩ := both_amiss h
    refine ⟨s', jup u' 160 (e + 5) (-1), ?_, ?_, ⟨Or.inr (BD_ex a3 (fun _ => rfl) (fun _ => rfl) ⟨u_ne (by omega), u_ne (by omega)⟩), fun b => absurd h (nb_tw b)⟩, a4.wk (fun a b q => Or.inl q), (a5.wk (fun a b q => Or.inl q)).up (Or.inr ⟨rfl, by omega, by omega⟩), FX_ex hB'.1 hx (fun a b q => a4 a b (by unfold rC; omega)) (fun o o1 o2 => by rw [u_ne (by omega)]; exact a5 _ _ (by unfold rD; omega)) (fun i => by rw [u_ne (by omega)]; exact a5 _ _ (by unfold rD; omega)), fun t => absurd t (nb_tw (BD_ex a3 (fun _ => rfl) (fun _ => rfl) ⟨u_ne (by omega), u_ne (by omega)⟩))⟩
    · rw [hc, if_neg q, a1, jb_t]
    · have tw' : Md_testWord 155 u = some (-1, u) := by rw [tw, if_neg (by omega), if_neg (by omega), if_neg (by omega)]
      rw [Md_readTest, tw', jb_t, if_pos (by decide), r15, Md_must, if_neg (u12 h.2.2), if_pos (by decide), a2, jb_t, jb_t, u_ne (by omega), if_pos (bd12 (bdb a3))]
  -- a test that there is
  obtain ⟨S, hS⟩ : ∃ S, S = jup s (F + 1) l (s 11 5) := ⟨_, rfl⟩
  have tS : TW S u := TW_ex h (fun b => by rw [hS, u_ne (by omega)]) (fun b => by rw [hS, u_ne (by omega)]) (fun _ _ => rfl) (fun _ => rfl)
  obtain ⟨s1, u1, a1, a2, a3, a4, a5, a6⟩ := both_adv tS
  obtain ⟨w, hw⟩ : ∃ w, w = if s 11 5 = 21 then 0 else if s 11 5 = 22 then 1 else if s 11 5 = 12 then 2 else -1 := ⟨_, rfl⟩
  have wb : (s 11 5 = 21 ∧ w = 0) ∨ (s 11 5 = 22 ∧ w = 1) ∨ (s 11 5 = 12 ∧ w = 2) := by
    rcases q with q | q | q
    · rw [q] at hw
      exact Or.inl ⟨q, hw⟩
    · rw [q] at hw
      exact Or.inr (Or.inl ⟨q, hw⟩)
    · rw [q] at hw
      exact Or.inr (Or.inr ⟨q, hw⟩)
  rw [← hw] at tw
  clear hw
  obtain ⟨U1, hU1⟩ : ∃ U1, U1 = jup u1 160 (e + 5) w := ⟨_, rfl⟩
  have t1 : TW s1 U1 := TW_ex a3 (fun _ => rfl) (fun _ => rfl) (fun b _ => by rw [hU1, u_ne (by omega)]) (fun b => by rw [hU1, u_ne (by omega)])
  have f1 : ∀ a b, a ≠ 11 → s1 a b = S a b := fun a b z => a5 a b (fun y => z y.1)
  have g1 : ∀ a b, a ≠ 155 → ¬ (a = 160 ∧ b = e + 5) → U1 a b = u a b := fun a b z z2 => by rw [hU1, u_ne z2]; exact a6 a b (fun y => z y.1)
  have X1 : FX B F s1 U1 := FX_ex hB'.1 hx (fun a b q => by rw [f1 a b (by omega), hS, u_ne (by omega)]) (fun o o1 o2 => g1 _ _ (by omega) (by omega)) (fun i => g1 _ _ (by omega) (by omega))
  obtain ⟨v, w1, s2, u2, b1, b2, b3, b4, b5, b6, b7, b8, b9⟩ := fx_thing (B := B) (F := F) (t := 2) (r := F + 2) (o := e + 1) (l := l) (e := e) hB' hF' (Or.inl t1) X1 (by omega) (by omega) hFB he.1 (by omega)
  obtain ⟨S2, hS2⟩ : ∃ S2, S2 = jup s2 (F + 2) l v := ⟨_, rfl⟩
  obtain ⟨U2, hU2⟩ : ∃ U2, U2 = jup u2 160 (e + 1) w1 := ⟨_, rfl⟩
  rw [← hS2, ← hU2] at b3 b6 b7
  rw [← hS2] at b4
  rw [← hU2] at b5
  have m02 : MO s u S2 U2 := by
    refine ⟨?_, fun b => absurd h (nb_tw b)⟩
    rcases b3.1 with ⟨y1, y2⟩ | y
    · have o1 := TW_3 tS a4
      have o2 : S 11 3 = s 11 3 := by rw [hS, u_ne (by omega)]
      exact Or.inl ⟨y1, by omega⟩
    · exact Or.inr y
  have E2 : EX (rFt F l) s S2 := by
    refine EX.tr ?_ (rFc_Ft b4)
    rw [hS] at a5
    exact EX.tr ((EX.rf _ _).up (Or.inr ⟨by omega, by omega, rfl⟩)) (a5.wk (fun a b q => Or.inl q))
  have G2 : EX (rFr e) u U2 := by
    refine EX.tr ?_ b5
    rw [hU1]
    exact (a6.wk (fun a b q => Or.inl q)).up (Or.inr ⟨rfl, by omega, by omega⟩)
  have hc2 : Fr_takeTest 14 (s 11 5) l s = if s 11 5 = 22 then (jb (Te_takeCompare 11 S2) fun v3 s3 => if (0 ≤ (w32 l) ∧ (w32 l) < 60) ∧ jok 4 ((jup s3 (F + 3) (w32 l) v3) 14 2) = true ∧ jok 5 ((jup s3 (F + 3) (w32 l) v3) 14 0) = true then jb (Te_takeNumber ((jup s3 (F + 3) (w32 l) v3) 14 0) 0 99 (jup s3 (F + 3) (w32 l) v3)) fun v4 s4 => if (0 ≤ (w32 l) ∧ (w32 l) < 60) then some (0, (jup s4 (((jup s3 (F + 3) (w32 l) v3) 14 2) + 4) (w32 l) v4)) else none else none) else if s 11 5 = 12 then (jb (Te_takeThing 11 B 1 S2) fun v5 s5 => some (0, jup s5 (F + 3) l v5)) else some (0, S2) := by
    have y0 : s1 14 0 = 11 := by rw [f1 _ _ (by omega), hS, u_ne (by omega)]; exact x0
    have y1 : s1 14 1 = B := by rw [f1 _ _ (by omega), hS, u_ne (by omega)]; exact x1
    have y2 : s1 14 2 = F := by rw [f1 _ _ (by omega), hS, u_ne (by omega)]; exact x2
    have y3 : S 14 0 = 11 := by rw [hS, u_ne (by omega)]; exact x0
    rw [hc, if_pos q, Fr_takeTest_27, lw, x2, ← hS, y3, if_pos ⟨jok4 hF', hl, jok5⟩, a1, jb_t, y0, y1, y2, if_pos ⟨jok4 hF', jok5, jok3 hB⟩, b1, jb_t, if_pos hl, ← hS2, w5]
    by_cases z : s 11 5 = 22
    · rw [if_pos z, if_pos z, b6.1, b6.2.2.1, if_pos ⟨jok4 hF', jok5⟩]
    · rw [if_neg z, if_neg z]
      by_cases z2 : s 11 5 = 12
      · rw [if_pos z2, if_pos z2, b6.1, b6.2.1, b6.2.2.1, if_pos ⟨jok4 hF', jok5, jok3 hB⟩]
        simp only [if_pos hl]
      · rw [if_neg z2, if_neg z2]
  have hr2 : Md_readTest 155 e u = if w = 2 then (jb (Md_readTold 155 0 1 U2) fun v8 s8 => Md_readTest_68 155 e w (jup s8 160 (e + 2) v8)) else Md_readTest_68 155 e w U2 := by
    have ww : w32 w = w := w32_id (by omega) (by omega)
    rw [Md_readTest, tw, jb_t, ww, if_neg (by omega), r15, Md_must, if_neg (u12 h.2.2), if_neg (by decide), a2, jb_t, jb_t, ← hU1, if_neg (u12 t1.2.2), b2, jb_t, ww, ← hU2]
  rw [hc2, hr2]
  clear hc hc2 hr2 r15
  have R1 : S2 (F + 1) l = s 11 5 := by rw [hS2, u_ne (by omega), b8 _ _ (by omega), f1 _ _ (by omega), hS, u_eq ⟨rfl, rfl⟩]
  have R2 : S2 (F + 2) l = v := by rw [hS2, u_eq ⟨rfl, rfl⟩]
  have P1 : U2 160 (e + 1) = w1 := by rw [hU2, u_eq ⟨rfl, rfl⟩]
  have P5 : U2 160 (e + 5) = w := by rw [hU2, u_ne (by omega), b9 _ _ (by omega), hU1, u_eq ⟨rfl, rfl⟩]
  have Pc : ∀ o, o ≤ 2 → U2 160 o = u 160 o := fun o z => by rw [hU2, u_ne (by omega), b9 _ _ (by omega)]; exact g1 _ _ (by omega) (by omega)
  have g12 : U1 160 2 = u 160 2 := g1 _ _ (by omega) (by omega)
  have r68 : ∀ w', ¬ w' = 1 → (w' = 0 ∨ w' = 2) → ∀ U, Md_readTest_68 155 e w' U = some (0, U) := fun w' z z2 U => by
    rw [Md_readTest_68]
    split
    · rfl
    · rw [w32_id (x := w') (by omega) (by omega), if_neg z]
  rcases wb with ⟨q5, qw⟩ | ⟨q5, qw⟩ | ⟨q5, qw⟩
  · subst qw
    rw [if_neg (by omega), if_neg (by omega), if_neg (by omega), r68 0 (by omega) (by omega)]
    refine ⟨S2, U2, rfl, rfl, m02, E2, G2, b6, fun t => ?_⟩
    obtain ⟨z1, z2⟩ := b7 t
    unfold WHr
    rw [R1, R2, P1, P5, Pc 2 (by omega)]
    rw [g12] at z2
    exact ⟨z1, z2.1, z2.2, Or.inl ⟨rfl, q5⟩⟩
  · subst qw
    rw [if_pos q5, if_neg (by omega)]
    have r139 : ∀ (b x : Int) (U : jM), Md_readTest_139 155 e b 155 U = jb (Md_must 155 b U) fun v1 s1 => jb (Md_count 155 0 99 s1) fun v2 s2 => some (0, (jup s2 160 (e + 6) v2)) := fun b x U => by
      rw [Md_readTest_139, e6]
      simp only [if_pos i6]
      rfl
    -- after the sign: the number
    have fin : ∀ (S3 U3 : jM), (TW S3 U3 ∨ BD S3 U3) → FX B F S3 U3 → MO s u S3 U3 → EX (rFt F l) s S3 → EX (rFr e) u U3 → (TW S3 U3 → S3 (F + 1) l = 22 ∧ S3 (F + 2) l = U3 160 (e + 1) ∧ 0 ≤ U3 160 (e + 1) ∧ U3 160 (e + 1) < u 160 2 ∧ S3 (F + 3) l = U3 160 (e + 7) ∧ 60 ≤ U3 160 (e + 7) ∧ U3 160 (e + 7) ≤ 62) → U3 160 (e + 5) = 1 → U3 160 2 = u 160 2 → ∃ s' u', (jb (Te_takeNumber 11 0 99 S3) fun v4 s4 => if (0 ≤ (w32 l) ∧ (w32 l) < 60) then some ((0 : Int), (jup s4 (F + 4) (w32 l) v4)) else none) = some (0, s') ∧ (jb (Md_count 155 0 99 U3) fun v2 s2 => some ((0 : Int), (jup s2 160 (e + 6) v2))) = some (0, u') ∧ MO s u s' u' ∧ EX (rFt F l) s s' ∧ EX (rFr e) u u' ∧ FX B F s' u' ∧ (TW s' u' → WHr F l e s' u') := fun S3 U3 y1 y2 y3 y4 y5 y6 y7 y8 => by
      obtain ⟨v4, w4, s4, u4, d1, d2, d3, d4, d5, d6, d7, d8, d9⟩ := fx_num (B := B) (F := F) (lo := 0) (hi := 99) (r := F + 4) (o := e + 6) (l := l) (e := e) hB' hF' y1 y2 (by omega) (by omega) (by omega) hFB he.1 (by omega)
      refine ⟨_, _, by rw [d1, jb_t, lw, if_pos hl], by rw [d2, jb_t], MO_tr y3 d3, y4.tr (rFc_Ft d4), y5.tr d5, d6, fun t => ?_⟩
      obtain ⟨t3, -⟩ := MO_tw y1 d3 t
      obtain ⟨z1, z2, z3, z4, z5, z6⟩ := y6 t3
      obtain ⟨z7, z8⟩ := d7 t
      have k1 : jup s4 (F + 4) l v4 (F + 1) l = 22 := by rw [u_ne (by omega), d8 _ _ (by omega), z1]
      have k2 : jup s4 (F + 4) l v4 (F + 2) l = U3 160 (e + 1) := by rw [u_ne (by omega), d8 _ _ (by omega), z2]
      have k3 : jup s4 (F + 4) l v4 (F + 3) l = U3 160 (e + 7) := by rw [u_ne (by omega), d8 _ _ (by omega), z5]
      have p1 : jup u4 160 (e + 6) w4 160 (e + 1) = U3 160 (e + 1) := by rw [u_ne (by omega), d9 _ _ (by omega)]
      have p5 : jup u4 160 (e + 6) w4 160 (e + 5) = 1 := by rw [u_ne (by omega), d9 _ _ (by omega), y7]
      have p7 : jup u4 160 (e + 6) w4 160 (e + 7) = U3 160 (e + 7) := by rw [u_ne (by omega), d9 _ _ (by omega)]
      have c2 : jup u4 160 (e + 6) w4 160 2 = u 160 2 := by rw [u_ne (by omega), d9 _ _ (by omega), y8]
      unfold WHr
      rw [k1, k2, k3, p1, p5, p7, c2, u_eq ⟨rfl, rfl⟩, u_eq ⟨rfl, rfl⟩]
      exact ⟨rfl, z3, z4, Or.inr (Or.inl ⟨rfl, rfl, rfl, z7, z6.1, z6.2, z8.1, z8.2⟩)⟩
    -- the class's row, then the number
    have hcr : ∀ (s3 : jM) (v3 : Int), (∀ a b, a ≠ 11 → s3 a b = S2 a b) → (if (0 ≤ (w32 l) ∧ (w32 l) < 60) ∧ jok 4 ((jup s3 (F + 3) (w32 l) v3) 14 2) = true ∧ jok 5 ((jup s3 (F + 3) (w32 l) v3) 14 0) = true then jb (Te_takeNumber ((jup s3 (F + 3) (w32 l) v3) 14 0) 0 99 (jup s3 (F + 3) (w32 l) v3)) fun v4 s4 => if (0 ≤ (w32 l) ∧ (w32 l) < 60) then some ((0 : Int), (jup s4 (((jup s3 (F + 3) (w32 l) v3) 14 2) + 4) (w32 l) v4)) else none else none) = (jb (Te_takeNumber 11 0 99 (jup s3 (F + 3) l v3)) fun v4 s4 => if (0 ≤ (w32 l) ∧ (w32 l) < 60) then some ((0 : Int), (jup s4 (F + 4) (w32 l) v4)) else none) := fun s3 v3 y => by
      have y0 : jup s3 (F + 3) l v3 14 0 = 11 := by rw [u_ne (by omega), y _ _ (by omega)]; exact b6.1
      have y2 : jup s3 (F + 3) l v3 14 2 = F := by rw [u_ne (by omega), y _ _ (by omega)]; exact b6.2.2.1
      rw [lw, y0, y2, if_pos ⟨hl, jok4 hF', jok5⟩]
    rcases MO_m b3 with t2 | b2'
    · obtain ⟨z1, z2⟩ := b7 t2
      rw [g12] at z2
      have k2 := TK_5 t2.1
      have kd := t2.1.2.2.2.2.2.2.2
      have m2 := m02
      by_cases y : S2 11 4 = 3 ∧ S2 11 6 ≠ 59
      · have ks : S2 11 6 = U2 155 17 ∧ 59 ≤ S2 11 6 ∧ S2 11 6 ≤ 62 := by
          rcases kd with ⟨a, -⟩ | ⟨a, -⟩ | ⟨a, -⟩ | ⟨-, -, b⟩ | ⟨a, -⟩
          · omega
          · omega
          · omega
          · exact b
          · omega
        obtain ⟨s3, u3, c1, c2, c3, c4, c5, c6⟩ := both_adv (s := S2) (u := jup U2 160 (e + 7) (U2 155 17)) (TW_ex t2 (fun _ => rfl) (fun _ => rfl) (fun b _ => u_ne (by omega)) (fun b => u_ne (by omega)))
        have f3 : ∀ a b, a ≠ 11 → s3 a b = S2 a b := fun a b z => c5 a b (fun y => z y.1)
        have g3 : ∀ a b, a ≠ 155 → ¬ (a = 160 ∧ b = e + 7) → u3 a b = U2 a b := fun a b z z2 => by rw [c6 a b (fun y => z y.1), u_ne z2]
        have cmp : Te_takeCompare 11 S2 = some (S2 11 6, s3) := by
          rw [Te_takeCompare, y.1, if_pos (by decide), w32_id (x := S2 11 6) (by omega) (by omega), if_neg y.2, c1, jb_t]
        have t68 : Md_readTest_68 155 e 1 U2 = Md_readTest_139 155 e 1 155 (jup U2 160 (e + 7) (U2 155 17)) := by
          have is : ∀ x, 0 ≤ x ∧ x ≤ 100 → Md_isSign 155 x (jup U2 160 (e + 7) (U2 155 17)) = some (if S2 11 4 = 3 ∧ S2 11 6 = x then 1 else 0, jup U2 160 (e + 7) (U2 155 17)) := fun x hx => isSign_eq (s := S2) (TW_ex t2 (fun _ => rfl) (fun _ => rfl) (fun b _ => u_ne (by omega)) (fun b => u_ne (by omega))).1 hx
          rw [Md_readTest_68, if_neg (u12 t2.2.2), if_pos (by decide), ← k2.1, y.1, if_pos (by decide), Md_readTest_105, e7, if_pos i7]
          show (jb (Md_isSign 155 60 (jup U2 160 (e + 7) (U2 155 17))) _) = _
          rw [is 60 (by omega), jb_t, w32_if]
          by_cases y60 : S2 11 4 = 3 ∧ S2 11 6 = 60
          · rw [if_pos y60]
          · rw [if_neg y60, is 62 (by omega), jb_t, w32_if]
            by_cases y62 : S2 11 4 = 3 ∧ S2 11 6 = 62
            · rw [if_pos y62]
            · rw [if_neg y62, is 61 (by omega), jb_t, w32_if, if_pos (by omega)]
        rw [cmp, jb_t, hcr s3 _ f3, t68, r139 1 0, Md_must, u_ne (by omega), if_neg (u12 t2.2.2), if_neg (by decide), c2, jb_t, jb_t]
        have o3 := TW_3 t2 c4
        have T3 : TW (jup s3 (F + 3) l (S2 11 6)) u3 := TW_ex c3 (fun b => u_ne (by omega)) (fun b => u_ne (by omega)) (fun _ _ => rfl) (fun _ => rfl)
        have o2 : s 11 3 ≤ S2 11 3 := by
          rcases m2.1 with z | z
          · exact z.2
          · exact absurd t2 (nb_tw z)
        refine fin (jup s3 (F + 3) l (S2 11 6)) u3 (Or.inl T3) (FX_ex hB'.1 b6 (fun a b z => by rw [u_ne (by omega)]; exact f3 a b (by omega)) (fun o _ _ => g3 _ _ (by omega) (by omega)) (fun i => g3 _ _ (by omega) (by omega))) ⟨Or.inl ⟨T3, by rw [u_ne (by omega)]; omega⟩, fun b => absurd h (nb_tw b)⟩ ((E2.tr (c5.wk (fun a b z => Or.inl z))).up (Or.inr ⟨by omega, by omega, rfl⟩)) (EX.tr (G2.up (Or.inr ⟨rfl, by omega, by omega⟩)) (c6.wk (fun a b z => Or.inl z))) (fun _ => ⟨?_, ?_, ?_, ?_, ?_, ?_, ?_⟩) ?_ ?_
        · rw [u_ne (by omega), f3 _ _ (by omega), R1, q5]
        · rw [u_ne (by omega), f3 _ _ (by omega), R2, g3 _ _ (by omega) (by omega), P1]; exact z1
        · rw [g3 _ _ (by omega) (by omega), P1]; exact z2.1
        · rw [g3 _ _ (by omega) (by omega), P1]; exact z2.2
        · rw [u_eq ⟨rfl, rfl⟩, c6 _ _ (by unfold rD; omega), u_eq ⟨rfl, rfl⟩]; exact ks.1
        · rw [c6 _ _ (by unfold rD; omega), u_eq ⟨rfl, rfl⟩]; omega
        · rw [c6 _ _ (by unfold rD; omega), u_eq ⟨rfl, rfl⟩]; omega
        · rw [g3 _ _ (by omega) (by omega), P5]
        · rw [g3 _ _ (by omega) (by omega)]; exact Pc 2 (by omega)
      · -- no sign of comparing
        obtain ⟨vv, hvv⟩ : ∃ vv, vv = if S2 11 4 = 3 then U2 155 17 else 0 := ⟨_, rfl⟩
        have t3 : TW S2 (jup U2 160 (e + 7) vv) := TW_ex t2 (fun _ => rfl) (fun _ => rfl) (fun b _ => u_ne (by omega)) (fun b => u_ne (by omega))
        obtain ⟨s3, u3, c1, c2, c3, c4, c5⟩ := both_amiss t3
        have f3 : ∀ a b, a ≠ 11 → s3 a b = S2 a b := fun a b z => c4 a b (fun y => z y.1)
        have g3 : ∀ a b, a ≠ 155 → ¬ (a = 160 ∧ b = e + 7) → u3 a b = U2 a b := fun a b z z2 => by rw [c5 a b (fun y => z y.1), u_ne z2]
        have cmp : Te_takeCompare 11 S2 = some (S2 11 6, s3) := by
          rw [Te_takeCompare, w32_id (x := S2 11 4) (by omega) (by omega)]
          by_cases z3 : S2 11 4 = 3
          · have e59 : S2 11 6 = 59 := by
              by_cases z4 : S2 11 6 = 59
              · exact z4
              · exact absurd ⟨z3, z4⟩ y
            rw [if_pos z3, e59, if_pos (by decide), c1, jb_t]
          · rw [if_neg z3, c1, jb_t]
        have t68 : Md_readTest_68 155 e 1 U2 = Md_readTest_139 155 e 0 155 (jup U2 160 (e + 7) vv) := by
          have is : ∀ x, 0 ≤ x ∧ x ≤ 100 → Md_isSign 155 x (jup U2 160 (e + 7) vv) = some (if S2 11 4 = 3 ∧ S2 11 6 = x then 1 else 0, jup U2 160 (e + 7) vv) := fun x hx => isSign_eq t3.1 hx
          have h105 : Md_readTest_105 155 e vv (e + 7) (155 + 5) U2 = Md_readTest_139 155 e 0 155 (jup U2 160 (e + 7) vv) := by
            rw [Md_readTest_105, e7, if_pos i7]
            show (jb (Md_isSign 155 60 (jup U2 160 (e + 7) vv)) _) = _
            rw [is 60 (by omega), jb_t, w32_if, if_neg (by omega), is 62 (by omega), jb_t, w32_if, if_neg (by omega), is 61 (by omega), jb_t, w32_if, if_neg (by omega)]
          rw [Md_readTest_68, if_neg (u12 t2.2.2), if_pos (by decide), ← k2.1, w32_id (x := S2 11 4) (by omega) (by omega)]
          by_cases z3 : S2 11 4 = 3
          · rw [if_pos z3] at hvv
            subst hvv
            rw [if_pos z3]
            exact h105
          · rw [if_neg z3] at hvv
            subst hvv
            rw [if_neg z3]
            exact h105
        rw [cmp, jb_t, hcr s3 _ f3, t68, r139 0 0, Md_must, u_ne (by omega), if_neg (u12 t2.2.2), if_pos (by decide), c2, jb_t, jb_t]
        have b3' : BD (jup s3 (F + 3) l (S2 11 6)) u3 := BD_ex c3 (fun b => u_ne (by omega)) (fun b => u_ne (by omega)) ⟨rfl, rfl⟩
        exact fin (jup s3 (F + 3) l (S2 11 6)) u3 (Or.inr b3') (FX_ex hB'.1 b6 (fun a b z => by rw [u_ne (by omega)]; exact f3 a b (by omega)) (fun o _ _ => g3 _ _ (by omega) (by omega)) (fun i => g3 _ _ (by omega) (by omega))) ⟨Or.inr b3', fun b => absurd h (nb_tw b)⟩ ((E2.tr (c4.wk (fun a b z => Or.inl z))).up (Or.inr ⟨by omega, by omega, rfl⟩)) (EX.tr (G2.up (Or.inr ⟨rfl, by omega, by omega⟩)) (c5.wk (fun a b z => Or.inl z))) (fun t => absurd t (nb_tw b3')) (by rw [g3 _ _ (by omega) (by omega), P5]) (by rw [g3 _ _ (by omega) (by omega)]; exact Pc 2 (by omega))
    · obtain ⟨v3, s3, c1, c2, c3⟩ := SB_cmp (bdb b2') (BD_SB b2')
      have f3 : ∀ a b, a ≠ 11 → s3 a b = S2 a b := fun a b z => c3 a b (fun y => z y.1)
      have b3' : BD (jup s3 (F + 3) l v3) U2 := BD_ex (SB_BD c2 (bdb b2')) (fun b => u_ne (by omega)) (fun b => u_ne (by omega)) ⟨rfl, rfl⟩
      obtain ⟨v4, s4, d1, d2, d3⟩ := SB_num (bdb b3') 0 99 (BD_SB b3')
      have f4 : ∀ a b, a ≠ 11 → s4 a b = jup s3 (F + 3) l v3 a b := fun a b z => d3 a b (fun y => z y.1)
      rw [c1, jb_t, hcr s3 _ f3, d1, jb_t, lw, if_pos hl, Md_readTest_68, if_pos (bd12 (bdb b2'))]
      have b4' : BD (jup s4 (F + 4) l v4) U2 := BD_ex (SB_BD d2 (bdb b3')) (fun b => u_ne (by omega)) (fun b => u_ne (by omega)) ⟨rfl, rfl⟩
      refine ⟨_, _, rfl, rfl, ⟨Or.inr b4', fun b => absurd h (nb_tw b)⟩, ?_, G2, FX_ex hB'.1 b6 (fun a b z => by rw [u_ne (by omega), f4 a b (by omega), u_ne (by omega)]; exact f3 a b (by omega)) (fun _ _ _ => rfl) (fun _ => rfl), fun t => absurd t (nb_tw b4')⟩
      exact EX.up (EX.tr (EX.up (E2.tr (c3.wk (fun a b z => Or.inl z))) (Or.inr ⟨by omega, by omega, rfl⟩)) (d3.wk (fun a b z => Or.inl z))) (Or.inr ⟨by omega, by omega, rfl⟩)
  · subst qw
    rw [if_neg (by omega), if_pos q5, if_pos rfl]
    obtain ⟨v2, w2, s3, u3, d1, d2, d3, d4, d5, d6, d7, d8, d9⟩ := fx_thing (B := B) (F := F) (t := 1) (r := F + 3) (o := e + 2) (l := l) (e := e) hB' hF' (MO_m b3) b6 (by omega) (by omega) hFB he.1 (by omega)
    rw [d1, jb_t, d2, jb_t, r68 2 (by omega) (by omega)]
    refine ⟨_, _, rfl, rfl, MO_tr m02 d3, E2.tr (rFc_Ft d4), G2.tr d5, d6, fun t => ?_⟩
    obtain ⟨t2, -⟩ := MO_tw (MO_m b3) d3 t
    obtain ⟨z1, z2⟩ := b7 t2
    obtain ⟨z3, z4⟩ := d7 t
    have k1 : jup s3 (F + 3) l v2 (F + 1) l = 12 := by rw [u_ne (by omega), d8 _ _ (by omega), R1, q5]
    have k2 : jup s3 (F + 3) l v2 (F + 2) l = v := by rw [u_ne (by omega), d8 _ _ (by omega), R2]
    have p1 : jup u3 160 (e + 2) w2 160 (e + 1) = w1 := by rw [u_ne (by omega), d9 _ _ (by omega), P1]
    have p5 : jup u3 160 (e + 2) w2 160 (e + 5) = 2 := by rw [u_ne (by omega), d9 _ _ (by omega), P5]
    have c2 : jup u3 160 (e + 2) w2 160 2 = u 160 2 := by rw [u_ne (by omega), d9 _ _ (by omega)]; exact Pc 2 (by omega)
    have c1 : jup u3 160 (e + 2) w2 160 1 = u 160 1 := by rw [u_ne (by omega), d9 _ _ (by omega)]; exact Pc 1 (by omega)
    unfold WHr
    rw [k1, k2, p1, p5, c2, c1, u_eq ⟨rfl, rfl⟩, u_eq ⟨rfl, rfl⟩]
    rw [g12] at z2
    rw [Pc 1 (by omega)] at z4
    exact ⟨z1, z2.1, z2.2, Or.inr (Or.inr ⟨rfl, rfl, z3, z4.1, z4.2⟩)⟩
