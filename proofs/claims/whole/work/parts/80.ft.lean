/-! feasts: what stands behind the word of a test -/
def rFt (F l a b : Int) : Prop := (a = 11 ∧ 2 ≤ b ∧ b ≤ 9) ∨ (F + 1 ≤ a ∧ a ≤ F + 4 ∧ b = l)
def WHr (F l e : Int) (s u : jM) : Prop := s (F + 2) l = u 160 (e + 1) ∧ 0 ≤ u 160 (e + 1) ∧ u 160 (e + 1) < u 160 2 ∧ ((u 160 (e + 5) = 0 ∧ s (F + 1) l = 21) ∨ (u 160 (e + 5) = 1 ∧ s (F + 1) l = 22 ∧ s (F + 3) l = u 160 (e + 7) ∧ s (F + 4) l = u 160 (e + 6) ∧ 60 ≤ u 160 (e + 7) ∧ u 160 (e + 7) ≤ 62 ∧ 0 ≤ u 160 (e + 6) ∧ u 160 (e + 6) ≤ 99) ∨ (u 160 (e + 5) = 2 ∧ s (F + 1) l = 12 ∧ s (F + 3) l = u 160 (e + 2) ∧ 0 ≤ u 160 (e + 2) ∧ u 160 (e + 2) < u 160 1))
theorem rFc_Ft {F l : Int} {s t : jM} (h : EX (rFc F l) s t) : EX (rFt F l) s t := h.wk (fun a b q => q.imp id (fun z => ⟨by omega, z.2.1, z.2.2⟩))
theorem test_both {B F l e : Int} (hB : B = 30 ∨ B = 55) (hF : (B = 30 ∧ F = 64) ∨ (B = 55 ∧ F = 39)) {s u : jM} (h : TW s u) (hx : FX B F s u) (hl : 0 ≤ l ∧ l < 60) (he : 1635 ≤ e ∧ e + 8 < 1905) : ∃ s' u', Fr_takeTest 14 (s 11 5) l s = some (0, s') ∧ Md_readTest 155 e u = some (0, u') ∧ MO s u s' u' ∧ EX (rFt F l) s s' ∧ EX (rFr e) u u' ∧ FX B F s' u' ∧ (TW s' u' → WHr F l e s' u') := by
  have hF' : F = 39 ∨ F = 64 := by omega
  have hB' : 30 ≤ B ∧ B ≤ 55 := by omega
  have hFB : B + 8 < F ∨ F + 5 < B := by omega
  have lw : w32 l = l := w32_id (by omega) (by omega)
  have e1 : w32 (e + 1) = e + 1 := w32_id (by omega) (by omega)
  have e2 : w32 (e + 2) = e + 2 := w32_id (by omega) (by omega)
  have e5 : w32 (e + 5) = e + 5 := w32_id (by omega) (by omega)
  have e6 : w32 (e + 6) = e + 6 := w32_id (by omega) (by omega)
  have e7 : w32 (e + 7) = e + 7 := w32_id (by omega) (by omega)
  have i1 : 0 ≤ e + 1 ∧ e + 1 < 1905 := by omega
  have i2 : 0 ≤ e + 2 ∧ e + 2 < 1905 := by omega
  have i5 : 0 ≤ e + 5 ∧ e + 5 < 1905 := by omega
  have i6 : 0 ≤ e + 6 ∧ e + 6 < 1905 := by omega
  have i7 : 0 ≤ e + 7 ∧ e + 7 < 1905 := by omega
  have k5 := TK_5 h.1
  have w5 : w32 (s 11 5) = s 11 5 := w32_id (by omega) (by omega)
  have tw := testWord_eq h.1
  obtain ⟨x0, x1, x2, x3⟩ := hx
  have hx : FX B F s u := ⟨x0, x1, x2, x3⟩
  -- class, reference
  have hc : Fr_takeTest 14 (s 11 5) l s = if s 11 5 = 21 ∨ s 11 5 = 22 ∨ s 11 5 = 12 then Fr_takeTest_27 14 (s 11 5) l s else (jb (Te_fail 11 2 s) fun v6 s6 => some (0, s6)) := by
    rw [Fr_takeTest, w5, x0, if_pos jok5]
    by_cases q1 : s 11 5 = 21
    · rw [if_pos q1, if_pos (Or.inl q1)]
    by_cases q2 : s 11 5 = 22
    · rw [if_neg q1, if_pos q2, if_pos (Or.inr (Or.inl q2))]
    by_cases q3 : s 11 5 = 12
    · rw [if_neg q1, if_neg q2, if_pos q3, if_pos (Or.inr (Or.inr q3))]
    · rw [if_neg q1, if_neg q2, if_neg q3, if_neg (by omega)]
  have r15 : ∀ (w b : Int), Md_readTest_15 155 e w b 155 u = jb (Md_must 155 b u) fun v6 s6 => if 0 < (w32 ((jup s6 160 (e + 5) w) 155 12)) then (some (0, (jup s6 160 (e + 5) w))) else (jb (Md_readTold 155 0 2 (jup s6 160 (e + 5) w)) fun v7 s7 => if (w32 w) = 2 then (jb (Md_readTold 155 0 1 (jup s7 160 (e + 1) v7)) fun v8 s8 => Md_readTest_68 155 e w (jup s8 160 (e + 2) v8)) else (Md_readTest_68 155 e w (jup s7 160 (e + 1) v7))) := fun w b => by
    rw [Md_readTest_15, e5, e1, e2]
    simp only [if_pos i5, if_pos i1, if_pos i2]
    rfl
  by_cases q : s 11 5 = 21 ∨ s 11 5 = 22 ∨ s 11 5 = 12
  rotate_left
  · obtain ⟨s', u', a1, a2, a3, a4, a5⟩ := both_amiss h
    refine ⟨s', jup u' 160 (e + 5) (-1), ?_, ?_, ⟨Or.inr (BD_ex a3 (fun _ => rfl) (fun _ => rfl) ⟨u_ne (by omega), u_ne (by omega)⟩), fun b => absurd h (nb_tw b)⟩, a4.wk (fun a b q => Or.inl q), (a5.wk (fun a b q => Or.inl q)).up (Or.inr ⟨rfl, by omega, by omega⟩), FX_ex hB'.1 hx (fun a b q => a4 a b (by unfold rC; omega)) (fun o o1 o2 => by rw [u_ne (by omega)]; exact a5 _ _ (by unfold rD; omega)) (fun i => by rw [u_ne (by omega)]; exact a5 _ _ (by unfold rD; omega)), fun t => absurd t (nb_tw (BD_ex a3 (fun _ => rfl) (fun _ => rfl) ⟨u_ne (by omega), u_ne (by omega)⟩))⟩
    · rw [hc, if_neg q, a1, jb_t]
    · rw [Md_readTest, tw, jb_t, if_neg (by omega), if_neg (by omega), if_neg (by omega), if_pos (by decide), r15, Md_must, if_neg (u12 h.2.2), if_pos (by decide), a2, jb_t, jb_t, u_ne (by omega), if_pos (bd12 (bdb a3))]
  -- a test that there is
  obtain ⟨S, hS⟩ : ∃ S, S = jup s (F + 1) l (s 11 5) := ⟨_, rfl⟩
  have tS : TW S u := TW_ex h (fun b => by rw [hS, u_ne (by omega)]) (fun b => by rw [hS, u_ne (by omega)]) (fun _ _ => rfl) (fun _ => rfl)
  obtain ⟨s1, u1, a1, a2, a3, a4, a5, a6⟩ := both_adv tS
  obtain ⟨w, hw⟩ : ∃ w, w = if s 11 5 = 21 then 0 else if s 11 5 = 22 then 1 else if s 11 5 = 12 then 2 else -1 := ⟨_, rfl⟩
  have wb : (s 11 5 = 21 ∧ w = 0) ∨ (s 11 5 = 22 ∧ w = 1) ∨ (s 11 5 = 12 ∧ w = 2) := by
    rcases q with q | q | q
    · rw [q] at hw
      exact Or.inl ⟨q, hw⟩
    · rw [q] at hw
      exact Or.inr (Or.inl ⟨q, hw⟩)
    · rw [q] at hw
      exact Or.inr (Or.inr ⟨q, hw⟩)
  rw [← hw] at tw
  clear hw
  obtain ⟨U1, hU1⟩ : ∃ U1, U1 = jup u1 160 (e + 5) w := ⟨_, rfl⟩
  have t1 : TW s1 U1 := TW_ex a3 (fun _ => rfl) (fun _ => rfl) (fun b _ => by rw [hU1, u_ne (by omega)]) (fun b => by rw [hU1, u_ne (by omega)])
  have f1 : ∀ a b, a ≠ 11 → s1 a b = S a b := fun a b z => a5 a b (fun y => z y.1)
  have g1 : ∀ a b, a ≠ 155 → ¬ (a = 160 ∧ b = e + 5) → U1 a b = u a b := fun a b z z2 => by rw [hU1, u_ne z2]; exact a6 a b (fun y => z y.1)
  have X1 : FX B F s1 U1 := FX_ex hB'.1 hx (fun a b q => by rw [f1 a b (by omega), hS, u_ne (by omega)]) (fun o o1 o2 => g1 _ _ (by omega) (by omega)) (fun i => g1 _ _ (by omega) (by omega))
  obtain ⟨v, w1, s2, u2, b1, b2, b3, b4, b5, b6, b7, b8, b9⟩ := fx_thing (B := B) (F := F) (t := 2) (r := F + 2) (o := e + 1) (l := l) (e := e) hB' hF' (Or.inl t1) X1 (by omega) (by omega) hFB he.1 (by omega)
  obtain ⟨S2, hS2⟩ : ∃ S2, S2 = jup s2 (F + 2) l v := ⟨_, rfl⟩
  obtain ⟨U2, hU2⟩ : ∃ U2, U2 = jup u2 160 (e + 1) w1 := ⟨_, rfl⟩
  rw [← hS2, ← hU2] at b3 b6 b7
  rw [← hS2] at b4
  rw [← hU2] at b5
  have m02 : MO s u S2 U2 := by
    refine ⟨?_, fun b => absurd h (nb_tw b)⟩
    rcases b3.1 with ⟨y1, y2⟩ | y
    · have o1 := TW_3 tS a4
      have o2 : S 11 3 = s 11 3 := by rw [hS, u_ne (by omega)]
      exact Or.inl ⟨y1, by omega⟩
    · exact Or.inr y
  have E2 : EX (rFt F l) s S2 := by
    refine EX.tr ?_ (rFc_Ft b4)
    rw [hS] at a5
    exact EX.tr ((EX.rf _ _).up (Or.inr ⟨by omega, by omega, rfl⟩)) (a5.wk (fun a b q => Or.inl q))
  have G2 : EX (rFr e) u U2 := by
    refine EX.tr ?_ b5
    rw [hU1]
    exact (a6.wk (fun a b q => Or.inl q)).up (Or.inr ⟨rfl, by omega, by omega⟩)
  have hc2 : Fr_takeTest 14 (s 11 5) l s = if s 11 5 = 22 then (jb (Te_takeCompare 11 S2) fun v3 s3 => if (0 ≤ (w32 l) ∧ (w32 l) < 60) ∧ jok 4 ((jup s3 (F + 3) (w32 l) v3) 14 2) = true ∧ jok 5 ((jup s3 (F + 3) (w32 l) v3) 14 0) = true then jb (Te_takeNumber ((jup s3 (F + 3) (w32 l) v3) 14 0) 0 99 (jup s3 (F + 3) (w32 l) v3)) fun v4 s4 => if (0 ≤ (w32 l) ∧ (w32 l) < 60) then some (0, (jup s4 (((jup s3 (F + 3) (w32 l) v3) 14 2) + 4) (w32 l) v4)) else none else none) else if s 11 5 = 12 then (jb (Te_takeThing 11 B 1 S2) fun v5 s5 => some (0, jup s5 (F + 3) l v5)) else some (0, S2) := by
    have y0 : s1 14 0 = 11 := by rw [f1 _ _ (by omega), hS, u_ne (by omega)]; exact x0
    have y1 : s1 14 1 = B := by rw [f1 _ _ (by omega), hS, u_ne (by omega)]; exact x1
    have y2 : s1 14 2 = F := by rw [f1 _ _ (by omega), hS, u_ne (by omega)]; exact x2
    have y3 : S 14 0 = 11 := by rw [hS, u_ne (by omega)]; exact x0
    rw [hc, if_pos q, Fr_takeTest_27, lw, x2, ← hS, y3, if_pos ⟨jok4 hF', hl, jok5⟩, a1, jb_t, y0, y1, y2, if_pos ⟨jok4 hF', jok5, jok3 hB⟩, b1, jb_t, if_pos hl, ← hS2, w5, b6.1, b6.2.1, b6.2.2.1, if_pos ⟨jok4 hF', jok5⟩, if_pos ⟨jok4 hF', jok5, jok3 hB⟩]
    by_cases z : s 11 5 = 22
    · rw [if_pos z, if_pos z]
    · rw [if_neg z, if_neg z]
      by_cases z2 : s 11 5 = 12
      · rw [if_pos z2, if_pos z2]
        simp only [if_pos hl]
      · rw [if_neg z2, if_neg z2]
  have hr2 : Md_readTest 155 e u = if w = 2 then (jb (Md_readTold 155 0 1 U2) fun v8 s8 => Md_readTest_68 155 e w (jup s8 160 (e + 2) v8)) else Md_readTest_68 155 e w U2 := by
    have ww : w32 w = w := w32_id (by omega) (by omega)
    rw [Md_readTest, tw, jb_t, ww, if_neg (by omega), r15, Md_must, if_neg (u12 h.2.2), if_neg (by decide), a2, jb_t, jb_t, ← hU1, if_neg (u12 t1.2.2), b2, jb_t, ww, ← hU2]
  rw [hc2, hr2]
  clear hc hc2 hr2 r15
  have R1 : S2 (F + 1) l = s 11 5 := by rw [hS2, u_ne (by omega), b8 _ _ (by omega), f1 _ _ (by omega), hS, u_eq ⟨rfl, rfl⟩]
  have R2 : S2 (F + 2) l = v := by rw [hS2, u_eq ⟨rfl, rfl⟩]
  have P1 : U2 160 (e + 1) = w1 := by rw [hU2, u_eq ⟨rfl, rfl⟩]
  have P5 : U2 160 (e + 5) = w := by rw [hU2, u_ne (by omega), b9 _ _ (by omega), hU1, u_eq ⟨rfl, rfl⟩]
  have Pc : ∀ o, o ≤ 2 → U2 160 o = u 160 o := fun o z => by rw [hU2, u_ne (by omega), b9 _ _ (by omega)]; exact g1 _ _ (by omega) (by omega)
  have g12 : U1 160 2 = u 160 2 := g1 _ _ (by omega) (by omega)
  have r68 : ∀ w', ¬ w' = 1 → (w' = 0 ∨ w' = 2) → ∀ U, Md_readTest_68 155 e w' U = some (0, U) := fun w' z z2 U => by
    rw [Md_readTest_68]
    split
    · rfl
    · rw [w32_id (x := w') (by omega) (by omega), if_neg z]
  rcases wb with ⟨q5, qw⟩ | ⟨q5, qw⟩ | ⟨q5, qw⟩
  · subst qw
    rw [if_neg (by omega), if_neg (by omega), if_neg (by omega), r68 0 (by omega) (by omega)]
    refine ⟨S2, U2, rfl, rfl, m02, E2, G2, b6, fun t => ?_⟩
    obtain ⟨z1, z2⟩ := b7 t
    unfold WHr
    rw [R1, R2, P1, P5, Pc 2 (by omega)]
    rw [g12] at z2
    exact ⟨z1, z2.1, z2.2, Or.inl ⟨rfl, q5⟩⟩
  · subst qw
    rw [if_pos q5, if_neg (by omega)]
    sorry
  · subst qw
    rw [if_neg (by omega), if_pos q5, if_pos rfl]
    obtain ⟨v2, w2, s3, u3, d1, d2, d3, d4, d5, d6, d7, d8, d9⟩ := fx_thing (B := B) (F := F) (t := 1) (r := F + 3) (o := e + 2) (l := l) (e := e) hB' hF' (MO_m b3) b6 (by omega) (by omega) hFB he.1 (by omega)
    rw [d1, jb_t, d2, jb_t, r68 2 (by omega) (by omega)]
    refine ⟨_, _, rfl, rfl, MO_tr m02 d3, E2.tr (rFc_Ft d4), G2.tr d5, d6, fun t => ?_⟩
    obtain ⟨t2, -⟩ := MO_tw (MO_m b3) d3 t
    obtain ⟨z1, z2⟩ := b7 t2
    obtain ⟨z3, z4⟩ := d7 t
    have k1 : jup s3 (F + 3) l v2 (F + 1) l = 12 := by rw [u_ne (by omega), d8 _ _ (by omega), R1, q5]
    have k2 : jup s3 (F + 3) l v2 (F + 2) l = v := by rw [u_ne (by omega), d8 _ _ (by omega), R2]
    have p1 : jup u3 160 (e + 2) w2 160 (e + 1) = w1 := by rw [u_ne (by omega), d9 _ _ (by omega), P1]
    have p5 : jup u3 160 (e + 2) w2 160 (e + 5) = 2 := by rw [u_ne (by omega), d9 _ _ (by omega), P5]
    have c2 : jup u3 160 (e + 2) w2 160 2 = u 160 2 := by rw [u_ne (by omega), d9 _ _ (by omega)]; exact Pc 2 (by omega)
    have c1 : jup u3 160 (e + 2) w2 160 1 = u 160 1 := by rw [u_ne (by omega), d9 _ _ (by omega)]; exact Pc 1 (by omega)
    unfold WHr
    rw [k1, k2, p1, p5, c2, c1, u_eq ⟨rfl, rfl⟩, u_eq ⟨rfl, rfl⟩]
    rw [g12] at z2
    rw [Pc 1 (by omega)] at z4
    exact ⟨z1, z2.1, z2.2, Or.inr (Or.inr ⟨rfl, rfl, z3, z4.1, z4.2⟩)⟩
