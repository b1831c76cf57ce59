/-! the whole step -/
def r15 (a b : Int) : Prop := a = 155 ∧ b = 15
theorem skip_eq {L : Int} (hL : L ≤ 900) : ∀ (d f f2 : Nat) (p : Int) (s u : jM), p + d = L → 0 ≤ p → d < f → d < f2 → s 11 1 = L → u 155 9 = L → u 155 15 = p → (∀ i, 0 ≤ i → i < L → s 12 i = u 159 i ∧ -128 ≤ s 12 i ∧ s 12 i ≤ 127) → ∃ (e : Int) (u' : jM), p ≤ e ∧ e ≤ L ∧ Te_advance_5 f 11 p s = Te_advance_41 11 e s ∧ Md_advance_8 f2 155 u = Md_advance_58 155 u' ∧ EX r15 u u' ∧ u' 155 15 = e := by
  intro d
  induction d with
  | zero =>
    intro f f2 p s u h1 h0 h2 h3 h4 h6 h7 h9
    obtain ⟨f, rfl⟩ : ∃ g, f = g + 1 := ⟨f - 1, by omega⟩
    obtain ⟨f2, rfl⟩ : ∃ g, f2 = g + 1 := ⟨f2 - 1, by omega⟩
    exact ⟨p, u, Int.le_refl _, by omega, by rw [Te_advance_5, h4, w32_id (x := p) (by omega) (by omega), w32_id (x := L) (by omega) (by omega), if_neg (by omega)], by rw [Md_advance_8, h6, h7, w32_id (x := p) (by omega) (by omega), w32_id (x := L) (by omega) (by omega), if_neg (by omega)], EX.rf _ _, h7⟩
  | succ d ih =>
    intro f f2 p s u h1 h0 h2 h3 h4 h6 h7 h9
    obtain ⟨f, rfl⟩ : ∃ g, f = g + 1 := ⟨f - 1, by omega⟩
    obtain ⟨f2, rfl⟩ : ∃ g, f2 = g + 1 := ⟨f2 - 1, by omega⟩
    have c2 : p < L := by omega
    have c3 : 0 ≤ p ∧ p < 900 := by omega
    obtain ⟨b1, b2, b3⟩ := h9 p h0 c2
    obtain ⟨b, hb⟩ : ∃ b, b = s 12 p := ⟨_, rfl⟩
    rw [← hb] at b1 b2 b3
    have lk := look_eq hL h6 ⟨h0, c2⟩ b1.symm ⟨b2, b3⟩
    have hc : Te_advance_5 (f + 1) 11 p s = if b = 10 ∨ b = 32 then Te_advance_5 f 11 (p + 1) s else Te_advance_41 11 p s := by
      rw [Te_advance_5, h4, w32_id (x := p) (by omega) (by omega), w32_id (x := L) (by omega) (by omega), if_pos c2, if_pos c3]
      show (if w32 (s 12 p) = 10 then _ else if _ then (if w32 (s 12 p) = 32 then _ else _) else none) = _
      rw [← hb, w32_id (x := b) (by omega) (by omega), if_pos c3]
      by_cases q1 : b = 10
      · rw [if_pos q1, if_pos (Or.inl q1)]
      · rw [if_neg q1]
        by_cases q2 : b = 32
        · rw [if_pos q2, if_pos (Or.inr q2)]
        · rw [if_neg q2, if_neg (by omega)]
    have hr : Md_advance_8 (f2 + 1) 155 u = if b = 10 ∨ b = 32 then Md_advance_8 f2 155 (jup u 155 15 (p + 1)) else Md_advance_58 155 u := by
      rw [Md_advance_8, h6, h7, w32_id (x := p) (by omega) (by omega), w32_id (x := L) (by omega) (by omega), if_pos c2, lk, jb_t, h7, lk, jb_t, h7, w32_ub ⟨b2, b3⟩]
      by_cases q1 : b = 10
      · rw [if_pos (c := b = 10 ∨ b = 32) (Or.inl q1), if_pos (by unfold ub; rw [if_neg (by omega)]; exact q1)]
      · rw [if_neg (by unfold ub; split <;> omega)]
        by_cases q2 : b = 32
        · rw [if_pos (c := b = 10 ∨ b = 32) (Or.inr q2), if_pos (by unfold ub; rw [if_neg (by omega)]; exact q2)]
        · rw [if_neg (c := b = 10 ∨ b = 32) (by omega), if_neg (by unfold ub; split <;> omega)]
    rw [hc, hr]
    by_cases q : b = 10 ∨ b = 32
    · rw [if_pos q, if_pos q]
      obtain ⟨e, u', e1, e2, e3, e4, e5, e6⟩ := ih f f2 (p + 1) s (jup u 155 15 (p + 1)) (by omega) (by omega) (by omega) (by omega) h4 (by rw [u_ne (by omega)]; exact h6) (u_eq ⟨rfl, rfl⟩) (fun i i1 i2 => by rw [u_ne (by omega)]; exact h9 i i1 i2)
      exact ⟨e, u', by omega, e2, e3, e4, ((EX.rf _ _).up ⟨rfl, rfl⟩).tr e5, e6⟩
    · rw [if_neg q, if_neg q]
      exact ⟨p, u, Int.le_refl _, by omega, rfl, rfl, EX.rf _ _, h7⟩
theorem adv_eq {s u : jM} (hs : SFT s) (ht : TXT s u) : ∃ s' u', Te_advance 11 s = some (0, s') ∧ Md_advance 155 u = some (0, u') ∧ TK s' u' ∧ EX rT s s' ∧ EX rU u u' ∧ s 11 2 ≤ s' 11 3 := by
  obtain ⟨k1, k2, k3, k4, k5⟩ := hs
  obtain ⟨t1, t2, t3⟩ := ht
  obtain ⟨L, hL⟩ : ∃ L, L = s 11 1 := ⟨_, rfl⟩
  rw [← hL] at k1 k2 k4 k5 t1 t3
  have hby : ∀ i, 0 ≤ i → i < L → s 12 i = u 159 i ∧ -128 ≤ s 12 i ∧ s 12 i ≤ 127 := fun i i1 i2 => ⟨t3 i i1 i2, k5 i i1 i2⟩
  have f0 : (L - s 11 2).toNat < jFU := Nat.lt_of_lt_of_le (m := 1000) (by omega) (jFU_ge (by decide))
  obtain ⟨p, v, p1, p2, p3, p4, p5, p6⟩ := skip_eq k2 (L - s 11 2).toNat jFU jFU (s 11 2) s (jup u 155 15 (u 155 16)) (by omega) k3 f0 f0 hL.symm (by rw [u_ne (by omega)]; exact t1.symm) (by rw [u_eq ⟨rfl, rfl⟩]; exact t2.symm) (fun i i1 i2 => by rw [u_ne (by omega)]; exact hby i i1 i2)
  have hA : Te_advance 11 s = Te_advance_41 11 p s := p3
  have hB : Md_advance 155 u = Md_advance_58 155 v := p4
  have ve : ∀ a b, ¬ (a = 155 ∧ b = 15) → v a b = u a b := fun a b q => by rw [p5 a b q, u_ne q]
  have v9 : v 155 9 = L := by rw [ve _ _ (by omega)]; exact t1.symm
  have vt : ∀ i, v 159 i = u 159 i := fun i => ve _ _ (by omega)
  clear p3 p4 p5
  rw [hA, hB]
  clear hA hB
  have vU : EX rU u v := fun a b q => ve a b (fun z => q ⟨z.1, by omega, by omega⟩)
  obtain ⟨U, hU⟩ : ∃ U, U = jup v 155 16 p := ⟨_, rfl⟩
  have UU : EX rU u U := by rw [hU]; exact vU.up ⟨rfl, by omega, by omega⟩
  have U9 : U 155 9 = L := by rw [hU, u_ne (by omega)]; exact v9
  have U15 : U 155 15 = p := by rw [hU, u_ne (by omega)]; exact p6
  have U16 : U 155 16 = p := by rw [hU]; exact u_eq ⟨rfl, rfl⟩
  have Ut : ∀ i, U 159 i = u 159 i := fun i => by rw [hU, u_ne (by omega), vt]
  have hr0 : Md_advance_58 155 v = if p < L then (jb (Md_look2 155 p U) fun v7 s7 => jb (Md_isLetter v7 s7) fun v8 s8 => if (w32 v8) = 0 then (jb (Md_isDigit v7 s8) fun v9 s9 => if (w32 v9) = 0 then (jb (Md_isSignByte 155 v7 (jup (jup s9 155 16 ((s9 155 15) + 1)) 155 17 v7)) fun v10 s10 => if (w32 v10) = 0 then (some (0, (jup s10 155 14 4))) else (some (0, (jup s10 155 14 3)))) else (Md_advance_210 jFU 155 (jup s9 155 17 0))) else (Md_advance_109 jFU 155 (jup (jup s8 155 14 1) 155 19 0))) else some (0, jup U 155 14 0) := by
    rw [Md_advance_58, p6, ← hU, U9, U15, w32_id (x := p) (by omega) (by omega), w32_id (x := L) (by omega) (by omega)]
  rw [hr0]
  clear hr0
  have tkm : ∀ {s' u' : jM}, EX rT s s' → EX rU u u' → (p ≤ s' 11 2 ∧ s' 11 2 ≤ L) → s' 11 2 = u' 155 16 → s' 11 3 = p → u' 155 15 = p → s' 11 4 = u' 155 14 → (s' 11 4 ≠ 0 → p < s' 11 2) → KDR s' u' → TK s' u' := fun {s' u'} a1 a2 a3 a4 a5 a6 a7 a8 a9 => by
    have b1 : s' 11 1 = L := by rw [a1 _ _ (by unfold rT; omega)]; exact hL.symm
    have b2 : u' 155 9 = L := by rw [a2 _ _ (by unfold rU; omega)]; exact t1.symm
    have b3 : ∀ i, s' 12 i = s 12 i := fun i => a1 _ _ (by unfold rT; omega)
    have b4 : ∀ i, u' 159 i = u 159 i := fun i => a2 _ _ (by unfold rU; omega)
    refine ⟨⟨by omega, by omega, by omega, by omega, fun i i1 i2 => by rw [b3]; exact k5 i i1 (by omega)⟩, ⟨by rw [b1, b2], a4, fun i i1 i2 => by rw [b3, b4]; exact t3 i i1 (by omega)⟩, by rw [a5, a6], by omega, by omega, fun z => by rw [a5]; exact a8 z, a7, a9⟩
  by_cases q0 : p < L
  rotate_left
  · rw [if_neg q0]
    have pe : p = L := by omega
    obtain ⟨S, hS⟩ : ∃ S, S = jup (jup (jup (jup (jup (jup s 11 3 p) 11 5 (-1)) 11 7 0) 11 6 0) 11 4 0) 11 2 p := ⟨_, rfl⟩
    have hcl : Te_advance_41 11 p s = some (0, S) := by
      rw [Te_advance_41, u_ne (by omega), u_ne (by omega), u_ne (by omega), ← hL, w32_id (x := p) (by omega) (by omega), w32_id (x := L) (by omega) (by omega), if_neg q0, Te_advance_75, u_ne (by omega), u_ne (by omega), u_ne (by omega), u_ne (by omega), ← hL, w32_id (x := p) (by omega) (by omega), w32_id (x := L) (by omega) (by omega), if_neg q0, hS]
    have sE : EX rT s S := by
      rw [hS]
      exact ((((((EX.rf _ _).up ⟨rfl, by omega, by omega⟩).up ⟨rfl, by omega, by omega⟩).up ⟨rfl, by omega, by omega⟩).up ⟨rfl, by omega, by omega⟩).up ⟨rfl, by omega, by omega⟩).up ⟨rfl, by omega, by omega⟩
    have S2 : S 11 2 = p := by rw [hS]; exact u_eq ⟨rfl, rfl⟩
    have S3 : S 11 3 = p := by rw [hS, u_ne (by omega), u_ne (by omega), u_ne (by omega), u_ne (by omega), u_ne (by omega), u_eq ⟨rfl, rfl⟩]
    have S4 : S 11 4 = 0 := by rw [hS, u_ne (by omega), u_eq ⟨rfl, rfl⟩]
    have S5 : S 11 5 = -1 := by rw [hS, u_ne (by omega), u_ne (by omega), u_ne (by omega), u_ne (by omega), u_eq ⟨rfl, rfl⟩]
    refine ⟨S, jup U 155 14 0, hcl, rfl, tkm sE (UU.up ⟨rfl, by omega, by omega⟩) (by omega) (by rw [S2, u_ne (by omega), U16]) S3 (by rw [u_ne (by omega)]; exact U15) (by rw [S4, u_eq ⟨rfl, rfl⟩]) (fun z => absurd S4 z) (Or.inl ⟨S4, S5⟩), sE, UU.up ⟨rfl, by omega, by omega⟩, by omega⟩
  rw [if_pos q0]
  obtain ⟨b1, b2, b3⟩ := hby p (by omega) q0
  obtain ⟨b, hb⟩ : ∃ b, b = s 12 p := ⟨_, rfl⟩
  rw [← hb] at b1 b2 b3
  have c3 : 0 ≤ p ∧ p < 900 := by omega
  rw [look_eq k2 U9 ⟨by omega, q0⟩ (by rw [Ut]; exact b1.symm) ⟨b2, b3⟩, jb_t, Md_isLetter, w32_ub ⟨b2, b3⟩]
  obtain ⟨S, hS⟩ : ∃ S, S = jup (jup (jup (jup s 11 3 p) 11 5 (-1)) 11 7 0) 11 6 b := ⟨_, rfl⟩
  have sE : EX rT s S := by
    rw [hS]
    exact ((((EX.rf _ _).up ⟨rfl, by omega, by omega⟩).up ⟨rfl, by omega, by omega⟩).up ⟨rfl, by omega, by omega⟩).up ⟨rfl, by omega, by omega⟩
  have S1 : S 11 1 = L := by rw [sE _ _ (by unfold rT; omega)]; exact hL.symm
  have S3 : S 11 3 = p := by rw [hS, u_ne (by omega), u_ne (by omega), u_ne (by omega), u_eq ⟨rfl, rfl⟩]
  have S5 : S 11 5 = -1 := by rw [hS, u_ne (by omega), u_ne (by omega), u_eq ⟨rfl, rfl⟩]
  have S6 : S 11 6 = b := by rw [hS, u_eq ⟨rfl, rfl⟩]
  have S7 : S 11 7 = 0 := by rw [hS, u_ne (by omega), u_eq ⟨rfl, rfl⟩]
  have St : ∀ i, S 12 i = s 12 i := fun i => sE _ _ (by unfold rT; omega)
  have hcl : Te_advance_41 11 p s = if 97 ≤ b ∧ b ≤ 122 then (jb (Te_scanWord 11 S) fun v2 s2 => some (0, s2)) else if 48 ≤ b ∧ b ≤ 57 then (jb (Te_scanNumber 11 S) fun v2 s2 => some (0, s2)) else Te_advance_149 11 p S := by
    rw [Te_advance_41, u_ne (by omega), u_ne (by omega), u_ne (by omega), ← hL, w32_id (x := p) (by omega) (by omega), w32_id (x := L) (by omega) (by omega), if_pos q0, if_pos c3]
    show Te_advance_75 11 p (jup (jup (jup s 11 3 p) 11 5 (-1)) 11 7 0 12 p) 11 _ = _
    rw [u_ne (by omega), u_ne (by omega), u_ne (by omega), ← hb, Te_advance_75, ← hS, S1, S6, w32_id (x := p) (by omega) (by omega), w32_id (x := L) (by omega) (by omega), w32_id (x := b) (by omega) (by omega), if_pos q0, Te_advance_124, S6, w32_id (x := b) (by omega) (by omega)]
    by_cases z1 : b < 97
    · rw [if_pos z1, if_neg (c := 97 ≤ b ∧ b ≤ 122) (by omega)]
      by_cases z2 : b < 48
      · rw [if_pos z2, if_neg (by omega)]
      · rw [if_neg z2]
        by_cases z3 : 57 < b
        · rw [if_pos z3, if_neg (by omega)]
        · rw [if_neg z3, if_pos (by omega)]
    · rw [if_neg z1]
      by_cases z2 : 122 < b
      · rw [if_pos z2, if_neg (c := 97 ≤ b ∧ b ≤ 122) (by omega), if_neg (by omega), if_pos (by omega), if_neg (by omega)]
      · rw [if_neg z2, if_pos (by omega)]
  rw [hcl]
  clear hcl
  by_cases z1 : 97 ≤ b ∧ b ≤ 122
  · rw [if_pos z1]
    have eu : ub b = b := if_neg (by omega)
    rw [eu, if_neg (by omega), if_neg (by omega), jb_t, if_neg (by decide)]
    have f1 : (L - p).toNat < jFU := Nat.lt_of_lt_of_le (m := 1000) (by omega) (jFU_ge (by decide))
    obtain ⟨e, s', u', e1, e2, e3, e4, e5, e6, e7, e8, e9, e10⟩ := word_eq (st := p) (by omega) k2 (L - p).toNat jFU jFU 0 S (jup (jup U 155 14 1) 155 19 0) (by omega) f1 f1 S1 S3 (by rw [u_ne (by omega), u_ne (by omega)]; exact U9) (by rw [u_ne (by omega), u_ne (by omega)]; exact U15) (by rw [u_ne (by omega), u_ne (by omega)]; omega) (fun i i1 i2 => by rw [St, u_ne (by omega), u_ne (by omega), Ut]; exact hby i i1 i2) (Or.inl ⟨by omega, [], rfl, fun d hd => absurd hd List.not_mem_nil, S7, by rw [u_eq ⟨rfl, rfl⟩]; rfl⟩)
    have e0 : 0 < e := by
      rcases Nat.eq_zero_or_pos e with y | y
      · exfalso
        have := e10 y.symm (by omega)
        rw [show p + ((0 : Nat) : Int) = p by omega, St, ← hb] at this
        exact this z1
      · exact y
    clear e10
    have hw : Te_scanWord 11 S = Te_scanWord_60 11 (p + e) s' := by
      rw [Te_scanWord, S3]
      rw [show p + ((0 : Nat) : Int) = p by omega] at e3
      exact e3
    have s3 : s' 11 3 = p := by rw [e5 _ _ (by unfold r7; omega)]; exact S3
    have s5 : s' 11 5 = -1 := by rw [e5 _ _ (by unfold r7; omega)]; exact S5
    have sE' : EX rT s s' := sE.tr (e5.wk (fun a b q => by unfold r7 at q; unfold rT; omega))
    have uE' : EX rU u u' := ((UU.up ⟨rfl, by omega, by omega⟩).up ⟨rfl, by omega, by omega⟩).tr (e6.wk (fun a b q => by unfold r689 at q; unfold rU; omega))
    have u14 : u' 155 14 = 1 := by rw [e6 _ _ (by unfold r689; omega), u_ne (by omega), u_eq ⟨rfl, rfl⟩]
    have u15 : u' 155 15 = p := by rw [e6 _ _ (by unfold r689; omega), u_ne (by omega), u_ne (by omega)]; exact U15
    obtain ⟨T, hT⟩ : ∃ T, T = jup (jup s' 11 4 1) 11 2 (p + e) := ⟨_, rfl⟩
    have TE : EX rT s T := by
      rw [hT]
      exact (sE'.up ⟨rfl, by omega, by omega⟩).up ⟨rfl, by omega, by omega⟩
    have T2 : T 11 2 = p + e := by rw [hT, u_eq ⟨rfl, rfl⟩]
    have T3 : T 11 3 = p := by rw [hT, u_ne (by omega), u_ne (by omega)]; exact s3
    have T4 : T 11 4 = 1 := by rw [hT, u_ne (by omega), u_eq ⟨rfl, rfl⟩]
    have T5 : T 11 5 = -1 := by rw [hT, u_ne (by omega), u_ne (by omega)]; exact s5
    have T7 : T 11 7 = s' 11 7 := by rw [hT, u_ne (by omega), u_ne (by omega)]
    have h60 : Te_scanWord_60 11 (p + e) s' = if 8 < (e : Int) then Te_scanWord_88 jFU 11 0 (jup T 11 7 0) else Te_scanWord_88 jFU 11 0 T := by
      rw [Te_scanWord_60, ← hT, T3, show p + (e : Int) - p = e by omega, w32_id (x := (e : Int)) (by omega) (by omega)]
    rw [hw, h60]
    by_cases y : 8 < (e : Int)
    · rw [if_pos y]
      have w2 : u' 155 19 = -1 := by
        rcases e9 with ⟨a, -⟩ | ⟨-, a⟩
        · omega
        · exact a
      obtain ⟨x, x1, x2⟩ := scan88 (x := 0) (by unfold i64; omega) 26 jFU 0 (jup T 11 7 0) (by omega) (bub_ge (by omega)) (u_eq ⟨rfl, rfl⟩) (Or.inl ⟨by rw [u_ne (by omega)]; exact T5, fun j j1 j2 => by omega⟩)
      have xv : x = -1 := by
        rcases x2 with ⟨a, -⟩ | ⟨a, b, c⟩
        · exact a
        · have := kw_b ⟨a, b⟩
          omega
      have x1' : Te_scanWord_88 jFU 11 0 (jup T 11 7 0) = some (0, jup (jup T 11 7 0) 11 5 x) := x1
      rw [x1', jb_t]
      have FE : EX rT s (jup (jup T 11 7 0) 11 5 x) := (TE.up ⟨rfl, by omega, by omega⟩).up ⟨rfl, by omega, by omega⟩
      refine ⟨_, u', rfl, e4, tkm FE uE' ?_ ?_ ?_ u15 ?_ ?_ ?_, FE, uE', ?_⟩
      · rw [u_ne (by omega), u_ne (by omega), T2]; omega
      · rw [u_ne (by omega), u_ne (by omega), T2, e7]
      · rw [u_ne (by omega), u_ne (by omega)]; exact T3
      · rw [u_ne (by omega), u_ne (by omega), T4, u14]
      · intro _; rw [u_ne (by omega), u_ne (by omega), T2]; omega
      · refine Or.inr (Or.inl ⟨by rw [u_ne (by omega), u_ne (by omega)]; exact T4, Or.inr ⟨by rw [u_ne (by omega), u_eq ⟨rfl, rfl⟩], by omega, by omega, w2, by rw [u_eq ⟨rfl, rfl⟩]; exact xv⟩⟩)
      · rw [u_ne (by omega), u_ne (by omega), T3]; exact p1
    · rw [if_neg y]
      obtain ⟨l, l1, l2, l3, l4⟩ : ∃ l : List Int, l.length = e ∧ (∀ d ∈ l, 1 ≤ d ∧ d ≤ 26) ∧ s' 11 7 = enc8 l ∧ u' 155 19 = enc5 l := by
        rcases e9 with ⟨-, a⟩ | ⟨a, -⟩
        · exact a
        · omega
      have hl : LTR l := ⟨fun z => by rw [z] at l1; have : (0 : Nat) = e := l1; omega, by omega, l2⟩
      have ib : i64 (s' 11 7) := by
        obtain ⟨l', d, rfl⟩ : ∃ l' d, l = l' ++ [d] := ⟨l.dropLast, l.getLast hl.1, (List.dropLast_concat_getLast _).symm⟩
        have hd := l2 d (by simp)
        have := enc8_b (l := l') (by rw [List.length_append] at l1; simp at l1; omega) (fun x hx => l2 x (List.mem_append_left _ hx))
        rw [l3, enc8_s]
        unfold i64
        omega
      obtain ⟨x, x1, x2⟩ := scan88 ib 26 jFU 0 T (by omega) (bub_ge (by omega)) T7 (Or.inl ⟨T5, fun j j1 j2 => by omega⟩)
      have x1' : Te_scanWord_88 jFU 11 0 T = some (0, jup T 11 5 x) := x1
      rw [x1', jb_t]
      have FE : EX rT s (jup T 11 5 x) := TE.up ⟨rfl, by omega, by omega⟩
      refine ⟨_, u', rfl, e4, tkm FE uE' ?_ ?_ ?_ u15 ?_ ?_ ?_, FE, uE', ?_⟩
      · rw [u_ne (by omega), T2]; omega
      · rw [u_ne (by omega), T2, e7]
      · rw [u_ne (by omega)]; exact T3
      · rw [u_ne (by omega), T4, u14]
      · intro _; rw [u_ne (by omega), T2]; omega
      · refine Or.inr (Or.inl ⟨by rw [u_ne (by omega)]; exact T4, Or.inl ⟨l, hl, by rw [u_ne (by omega), T7]; exact l3, l4, by omega, by rw [u_ne (by omega), u_eq ⟨rfl, rfl⟩, T7]; exact x2⟩⟩)
      · rw [u_ne (by omega), T3]; exact p1
  · rw [if_neg z1]
    have nl : ¬ (97 ≤ ub b ∧ ub b ≤ 122) := by unfold ub; split <;> omega
    have hl2 : (jb (if ub b < 97 then some ((0 : Int), U) else if 122 < ub b then some (0, U) else some (1, U)) fun v8 s8 => if (w32 v8) = 0 then (jb (Md_isDigit (ub b) s8) fun v9 s9 => if (w32 v9) = 0 then (jb (Md_isSignByte 155 (ub b) (jup (jup s9 155 16 ((s9 155 15) + 1)) 155 17 (ub b))) fun v10 s10 => if (w32 v10) = 0 then (some ((0 : Int), (jup s10 155 14 4))) else (some (0, (jup s10 155 14 3)))) else (Md_advance_210 jFU 155 (jup s9 155 17 0))) else (Md_advance_109 jFU 155 (jup (jup s8 155 14 1) 155 19 0))) = if 48 ≤ b ∧ b ≤ 57 then Md_advance_210 jFU 155 (jup U 155 17 0) else (jb (Md_isSignByte 155 (ub b) (jup (jup U 155 16 (p + 1)) 155 17 (ub b))) fun v10 s10 => if (w32 v10) = 0 then (some (0, (jup s10 155 14 4))) else (some (0, (jup s10 155 14 3)))) := by
      have h1 : (if ub b < 97 then some ((0 : Int), U) else if 122 < ub b then some (0, U) else some (1, U)) = some (0, U) := by
        by_cases y : ub b < 97
        · rw [if_pos y]
        · rw [if_neg y, if_pos (by omega)]
      rw [h1, jb_t, if_pos (by decide), Md_isDigit, w32_ub ⟨b2, b3⟩]
      by_cases y : 48 ≤ b ∧ b ≤ 57
      · have eu : ub b = b := if_neg (by omega)
        rw [eu, if_neg (by omega), if_neg (by omega), jb_t, if_neg (by decide), if_pos y]
      · rw [if_neg y]
        have nd : ub b < 48 ∨ 57 < ub b := by unfold ub; split <;> omega
        by_cases x : ub b < 48
        · rw [if_pos x, jb_t, if_pos (by decide), U15]
        · rw [if_neg x, if_pos (nd.resolve_left x), jb_t, if_pos (by decide), U15]
    rw [hl2]
    clear hl2
    by_cases z2 : 48 ≤ b ∧ b ≤ 57
    · rw [if_pos z2, if_pos z2]
      have f1 : (L - p).toNat < jFU := Nat.lt_of_lt_of_le (m := 1000) (by omega) (jFU_ge (by decide))
      obtain ⟨e, s', u', e1, e2, e3, e4, e5, e6, e7, e8, e9, e10, e11, e12⟩ := num_eq (st := p) (by omega) k2 (L - p).toNat jFU jFU 0 (jup S 11 6 0) (jup U 155 17 0) (by omega) f1 f1 (by rw [u_ne (by omega)]; exact S1) (by rw [u_ne (by omega)]; exact S3) (by rw [u_ne (by omega)]; exact U9) (by rw [u_ne (by omega)]; exact U15) (by rw [u_ne (by omega)]; omega) (fun i i1 i2 => by rw [u_ne (by omega), St, u_ne (by omega), Ut]; exact hby i i1 i2) (by rw [u_eq ⟨rfl, rfl⟩, u_eq ⟨rfl, rfl⟩]) (by rw [u_eq ⟨rfl, rfl⟩]; omega) (by rw [u_eq ⟨rfl, rfl⟩]; omega)
      have e0 : 0 < e := by
        rcases Nat.eq_zero_or_pos e with y | y
        · exfalso
          have := e12 y.symm (by omega)
          rw [show p + ((0 : Nat) : Int) = p by omega, u_ne (by omega), St, ← hb] at this
          exact this z2
        · exact y
      clear e12
      have hw : Te_scanNumber 11 S = some (0, jup (jup s' 11 4 (if 4 < e then 4 else 2)) 11 2 (p + e)) := by
        rw [Te_scanNumber, S3]
        rw [show p + ((0 : Nat) : Int) = p by omega] at e3
        exact e3
      rw [hw, jb_t]
      have sE' : EX rT s s' := (sE.up ⟨rfl, by omega, by omega⟩).tr (e5.wk (fun a b q => by unfold r6 at q; unfold rT; omega))
      have uE' : EX rU u u' := (UU.up ⟨rfl, by omega, by omega⟩).tr (e6.wk (fun a b q => by unfold r67 at q; unfold rU; omega))
      have s3 : s' 11 3 = p := by rw [e5 _ _ (by unfold r6; omega), u_ne (by omega)]; exact S3
      have s5 : s' 11 5 = -1 := by rw [e5 _ _ (by unfold r6; omega), u_ne (by omega)]; exact S5
      have u15 : u' 155 15 = p := by rw [e6 _ _ (by unfold r67; omega), u_ne (by omega)]; exact U15
      have FE : EX rT s (jup (jup s' 11 4 (if 4 < e then 4 else 2)) 11 2 (p + e)) := (sE'.up ⟨rfl, by omega, by omega⟩).up ⟨rfl, by omega, by omega⟩
      refine ⟨_, u', rfl, e4, tkm FE uE' ?_ ?_ ?_ u15 ?_ ?_ ?_, FE, uE', ?_⟩
      · rw [u_eq ⟨rfl, rfl⟩]; omega
      · rw [u_eq ⟨rfl, rfl⟩, e7]
      · rw [u_ne (by omega), u_ne (by omega)]; exact s3
      · rw [u_ne (by omega), u_eq ⟨rfl, rfl⟩, e8]
      · rw [u_eq ⟨rfl, rfl⟩]; omega
      · by_cases y : 4 < e
        · exact Or.inr (Or.inr (Or.inr (Or.inr ⟨by rw [u_ne (by omega), u_eq ⟨rfl, rfl⟩, if_pos y], by rw [u_ne (by omega), u_ne (by omega)]; exact s5⟩)))
        · exact Or.inr (Or.inr (Or.inl ⟨by rw [u_ne (by omega), u_eq ⟨rfl, rfl⟩, if_neg y], by rw [u_ne (by omega), u_ne (by omega)]; exact s5, by rw [u_ne (by omega), u_ne (by omega)]; exact e9, by rw [u_ne (by omega), u_ne (by omega)]; exact e10, by rw [u_ne (by omega), u_ne (by omega)]; exact e11⟩))
      · rw [u_ne (by omega), u_ne (by omega), s3]; exact p1
    · rw [if_neg z2, if_neg z2]
      have key : ∀ w, w = 3 ∨ w = 4 → (w = 3 → 59 ≤ b ∧ b ≤ 62) → Te_advance_149 11 p S = some (0, jup (jup S 11 4 w) 11 2 (p + 1)) → (jb (Md_isSignByte 155 (ub b) (jup (jup U 155 16 (p + 1)) 155 17 (ub b))) fun v10 s10 => if (w32 v10) = 0 then (some ((0 : Int), (jup s10 155 14 4))) else (some (0, (jup s10 155 14 3)))) = some (0, jup (jup (jup U 155 16 (p + 1)) 155 17 (ub b)) 155 14 w) → ∃ s' u', Te_advance_149 11 p S = some (0, s') ∧ (jb (Md_isSignByte 155 (ub b) (jup (jup U 155 16 (p + 1)) 155 17 (ub b))) fun v10 s10 => if (w32 v10) = 0 then (some ((0 : Int), (jup s10 155 14 4))) else (some (0, (jup s10 155 14 3)))) = some (0, u') ∧ TK s' u' ∧ EX rT s s' ∧ EX rU u u' ∧ s 11 2 ≤ s' 11 3 := fun w hw hw3 x1 x2 => by
        have FE : EX rT s (jup (jup S 11 4 w) 11 2 (p + 1)) := (sE.up ⟨rfl, by omega, by omega⟩).up ⟨rfl, by omega, by omega⟩
        have GE : EX rU u (jup (jup (jup U 155 16 (p + 1)) 155 17 (ub b)) 155 14 w) := ((UU.up ⟨rfl, by omega, by omega⟩).up ⟨rfl, by omega, by omega⟩).up ⟨rfl, by omega, by omega⟩
        refine ⟨_, _, x1, x2, tkm FE GE ?_ ?_ ?_ ?_ ?_ ?_ ?_, FE, GE, ?_⟩
        · rw [u_eq ⟨rfl, rfl⟩]; omega
        · rw [u_eq ⟨rfl, rfl⟩, u_ne (by omega), u_ne (by omega), u_eq ⟨rfl, rfl⟩]
        · rw [u_ne (by omega), u_ne (by omega)]; exact S3
        · rw [u_ne (by omega), u_ne (by omega), u_ne (by omega)]; exact U15
        · rw [u_ne (by omega), u_eq ⟨rfl, rfl⟩, u_eq ⟨rfl, rfl⟩]
        · rw [u_eq ⟨rfl, rfl⟩]; omega
        · rcases hw with y | y
          · subst y
            obtain ⟨y1, y2⟩ := hw3 rfl
            have eu : ub b = b := if_neg (by omega)
            refine Or.inr (Or.inr (Or.inr (Or.inl ⟨by rw [u_ne (by omega), u_eq ⟨rfl, rfl⟩], by rw [u_ne (by omega), u_ne (by omega)]; exact S5, ?_, ?_, ?_⟩)))
            · rw [u_ne (by omega), u_ne (by omega), S6, u_ne (by omega), u_eq ⟨rfl, rfl⟩, eu]
            · rw [u_ne (by omega), u_ne (by omega), S6]; exact y1
            · rw [u_ne (by omega), u_ne (by omega), S6]; exact y2
          · subst y
            exact Or.inr (Or.inr (Or.inr (Or.inr ⟨by rw [u_ne (by omega), u_eq ⟨rfl, rfl⟩], by rw [u_ne (by omega), u_ne (by omega)]; exact S5⟩)))
        · rw [u_ne (by omega), u_ne (by omega), S3]; exact p1
      by_cases z3 : 59 ≤ b ∧ b ≤ 62
      · have eu : ub b = b := if_neg (by omega)
        refine key 3 (Or.inl rfl) (fun _ => z3) ?_ ?_
        · rw [Te_advance_149, S6, w32_id (x := b) (by omega) (by omega)]
          rcases (by omega : b = 59 ∨ b = 60 ∨ b = 61 ∨ b = 62) with y | y | y | y <;> rw [y] <;> simp only [if_pos, Int.reduceEq, if_false, if_true]
        · rw [eu, Md_isSignByte, w32_id (x := b) (by omega) (by omega)]
          rcases (by omega : b = 59 ∨ b = 60 ∨ b = 61 ∨ b = 62) with y | y | y | y <;> rw [y] <;> rfl
      · have nb : ¬ (59 ≤ ub b ∧ ub b ≤ 62) := by unfold ub; split <;> omega
        refine key 4 (Or.inr rfl) (fun z => absurd z (by decide)) ?_ ?_
        · rw [Te_advance_149, S6, w32_id (x := b) (by omega) (by omega), if_neg (by omega), if_neg (by omega), if_neg (by omega), if_neg (by omega)]
        · rw [Md_isSignByte, w32_ub ⟨b2, b3⟩, if_neg (by omega), if_neg (by omega), if_neg (by omega), if_neg (by omega)]
          rfl
