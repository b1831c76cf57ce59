/-! feasts: what stands behind a word -/
theorem jok4 {F : Int} (h : F = 39 ∨ F = 64) : jok 4 F = true := by rcases h with q | q <;> subst q <;> decide +kernel
def rFc (F l a b : Int) : Prop := (a = 11 ∧ 2 ≤ b ∧ b ≤ 9) ∨ (F + 2 ≤ a ∧ a ≤ F + 4 ∧ b = l)
def rFr (e a b : Int) : Prop := (a = 155 ∧ 12 ≤ b ∧ b ≤ 19) ∨ (a = 160 ∧ e + 1 ≤ b ∧ b ≤ e + 7)
/-- what reading feasts hangs on -/
def FX (B F : Int) (s u : jM) : Prop := s 14 0 = 11 ∧ s 14 1 = B ∧ s 14 2 = F ∧ NMx s u B 0
theorem FX_n {B F : Int} {s u : jM} (h : FX B F s u) : 0 ≤ s B 8 ∧ s B 8 ≤ 16 := by
  have := NMC_n h.2.2.2
  exact ⟨this.1, this.2.1⟩
theorem FX_c {B F : Int} {s u : jM} (h : FX B F s u) : (0 ≤ u 160 0 ∧ u 160 0 ≤ 5) ∧ (0 ≤ u 160 1 ∧ u 160 1 ≤ 6) ∧ 0 ≤ u 160 2 ∧ u 160 2 ≤ 5 := by
  have n := NMC_n h.2.2.2
  have e : ∀ t, u 160 (381 * 0 + t) = u 160 t := fun t => by rw [show (381 : Int) * 0 + t = t by omega]
  have a : 0 ≤ u 160 (381 * 0 + 0) ∧ u 160 (381 * 0 + 0) ≤ 5 := n.2.2.1
  have b : 0 ≤ u 160 (381 * 0 + 1) ∧ u 160 (381 * 0 + 1) ≤ 6 := n.2.2.2.1
  have c : 0 ≤ u 160 (381 * 0 + 2) ∧ u 160 (381 * 0 + 2) ≤ 5 := n.2.2.2.2
  rw [e] at a b c
  exact ⟨a, b, c⟩
theorem FX_ex {B F : Int} {s u s' u' : jM} (hB : 30 ≤ B) (h : FX B F s u) (e : ∀ a b, a = 14 ∧ b ≤ 2 ∨ (B ≤ a ∧ a ≤ B + 8) → s' a b = s a b) (e2 : ∀ o, 0 ≤ o → o ≤ 2 → u' 160 o = u 160 o) (e3 : ∀ i, u' 163 i = u 163 i) : FX B F s' u' := by
  obtain ⟨h1, h2, h3, h4⟩ := h
  refine ⟨by rw [e _ _ (by omega)]; exact h1, by rw [e _ _ (by omega)]; exact h2, by rw [e _ _ (by omega)]; exact h3, ?_⟩
  unfold NMx at *
  have f6 : s' (B + 6) = s (B + 6) := funext fun b => e _ _ (by omega)
  have f7 : s' (B + 7) = s (B + 7) := funext fun b => e _ _ (by omega)
  have f8 : s' (B + 8) = s (B + 8) := funext fun b => e _ _ (by omega)
  have fw : (fun i => u' 163 (16 * 0 + i)) = fun i => u 163 (16 * 0 + i) := funext fun i => e3 _
  rw [e B 8 (by omega), f6, f7, f8, fw]
  exact NMC_congr h4 (fun t a b => by show u' 160 (381 * 0 + t) = u 160 (381 * 0 + t); rw [show (381 : Int) * 0 + t = t by omega]; exact e2 t a b)
/-- a row of the class's, a cell of the reference's -/
def MO (s u s' u' : jM) : Prop := ((TW s' u' ∧ s 11 3 ≤ s' 11 3) ∨ BD s' u') ∧ (BD s u → BD s' u')
theorem MO_m {s u s' u' : jM} (h : MO s u s' u') : TW s' u' ∨ BD s' u' := h.1.imp And.left id
theorem MO_tw {s u s' u' : jM} (h : TW s u ∨ BD s u) (e : MO s u s' u') (t : TW s' u') : TW s u ∧ s 11 3 ≤ s' 11 3 := by
  rcases h with h | h
  · rcases e.1 with z | z
    · exact ⟨h, z.2⟩
    · exact absurd t (nb_tw z)
  · exact absurd t (nb_tw (e.2 h))
theorem MO_up {s u s1 u1 s2 u2 : jM} (h : EC s u s1 u1) (e1 : ∀ b, s2 11 b = s1 11 b) (e2 : ∀ b, s2 12 b = s1 12 b) (e3 : ∀ b, b ≤ 19 → u2 155 b = u1 155 b) (e4 : ∀ b, u2 159 b = u1 159 b) : MO s u s2 u2 := by
  refine ⟨?_, fun b => BD_ex (h.2.2.2 b) e1 e2 ⟨e3 _ (by omega), e3 _ (by omega)⟩⟩
  rcases h.1 with ⟨a, b⟩ | a
  · exact Or.inl ⟨TW_ex a e1 e2 e3 e4, by rw [e1]; exact b⟩
  · exact Or.inr (BD_ex a e1 e2 ⟨e3 _ (by omega), e3 _ (by omega)⟩)
theorem MO_tr {s u s1 u1 s2 u2 : jM} (h : MO s u s1 u1) (h2 : MO s1 u1 s2 u2) : MO s u s2 u2 := by
  refine ⟨?_, fun b => h2.2 (h.2 b)⟩
  rcases h.1 with ⟨a, b⟩ | a
  · rcases h2.1 with ⟨c, d⟩ | c
    · exact Or.inl ⟨c, by omega⟩
    · exact Or.inr c
  · exact Or.inr (h2.2 a)
/-- a thing of kind t is told: into row r and cell o -/
theorem fx_thing {B F t r o l e : Int} (hB : 30 ≤ B ∧ B ≤ 55) (hF : F = 39 ∨ F = 64) {s u : jM} (h : TW s u ∨ BD s u) (hx : FX B F s u) (ht : 0 ≤ t ∧ t ≤ 2) (hr : F + 2 ≤ r ∧ r ≤ F + 4) (hFB : B + 8 < F ∨ F + 5 < B) (he : 1635 ≤ e) (ho : e + 1 ≤ o ∧ o ≤ e + 7) : ∃ v w s1 u1, Te_takeThing 11 B t s = some (v, s1) ∧ Md_readTold 155 0 t u = some (w, u1) ∧ MO s u (jup s1 r l v) (jup u1 160 o w) ∧ EX (rFc F l) s (jup s1 r l v) ∧ EX (rFr e) u (jup u1 160 o w) ∧ FX B F (jup s1 r l v) (jup u1 160 o w) ∧ (TW (jup s1 r l v) (jup u1 160 o w) → v = w ∧ 0 ≤ w ∧ w < u 160 t) ∧ (∀ a b, a ≠ 11 → s1 a b = s a b) ∧ (∀ a b, a ≠ 155 → u1 a b = u a b) := by
  have nn := FX_n hx
  obtain ⟨v, w, s1, u1, a1, a2, a3, a4⟩ := tk_thing2 (B := B) (q := 0) (t := t) (by omega) h nn (fun _ => hx.2.2.2.v) (by omega) ht
  have f1 : ∀ a b, a ≠ 11 → s1 a b = s a b := fun a b z => a3.2.1 a b (fun y => z y.1)
  have g1 : ∀ a b, a ≠ 155 → u1 a b = u a b := fun a b z => a3.2.2.1 a b (fun y => z y.1)
  refine ⟨v, w, s1, u1, a1, a2, MO_up a3 (fun b => u_ne (by omega)) (fun b => u_ne (by omega)) (fun b _ => u_ne (by omega)) (fun b => u_ne (by omega)), (a3.2.1.wk (fun a b q => Or.inl q)).up (Or.inr ⟨hr.1, hr.2, rfl⟩), (a3.2.2.1.wk (fun a b q => Or.inl q)).up (Or.inr ⟨rfl, ho.1, ho.2⟩), FX_ex hB.1 hx (fun a b q => by rw [u_ne (by omega)]; exact f1 a b (by omega)) (fun o o1 o2 => by rw [u_ne (by omega)]; exact g1 _ _ (by omega)) (fun i => by rw [u_ne (by omega)]; exact g1 _ _ (by omega)), fun tt => ?_, f1, g1⟩
  have := a4 (TW_ex tt (fun b => (u_ne (by omega)).symm) (fun b => (u_ne (by omega)).symm) (fun b _ => (u_ne (by omega)).symm) (fun b => (u_ne (by omega)).symm))
  rw [show (381 : Int) * 0 + t = t by omega] at this
  omega
/-- a number: into row r and cell o -/
theorem fx_num {B F lo hi r o l e : Int} (hB : 30 ≤ B ∧ B ≤ 55) (hF : F = 39 ∨ F = 64) {s u : jM} (h : TW s u ∨ BD s u) (hx : FX B F s u) (hl : 0 ≤ lo ∧ lo ≤ 100) (hh : 0 ≤ hi ∧ hi ≤ 100) (hr : F + 2 ≤ r ∧ r ≤ F + 4) (hFB : B + 8 < F ∨ F + 5 < B) (he : 1635 ≤ e) (ho : e + 1 ≤ o ∧ o ≤ e + 7) : ∃ v w s1 u1, Te_takeNumber 11 lo hi s = some (v, s1) ∧ Md_count 155 lo hi u = some (w, u1) ∧ MO s u (jup s1 r l v) (jup u1 160 o w) ∧ EX (rFc F l) s (jup s1 r l v) ∧ EX (rFr e) u (jup u1 160 o w) ∧ FX B F (jup s1 r l v) (jup u1 160 o w) ∧ (TW (jup s1 r l v) (jup u1 160 o w) → v = w ∧ lo ≤ w ∧ w ≤ hi) ∧ (∀ a b, a ≠ 11 → s1 a b = s a b) ∧ (∀ a b, a ≠ 155 → u1 a b = u a b) := by
  obtain ⟨v, w, s1, u1, a1, a2, a3, a4⟩ := tk_num2 h hl hh
  have f1 : ∀ a b, a ≠ 11 → s1 a b = s a b := fun a b z => a3.2.1 a b (fun y => z y.1)
  have g1 : ∀ a b, a ≠ 155 → u1 a b = u a b := fun a b z => a3.2.2.1 a b (fun y => z y.1)
  refine ⟨v, w, s1, u1, a1, a2, MO_up a3 (fun b => u_ne (by omega)) (fun b => u_ne (by omega)) (fun b _ => u_ne (by omega)) (fun b => u_ne (by omega)), (a3.2.1.wk (fun a b q => Or.inl q)).up (Or.inr ⟨hr.1, hr.2, rfl⟩), (a3.2.2.1.wk (fun a b q => Or.inl q)).up (Or.inr ⟨rfl, ho.1, ho.2⟩), FX_ex hB.1 hx (fun a b q => by rw [u_ne (by omega)]; exact f1 a b (by omega)) (fun o o1 o2 => by rw [u_ne (by omega)]; exact g1 _ _ (by omega)) (fun i => by rw [u_ne (by omega)]; exact g1 _ _ (by omega)), fun tt => ?_, f1, g1⟩
  have := a4 (TW_ex tt (fun b => (u_ne (by omega)).symm) (fun b => (u_ne (by omega)).symm) (fun b _ => (u_ne (by omega)).symm) (fun b => (u_ne (by omega)).symm))
  omega
/-- what line l and cell e tell, by the class's word -/
def RST (F l e k : Int) (s u : jM) : Prop :=
  (k = 13 → s (F + 2) l = u 160 (e + 1) ∧ s (F + 3) l = u 160 (e + 2) ∧ s (F + 4) l = u 160 (e + 3) ∧ 0 ≤ u 160 (e + 1) ∧ u 160 (e + 1) < u 160 2 ∧ 0 ≤ u 160 (e + 2) ∧ u 160 (e + 2) < u 160 0 ∧ 1 ≤ u 160 (e + 3) ∧ u 160 (e + 3) ≤ 9) ∧
  (k = 14 ∨ k = 15 ∨ k = 16 → s (F + 2) l = u 160 (e + 1) ∧ 0 ≤ u 160 (e + 1) ∧ u 160 (e + 1) < u 160 2) ∧
  (k = 17 → s (F + 2) l = u 160 (e + 1) ∧ s (F + 3) l = u 160 (e + 2) ∧ 0 ≤ u 160 (e + 1) ∧ u 160 (e + 1) < u 160 2 ∧ 0 ≤ u 160 (e + 2) ∧ u 160 (e + 2) < u 160 1) ∧
  (k = 18 → s (F + 4) l = u 160 (e + 1) ∧ 1 ≤ u 160 (e + 1) ∧ u 160 (e + 1) ≤ 60) ∧
  (k = 0 → s (F + 4) l = u 160 (e + 1) ∧ 0 ≤ u 160 (e + 1) ∧ u 160 (e + 1) ≤ 9) ∧
  (k = 23 → s (F + 4) l = u 160 (e + 1) ∧ 1 ≤ u 160 (e + 1) ∧ u 160 (e + 1) ≤ 99)
/-- the class's word and the reference's number of it -/
def KD (k w : Int) : Prop := (k = 13 ∧ w = 0) ∨ (k = 14 ∧ w = 1) ∨ (k = 15 ∧ w = 2) ∨ (k = 16 ∧ w = 3) ∨ (k = 17 ∧ w = 4) ∨ (k = 18 ∧ w = 5) ∨ (k = 0 ∧ w = 6) ∨ (k = 19 ∧ w = 7) ∨ (k = 23 ∧ w = 9) ∨ (k = 25 ∧ w = 10)
theorem tr_0 {l : Int} {s : jM} : Fr_takeRest 14 0 l s = if jok 4 (s 14 2) = true ∧ jok 5 (s 14 0) = true then jb (Te_takeNumber (s 14 0) 0 9 s) fun v2 s2 => if (0 ≤ (w32 l) ∧ (w32 l) < 60) then some (0, (jup s2 ((s 14 2) + 4) (w32 l) v2)) else none else none := by
  rw [Fr_takeRest, if_pos (show w32 0 = 0 by decide)]
theorem tr_18 {l : Int} {s : jM} : Fr_takeRest 14 18 l s = if jok 4 (s 14 2) = true ∧ jok 5 (s 14 0) = true then jb (Te_takeNumber (s 14 0) 1 60 s) fun v2 s2 => if (0 ≤ (w32 l) ∧ (w32 l) < 60) then some (0, (jup s2 ((s 14 2) + 4) (w32 l) v2)) else none else none := by
  rw [Fr_takeRest, if_neg (show ¬ w32 18 = 0 by decide), if_neg (show ¬ w32 18 = 1 by decide), if_neg (show ¬ w32 18 = 2 by decide), if_neg (show ¬ w32 18 = 3 by decide), if_neg (show ¬ w32 18 = 4 by decide), if_neg (show ¬ w32 18 = 5 by decide), if_neg (show ¬ w32 18 = 6 by decide), if_neg (show ¬ w32 18 = 7 by decide), if_neg (show ¬ w32 18 = 8 by decide), if_neg (show ¬ w32 18 = 9 by decide), if_neg (show ¬ w32 18 = 10 by decide), if_neg (show ¬ w32 18 = 11 by decide), if_neg (show ¬ w32 18 = 12 by decide), if_neg (show ¬ w32 18 = 13 by decide), if_neg (show ¬ w32 18 = 14 by decide), if_neg (show ¬ w32 18 = 15 by decide), if_neg (show ¬ w32 18 = 16 by decide), if_neg (show ¬ w32 18 = 17 by decide), if_pos (show w32 18 = 18 by decide)]
theorem tr_23 {l : Int} {s : jM} : Fr_takeRest 14 23 l s = if jok 4 (s 14 2) = true ∧ jok 5 (s 14 0) = true then jb (Te_takeNumber (s 14 0) 1 99 s) fun v2 s2 => if (0 ≤ (w32 l) ∧ (w32 l) < 60) then some (0, (jup s2 ((s 14 2) + 4) (w32 l) v2)) else none else none := by
  rw [Fr_takeRest, if_neg (show ¬ w32 23 = 0 by decide), if_neg (show ¬ w32 23 = 1 by decide), if_neg (show ¬ w32 23 = 2 by decide), if_neg (show ¬ w32 23 = 3 by decide), if_neg (show ¬ w32 23 = 4 by decide), if_neg (show ¬ w32 23 = 5 by decide), if_neg (show ¬ w32 23 = 6 by decide), if_neg (show ¬ w32 23 = 7 by decide), if_neg (show ¬ w32 23 = 8 by decide), if_neg (show ¬ w32 23 = 9 by decide), if_neg (show ¬ w32 23 = 10 by decide), if_neg (show ¬ w32 23 = 11 by decide), if_neg (show ¬ w32 23 = 12 by decide), if_neg (show ¬ w32 23 = 13 by decide), if_neg (show ¬ w32 23 = 14 by decide), if_neg (show ¬ w32 23 = 15 by decide), if_neg (show ¬ w32 23 = 16 by decide), if_neg (show ¬ w32 23 = 17 by decide), if_neg (show ¬ w32 23 = 18 by decide), if_neg (show ¬ w32 23 = 19 by decide), if_neg (show ¬ w32 23 = 20 by decide), if_neg (show ¬ w32 23 = 21 by decide), if_neg (show ¬ w32 23 = 22 by decide), if_pos (show w32 23 = 23 by decide)]
theorem tr_13 {l : Int} {s : jM} : Fr_takeRest 14 13 l s = if jok 4 (s 14 2) = true ∧ jok 5 (s 14 0) = true ∧ jok 3 (s 14 1) = true then jb (Te_takeThing (s 14 0) (s 14 1) 2 s) fun v16 s16 => if (0 ≤ (w32 l) ∧ (w32 l) < 60) ∧ jok 4 ((jup s16 ((s 14 2) + 2) (w32 l) v16) 14 2) = true ∧ jok 5 ((jup s16 ((s 14 2) + 2) (w32 l) v16) 14 0) = true ∧ jok 3 ((jup s16 ((s 14 2) + 2) (w32 l) v16) 14 1) = true then jb (Te_takeThing ((jup s16 ((s 14 2) + 2) (w32 l) v16) 14 0) ((jup s16 ((s 14 2) + 2) (w32 l) v16) 14 1) 0 (jup s16 ((s 14 2) + 2) (w32 l) v16)) fun v17 s17 => if (0 ≤ (w32 l) ∧ (w32 l) < 60) ∧ jok 4 ((jup s17 (((jup s16 ((s 14 2) + 2) (w32 l) v16) 14 2) + 3) (w32 l) v17) 14 2) = true ∧ jok 5 ((jup s17 (((jup s16 ((s 14 2) + 2) (w32 l) v16) 14 2) + 3) (w32 l) v17) 14 0) = true then jb (Te_takeNumber ((jup s17 (((jup s16 ((s 14 2) + 2) (w32 l) v16) 14 2) + 3) (w32 l) v17) 14 0) 1 9 (jup s17 (((jup s16 ((s 14 2) + 2) (w32 l) v16) 14 2) + 3) (w32 l) v17)) fun v18 s18 => if (0 ≤ (w32 l) ∧ (w32 l) < 60) then some (0, (jup s18 (((jup s17 (((jup s16 ((s 14 2) + 2) (w32 l) v16) 14 2) + 3) (w32 l) v17) 14 2) + 4) (w32 l) v18)) else none else none else none else none := by
  rw [Fr_takeRest, if_neg (show ¬ w32 13 = 0 by decide), if_neg (show ¬ w32 13 = 1 by decide), if_neg (show ¬ w32 13 = 2 by decide), if_neg (show ¬ w32 13 = 3 by decide), if_neg (show ¬ w32 13 = 4 by decide), if_neg (show ¬ w32 13 = 5 by decide), if_neg (show ¬ w32 13 = 6 by decide), if_neg (show ¬ w32 13 = 7 by decide), if_neg (show ¬ w32 13 = 8 by decide), if_neg (show ¬ w32 13 = 9 by decide), if_neg (show ¬ w32 13 = 10 by decide), if_neg (show ¬ w32 13 = 11 by decide), if_neg (show ¬ w32 13 = 12 by decide), if_pos (show w32 13 = 13 by decide)]
theorem tr_14 {l : Int} {s : jM} : Fr_takeRest 14 14 l s = if jok 4 (s 14 2) = true ∧ jok 5 (s 14 0) = true ∧ jok 3 (s 14 1) = true then jb (Te_takeThing (s 14 0) (s 14 1) 2 s) fun v20 s20 => if (0 ≤ (w32 l) ∧ (w32 l) < 60) then some (0, (jup s20 ((s 14 2) + 2) (w32 l) v20)) else none else none := by
  rw [Fr_takeRest, if_neg (show ¬ w32 14 = 0 by decide), if_neg (show ¬ w32 14 = 1 by decide), if_neg (show ¬ w32 14 = 2 by decide), if_neg (show ¬ w32 14 = 3 by decide), if_neg (show ¬ w32 14 = 4 by decide), if_neg (show ¬ w32 14 = 5 by decide), if_neg (show ¬ w32 14 = 6 by decide), if_neg (show ¬ w32 14 = 7 by decide), if_neg (show ¬ w32 14 = 8 by decide), if_neg (show ¬ w32 14 = 9 by decide), if_neg (show ¬ w32 14 = 10 by decide), if_neg (show ¬ w32 14 = 11 by decide), if_neg (show ¬ w32 14 = 12 by decide), if_neg (show ¬ w32 14 = 13 by decide), if_pos (show w32 14 = 14 by decide)]
theorem tr_15 {l : Int} {s : jM} : Fr_takeRest 14 15 l s = if jok 4 (s 14 2) = true ∧ jok 5 (s 14 0) = true ∧ jok 3 (s 14 1) = true then jb (Te_takeThing (s 14 0) (s 14 1) 2 s) fun v20 s20 => if (0 ≤ (w32 l) ∧ (w32 l) < 60) then some (0, (jup s20 ((s 14 2) + 2) (w32 l) v20)) else none else none := by
  rw [Fr_takeRest, if_neg (show ¬ w32 15 = 0 by decide), if_neg (show ¬ w32 15 = 1 by decide), if_neg (show ¬ w32 15 = 2 by decide), if_neg (show ¬ w32 15 = 3 by decide), if_neg (show ¬ w32 15 = 4 by decide), if_neg (show ¬ w32 15 = 5 by decide), if_neg (show ¬ w32 15 = 6 by decide), if_neg (show ¬ w32 15 = 7 by decide), if_neg (show ¬ w32 15 = 8 by decide), if_neg (show ¬ w32 15 = 9 by decide), if_neg (show ¬ w32 15 = 10 by decide), if_neg (show ¬ w32 15 = 11 by decide), if_neg (show ¬ w32 15 = 12 by decide), if_neg (show ¬ w32 15 = 13 by decide), if_neg (show ¬ w32 15 = 14 by decide), if_pos (show w32 15 = 15 by decide)]
theorem tr_16 {l : Int} {s : jM} : Fr_takeRest 14 16 l s = if jok 4 (s 14 2) = true ∧ jok 5 (s 14 0) = true ∧ jok 3 (s 14 1) = true then jb (Te_takeThing (s 14 0) (s 14 1) 2 s) fun v20 s20 => if (0 ≤ (w32 l) ∧ (w32 l) < 60) then some (0, (jup s20 ((s 14 2) + 2) (w32 l) v20)) else none else none := by
  rw [Fr_takeRest, if_neg (show ¬ w32 16 = 0 by decide), if_neg (show ¬ w32 16 = 1 by decide), if_neg (show ¬ w32 16 = 2 by decide), if_neg (show ¬ w32 16 = 3 by decide), if_neg (show ¬ w32 16 = 4 by decide), if_neg (show ¬ w32 16 = 5 by decide), if_neg (show ¬ w32 16 = 6 by decide), if_neg (show ¬ w32 16 = 7 by decide), if_neg (show ¬ w32 16 = 8 by decide), if_neg (show ¬ w32 16 = 9 by decide), if_neg (show ¬ w32 16 = 10 by decide), if_neg (show ¬ w32 16 = 11 by decide), if_neg (show ¬ w32 16 = 12 by decide), if_neg (show ¬ w32 16 = 13 by decide), if_neg (show ¬ w32 16 = 14 by decide), if_neg (show ¬ w32 16 = 15 by decide), if_pos (show w32 16 = 16 by decide)]
theorem tr_17 {l : Int} {s : jM} : Fr_takeRest 14 17 l s = if jok 4 (s 14 2) = true ∧ jok 5 (s 14 0) = true ∧ jok 3 (s 14 1) = true then jb (Te_takeThing (s 14 0) (s 14 1) 2 s) fun v26 s26 => if (0 ≤ (w32 l) ∧ (w32 l) < 60) ∧ jok 4 ((jup s26 ((s 14 2) + 2) (w32 l) v26) 14 2) = true ∧ jok 5 ((jup s26 ((s 14 2) + 2) (w32 l) v26) 14 0) = true ∧ jok 3 ((jup s26 ((s 14 2) + 2) (w32 l) v26) 14 1) = true then jb (Te_takeThing ((jup s26 ((s 14 2) + 2) (w32 l) v26) 14 0) ((jup s26 ((s 14 2) + 2) (w32 l) v26) 14 1) 1 (jup s26 ((s 14 2) + 2) (w32 l) v26)) fun v27 s27 => if (0 ≤ (w32 l) ∧ (w32 l) < 60) then some (0, (jup s27 (((jup s26 ((s 14 2) + 2) (w32 l) v26) 14 2) + 3) (w32 l) v27)) else none else none else none := by
  rw [Fr_takeRest, if_neg (show ¬ w32 17 = 0 by decide), if_neg (show ¬ w32 17 = 1 by decide), if_neg (show ¬ w32 17 = 2 by decide), if_neg (show ¬ w32 17 = 3 by decide), if_neg (show ¬ w32 17 = 4 by decide), if_neg (show ¬ w32 17 = 5 by decide), if_neg (show ¬ w32 17 = 6 by decide), if_neg (show ¬ w32 17 = 7 by decide), if_neg (show ¬ w32 17 = 8 by decide), if_neg (show ¬ w32 17 = 9 by decide), if_neg (show ¬ w32 17 = 10 by decide), if_neg (show ¬ w32 17 = 11 by decide), if_neg (show ¬ w32 17 = 12 by decide), if_neg (show ¬ w32 17 = 13 by decide), if_neg (show ¬ w32 17 = 14 by decide), if_neg (show ¬ w32 17 = 15 by decide), if_neg (show ¬ w32 17 = 16 by decide), if_pos (show w32 17 = 17 by decide)]
theorem tr_19 {l : Int} {s : jM} : Fr_takeRest 14 19 l s = some (0, s) := by
  rw [Fr_takeRest, if_neg (show ¬ w32 19 = 0 by decide), if_neg (show ¬ w32 19 = 1 by decide), if_neg (show ¬ w32 19 = 2 by decide), if_neg (show ¬ w32 19 = 3 by decide), if_neg (show ¬ w32 19 = 4 by decide), if_neg (show ¬ w32 19 = 5 by decide), if_neg (show ¬ w32 19 = 6 by decide), if_neg (show ¬ w32 19 = 7 by decide), if_neg (show ¬ w32 19 = 8 by decide), if_neg (show ¬ w32 19 = 9 by decide), if_neg (show ¬ w32 19 = 10 by decide), if_neg (show ¬ w32 19 = 11 by decide), if_neg (show ¬ w32 19 = 12 by decide), if_neg (show ¬ w32 19 = 13 by decide), if_neg (show ¬ w32 19 = 14 by decide), if_neg (show ¬ w32 19 = 15 by decide), if_neg (show ¬ w32 19 = 16 by decide), if_neg (show ¬ w32 19 = 17 by decide), if_neg (show ¬ w32 19 = 18 by decide), if_pos (show w32 19 = 19 by decide)]
theorem tr_25 {l : Int} {s : jM} : Fr_takeRest 14 25 l s = some (0, s) := by
  rw [Fr_takeRest, if_neg (show ¬ w32 25 = 0 by decide), if_neg (show ¬ w32 25 = 1 by decide), if_neg (show ¬ w32 25 = 2 by decide), if_neg (show ¬ w32 25 = 3 by decide), if_neg (show ¬ w32 25 = 4 by decide), if_neg (show ¬ w32 25 = 5 by decide), if_neg (show ¬ w32 25 = 6 by decide), if_neg (show ¬ w32 25 = 7 by decide), if_neg (show ¬ w32 25 = 8 by decide), if_neg (show ¬ w32 25 = 9 by decide), if_neg (show ¬ w32 25 = 10 by decide), if_neg (show ¬ w32 25 = 11 by decide), if_neg (show ¬ w32 25 = 12 by decide), if_neg (show ¬ w32 25 = 13 by decide), if_neg (show ¬ w32 25 = 14 by decide), if_neg (show ¬ w32 25 = 15 by decide), if_neg (show ¬ w32 25 = 16 by decide), if_neg (show ¬ w32 25 = 17 by decide), if_neg (show ¬ w32 25 = 18 by decide), if_neg (show ¬ w32 25 = 19 by decide), if_neg (show ¬ w32 25 = 20 by decide), if_neg (show ¬ w32 25 = 21 by decide), if_neg (show ¬ w32 25 = 22 by decide), if_neg (show ¬ w32 25 = 23 by decide)]
theorem rq_0 (e : Int) (U : jM) : Md_readRest_120 155 e 0 U = jb (Md_readTold 155 0 0 U) fun v2 s2 => if (0 ≤ (w32 (e + 2)) ∧ (w32 (e + 2)) < 1905) then Md_readRest_142 155 e 0 (jup s2 160 (w32 (e + 2)) v2) else none := by
  rw [Md_readRest_120, if_pos (show w32 0 = 0 by decide)]
  rfl
theorem rq_4 (e : Int) (U : jM) : Md_readRest_120 155 e 4 U = jb (Md_readTold 155 0 1 U) fun v2 s2 => if (0 ≤ (w32 (e + 2)) ∧ (w32 (e + 2)) < 1905) then Md_readRest_142 155 e 4 (jup s2 160 (w32 (e + 2)) v2) else none := by
  rw [Md_readRest_120, if_neg (show ¬ w32 4 = 0 by decide)]
  rfl
theorem rs_0 (e : Int) (U : jM) : Md_readRest_142 155 e 0 U = jb (Md_count 155 1 9 U) fun v1 s1 => if (0 ≤ (w32 (e + 3)) ∧ (w32 (e + 3)) < 1905) then some (0, (jup s1 160 (w32 (e + 3)) v1)) else none := by
  rw [Md_readRest_142, if_pos (show w32 0 = 0 by decide)]
  rfl
theorem rs_4 (e : Int) (U : jM) : Md_readRest_142 155 e 4 U = some (0, U) := by
  rw [Md_readRest_142, if_neg (show ¬ w32 4 = 0 by decide)]
theorem rest_both {B F l e k w : Int} (hB : B = 30 ∨ B = 55) (hF : (B = 30 ∧ F = 64) ∨ (B = 55 ∧ F = 39)) {s u : jM} (h : TW s u) (hx : FX B F s u) (hl : 0 ≤ l ∧ l < 60) (he : 1635 ≤ e ∧ e + 8 < 1905) (hw : u 160 e = w) (hk : KD k w) : ∃ s' u', Fr_takeRest 14 k l s = some (0, s') ∧ Md_readRest 155 e u = some (0, u') ∧ MO s u s' u' ∧ EX (rFc F l) s s' ∧ EX (rFr e) u u' ∧ FX B F s' u' ∧ (TW s' u' → RST F l e k s' u') := by
  have hF' : F = 39 ∨ F = 64 := by omega
  have hB' : 30 ≤ B ∧ B ≤ 55 := by omega
  have hFB : B + 8 < F ∨ F + 5 < B := by omega
  have lw : w32 l = l := w32_id (by omega) (by omega)
  have ew : w32 e = e := w32_id (by omega) (by omega)
  have e1 : w32 (e + 1) = e + 1 := w32_id (by omega) (by omega)
  have e2 : w32 (e + 2) = e + 2 := w32_id (by omega) (by omega)
  have e3 : w32 (e + 3) = e + 3 := w32_id (by omega) (by omega)
  have i0 : 0 ≤ e ∧ e < 1905 := by omega
  have i1 : 0 ≤ e + 1 ∧ e + 1 < 1905 := by omega
  have i2 : 0 ≤ e + 2 ∧ e + 2 < 1905 := by omega
  have i3 : 0 ≤ e + 3 ∧ e + 3 < 1905 := by omega
  obtain ⟨x0, x1, x2, x3⟩ := hx
  have hx : FX B F s u := ⟨x0, x1, x2, x3⟩
  -- the number alone
  have num : ∀ (lo hi : Int), 0 ≤ lo ∧ lo ≤ 100 → 0 ≤ hi ∧ hi ≤ 100 → (Fr_takeRest 14 k l s = if jok 4 (s 14 2) = true ∧ jok 5 (s 14 0) = true then jb (Te_takeNumber (s 14 0) lo hi s) fun v2 s2 => if (0 ≤ (w32 l) ∧ (w32 l) < 60) then some (0, (jup s2 ((s 14 2) + 4) (w32 l) v2)) else none else none) → (Md_readRest 155 e u = jb (Md_count 155 lo hi u) fun v4 s4 => if (0 ≤ (w32 (e + 1)) ∧ (w32 (e + 1)) < 1905) then some (0, (jup s4 160 (w32 (e + 1)) v4)) else none) → ((k = 18 ∧ lo = 1 ∧ hi = 60) ∨ (k = 0 ∧ lo = 0 ∧ hi = 9) ∨ (k = 23 ∧ lo = 1 ∧ hi = 99)) → ∃ s' u', Fr_takeRest 14 k l s = some (0, s') ∧ Md_readRest 155 e u = some (0, u') ∧ MO s u s' u' ∧ EX (rFc F l) s s' ∧ EX (rFr e) u u' ∧ FX B F s' u' ∧ (TW s' u' → RST F l e k s' u') := fun lo hi b1 b2 c1 c2 c3 => by
    obtain ⟨v, w', s1, u1, a1, a2, a3, a4, a5, a6, a7, a8, a9⟩ := fx_num (B := B) (F := F) (lo := lo) (hi := hi) (r := F + 4) (o := e + 1) (l := l) (e := e) hB' hF' (Or.inl h) hx b1 b2 (by omega) hFB he.1 (by omega)
    refine ⟨_, _, ?_, ?_, a3, a4, a5, a6, fun t => ?_⟩
    · rw [c1, x0, x2, if_pos ⟨jok4 hF', jok5⟩, a1, jb_t, lw, if_pos hl]
    · rw [c2, a2, jb_t, e1, if_pos i1]
    · obtain ⟨z1, z2⟩ := a7 t
      unfold RST
      rw [u_eq ⟨rfl, rfl⟩, u_eq ⟨rfl, rfl⟩]
      clear a3 a4 a5 a6 a7 a8 a9 c1 c2 a1 a2 t
      refine ⟨fun z => by omega, fun z => by omega, fun z => by omega, fun z => by omega, fun z => by omega, fun z => by omega⟩
  have rr : Md_readRest 155 e u = if (w32 w) = 5 then (jb (Md_count 155 1 60 u) fun v4 s4 => if (0 ≤ (w32 (e + 1)) ∧ (w32 (e + 1)) < 1905) then some (0, (jup s4 160 (w32 (e + 1)) v4)) else none) else (if (w32 w) = 6 then (jb (Md_count 155 0 9 u) fun v5 s5 => if (0 ≤ (w32 (e + 1)) ∧ (w32 (e + 1)) < 1905) then some (0, (jup s5 160 (w32 (e + 1)) v5)) else none) else (if (w32 w) = 9 then (jb (Md_count 155 1 99 u) fun v6 s6 => if (0 ≤ (w32 (e + 1)) ∧ (w32 (e + 1)) < 1905) then some (0, (jup s6 160 (w32 (e + 1)) v6)) else none) else (if (w32 w) = 8 then (jb (Md_readTest 155 e u) fun v7 s7 => some (0, s7)) else (if (w32 w) < 5 then (jb (Md_readTold 155 0 2 u) fun v8 s8 => if (0 ≤ (w32 (e + 1)) ∧ (w32 (e + 1)) < 1905) then if (w32 w) = 0 then (Md_readRest_120 155 e w (jup s8 160 (w32 (e + 1)) v8)) else (if (w32 w) = 4 then (Md_readRest_120 155 e w (jup s8 160 (w32 (e + 1)) v8)) else (Md_readRest_142 155 e w (jup s8 160 (w32 (e + 1)) v8))) else none) else (some (0, u)))))) := by
    rw [Md_readRest, ew, if_pos i0, ← hw]
    rfl
  rcases hk with ⟨q, z⟩ | ⟨q, z⟩ | ⟨q, z⟩ | ⟨q, z⟩ | ⟨q, z⟩ | ⟨q, z⟩ | ⟨q, z⟩ | ⟨q, z⟩ | ⟨q, z⟩ | ⟨q, z⟩
  · subst q z
    obtain ⟨v, w1, s1, u1, a1, a2, a3, a4, a5, a6, a7, a8, a9⟩ := fx_thing (B := B) (F := F) (t := 2) (r := F + 2) (o := e + 1) (l := l) (e := e) hB' hF' (Or.inl h) hx (by omega) (by omega) hFB he.1 (by omega)
    obtain ⟨S1, hS1⟩ : ∃ S1, S1 = jup s1 (F + 2) l v := ⟨_, rfl⟩
    obtain ⟨U1, hU1⟩ : ∃ U1, U1 = jup u1 160 (e + 1) w1 := ⟨_, rfl⟩
    rw [← hS1, ← hU1] at a3 a6 a7
    rw [← hS1] at a4
    rw [← hU1] at a5
    obtain ⟨v2, w2, s2, u2, b1, b2, b3, b4, b5, b6, b7, b8, b9⟩ := fx_thing (B := B) (F := F) (t := 0) (r := F + 3) (o := e + 2) (l := l) (e := e) hB' hF' (MO_m a3) a6 (by omega) (by omega) hFB he.1 (by omega)
    obtain ⟨S2, hS2⟩ : ∃ S2, S2 = jup s2 (F + 3) l v2 := ⟨_, rfl⟩
    obtain ⟨U2, hU2⟩ : ∃ U2, U2 = jup u2 160 (e + 2) w2 := ⟨_, rfl⟩
    rw [← hS2, ← hU2] at b3 b6 b7
    rw [← hS2] at b4
    rw [← hU2] at b5
    obtain ⟨v3, w3, s3, u3, d1, d2, d3, d4, d5, d6, d7, d8, d9⟩ := fx_num (B := B) (F := F) (lo := 1) (hi := 9) (r := F + 4) (o := e + 3) (l := l) (e := e) hB' hF' (MO_m b3) b6 (by omega) (by omega) (by omega) hFB he.1 (by omega)
    have hc : Fr_takeRest 14 13 l s = if jok 4 (s 14 2) = true ∧ jok 5 (s 14 0) = true ∧ jok 3 (s 14 1) = true then jb (Te_takeThing (s 14 0) (s 14 1) 2 s) fun v16 s16 => if (0 ≤ (w32 l) ∧ (w32 l) < 60) ∧ jok 4 ((jup s16 ((s 14 2) + 2) (w32 l) v16) 14 2) = true ∧ jok 5 ((jup s16 ((s 14 2) + 2) (w32 l) v16) 14 0) = true ∧ jok 3 ((jup s16 ((s 14 2) + 2) (w32 l) v16) 14 1) = true then jb (Te_takeThing ((jup s16 ((s 14 2) + 2) (w32 l) v16) 14 0) ((jup s16 ((s 14 2) + 2) (w32 l) v16) 14 1) 0 (jup s16 ((s 14 2) + 2) (w32 l) v16)) fun v17 s17 => if (0 ≤ (w32 l) ∧ (w32 l) < 60) ∧ jok 4 ((jup s17 (((jup s16 ((s 14 2) + 2) (w32 l) v16) 14 2) + 3) (w32 l) v17) 14 2) = true ∧ jok 5 ((jup s17 (((jup s16 ((s 14 2) + 2) (w32 l) v16) 14 2) + 3) (w32 l) v17) 14 0) = true then jb (Te_takeNumber ((jup s17 (((jup s16 ((s 14 2) + 2) (w32 l) v16) 14 2) + 3) (w32 l) v17) 14 0) 1 9 (jup s17 (((jup s16 ((s 14 2) + 2) (w32 l) v16) 14 2) + 3) (w32 l) v17)) fun v18 s18 => if (0 ≤ (w32 l) ∧ (w32 l) < 60) then some (0, (jup s18 (((jup s17 (((jup s16 ((s 14 2) + 2) (w32 l) v16) 14 2) + 3) (w32 l) v17) 14 2) + 4) (w32 l) v18)) else none else none else none else none := tr_13
    have hr : Md_readRest 155 e u = jb (Md_readTold 155 0 2 u) fun v8 s8 => if (0 ≤ (w32 (e + 1)) ∧ (w32 (e + 1)) < 1905) then (if (w32 0) = 0 then Md_readRest_120 155 e 0 (jup s8 160 (w32 (e + 1)) v8) else (if (w32 0) = 4 then Md_readRest_120 155 e 0 (jup s8 160 (w32 (e + 1)) v8) else Md_readRest_142 155 e 0 (jup s8 160 (w32 (e + 1)) v8))) else none := by rw [rr, if_neg (show ¬ w32 0 = 5 by decide), if_neg (show ¬ w32 0 = 6 by decide), if_neg (show ¬ w32 0 = 9 by decide), if_neg (show ¬ w32 0 = 8 by decide), if_pos (show w32 0 < 5 by decide)]
    have hr2 := rq_0 e
    have hr3 := rs_0 e
    refine ⟨_, _, ?_, ?_, MO_tr (MO_tr a3 b3) d3, (a4.tr b4).tr d4, (a5.tr b5).tr d5, d6, fun t => ?_⟩
    · rw [hc, x0, x1, x2, if_pos ⟨jok4 hF', jok5, jok3 hB⟩, a1, jb_t, lw, ← hS1, a6.1, a6.2.1, a6.2.2.1, if_pos ⟨hl, jok4 hF', jok5, jok3 hB⟩, b1, jb_t, ← hS2, b6.1, b6.2.2.1, if_pos ⟨hl, jok4 hF', jok5⟩, d1, jb_t, if_pos hl]
    · rw [hr, a2, jb_t, e1, if_pos i1, if_pos (show w32 0 = 0 by decide), ← hU1, hr2, b2, jb_t, e2, if_pos i2, ← hU2, hr3, d2, jb_t, e3, if_pos i3]
    · obtain ⟨t2, -⟩ := MO_tw (MO_m b3) d3 t
      obtain ⟨t1, -⟩ := MO_tw (MO_m a3) b3 t2
      obtain ⟨z1, z2⟩ := a7 t1
      obtain ⟨z3, z4⟩ := b7 t2
      obtain ⟨z5, z6⟩ := d7 t
      have U1c : ∀ o, o ≤ 2 → U1 160 o = u 160 o := fun o q => by rw [hU1, u_ne (by omega)]; exact a9 _ _ (by omega)
      have r1 : jup s3 (F + 4) l v3 (F + 2) l = v := by rw [u_ne (by omega), d8 _ _ (by omega), hS2, u_ne (by omega), b8 _ _ (by omega), hS1, u_eq ⟨rfl, rfl⟩]
      have r2 : jup s3 (F + 4) l v3 (F + 3) l = v2 := by rw [u_ne (by omega), d8 _ _ (by omega), hS2, u_eq ⟨rfl, rfl⟩]
      have p1 : jup u3 160 (e + 3) w3 160 (e + 1) = w1 := by rw [u_ne (by omega), d9 _ _ (by omega), hU2, u_ne (by omega), b9 _ _ (by omega), hU1, u_eq ⟨rfl, rfl⟩]
      have p2 : jup u3 160 (e + 3) w3 160 (e + 2) = w2 := by rw [u_ne (by omega), d9 _ _ (by omega), hU2, u_eq ⟨rfl, rfl⟩]
      have q2 : jup u3 160 (e + 3) w3 160 2 = u 160 2 := by rw [u_ne (by omega), d9 _ _ (by omega), hU2, u_ne (by omega), b9 _ _ (by omega)]; exact U1c 2 (by omega)
      have q0 : jup u3 160 (e + 3) w3 160 0 = u 160 0 := by rw [u_ne (by omega), d9 _ _ (by omega), hU2, u_ne (by omega), b9 _ _ (by omega)]; exact U1c 0 (by omega)
      have U10 := U1c 0 (by omega)
      unfold RST
      rw [r1, r2, p1, p2, q2, q0, u_eq ⟨rfl, rfl⟩, u_eq ⟨rfl, rfl⟩]
      rw [U10] at z4
      clear a3 a4 a5 a6 a7 a8 a9 b3 b4 b5 b6 b7 b8 b9 d3 d4 d5 d6 d7 d8 d9 hc hr hr2 hr3 t t1 t2 U1c rr num
      refine ⟨fun z => by omega, fun z => by omega, fun z => by omega, fun z => by omega, fun z => by omega, fun z => by omega⟩
  · subst q z
    obtain ⟨v, w1, s1, u1, a1, a2, a3, a4, a5, a6, a7, a8, a9⟩ := fx_thing (B := B) (F := F) (t := 2) (r := F + 2) (o := e + 1) (l := l) (e := e) hB' hF' (Or.inl h) hx (by omega) (by omega) hFB he.1 (by omega)
    have hc : Fr_takeRest 14 14 l s = if jok 4 (s 14 2) = true ∧ jok 5 (s 14 0) = true ∧ jok 3 (s 14 1) = true then jb (Te_takeThing (s 14 0) (s 14 1) 2 s) fun v20 s20 => if (0 ≤ (w32 l) ∧ (w32 l) < 60) then some (0, (jup s20 ((s 14 2) + 2) (w32 l) v20)) else none else none := tr_14
    have hr : Md_readRest 155 e u = jb (Md_readTold 155 0 2 u) fun v8 s8 => if (0 ≤ (w32 (e + 1)) ∧ (w32 (e + 1)) < 1905) then (if (w32 1) = 0 then Md_readRest_120 155 e 1 (jup s8 160 (w32 (e + 1)) v8) else (if (w32 1) = 4 then Md_readRest_120 155 e 1 (jup s8 160 (w32 (e + 1)) v8) else Md_readRest_142 155 e 1 (jup s8 160 (w32 (e + 1)) v8))) else none := by rw [rr, if_neg (show ¬ w32 1 = 5 by decide), if_neg (show ¬ w32 1 = 6 by decide), if_neg (show ¬ w32 1 = 9 by decide), if_neg (show ¬ w32 1 = 8 by decide), if_pos (show w32 1 < 5 by decide)]
    refine ⟨_, _, ?_, ?_, a3, a4, a5, a6, fun t => ?_⟩
    · rw [hc, x0, x1, x2, if_pos ⟨jok4 hF', jok5, jok3 hB⟩, a1, jb_t, lw, if_pos hl]
    · rw [hr, a2, jb_t, e1, if_pos i1, if_neg (show ¬ w32 1 = 0 by decide), if_neg (show ¬ w32 1 = 4 by decide), Md_readRest_142, if_neg (by decide)]
    · obtain ⟨z1, z2⟩ := a7 t
      have c2 : jup u1 160 (e + 1) w1 160 2 = u 160 2 := by rw [u_ne (by omega)]; exact a9 _ _ (by omega)
      unfold RST
      rw [c2, u_eq ⟨rfl, rfl⟩, u_eq ⟨rfl, rfl⟩]
      clear a3 a4 a5 a6 a7 a8 a9 hc hr a1 a2 t rr num
      refine ⟨fun z => by omega, fun z => by omega, fun z => by omega, fun z => by omega, fun z => by omega, fun z => by omega⟩
  · subst q z
    obtain ⟨v, w1, s1, u1, a1, a2, a3, a4, a5, a6, a7, a8, a9⟩ := fx_thing (B := B) (F := F) (t := 2) (r := F + 2) (o := e + 1) (l := l) (e := e) hB' hF' (Or.inl h) hx (by omega) (by omega) hFB he.1 (by omega)
    have hc : Fr_takeRest 14 15 l s = if jok 4 (s 14 2) = true ∧ jok 5 (s 14 0) = true ∧ jok 3 (s 14 1) = true then jb (Te_takeThing (s 14 0) (s 14 1) 2 s) fun v20 s20 => if (0 ≤ (w32 l) ∧ (w32 l) < 60) then some (0, (jup s20 ((s 14 2) + 2) (w32 l) v20)) else none else none := tr_15
    have hr : Md_readRest 155 e u = jb (Md_readTold 155 0 2 u) fun v8 s8 => if (0 ≤ (w32 (e + 1)) ∧ (w32 (e + 1)) < 1905) then (if (w32 2) = 0 then Md_readRest_120 155 e 2 (jup s8 160 (w32 (e + 1)) v8) else (if (w32 2) = 4 then Md_readRest_120 155 e 2 (jup s8 160 (w32 (e + 1)) v8) else Md_readRest_142 155 e 2 (jup s8 160 (w32 (e + 1)) v8))) else none := by rw [rr, if_neg (show ¬ w32 2 = 5 by decide), if_neg (show ¬ w32 2 = 6 by decide), if_neg (show ¬ w32 2 = 9 by decide), if_neg (show ¬ w32 2 = 8 by decide), if_pos (show w32 2 < 5 by decide)]
    refine ⟨_, _, ?_, ?_, a3, a4, a5, a6, fun t => ?_⟩
    · rw [hc, x0, x1, x2, if_pos ⟨jok4 hF', jok5, jok3 hB⟩, a1, jb_t, lw, if_pos hl]
    · rw [hr, a2, jb_t, e1, if_pos i1, if_neg (show ¬ w32 2 = 0 by decide), if_neg (show ¬ w32 2 = 4 by decide), Md_readRest_142, if_neg (by decide)]
    · obtain ⟨z1, z2⟩ := a7 t
      have c2 : jup u1 160 (e + 1) w1 160 2 = u 160 2 := by rw [u_ne (by omega)]; exact a9 _ _ (by omega)
      unfold RST
      rw [c2, u_eq ⟨rfl, rfl⟩, u_eq ⟨rfl, rfl⟩]
      clear a3 a4 a5 a6 a7 a8 a9 hc hr a1 a2 t rr num
      refine ⟨fun z => by omega, fun z => by omega, fun z => by omega, fun z => by omega, fun z => by omega, fun z => by omega⟩
  · subst q z
    obtain ⟨v, w1, s1, u1, a1, a2, a3, a4, a5, a6, a7, a8, a9⟩ := fx_thing (B := B) (F := F) (t := 2) (r := F + 2) (o := e + 1) (l := l) (e := e) hB' hF' (Or.inl h) hx (by omega) (by omega) hFB he.1 (by omega)
    have hc : Fr_takeRest 14 16 l s = if jok 4 (s 14 2) = true ∧ jok 5 (s 14 0) = true ∧ jok 3 (s 14 1) = true then jb (Te_takeThing (s 14 0) (s 14 1) 2 s) fun v20 s20 => if (0 ≤ (w32 l) ∧ (w32 l) < 60) then some (0, (jup s20 ((s 14 2) + 2) (w32 l) v20)) else none else none := tr_16
    have hr : Md_readRest 155 e u = jb (Md_readTold 155 0 2 u) fun v8 s8 => if (0 ≤ (w32 (e + 1)) ∧ (w32 (e + 1)) < 1905) then (if (w32 3) = 0 then Md_readRest_120 155 e 3 (jup s8 160 (w32 (e + 1)) v8) else (if (w32 3) = 4 then Md_readRest_120 155 e 3 (jup s8 160 (w32 (e + 1)) v8) else Md_readRest_142 155 e 3 (jup s8 160 (w32 (e + 1)) v8))) else none := by rw [rr, if_neg (show ¬ w32 3 = 5 by decide), if_neg (show ¬ w32 3 = 6 by decide), if_neg (show ¬ w32 3 = 9 by decide), if_neg (show ¬ w32 3 = 8 by decide), if_pos (show w32 3 < 5 by decide)]
    refine ⟨_, _, ?_, ?_, a3, a4, a5, a6, fun t => ?_⟩
    · rw [hc, x0, x1, x2, if_pos ⟨jok4 hF', jok5, jok3 hB⟩, a1, jb_t, lw, if_pos hl]
    · rw [hr, a2, jb_t, e1, if_pos i1, if_neg (show ¬ w32 3 = 0 by decide), if_neg (show ¬ w32 3 = 4 by decide), Md_readRest_142, if_neg (by decide)]
    · obtain ⟨z1, z2⟩ := a7 t
      have c2 : jup u1 160 (e + 1) w1 160 2 = u 160 2 := by rw [u_ne (by omega)]; exact a9 _ _ (by omega)
      unfold RST
      rw [c2, u_eq ⟨rfl, rfl⟩, u_eq ⟨rfl, rfl⟩]
      clear a3 a4 a5 a6 a7 a8 a9 hc hr a1 a2 t rr num
      refine ⟨fun z => by omega, fun z => by omega, fun z => by omega, fun z => by omega, fun z => by omega, fun z => by omega⟩
  · subst q z
    obtain ⟨v, w1, s1, u1, a1, a2, a3, a4, a5, a6, a7, a8, a9⟩ := fx_thing (B := B) (F := F) (t := 2) (r := F + 2) (o := e + 1) (l := l) (e := e) hB' hF' (Or.inl h) hx (by omega) (by omega) hFB he.1 (by omega)
    obtain ⟨S1, hS1⟩ : ∃ S1, S1 = jup s1 (F + 2) l v := ⟨_, rfl⟩
    obtain ⟨U1, hU1⟩ : ∃ U1, U1 = jup u1 160 (e + 1) w1 := ⟨_, rfl⟩
    rw [← hS1, ← hU1] at a3 a6 a7
    rw [← hS1] at a4
    rw [← hU1] at a5
    obtain ⟨v2, w2, s2, u2, b1, b2, b3, b4, b5, b6, b7, b8, b9⟩ := fx_thing (B := B) (F := F) (t := 1) (r := F + 3) (o := e + 2) (l := l) (e := e) hB' hF' (MO_m a3) a6 (by omega) (by omega) hFB he.1 (by omega)
    have hc : Fr_takeRest 14 17 l s = if jok 4 (s 14 2) = true ∧ jok 5 (s 14 0) = true ∧ jok 3 (s 14 1) = true then jb (Te_takeThing (s 14 0) (s 14 1) 2 s) fun v26 s26 => if (0 ≤ (w32 l) ∧ (w32 l) < 60) ∧ jok 4 ((jup s26 ((s 14 2) + 2) (w32 l) v26) 14 2) = true ∧ jok 5 ((jup s26 ((s 14 2) + 2) (w32 l) v26) 14 0) = true ∧ jok 3 ((jup s26 ((s 14 2) + 2) (w32 l) v26) 14 1) = true then jb (Te_takeThing ((jup s26 ((s 14 2) + 2) (w32 l) v26) 14 0) ((jup s26 ((s 14 2) + 2) (w32 l) v26) 14 1) 1 (jup s26 ((s 14 2) + 2) (w32 l) v26)) fun v27 s27 => if (0 ≤ (w32 l) ∧ (w32 l) < 60) then some (0, (jup s27 (((jup s26 ((s 14 2) + 2) (w32 l) v26) 14 2) + 3) (w32 l) v27)) else none else none else none := tr_17
    have hr : Md_readRest 155 e u = jb (Md_readTold 155 0 2 u) fun v8 s8 => if (0 ≤ (w32 (e + 1)) ∧ (w32 (e + 1)) < 1905) then (if (w32 4) = 0 then Md_readRest_120 155 e 4 (jup s8 160 (w32 (e + 1)) v8) else (if (w32 4) = 4 then Md_readRest_120 155 e 4 (jup s8 160 (w32 (e + 1)) v8) else Md_readRest_142 155 e 4 (jup s8 160 (w32 (e + 1)) v8))) else none := by rw [rr, if_neg (show ¬ w32 4 = 5 by decide), if_neg (show ¬ w32 4 = 6 by decide), if_neg (show ¬ w32 4 = 9 by decide), if_neg (show ¬ w32 4 = 8 by decide), if_pos (show w32 4 < 5 by decide)]
    have hr2 := rq_4 e
    have hr3 := rs_4 e
    refine ⟨_, _, ?_, ?_, MO_tr a3 b3, a4.tr b4, a5.tr b5, b6, fun t => ?_⟩
    · rw [hc, x0, x1, x2, if_pos ⟨jok4 hF', jok5, jok3 hB⟩, a1, jb_t, lw, ← hS1, a6.1, a6.2.1, a6.2.2.1, if_pos ⟨hl, jok4 hF', jok5, jok3 hB⟩, b1, jb_t, if_pos hl]
    · rw [hr, a2, jb_t, e1, if_pos i1, if_neg (show ¬ w32 4 = 0 by decide), if_pos (show w32 4 = 4 by decide), ← hU1, hr2, b2, jb_t, e2, if_pos i2, hr3]
    · obtain ⟨t1, -⟩ := MO_tw (MO_m a3) b3 t
      obtain ⟨z1, z2⟩ := a7 t1
      obtain ⟨z3, z4⟩ := b7 t
      have U1c : ∀ o, o ≤ 2 → U1 160 o = u 160 o := fun o q => by rw [hU1, u_ne (by omega)]; exact a9 _ _ (by omega)
      have r1 : jup s2 (F + 3) l v2 (F + 2) l = v := by rw [u_ne (by omega), b8 _ _ (by omega), hS1, u_eq ⟨rfl, rfl⟩]
      have p1 : jup u2 160 (e + 2) w2 160 (e + 1) = w1 := by rw [u_ne (by omega), b9 _ _ (by omega), hU1, u_eq ⟨rfl, rfl⟩]
      have q2 : jup u2 160 (e + 2) w2 160 2 = u 160 2 := by rw [u_ne (by omega), b9 _ _ (by omega)]; exact U1c 2 (by omega)
      have q0 : jup u2 160 (e + 2) w2 160 1 = u 160 1 := by rw [u_ne (by omega), b9 _ _ (by omega)]; exact U1c 1 (by omega)
      have U10 := U1c 1 (by omega)
      unfold RST
      rw [r1, p1, q2, q0, u_eq ⟨rfl, rfl⟩, u_eq ⟨rfl, rfl⟩]
      rw [U10] at z4
      clear a3 a4 a5 a6 a7 a8 a9 b3 b4 b5 b6 b7 b8 b9 hc hr hr2 hr3 t t1 U1c rr num
      refine ⟨fun z => by omega, fun z => by omega, fun z => by omega, fun z => by omega, fun z => by omega, fun z => by omega⟩
  · subst q z
    exact num 1 60 (by omega) (by omega) tr_18 (by rw [rr, if_pos (show w32 5 = 5 by decide)]) (by omega)
  · subst q z
    exact num 0 9 (by omega) (by omega) tr_0 (by rw [rr, if_neg (show ¬ w32 6 = 5 by decide), if_pos (show w32 6 = 6 by decide)]) (by omega)
  · subst q z
    refine ⟨s, u, tr_19, by rw [rr, if_neg (show ¬ w32 7 = 5 by decide), if_neg (show ¬ w32 7 = 6 by decide), if_neg (show ¬ w32 7 = 9 by decide), if_neg (show ¬ w32 7 = 8 by decide), if_neg (show ¬ w32 7 < 5 by decide)], ⟨Or.inl ⟨h, Int.le_refl _⟩, id⟩, EX.rf _ _, EX.rf _ _, hx, fun _ => ?_⟩
    unfold RST
    refine ⟨fun z => by omega, fun z => by omega, fun z => by omega, fun z => by omega, fun z => by omega, fun z => by omega⟩
  · subst q z
    exact num 1 99 (by omega) (by omega) tr_23 (by rw [rr, if_neg (show ¬ w32 9 = 5 by decide), if_neg (show ¬ w32 9 = 6 by decide), if_pos (show w32 9 = 9 by decide)]) (by omega)
  · subst q z
    refine ⟨s, u, tr_25, by rw [rr, if_neg (show ¬ w32 10 = 5 by decide), if_neg (show ¬ w32 10 = 6 by decide), if_neg (show ¬ w32 10 = 9 by decide), if_neg (show ¬ w32 10 = 8 by decide), if_neg (show ¬ w32 10 < 5 by decide)], ⟨Or.inl ⟨h, Int.le_refl _⟩, id⟩, EX.rf _ _, EX.rf _ _, hx, fun _ => ?_⟩
    unfold RST
    refine ⟨fun z => by omega, fun z => by omega, fun z => by omega, fun z => by omega, fun z => by omega, fun z => by omega⟩
