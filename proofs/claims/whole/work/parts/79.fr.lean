/-! feasts: what stands behind a word -/
theorem jok4 {F : Int} (h : F = 39 ∨ F = 64) : jok 4 F = true := by rcases h with q | q <;> subst q <;> decide +kernel
def rFc (F l a b : Int) : Prop := (a = 11 ∧ 2 ≤ b ∧ b ≤ 9) ∨ (F + 2 ≤ a ∧ a ≤ F + 4 ∧ b = l)
def rFr (e a b : Int) : Prop := (a = 155 ∧ 12 ≤ b ∧ b ≤ 19) ∨ (a = 160 ∧ e + 1 ≤ b ∧ b ≤ e + 7)
/-- what reading feasts hangs on -/
def FX (B F : Int) (s u : jM) : Prop := s 14 0 = 11 ∧ s 14 1 = B ∧ s 14 2 = F ∧ NMx s u B 0
theorem FX_n {B F : Int} {s u : jM} (h : FX B F s u) : 0 ≤ s B 8 ∧ s B 8 ≤ 16 := by
  have := NMC_n h.2.2.2
  exact ⟨this.1, this.2.1⟩
theorem FX_c {B F : Int} {s u : jM} (h : FX B F s u) : (0 ≤ u 160 0 ∧ u 160 0 ≤ 5) ∧ (0 ≤ u 160 1 ∧ u 160 1 ≤ 6) ∧ 0 ≤ u 160 2 ∧ u 160 2 ≤ 5 := by
  have n := NMC_n h.2.2.2
  have e : ∀ t, u 160 (381 * 0 + t) = u 160 t := fun t => by rw [show (381 : Int) * 0 + t = t by omega]
  have a : 0 ≤ u 160 (381 * 0 + 0) ∧ u 160 (381 * 0 + 0) ≤ 5 := n.2.2.1
  have b : 0 ≤ u 160 (381 * 0 + 1) ∧ u 160 (381 * 0 + 1) ≤ 6 := n.2.2.2.1
  have c : 0 ≤ u 160 (381 * 0 + 2) ∧ u 160 (381 * 0 + 2) ≤ 5 := n.2.2.2.2
  rw [e] at a b c
  exact ⟨a, b, c⟩
theorem FX_ex {B F : Int} {s u s' u' : jM} (hB : 30 ≤ B) (h : FX B F s u) (e : ∀ a b, a = 14 ∧ b ≤ 2 ∨ (B ≤ a ∧ a ≤ B + 8) → s' a b = s a b) (e2 : ∀ o, 0 ≤ o → o ≤ 2 → u' 160 o = u 160 o) (e3 : ∀ i, u' 163 i = u 163 i) : FX B F s' u' := by
  obtain ⟨h1, h2, h3, h4⟩ := h
  refine ⟨by rw [e _ _ (by omega)]; exact h1, by rw [e _ _ (by omega)]; exact h2, by rw [e _ _ (by omega)]; exact h3, ?_⟩
  unfold NMx at *
  have f6 : s' (B + 6) = s (B + 6) := funext fun b => e _ _ (by omega)
  have f7 : s' (B + 7) = s (B + 7) := funext fun b => e _ _ (by omega)
  have f8 : s' (B + 8) = s (B + 8) := funext fun b => e _ _ (by omega)
  have fw : (fun i => u' 163 (16 * 0 + i)) = fun i => u 163 (16 * 0 + i) := funext fun i => e3 _
  rw [e B 8 (by omega), f6, f7, f8, fw]
  exact NMC_congr h4 (fun t a b => by show u' 160 (381 * 0 + t) = u 160 (381 * 0 + t); rw [show (381 : Int) * 0 + t = t by omega]; exact e2 t a b)
/-- a row of the class's, a cell of the reference's -/
def MO (s u s' u' : jM) : Prop := ((TW s' u' ∧ s 11 3 ≤ s' 11 3) ∨ BD s' u') ∧ (BD s u → BD s' u')
theorem MO_m {s u s' u' : jM} (h : MO s u s' u') : TW s' u' ∨ BD s' u' := h.1.imp And.left id
theorem MO_tw {s u s' u' : jM} (h : TW s u ∨ BD s u) (e : MO s u s' u') (t : TW s' u') : TW s u ∧ s 11 3 ≤ s' 11 3 := by
  rcases h with h | h
  · rcases e.1 with z | z
    · exact ⟨h, z.2⟩
    · exact absurd t (nb_tw z)
  · exact absurd t (nb_tw (e.2 h))
theorem MO_up {s u s1 u1 s2 u2 : jM} (h : EC s u s1 u1) (e1 : ∀ b, s2 11 b = s1 11 b) (e2 : ∀ b, s2 12 b = s1 12 b) (e3 : ∀ b, b ≤ 19 → u2 155 b = u1 155 b) (e4 : ∀ b, u2 159 b = u1 159 b) : MO s u s2 u2 := by
  refine ⟨?_, fun b => BD_ex (h.2.2.2 b) e1 e2 ⟨e3 _ (by omega), e3 _ (by omega)⟩⟩
  rcases h.1 with ⟨a, b⟩ | a
  · exact Or.inl ⟨TW_ex a e1 e2 e3 e4, by rw [e1]; exact b⟩
  · exact Or.inr (BD_ex a e1 e2 ⟨e3 _ (by omega), e3 _ (by omega)⟩)
theorem MO_tr {s u s1 u1 s2 u2 : jM} (h : MO s u s1 u1) (h2 : MO s1 u1 s2 u2) : MO s u s2 u2 := by
  refine ⟨?_, fun b => h2.2 (h.2 b)⟩
  rcases h.1 with ⟨a, b⟩ | a
  · rcases h2.1 with ⟨c, d⟩ | c
    · exact Or.inl ⟨c, by omega⟩
    · exact Or.inr c
  · exact Or.inr (h2.2 a)
/-- a thing of kind t is told: into row r and cell o -/
theorem fx_thing {B F t r o l e : Int} (hB : 30 ≤ B ∧ B ≤ 55) (hF : F = 39 ∨ F = 64) {s u : jM} (h : TW s u ∨ BD s u) (hx : FX B F s u) (ht : 0 ≤ t ∧ t ≤ 2) (hr : F + 2 ≤ r ∧ r ≤ F + 4) (hFB : B + 8 < F ∨ F + 5 < B) (he : 1635 ≤ e) (ho : e + 1 ≤ o ∧ o ≤ e + 7) : ∃ v w s1 u1, Te_takeThing 11 B t s = some (v, s1) ∧ Md_readTold 155 0 t u = some (w, u1) ∧ MO s u (jup s1 r l v) (jup u1 160 o w) ∧ EX (rFc F l) s (jup s1 r l v) ∧ EX (rFr e) u (jup u1 160 o w) ∧ FX B F (jup s1 r l v) (jup u1 160 o w) ∧ (TW (jup s1 r l v) (jup u1 160 o w) → v = w ∧ 0 ≤ w ∧ w < u 160 t) ∧ (∀ a b, a ≠ 11 → s1 a b = s a b) ∧ (∀ a b, a ≠ 155 → u1 a b = u a b) := by
  have nn := FX_n hx
  obtain ⟨v, w, s1, u1, a1, a2, a3, a4⟩ := tk_thing2 (B := B) (q := 0) (t := t) (by omega) h nn (fun _ => hx.2.2.2.v) (by omega) ht
  have f1 : ∀ a b, a ≠ 11 → s1 a b = s a b := fun a b z => a3.2.1 a b (fun y => z y.1)
  have g1 : ∀ a b, a ≠ 155 → u1 a b = u a b := fun a b z => a3.2.2.1 a b (fun y => z y.1)
  refine ⟨v, w, s1, u1, a1, a2, MO_up a3 (fun b => u_ne (by omega)) (fun b => u_ne (by omega)) (fun b _ => u_ne (by omega)) (fun b => u_ne (by omega)), (a3.2.1.wk (fun a b q => Or.inl q)).up (Or.inr ⟨hr.1, hr.2, rfl⟩), (a3.2.2.1.wk (fun a b q => Or.inl q)).up (Or.inr ⟨rfl, ho.1, ho.2⟩), FX_ex hB.1 hx (fun a b q => by rw [u_ne (by omega)]; exact f1 a b (by omega)) (fun o o1 o2 => by rw [u_ne (by omega)]; exact g1 _ _ (by omega)) (fun i => by rw [u_ne (by omega)]; exact g1 _ _ (by omega)), fun tt => ?_, f1, g1⟩
  have := a4 (TW_ex tt (fun b => (u_ne (by omega)).symm) (fun b => (u_ne (by omega)).symm) (fun b _ => (u_ne (by omega)).symm) (fun b => (u_ne (by omega)).symm))
  rw [show (381 : Int) * 0 + t = t by omega] at this
  omega
/-- a number: into row r and cell o -/
theorem fx_num {B F lo hi r o l e : Int} (hB : 30 ≤ B ∧ B ≤ 55) (hF : F = 39 ∨ F = 64) {s u : jM} (h : TW s u ∨ BD s u) (hx : FX B F s u) (hl : 0 ≤ lo ∧ lo ≤ 100) (hh : 0 ≤ hi ∧ hi ≤ 100) (hr : F + 2 ≤ r ∧ r ≤ F + 4) (hFB : B + 8 < F ∨ F + 5 < B) (he : 1635 ≤ e) (ho : e + 1 ≤ o ∧ o ≤ e + 7) : ∃ v w s1 u1, Te_takeNumber 11 lo hi s = some (v, s1) ∧ Md_count 155 lo hi u = some (w, u1) ∧ MO s u (jup s1 r l v) (jup u1 160 o w) ∧ EX (rFc F l) s (jup s1 r l v) ∧ EX (rFr e) u (jup u1 160 o w) ∧ FX B F (jup s1 r l v) (jup u1 160 o w) ∧ (TW (jup s1 r l v) (jup u1 160 o w) → v = w ∧ lo ≤ w ∧ w ≤ hi) ∧ (∀ a b, a ≠ 11 → s1 a b = s a b) ∧ (∀ a b, a ≠ 155 → u1 a b = u a b) := by
  obtain ⟨v, w, s1, u1, a1, a2, a3, a4⟩ := tk_num2 h hl hh
  have f1 : ∀ a b, a ≠ 11 → s1 a b = s a b := fun a b z => a3.2.1 a b (fun y => z y.1)
  have g1 : ∀ a b, a ≠ 155 → u1 a b = u a b := fun a b z => a3.2.2.1 a b (fun y => z y.1)
  refine ⟨v, w, s1, u1, a1, a2, MO_up a3 (fun b => u_ne (by omega)) (fun b => u_ne (by omega)) (fun b _ => u_ne (by omega)) (fun b => u_ne (by omega)), (a3.2.1.wk (fun a b q => Or.inl q)).up (Or.inr ⟨hr.1, hr.2, rfl⟩), (a3.2.2.1.wk (fun a b q => Or.inl q)).up (Or.inr ⟨rfl, ho.1, ho.2⟩), FX_ex hB.1 hx (fun a b q => by rw [u_ne (by omega)]; exact f1 a b (by omega)) (fun o o1 o2 => by rw [u_ne (by omega)]; exact g1 _ _ (by omega)) (fun i => by rw [u_ne (by omega)]; exact g1 _ _ (by omega)), fun tt => ?_, f1, g1⟩
  have := a4 (TW_ex tt (fun b => (u_ne (by omega)).symm) (fun b => (u_ne (by omega)).symm) (fun b _ => (u_ne (by omega)).symm) (fun b => (u_ne (by omega)).symm))
  omega
/-- what line l and cell e tell, by the class's word -/
def RST (F l e k : Int) (s u : jM) : Prop :=
  (k = 13 → s (F + 2) l = u 160 (e + 1) ∧ s (F + 3) l = u 160 (e + 2) ∧ s (F + 4) l = u 160 (e + 3) ∧ 0 ≤ u 160 (e + 1) ∧ u 160 (e + 1) < u 160 2 ∧ 0 ≤ u 160 (e + 2) ∧ u 160 (e + 2) < u 160 0 ∧ 1 ≤ u 160 (e + 3) ∧ u 160 (e + 3) ≤ 9) ∧
  (k = 14 ∨ k = 15 ∨ k = 16 → s (F + 2) l = u 160 (e + 1) ∧ 0 ≤ u 160 (e + 1) ∧ u 160 (e + 1) < u 160 2) ∧
  (k = 17 → s (F + 2) l = u 160 (e + 1) ∧ s (F + 3) l = u 160 (e + 2) ∧ 0 ≤ u 160 (e + 1) ∧ u 160 (e + 1) < u 160 2 ∧ 0 ≤ u 160 (e + 2) ∧ u 160 (e + 2) < u 160 1) ∧
  (k = 18 → s (F + 4) l = u 160 (e + 1) ∧ 1 ≤ u 160 (e + 1) ∧ u 160 (e + 1) ≤ 60) ∧
  (k = 0 → s (F + 4) l = u 160 (e + 1) ∧ 0 ≤ u 160 (e + 1) ∧ u 160 (e + 1) ≤ 9) ∧
  (k = 23 → s (F + 4) l = u 160 (e + 1) ∧ 1 ≤ u 160 (e + 1) ∧ u 160 (e + 1) ≤ 99)
/-- the class's word and the reference's number of it -/
def KD (k w : Int) : Prop := (k = 13 ∧ w = 0) ∨ (k = 14 ∧ w = 1) ∨ (k = 15 ∧ w = 2) ∨ (k = 16 ∧ w = 3) ∨ (k = 17 ∧ w = 4) ∨ (k = 18 ∧ w = 5) ∨ (k = 0 ∧ w = 6) ∨ (k = 19 ∧ w = 7) ∨ (k = 23 ∧ w = 9) ∨ (k = 25 ∧ w = 10)
theorem rest_both {B F l e k w : Int} (hB : B = 30 ∨ B = 55) (hF : (B = 30 ∧ F = 64) ∨ (B = 55 ∧ F = 39)) {s u : jM} (h : TW s u) (hx : FX B F s u) (hl : 0 ≤ l ∧ l < 60) (he : 1635 ≤ e ∧ e + 8 < 1905) (hw : u 160 e = w) (hk : KD k w) : ∃ s' u', Fr_takeRest 14 k l s = some (0, s') ∧ Md_readRest 155 e u = some (0, u') ∧ MO s u s' u' ∧ EX (rFc F l) s s' ∧ EX (rFr e) u u' ∧ FX B F s' u' ∧ (TW s' u' → RST F l e k s' u') := by
  have hF' : F = 39 ∨ F = 64 := by omega
  have hB' : 30 ≤ B ∧ B ≤ 55 := by omega
  have hFB : B + 8 < F ∨ F + 5 < B := by omega
  have lw : w32 l = l := w32_id (by omega) (by omega)
  have ew : w32 e = e := w32_id (by omega) (by omega)
  have e1 : w32 (e + 1) = e + 1 := w32_id (by omega) (by omega)
  have e2 : w32 (e + 2) = e + 2 := w32_id (by omega) (by omega)
  have e3 : w32 (e + 3) = e + 3 := w32_id (by omega) (by omega)
  have i0 : 0 ≤ e ∧ e < 1905 := by omega
  have i1 : 0 ≤ e + 1 ∧ e + 1 < 1905 := by omega
  have i2 : 0 ≤ e + 2 ∧ e + 2 < 1905 := by omega
  have i3 : 0 ≤ e + 3 ∧ e + 3 < 1905 := by omega
  obtain ⟨x0, x1, x2, x3⟩ := hx
  have hx : FX B F s u := ⟨x0, x1, x2, x3⟩
  -- the number alone
  have num : ∀ (lo hi : Int), 0 ≤ lo ∧ lo ≤ 100 → 0 ≤ hi ∧ hi ≤ 100 → (Fr_takeRest 14 k l s = if jok 4 (s 14 2) = true ∧ jok 5 (s 14 0) = true then jb (Te_takeNumber (s 14 0) lo hi s) fun v2 s2 => if (0 ≤ (w32 l) ∧ (w32 l) < 60) then some (0, (jup s2 ((s 14 2) + 4) (w32 l) v2)) else none else none) → (Md_readRest 155 e u = jb (Md_count 155 lo hi u) fun v4 s4 => if (0 ≤ (w32 (e + 1)) ∧ (w32 (e + 1)) < 1905) then some (0, (jup s4 160 (w32 (e + 1)) v4)) else none) → ((k = 18 ∧ lo = 1 ∧ hi = 60) ∨ (k = 0 ∧ lo = 0 ∧ hi = 9) ∨ (k = 23 ∧ lo = 1 ∧ hi = 99)) → ∃ s' u', Fr_takeRest 14 k l s = some (0, s') ∧ Md_readRest 155 e u = some (0, u') ∧ MO s u s' u' ∧ EX (rFc F l) s s' ∧ EX (rFr e) u u' ∧ FX B F s' u' ∧ (TW s' u' → RST F l e k s' u') := fun lo hi b1 b2 c1 c2 c3 => by
    obtain ⟨v, w', s1, u1, a1, a2, a3, a4, a5, a6, a7, a8, a9⟩ := fx_num (B := B) (F := F) (lo := lo) (hi := hi) (r := F + 4) (o := e + 1) (l := l) (e := e) hB' hF' (Or.inl h) hx b1 b2 (by omega) hFB he.1 (by omega)
    refine ⟨_, _, ?_, ?_, a3, a4, a5, a6, fun t => ?_⟩
    · rw [c1, x0, x2, if_pos ⟨jok4 hF', jok5⟩, a1, jb_t, lw, if_pos hl]
    · rw [c2, a2, jb_t, e1, if_pos i1]
    · obtain ⟨z1, z2⟩ := a7 t
      unfold RST
      rw [u_eq ⟨rfl, rfl⟩, u_eq ⟨rfl, rfl⟩]
      clear a3 a4 a5 a6 a7 a8 a9 c1 c2 a1 a2 t
      refine ⟨fun z => by omega, fun z => by omega, fun z => by omega, fun z => by omega, fun z => by omega, fun z => by omega⟩
  have rr : Md_readRest 155 e u = if (w32 w) = 5 then (jb (Md_count 155 1 60 u) fun v4 s4 => if (0 ≤ (w32 (e + 1)) ∧ (w32 (e + 1)) < 1905) then some (0, (jup s4 160 (w32 (e + 1)) v4)) else none) else (if (w32 w) = 6 then (jb (Md_count 155 0 9 u) fun v5 s5 => if (0 ≤ (w32 (e + 1)) ∧ (w32 (e + 1)) < 1905) then some (0, (jup s5 160 (w32 (e + 1)) v5)) else none) else (if (w32 w) = 9 then (jb (Md_count 155 1 99 u) fun v6 s6 => if (0 ≤ (w32 (e + 1)) ∧ (w32 (e + 1)) < 1905) then some (0, (jup s6 160 (w32 (e + 1)) v6)) else none) else (if (w32 w) = 8 then (jb (Md_readTest 155 e u) fun v7 s7 => some (0, s7)) else (if (w32 w) < 5 then (jb (Md_readTold 155 0 2 u) fun v8 s8 => if (0 ≤ (w32 (e + 1)) ∧ (w32 (e + 1)) < 1905) then if (w32 w) = 0 then (Md_readRest_120 155 e w (jup s8 160 (w32 (e + 1)) v8)) else (if (w32 w) = 4 then (Md_readRest_120 155 e w (jup s8 160 (w32 (e + 1)) v8)) else (Md_readRest_142 155 e w (jup s8 160 (w32 (e + 1)) v8))) else none) else (some (0, u)))))) := by
    rw [Md_readRest, ew, if_pos i0]
    show (if (w32 (u 160 e)) = 5 then _ else _) = _
    rw [hw]
    rfl
  rcases hk with ⟨q, z⟩ | ⟨q, z⟩ | ⟨q, z⟩ | ⟨q, z⟩ | ⟨q, z⟩ | ⟨q, z⟩ | ⟨q, z⟩ | ⟨q, z⟩ | ⟨q, z⟩ | ⟨q, z⟩
  · sorry
  · sorry
  · sorry
  · sorry
  · sorry
  · subst q z
    exact num 1 60 (by omega) (by omega) rfl (by rw [rr]; rfl) (by omega)
  · subst q z
    exact num 0 9 (by omega) (by omega) rfl (by rw [rr]; rfl) (by omega)
  · subst q z
    refine ⟨s, u, rfl, by rw [rr]; rfl, ⟨Or.inl ⟨h, Int.le_refl _⟩, id⟩, EX.rf _ _, EX.rf _ _, hx, fun _ => ?_⟩
    unfold RST
    refine ⟨fun z => by omega, fun z => by omega, fun z => by omega, fun z => by omega, fun z => by omega, fun z => by omega⟩
  · subst q z
    exact num 1 99 (by omega) (by omega) rfl (by rw [rr]; rfl) (by omega)
  · subst q z
    refine ⟨s, u, rfl, by rw [rr]; rfl, ⟨Or.inl ⟨h, Int.le_refl _⟩, id⟩, EX.rf _ _, EX.rf _ _, hx, fun _ => ?_⟩
    unfold RST
    refine ⟨fun z => by omega, fun z => by omega, fun z => by omega, fun z => by omega, fun z => by omega, fun z => by omega⟩
