/-! reading a see: what holds between the class's See at B and block 4 -/
def cR (u : jM) : Int → Int := fun o => u 160 (1524 + o)
def wN (u : jM) : Int → Int := fun i => u 163 (64 + i)
def R13 (B : Int) (s u : jM) : Prop := s 13 0 = 11 ∧ s 13 1 = B ∧ (s 13 2 = 0 ∨ s 13 2 = 1) ∧ (s 13 3 = 0 ∨ s 13 3 = 1) ∧ u 155 25 = 8 * s 13 2 + 16 * s 13 3
def RHd (B : Int) (s u : jM) : Prop := s B 0 = u 160 1527 ∧ 0 ≤ u 160 1527 ∧ u 160 1527 ≤ 9 ∧ s B 1 = u 160 1528 ∧ 0 ≤ u 160 1528 ∧ u 160 1528 ≤ 16 ∧ s B 2 = 0 ∧ s B 3 = 0 ∧ s B 4 = u 160 1524 ∧ s B 5 = u 160 1525 ∧ s B 6 = u 160 1526 ∧ s B 7 = u 160 1532 ∧ 0 ≤ u 160 1532 ∧ u 160 1532 ≤ 10
def RNm (B : Int) (s u : jM) : Prop := NMC (s B 8) (s (B + 6)) (s (B + 7)) (s (B + 8)) (cR u) (wN u)
def RSt (B : Int) (s u : jM) : Prop := ∀ j, 0 ≤ j → j < u 160 1524 → s (B + 1) j = u 160 (1533 + j) ∧ s (B + 2) j = u 160 (1538 + j) ∧ s (B + 3) j = u 160 (1543 + j) ∧ 0 ≤ u 160 (1533 + j) ∧ u 160 (1533 + j) ≤ 9 ∧ 0 ≤ u 160 (1538 + j) ∧ u 160 (1538 + j) ≤ 99 ∧ 0 ≤ u 160 (1543 + j) ∧ u 160 (1543 + j) ≤ 99
def RMo (B : Int) (s u : jM) : Prop := ∀ i, 0 ≤ i → i < u 160 1526 → (s (B + (15 + 2 * i)) 0 = u 160 (1578 + i) ∧ s (B + (15 + 2 * i)) 1 = u 160 (1583 + i) ∧ s (B + (15 + 2 * i)) 2 = u 160 (1588 + i)) ∧ (1 ≤ u 160 (1578 + i) ∧ u 160 (1578 + i) ≤ 30 ∧ 1 ≤ u 160 (1583 + i) ∧ u 160 (1583 + i) ≤ 9 ∧ 0 ≤ u 160 (1588 + i) ∧ u 160 (1588 + i) < u 160 1525) ∧ (∀ b, 3 ≤ b → b ≤ 7 → s (B + (15 + 2 * i)) b = 0) ∧ ∀ j, 0 ≤ j → j < 5 → s (B + (16 + 2 * i)) j = 0
def RWk (B : Int) (s u : jM) : Prop := WKS (cR u) ∧ E0 64 1000000 (s (B + 5)) (cR u) (u 160 1532)
def RZe (B : Int) (s u : jM) : Prop := s (B + 9) 0 = 0 ∧ s (B + 9) 2 = 0 ∧ ∀ o, (1529 ≤ o ∧ o ≤ 1531) ∨ (1593 ≤ o ∧ o < 1905) → u 160 o = 0
def RDs (B : Int) (s u : jM) : Prop := R13 B s u ∧ RHd B s u ∧ RNm B s u ∧ RSt B s u ∧ RMo B s u ∧ RWk B s u ∧ RZe B s u
theorem NMC_congr {n : Int} {N6 N7 N8 C W D : Int → Int} (h : NMC n N6 N7 N8 C W) (hD : ∀ t, 0 ≤ t → t ≤ 2 → D t = C t) : NMC n N6 N7 N8 D W := by
  obtain ⟨n1, n2, n3, n4, n5⟩ := h
  refine ⟨by rw [hD 0 (by omega) (by omega), hD 1 (by omega) (by omega), hD 2 (by omega) (by omega)]; exact n1, fun t a b => by rw [hD t a b]; exact n2 t a b, fun k a b => ?_, fun t j a b c d => ?_, n5⟩
  · have := n3 k a b
    rw [hD _ this.1 this.2.1]
    exact this
  · rw [hD t a b] at d
    exact n4 t j a b c d
theorem RNm_NMx {B : Int} {s u : jM} (h : RNm B s u) : NMx s u B 4 := by
  have e1 : (fun o => u 160 (381 * 4 + o)) = cR u := by funext o; rfl
  have e2 : (fun i => u 163 (16 * 4 + i)) = wN u := by funext o; rfl
  unfold NMx
  rw [e1, e2]
  exact h
theorem R13_fr {B : Int} {s u s' u' : jM} (h : R13 B s u) (e : ∀ b, 0 ≤ b → b ≤ 3 → s' 13 b = s 13 b) (e2 : u' 155 25 = u 155 25) : R13 B s' u' := by
  unfold R13 at *
  rw [e 0 (by omega) (by omega), e 1 (by omega) (by omega), e 2 (by omega) (by omega), e 3 (by omega) (by omega), e2]
  exact h
theorem RHd_fr {B : Int} {s u s' u' : jM} (h : RHd B s u) (e : ∀ b, 0 ≤ b → b ≤ 7 → s' B b = s B b) (e2 : ∀ o, 1524 ≤ o → o ≤ 1532 → u' 160 o = u 160 o) : RHd B s' u' := by
  unfold RHd at *
  rw [e 0 (by omega) (by omega), e 1 (by omega) (by omega), e 2 (by omega) (by omega), e 3 (by omega) (by omega), e 4 (by omega) (by omega), e 5 (by omega) (by omega), e 6 (by omega) (by omega), e 7 (by omega) (by omega), e2 1527 (by omega) (by omega), e2 1528 (by omega) (by omega), e2 1524 (by omega) (by omega), e2 1525 (by omega) (by omega), e2 1526 (by omega) (by omega), e2 1532 (by omega) (by omega)]
  exact h
theorem RNm_fr {B : Int} {s u s' u' : jM} (h : RNm B s u) (e : s' B 8 = s B 8) (e2 : ∀ a b, B + 6 ≤ a → a ≤ B + 8 → s' a b = s a b) (e3 : ∀ o, 1524 ≤ o → o ≤ 1526 → u' 160 o = u 160 o) (e4 : ∀ i, u' 163 i = u 163 i) : RNm B s' u' := by
  unfold RNm at *
  have f6 : s' (B + 6) = s (B + 6) := funext fun b => e2 _ b (by omega) (by omega)
  have f7 : s' (B + 7) = s (B + 7) := funext fun b => e2 _ b (by omega) (by omega)
  have f8 : s' (B + 8) = s (B + 8) := funext fun b => e2 _ b (by omega) (by omega)
  have fw : wN u' = wN u := funext fun i => e4 _
  rw [e, f6, f7, f8, fw]
  exact NMC_congr h (fun t a b => e3 _ (by omega) (by omega))
theorem RSt_fr {B : Int} {s u s' u' : jM} (h : RSt B s u) (hn : u 160 1524 ≤ 5) (e : ∀ a b, B + 1 ≤ a → a ≤ B + 3 → s' a b = s a b) (e2 : u' 160 1524 = u 160 1524) (e3 : ∀ o, 1533 ≤ o → o < 1548 → u' 160 o = u 160 o) : RSt B s' u' := by
  intro j j1 j2
  rw [e2] at j2
  rw [e _ _ (by omega) (by omega), e _ _ (by omega) (by omega), e _ _ (by omega) (by omega), e3 _ (by omega) (by omega), e3 _ (by omega) (by omega), e3 _ (by omega) (by omega)]
  exact h j j1 j2
theorem RMo_fr {B : Int} {s u s' u' : jM} (h : RMo B s u) (hn : u 160 1526 ≤ 5) (e : ∀ a b, B + 15 ≤ a → a ≤ B + 24 → s' a b = s a b) (e2 : u' 160 1526 = u 160 1526) (e3 : u 160 1525 ≤ u' 160 1525) (e4 : ∀ o, 1578 ≤ o → o < 1593 → u' 160 o = u 160 o) : RMo B s' u' := by
  intro i i1 i2
  rw [e2] at i2
  obtain ⟨h1, h2, h3, h4⟩ := h i i1 i2
  refine ⟨?_, ?_, fun b b1 b2 => by rw [e _ _ (by omega) (by omega)]; exact h3 b b1 b2, fun j j1 j2 => by rw [e _ _ (by omega) (by omega)]; exact h4 j j1 j2⟩
  · rw [e _ _ (by omega) (by omega), e _ _ (by omega) (by omega), e _ _ (by omega) (by omega), e4 _ (by omega) (by omega), e4 _ (by omega) (by omega), e4 _ (by omega) (by omega)]
    exact h1
  · rw [e4 _ (by omega) (by omega), e4 _ (by omega) (by omega), e4 _ (by omega) (by omega)]
    omega
theorem EDW_congr {c c' : Int → Int} {w : Int} (hw : w ≤ 10) (e : ∀ o, 24 ≤ o → o < 54 → c' o = c o) {p q h : Int} (hd : EDW c' w p q h) : EDW c w p q h := by
  obtain ⟨x, x1, x2, x3, x4⟩ := hd
  rw [e _ (by omega) (by omega), e _ (by omega) (by omega)] at x3
  rw [e _ (by omega) (by omega)] at x4
  exact ⟨x, x1, x2, x3, x4⟩
theorem E0_congr {k far : Int} {d c c' : Int → Int} {w : Int} (hw : w ≤ 10) (e : ∀ o, 24 ≤ o → o < 54 → c' o = c o) (h : E0 k far d c w) : E0 k far d c' w := by
  intro p q p1 p2 q1 q2
  obtain ⟨a, b⟩ := h p q p1 p2 q1 q2
  refine ⟨a, fun z => ?_⟩
  obtain ⟨b1, b2⟩ := b z
  refine ⟨fun y hy => b1 y (EDW_congr hw e hy), ?_⟩
  rcases b2 with b2 | ⟨y, y1, y2⟩
  · exact Or.inl b2
  · exact Or.inr ⟨y, EDW_congr hw (fun o o1 o2 => (e o o1 o2).symm) y1, y2⟩
theorem RWk_fr {B : Int} {s u s' u' : jM} (h : RWk B s u) (hn : u 160 1532 ≤ 10) (e : ∀ b, s' (B + 5) b = s (B + 5) b) (e2 : u' 160 1532 = u 160 1532) (e3 : u 160 1525 ≤ u' 160 1525) (e4 : ∀ o, 1548 ≤ o → o < 1578 → u' 160 o = u 160 o) : RWk B s' u' := by
  obtain ⟨h1, h2⟩ := h
  have f5 : s' (B + 5) = s (B + 5) := funext e
  have cc : ∀ o, 24 ≤ o → o < 54 → cR u' o = cR u o := fun o a b => e4 _ (by omega) (by omega)
  refine ⟨fun x x1 x2 => ?_, ?_⟩
  · have x2 : x < u' 160 1532 := x2
    rw [e2] at x2
    have := h1 x x1 x2
    rw [cc (24 + x) (by omega) (by omega), cc (34 + x) (by omega) (by omega), cc (44 + x) (by omega) (by omega)]
    have a : cR u 1 = u 160 1525 := rfl
    have b : cR u' 1 = u' 160 1525 := rfl
    rw [b]
    rw [a] at this
    omega
  · rw [f5, e2]
    exact E0_congr hn cc h2
theorem RZe_fr {B : Int} {s u s' u' : jM} (h : RZe B s u) (e : s' (B + 9) 0 = s (B + 9) 0) (e1 : s' (B + 9) 2 = s (B + 9) 2) (e2 : ∀ o, (1529 ≤ o ∧ o ≤ 1531) ∨ (1593 ≤ o ∧ o < 1905) → u' 160 o = u 160 o) : RZe B s' u' := ⟨by rw [e]; exact h.1, by rw [e1]; exact h.2.1, fun o q => by rw [e2 o q]; exact h.2.2 o q⟩
theorem RS_b {B : Int} {s u : jM} (h : RDs B s u) : (0 ≤ s B 8 ∧ s B 8 ≤ 16) ∧ (0 ≤ u 160 1524 ∧ u 160 1524 ≤ 5) ∧ (0 ≤ u 160 1525 ∧ u 160 1525 ≤ 6) ∧ (0 ≤ u 160 1526 ∧ u 160 1526 ≤ 5) ∧ 0 ≤ u 160 1532 ∧ u 160 1532 ≤ 10 := by
  have n := NMC_n h.2.2.1
  obtain ⟨a, b, c, d, e1, e2⟩ := n
  exact ⟨⟨a, b⟩, c, d, ⟨e1, e2⟩, h.2.1.2.2.2.2.2.2.2.2.2.2.2.2⟩
/-- the class may go on -/
def SV (B : Int) (s : jM) : Prop := s 13 0 = 11 ∧ s 13 1 = B ∧ (0 ≤ s B 8 ∧ s B 8 ≤ 16) ∧ (0 ≤ s B 4 ∧ s B 4 ≤ 5) ∧ (0 ≤ s B 5 ∧ s B 5 ≤ 6) ∧ 0 ≤ s B 6 ∧ s B 6 ≤ 5
theorem RS_SV {B : Int} {s u : jM} (h : RDs B s u) : SV B s := by
  have b := RS_b h
  obtain ⟨a1, a2, -⟩ := h.1
  have c := h.2.1
  unfold RHd at c
  refine ⟨a1, a2, b.1, ?_, ?_, ?_⟩ <;> omega
theorem SV_ex {B : Int} {s t : jM} (hB : 20 ≤ B) (h : SV B s) (e : EX rC s t) : SV B t := by
  have f : ∀ a b, a ≠ 11 → t a b = s a b := fun a b q => e a b (fun z => q z.1)
  unfold SV at *
  rw [f 13 0 (by omega), f 13 1 (by omega), f B 8 (by omega), f B 4 (by omega), f B 5 (by omega), f B 6 (by omega)]
  exact h
theorem RS_tok {B : Int} {s u s' u' : jM} (hB : 20 ≤ B) (h : RDs B s u) (e : EX rC s s') (e2 : EX rD u u') : RDs B s' u' := by
  have f : ∀ a b, a ≠ 11 → s' a b = s a b := fun a b q => e a b (fun z => q z.1)
  have g : ∀ a b, a ≠ 155 → u' a b = u a b := fun a b q => e2 a b (fun z => q z.1)
  have bd := RS_b h
  obtain ⟨h1, h2, h3, h4, h5, h6, h7⟩ := h
  refine ⟨R13_fr h1 (fun b _ _ => f _ _ (by omega)) (e2 _ _ (by unfold rD; omega)), RHd_fr h2 (fun b _ _ => f _ _ (by omega)) (fun o _ _ => g _ _ (by omega)), RNm_fr h3 (f _ _ (by omega)) (fun a b _ _ => f _ _ (by omega)) (fun o _ _ => g _ _ (by omega)) (fun i => g _ _ (by omega)), RSt_fr h4 bd.2.1.2 (fun a b _ _ => f _ _ (by omega)) (g _ _ (by omega)) (fun o _ _ => g _ _ (by omega)), RMo_fr h5 bd.2.2.2.1.2 (fun a b _ _ => f _ _ (by omega)) (g _ _ (by omega)) ?_ (fun o _ _ => g _ _ (by omega)), RWk_fr h6 bd.2.2.2.2.2 (fun b => f _ _ (by omega)) (g _ _ (by omega)) ?_ (fun o _ _ => g _ _ (by omega)), RZe_fr h7 (f _ _ (by omega)) (f _ _ (by omega)) (fun o _ => g _ _ (by omega))⟩
  · rw [g _ _ (by omega)]; omega
  · rw [g _ _ (by omega)]; omega
/-! the class goes on though it is faulty -/
def rS (B a b : Int) : Prop := (a = 11 ∧ 2 ≤ b ∧ b ≤ 9) ∨ (a = 13 ∧ (b = 2 ∨ b = 3)) ∨ (B ≤ a ∧ a < B + 25)
def rQ (a b : Int) : Prop := (a = 155 ∧ ((12 ≤ b ∧ b ≤ 19) ∨ b = 25)) ∨ (a = 160 ∧ 1524 ≤ b) ∨ (a = 163 ∧ 64 ≤ b)
def GB (B x y : Int) (s : jM) : Prop := SB x y s ∧ SV B s
theorem rC_rS {B : Int} {s t : jM} (h : EX rC s t) : EX (rS B) s t := h.wk (fun _ _ q => Or.inl q)
theorem rD_rQ {s t : jM} (h : EX rD s t) : EX rQ s t := h.wk (fun _ _ q => Or.inl ⟨q.1, Or.inl q.2⟩)
def BQ (B x y : Int) (s0 : jM) (F : Option (Int × jM)) : Prop := ∃ v t, F = some (v, t) ∧ GB B x y t ∧ EX (rS B) s0 t
theorem BQ_jb {B x y : Int} {s0 : jM} {F : Option (Int × jM)} {f : Int → jM → Option (Int × jM)} (h : BQ B x y s0 F) (k : ∀ v t, GB B x y t → EX (rS B) s0 t → BQ B x y s0 (f v t)) : BQ B x y s0 (jb F f) := by
  obtain ⟨v, t, h1, h2, h3⟩ := h
  rw [h1, jb_t]
  exact k v t h2 h3
theorem BQ_tok {B x y : Int} {s0 s : jM} {F : Option (Int × jM)} (hB : 20 ≤ B) (h : ∃ v t, F = some (v, t) ∧ SB x y t ∧ EX rC s t) (g : GB B x y s) (e : EX (rS B) s0 s) : BQ B x y s0 F := by
  obtain ⟨v, t, h1, h2, h3⟩ := h
  exact ⟨v, t, h1, ⟨h2, SV_ex hB g.2 h3⟩, e.tr (rC_rS h3)⟩
theorem SB_thing {x y : Int} (hx : 0 < x ∧ x ≤ 100) {s : jM} {B : Int} (t : Int) (hb : 0 ≤ s B 8 ∧ s B 8 ≤ 16) (h : SB x y s) : ∃ v t', Te_takeThing 11 B t s = some (v, t') ∧ SB x y t' ∧ EX rC s t' := by
  obtain ⟨f, f1, f2⟩ := findC (B := B) (x := s 11 7) (t := t) hb (s B 8).toNat jFU 0 (by omega) (by omega) (bub_ge (by omega))
  have f1' : Se_find B (s 11 7) t s = some (f, s) := f1
  clear f2
  obtain ⟨n, b1, -⟩ := isNameC s
  by_cases y1 : w32 n = 0
  · exact ⟨f, s, by rw [Te_takeThing, f1', jb_t, b1, jb_t, if_pos y1, SB_fail hx _ h, jb_t], h, EX.rf _ _⟩
  · by_cases y2 : w32 f = -1
    · exact ⟨f, s, by rw [Te_takeThing, f1', jb_t, b1, jb_t, if_neg y1, if_pos y2, SB_fail hx _ h, jb_t], h, EX.rf _ _⟩
    · obtain ⟨t', t1, t2, t3⟩ := SB_adv h
      exact ⟨f, t', by rw [Te_takeThing, f1', jb_t, b1, jb_t, if_neg y1, if_neg y2, t1, jb_t], t2, t3⟩
theorem jok5 : jok 5 11 = true := by decide +kernel
theorem jok3 {B : Int} (h : B = 30 ∨ B = 55) : jok 3 B = true := by rcases h with q | q <;> subst q <;> decide +kernel
/-- what a part of a see gives -/
def PO (B : Int) (s u s' u' : jM) : Prop := (EX (rS B) s s' ∧ EX rQ u u') ∧ ((TW s' u' ∧ RDs B s' u' ∧ s 11 2 ≤ s' 11 3) ∨ (BD s' u' ∧ SV B s'))
theorem has_eq {a b : Int} (ha : a = 0 ∨ a = 1) (hb : b = 0 ∨ b = 1) {u : jM} : Md_has (8 * a + 16 * b) 3 u = some (a, u) ∧ Md_has (8 * a + 16 * b) 4 u = some (b, u) := by
  have k1 : w32 (jiand (jishr (8 * 0 + 16 * 0) 3) 1) = 0 := by decide +kernel
  have k2 : w32 (jiand (jishr (8 * 0 + 16 * 1) 3) 1) = 0 := by decide +kernel
  have k3 : w32 (jiand (jishr (8 * 1 + 16 * 0) 3) 1) = 1 := by decide +kernel
  have k4 : w32 (jiand (jishr (8 * 1 + 16 * 1) 3) 1) = 1 := by decide +kernel
  have l1 : w32 (jiand (jishr (8 * 0 + 16 * 0) 4) 1) = 0 := by decide +kernel
  have l2 : w32 (jiand (jishr (8 * 0 + 16 * 1) 4) 1) = 1 := by decide +kernel
  have l3 : w32 (jiand (jishr (8 * 1 + 16 * 0) 4) 1) = 0 := by decide +kernel
  have l4 : w32 (jiand (jishr (8 * 1 + 16 * 1) 4) 1) = 1 := by decide +kernel
  rcases ha with q | q <;> subst q <;> rcases hb with q | q <;> subst q
  · rw [Md_has, Md_has, k1, l1]; exact ⟨rfl, rfl⟩
  · rw [Md_has, Md_has, k2, l2]; exact ⟨rfl, rfl⟩
  · rw [Md_has, Md_has, k3, l3]; exact ⟨rfl, rfl⟩
  · rw [Md_has, Md_has, k4, l4]; exact ⟨rfl, rfl⟩
theorem ior3 {b : Int} (hb : b = 0 ∨ b = 1) : jior (8 * 0 + 16 * b) (jishl 1 3) = 8 * 1 + 16 * b := by rcases hb with q | q <;> subst q <;> decide +kernel
theorem ior4 {a : Int} (ha : a = 0 ∨ a = 1) : jior (8 * a + 16 * 0) (jishl 1 4) = 8 * a + 16 * 1 := by rcases ha with q | q <;> subst q <;> decide +kernel
theorem EX_up {P : Int → Int → Prop} {s t : jM} {k j v : Int} (h : EX P s t) : EX P (jup s k j v) (jup t k j v) := fun a b q => by
  rw [jup_at, jup_at]
  split
  · rfl
  · exact h a b q
