/-! feasts: steps and blocks on both sides -/
def BADo (F : Int) (x : Nat) (s u : jM) (R : Option (Int × jM)) : Prop := ∃ s'' u'', CL x s = some (0, s'') ∧ R = some (0, u'') ∧ BD s'' u'' ∧ EX (rKc F 0 0) s s'' ∧ EX (rKr 1635) u u''
def GOD (B F dep : Int) (x' : Nat) (s u s' u' : jM) : Prop := TW s' u' ∧ FR B F dep s' u' ∧ (x' : Int) ≤ s' 11 3 ∧ s 11 3 ≤ s' 11 3 ∧ EX (rKc F (s F 2) dep) s s' ∧ EX (rKr (1635 + 9 * s F 1)) u u' ∧ s F 1 ≤ s' F 1 ∧ s F 2 ≤ s' F 2
theorem STP_cg {V V' : jM} {c c' : Int → Int} {a l : Int} (h : STP V c a l) (hv : ∀ i, 10 ≤ i → i ≤ 13 → V' i l = V i l) (hc0 : c' 0 = c 0 ∧ c' 1 = c 1 ∧ c' 2 = c 2) (hc : ∀ o, 111 + 9 * a ≤ o → o < 119 + 9 * a → c' o = c o) : STP V' c' a l := by
  obtain ⟨z0, z1, z2⟩ := hc0
  unfold STP at h ⊢
  rw [hv 10 (by omega) (by omega), hv 11 (by omega) (by omega), hv 12 (by omega) (by omega), hv 13 (by omega) (by omega), hc (111 + 9 * a) (by omega) (by omega), hc (112 + 9 * a) (by omega) (by omega), hc (113 + 9 * a) (by omega) (by omega), hc (114 + 9 * a) (by omega) (by omega), z0, z1, z2]
  exact h
theorem HED_cg {V V' : jM} {c c' : Int → Int} {a l : Int} (h : WHN V c a l ∨ LOP V c a l) (hv : ∀ i, 10 ≤ i → i ≤ 13 → V' i l = V i l) (hc0 : c' 0 = c 0 ∧ c' 1 = c 1 ∧ c' 2 = c 2) (hc : ∀ o, 111 + 9 * a ≤ o → o < 119 + 9 * a → c' o = c o) : WHN V' c' a l ∨ LOP V' c' a l := by
  obtain ⟨z0, z1, z2⟩ := hc0
  unfold WHN LOP at h ⊢
  rw [hv 10 (by omega) (by omega), hv 11 (by omega) (by omega), hv 12 (by omega) (by omega), hv 13 (by omega) (by omega), hc (111 + 9 * a) (by omega) (by omega), hc (112 + 9 * a) (by omega) (by omega), hc (113 + 9 * a) (by omega) (by omega), hc (116 + 9 * a) (by omega) (by omega), hc (117 + 9 * a) (by omega) (by omega), hc (118 + 9 * a) (by omega) (by omega), z1, z2]
  exact h
theorem BKE_cg {V V' : jM} {c c' : Int → Int} {d : Nat} {a b l m : Int} (h : BKE V c d a b l m) (hv : ∀ i j, 10 ≤ i → i ≤ 14 → l ≤ j → j < m → V' i j = V i j) (hc0 : c' 0 = c 0 ∧ c' 1 = c 1 ∧ c' 2 = c 2) (hc : ∀ o, 111 + 9 * a ≤ o → o < 111 + 9 * b → c' o = c o) : BKE V' c' d a b l m := by
  obtain ⟨n, h⟩ := h
  exact ⟨n, BLK_cg hv hc0 hc n d a b l m (Int.le_refl _) (Int.le_refl _) (Int.le_refl _) (Int.le_refl _) h⟩
theorem ONE_cg {V V' : jM} {c c' : Int → Int} {d : Nat} {a b l m : Int} (h : ONE V c d a b l m) (hv : ∀ i j, 10 ≤ i → i ≤ 14 → l ≤ j → j < m → V' i j = V i j) (hc0 : c' 0 = c 0 ∧ c' 1 = c 1 ∧ c' 2 = c 2) (hc : ∀ o, 111 + 9 * a ≤ o → o < 111 + 9 * b → c' o = c o) : ONE V' c' d a b l m := by
  rcases h with ⟨h1, h2, h3, h4⟩ | ⟨d', g, h1, h2, h3, h4, h5, h6, h7, h8, ⟨n, h9⟩, h10⟩
  · exact Or.inl ⟨STP_cg h1 (fun i a b => hv i l a (by omega) (by omega) (by omega)) hc0 (fun o a b => hc o a (by omega)), by rw [hc _ (by omega) (by omega)]; exact h2, h3, h4⟩
  · have hle := BLK_le _ _ _ _ _ _ h9
    exact Or.inr ⟨d', g, h1, HED_cg h2 (fun i a b => hv i l a (by omega) (by omega) (by omega)) hc0 (fun o a b => hc o a (by omega)), by rw [hc _ (by omega) (by omega)]; exact h3, by rw [hv 14 l (by omega) (by omega) (by omega) (by omega)]; exact h4, by rw [hv 10 g (by omega) (by omega) (by omega) (by omega)]; exact h5, by rw [hv 14 g (by omega) (by omega) (by omega) (by omega)]; exact h6, h7, h8, BKE_cg ⟨n, h9⟩ (fun i j a b c d => hv i j a b (by omega) (by omega)) hc0 (fun o a b => hc o (by omega) b), h10⟩
/-- states: rows below stay -/
theorem VF_k {F l dep : Int} {s s' : jM} (h : EX (rKc F l dep) s s') {i j : Int} (hi : 10 ≤ i ∧ i ≤ 14) (hj : j < l) (hF : 39 ≤ F) : VF F s' i j = VF F s i j := by
  show s' (F - 9 + i) j = s (F - 9 + i) j
  exact h _ _ (by unfold rKc; omega)
theorem cF_k {e : Int} {u u' : jM} (h : EX (rKr e) u u') {o : Int} (he : 1635 ≤ e) (ho : 111 ≤ o ∧ 1524 + o < e) : cF u' o = cF u o := by
  unfold cF
  rw [if_neg (by omega), if_neg (by omega)]
  exact h _ _ (by unfold rKr; omega)
theorem cF_0 {e : Int} {u u' : jM} (h : EX (rKr e) u u') (he : 1635 ≤ e) : cF u' 0 = cF u 0 ∧ cF u' 1 = cF u 1 ∧ cF u' 2 = cF u 2 := by
  have a : ∀ o, 0 ≤ o → o ≤ 2 → cF u' o = cF u o := fun o o1 o2 => by
    unfold cF
    rw [if_pos o2, if_pos o2]
    exact h _ _ (by unfold rKr; omega)
  exact ⟨a 0 (by omega) (by omega), a 1 (by omega) (by omega), a 2 (by omega) (by omega)⟩
theorem s170_bd {rec : Int → Int → jM → Option (Int × jM)} {op e : Int} {u : jM} (hop : op = 0 ∨ op = 1) (he : 1635 ≤ e ∧ e + 8 < 1905) (h : 0 < u 155 12 ∧ u 155 12 ≤ 100) : Md_readStep_170 rec 155 op e u = some (0, jup u 160 (e + 8) (u 155 26)) := by
  have e8 : w32 (e + 8) = e + 8 := w32_id (by omega) (by omega)
  have i8 : 0 ≤ e + 8 ∧ e + 8 < 1905 := by omega
  rcases hop with q | q
  · subst q
    rw [Md_readStep_170, if_pos (by decide), e8, if_pos i8]
    rfl
  · subst q
    obtain ⟨v, v1, -⟩ := kt_24 u u
    obtain ⟨y, y1, -⟩ := sign_tot 59 (by omega) u u
    rw [Md_readStep_170, if_neg (by decide), v1, jb_t, must_bd h, jb_t, y1, jb_t, must_bd h, jb_t, e8, if_pos i8]
    rfl
theorem s142_bd {rec : Int → Int → jM → Option (Int × jM)} {op e d : Int} {f : Nat} {u : jM} (hf : 0 < f) (hop : op = 0 ∨ op = 1) (he : 1635 ≤ e ∧ e + 8 < 1905) (h : 0 < u 155 12 ∧ u 155 12 ≤ 100) : Md_readStep_142 rec f 155 d op e u = some (0, jup u 160 (e + 8) (u 155 26)) := by
  obtain ⟨f, rfl⟩ : ∃ g, f = g + 1 := ⟨f - 1, by omega⟩
  have r := s170_bd (rec := rec) hop he h
  rw [Md_readStep_142, if_neg (bd12n h), r]
  split <;> rfl
/-- the text ends where a step should stand -/
theorem step_end {rec : Int → Int → jM → Option (Int × jM)} {dep : Int} {s u : jM} (h : TW s u) (hk : s 11 5 = -1) : ∃ s' u', Te_fail 11 2 s = some (0, s') ∧ Md_readStep_b rec 155 dep u = some (0, u') ∧ BD s' u' ∧ EX rC s s' ∧ EX rD u u' := by
  obtain ⟨s', u', a1, a2, a3, a4, a5⟩ := both_amiss h
  have sw : Md_stepWord 155 u = some (-1, u) := by rw [stepWord_eq h.1, sw_no (by omega)]
  exact ⟨s', u', a1, by rw [Md_readStep_b, sw, jb_t, if_neg (by decide), if_neg (by decide), if_pos (by decide), a2, jb_t, s31_bd (bdb a3)], a3, a4, a5⟩
theorem rC_Kc {F : Int} {s t : jM} (h : EX rC s t) : EX (rKc F 0 0) s t := h.wk (fun _ _ q => Or.inl q)
theorem rD_Kr {s t : jM} (h : EX rD s t) : EX (rKr 1635) s t := h.wk (fun _ _ q => Or.inl ⟨q.1, Or.inl q.2⟩)
theorem Kc_0 {F l dep : Int} {s t : jM} (hl : 0 ≤ l) (hd : 0 ≤ dep) (h : EX (rKc F l dep) s t) : EX (rKc F 0 0) s t := h.wk (fun x y q => by unfold rKc at *; omega)
theorem Kr_0 {e : Int} {s t : jM} (he : 1635 ≤ e) (h : EX (rKr e) s t) : EX (rKr 1635) s t := h.wk (fun x y q => by unfold rKr at *; omega)
def STEPT (B F : Int) (r : Nat) : Prop := ∀ (dep : Int), 0 ≤ dep → dep + r = 3 → ∀ (x : Nat) (s u : jM) (k : Nat), TW s u → FR B F dep s u → s 11 5 ≠ 24 → s 11 4 ≠ 0 → (x : Int) ≤ s 11 3 → r + 1 ≤ k → BADo F x s u (Md_readStep k 155 dep u) ∨ ∃ (x' : Nat) (s' u' : jM), CL x s = CL x' s' ∧ Md_readStep k 155 dep u = some (0, u') ∧ GOD B F dep x' s u s' u' ∧ s 11 3 < s' 11 3 ∧ ONE (VF F s') (cF u') r (s F 1) (s' F 1) (s F 2) (s' F 2)
def LOOPT (B F : Int) (r : Nat) : Prop := ∀ (dep : Int), 1 ≤ dep → dep + r = 3 → ∀ (N f x : Nat) (s u : jM) (k : Nat) (e : Int), 901 ≤ s 11 3 + N → N < f → TW s u → FR B F dep s u → (x : Int) ≤ s 11 3 → r + 1 ≤ k → 1635 ≤ e → e + 8 < 1905 → BADo F x s u (Md_readStep_142 (Md_readStep k) f 155 (dep - 1) 1 e u) ∨ ∃ (x' : Nat) (s' u' : jM), CL x s = CL x' s' ∧ Md_readStep_142 (Md_readStep k) f 155 (dep - 1) 1 e u = Md_readStep_170 (Md_readStep k) 155 1 e u' ∧ GOD B F dep x' s u s' u' ∧ s' 11 5 = 24 ∧ BKE (VF F s') (cF u') r (s F 1) (s' F 1) (s F 2) (s' F 2)
theorem start_b {s u : jM} (h : TW s u) : 0 ≤ s 11 3 ∧ s 11 3 ≤ 900 ∧ s 11 3 ≤ s 11 2 ∧ (s 11 4 ≠ 0 → s 11 3 < s 11 2) ∧ (s 11 4 = 0 → s 11 5 = -1) := by
  obtain ⟨⟨a1, a2, a3, a4, -⟩, -, -, b1, b2, b3, -, d⟩ := h.1
  refine ⟨b1, by omega, b2, b3, fun z => ?_⟩
  rcases d with ⟨-, q⟩ | ⟨q, -⟩ | ⟨q, -⟩ | ⟨q, -⟩ | ⟨q, -⟩
  · exact q
  · omega
  · omega
  · omega
  · omega
theorem GOD_tr {B F dep : Int} {x y : Nat} {s u s1 u1 s2 u2 : jM} (ha : 0 ≤ s F 1 ∧ 0 ≤ s F 2) (h : GOD B F dep x s u s1 u1) (h2 : GOD B F dep y s1 u1 s2 u2) : GOD B F dep y s u s2 u2 := by
  obtain ⟨a1, a2, a3, a4, a5, a6, a7, a8⟩ := h
  obtain ⟨b1, b2, b3, b4, b5, b6, b7, b8⟩ := h2
  exact ⟨b1, b2, b3, by omega, a5.tr (b5.wk (fun p q z => by unfold rKc at *; omega)), a6.tr (b6.wk (fun p q z => by unfold rKr at *; omega)), by omega, by omega⟩
theorem loopt {B F : Int} {r : Nat} (hB : B = 30 ∨ B = 55) (hF : (B = 30 ∧ F = 64) ∨ (B = 55 ∧ F = 39)) (hS : STEPT B F r) : LOOPT B F r := by
  intro dep hd hdr N
  have hF' : F = 39 ∨ F = 64 := by omega
  induction N with
  | zero =>
    intro f x s u k e h1 h2 h3
    have := start_b h3
    omega
  | succ N ih =>
    intro f x s u k e h1 h2 h3 h4 h5 h6 h7 h8
    obtain ⟨f, rfl⟩ : ∃ g, f = g + 1 := ⟨f - 1, by omega⟩
    have sb := start_b h3
    have hx := h4.1
    have d3 := h4.2.2.1
    have a0 := h4.2.2.2.2.1
    have l0 := h4.2.2.2.2.2.1
    obtain ⟨v, v1, v2⟩ := kt_24 s u
    have hm : Md_readStep_142 (Md_readStep k) (f + 1) 155 (dep - 1) 1 e u = if s 11 5 = 24 then Md_readStep_170 (Md_readStep k) 155 1 e u else jb (Md_readStep k 155 dep u) fun _ s6 => Md_readStep_142 (Md_readStep k) f 155 (dep - 1) 1 e s6 := by
      rw [Md_readStep_142, if_neg (by decide), if_pos (u12z h3.2.2), v1, jb_t, v2 h3, show dep - 1 + 1 = dep by omega, w32_if]
    rw [hm]
    clear hm
    by_cases z : s 11 5 = 24
    · right
      rw [if_pos z]
      exact ⟨x, s, u, rfl, rfl, ⟨h3, h4, h5, Int.le_refl _, EX.rf _ _, EX.rf _ _, Int.le_refl _, Int.le_refl _⟩, z, BKE_nil⟩
    · rw [if_neg z]
      obtain ⟨k, rfl⟩ : ∃ g, k = g + 1 := ⟨k - 1, by omega⟩
      by_cases y : s 11 4 = 0
      · left
        obtain ⟨s', u', b1, b2, b3, b4, b5⟩ := step_end (rec := Md_readStep k) (dep := dep) h3 (sb.2.2.2.2 y)
        have w8 : ¬ w32 (s' 11 8) = 0 := by rw [b3.2.1]; exact bd12n (bdb b3)
        have x0 : s' 14 0 = 11 := by rw [b4 _ _ (by unfold rC; omega)]; exact hx.1
        refine ⟨s', jup u' 160 (e + 8) (u' 155 26), ?_, ?_, BD_ex b3 (fun _ => rfl) (fun _ => rfl) ⟨u_ne (by omega), u_ne (by omega)⟩, rC_Kc b4, (rD_Kr b5).up (Or.inr ⟨rfl, by omega⟩)⟩
        · rw [cl_end h3 hx (by omega) y h4.2.1 d3, if_pos (by omega), b1, jb_t, x0, if_pos jok5, isWellC, if_neg w8, jb_t]
          rfl
        · rw [Md_readStep, b2, jb_t, s142_bd (by omega) (Or.inr rfl) ⟨h7, h8⟩ (bdb b3)]
      · rcases hS dep (by omega) hdr x s u (k + 1) h3 h4 z y h5 h6 with ⟨s', u', b1, b2, b3, b4, b5⟩ | ⟨x', s', u', b1, b2, b3, b4, b5⟩
        · left
          exact ⟨s', jup u' 160 (e + 8) (u' 155 26), b1, by rw [b2, jb_t, s142_bd (by omega) (Or.inr rfl) ⟨h7, h8⟩ (bdb b3)], BD_ex b3 (fun _ => rfl) (fun _ => rfl) ⟨u_ne (by omega), u_ne (by omega)⟩, b4, b5.up (Or.inr ⟨rfl, by omega⟩)⟩
        · have gd := b3
          obtain ⟨c1, c2, c3, c4, c5, c6, c7, c8⟩ := b3
          rcases ih f x' s' u' (k + 1) e (by omega) (by omega) c1 c2 c3 h6 h7 h8 with ⟨s2, u2, e1, e2, e3, e4, e5⟩ | ⟨x2, s2, u2, e1, e2, e3, e4, e5⟩
          · left
            exact ⟨s2, u2, by rw [b1]; exact e1, by rw [b2, jb_t]; exact e2, e3, (Kc_0 l0 d3.1 c5).tr e4, (Kr_0 (by omega) c6).tr e5⟩
          · right
            refine ⟨x2, s2, u2, by rw [b1]; exact e1, by rw [b2, jb_t]; exact e2, GOD_tr ⟨a0.1, l0⟩ gd e3, e4, ONE_cons ?_ e5⟩
            obtain ⟨-, -, -, -, g5, g6, -, -⟩ := e3
            exact ONE_cg b5 (fun i j i1 i2 j1 j2 => VF_k g5 ⟨i1, i2⟩ j2 (by omega)) (cF_0 g6 (by omega)) (fun o o1 o2 => cF_k g6 (by omega) ⟨by omega, by omega⟩)
