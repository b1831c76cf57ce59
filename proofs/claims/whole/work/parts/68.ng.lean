/-! names taken and given -/
theorem nfr_inj {t t' a b : Int} (h : 0 ≤ t ∧ t ≤ 2) (h' : 0 ≤ t' ∧ t' ≤ 2) (ha : 0 ≤ a ∧ a < (if t = 1 then 6 else 5)) (hb : 0 ≤ b ∧ b < (if t' = 1 then 6 else 5)) (e : nfr t + a = nfr t' + b) : t = t' ∧ a = b := by
  unfold nfr at e
  rcases (by omega : t = 0 ∨ t = 1 ∨ t = 2) with q | q | q <;> subst q <;> rcases (by omega : t' = 0 ∨ t' = 1 ∨ t' = 2) with q | q | q <;> subst q <;> simp only [Int.reduceEq, if_true, if_false] at e ha hb <;> omega
theorem NMC_add {n : Int} {N6 N7 N8 C W M6 M7 M8 D Z : Int → Int} {t x y : Int} (h : NMC n N6 N7 N8 C W) (ht : 0 ≤ t ∧ t ≤ 2) (hl : C t < (if t = 1 then 6 else 5)) (hD : D t = C t + 1 ∧ ∀ o, 0 ≤ o → o ≤ 2 → o ≠ t → D o = C o) (h6 : M6 n = x ∧ ∀ k, 0 ≤ k → k < n → M6 k = N6 k) (h7 : M7 n = t ∧ ∀ k, 0 ≤ k → k < n → M7 k = N7 k) (h8 : M8 n = C t ∧ ∀ k, 0 ≤ k → k < n → M8 k = N8 k) (hZ : Z (nfr t + C t) = y ∧ ∀ i, 0 ≤ i → i < 16 → i ≠ nfr t + C t → Z i = W i) (hw : WD x y) (hx : ∀ k, 0 ≤ k → k < n → N6 k ≠ x) : NMC (n + 1) M6 M7 M8 D Z := by
  have n0 := NMC_n h
  obtain ⟨n1, n2, n3, n4, n5⟩ := h
  have ct := n2 t ht.1 ht.2
  refine ⟨?_, fun o o1 o2 => ?_, fun k k1 k2 => ?_, fun o j o1 o2 j1 j2 => ?_, fun k k' k1 k2 k3 k4 e => ?_⟩
  · have d0 : t ≠ 0 → D 0 = C 0 := fun q => hD.2 0 (by omega) (by omega) (by omega)
    have d1 : t ≠ 1 → D 1 = C 1 := fun q => hD.2 1 (by omega) (by omega) (by omega)
    have d2 : t ≠ 2 → D 2 = C 2 := fun q => hD.2 2 (by omega) (by omega) (by omega)
    have e := hD.1
    clear n2 n3 n4 n5 hD h6 h7 h8 hZ hx
    rcases (by omega : t = 0 ∨ t = 1 ∨ t = 2) with q | q | q
    · rw [q] at e; have := d1 (by omega); have := d2 (by omega); omega
    · rw [q] at e; have := d0 (by omega); have := d2 (by omega); omega
    · rw [q] at e; have := d0 (by omega); have := d1 (by omega); omega
  · by_cases q : o = t
    · rw [q, hD.1]; omega
    · rw [hD.2 o o1 o2 q]; exact n2 o o1 o2
  · by_cases q : k = n
    · rw [q, h7.1, h8.1, h6.1, hD.1, hZ.1]
      exact ⟨ht.1, ht.2, ct.1, by omega, hw⟩
    · obtain ⟨a1, a2, a3, a4, a5⟩ := n3 k k1 (by omega)
      have cb := n2 (N7 k) a1 a2
      rw [h7.2 k k1 (by omega), h8.2 k k1 (by omega), h6.2 k k1 (by omega)]
      have nb := nfr_b ⟨a1, a2⟩ (j := N8 k) ⟨a3, by omega⟩
      refine ⟨a1, a2, a3, ?_, ?_⟩
      · by_cases z : N7 k = t
        · rw [z] at a4 ⊢
          rw [hD.1]; omega
        · rw [hD.2 _ a1 a2 z]; exact a4
      · rw [hZ.2 _ nb.1 nb.2 (fun z => by
          have := nfr_inj ⟨a1, a2⟩ ht (a := N8 k) (b := C t) ⟨a3, by omega⟩ ⟨ct.1, hl⟩ z
          rw [this.1] at a4
          omega)]
        exact a5
  · by_cases q : o = t ∧ j = C t
    · exact ⟨n, by omega, by omega, by rw [h7.1, q.1], by rw [h8.1, q.2]⟩
    · have jc : j < C o := by
        by_cases z : o = t
        · rw [z, hD.1] at j2
          rw [z]
          omega
        · rw [hD.2 o o1 o2 z] at j2
          exact j2
      obtain ⟨k, k1, k2, k3, k4⟩ := n4 o j o1 o2 j1 jc
      exact ⟨k, k1, by omega, by rw [h7.2 k k1 k2]; exact k3, by rw [h8.2 k k1 k2]; exact k4⟩
  · by_cases q : k = n
    · by_cases z : k' = n
      · omega
      · rw [q, h6.1, h6.2 k' k3 (by omega)] at e
        exact absurd e.symm (hx k' k3 (by omega))
    · by_cases z : k' = n
      · rw [z, h6.1, h6.2 k k1 (by omega)] at e
        exact absurd e (hx k k1 (by omega))
      · rw [h6.2 k k1 (by omega), h6.2 k' k3 (by omega)] at e
        exact n5 k k' k1 (by omega) k3 (by omega) e
theorem nb_tw {s u : jM} (a : BD s u) : ¬ TW s u := fun b => by have := a.2.2.1; have := b.2.2; omega
theorem named_cg {q t : Int} {u u2 : jM} (hq : 0 ≤ q ∧ q ≤ 4) (ht : 0 ≤ t ∧ t ≤ 2) (h0 : u2 160 (381 * q + t) = u 160 (381 * q + t)) (h8 : ∀ i, u2 163 i = u 163 i) (h19 : u2 155 19 = u 155 19) : ∀ (f : Nat) (j v : Int), Md_named_2 f 155 q t j u2 = some (v, u2) → Md_named_2 f 155 q t j u = some (v, u) := by
  intro f
  have c0 : 0 ≤ 381 * q + t ∧ 381 * q + t < 1905 := by omega
  induction f with
  | zero => intro j v h; rw [Md_named_2] at h; cases h
  | succ f ih =>
    intro j v h
    rw [Md_named_2, w32_id (x := 381 * q + t) (by omega) (by omega), if_pos c0] at h ⊢
    have h : (if w32 j < w32 (u2 160 (381 * q + t)) then (jb (Md_namesFrom t u2) fun v1 s1 => if (0 ≤ (w32 (((16 * q) + v1) + j)) ∧ (w32 (((16 * q) + v1) + j)) < 80) then if (w32 (jlcmp (s1 163 (w32 (((16 * q) + v1) + j))) (s1 155 19))) = 0 then (some (j, s1)) else ((Md_named_2 f) 155 q t (j + 1) s1) else none) else (some ((-1), u2))) = some (v, u2) := h
    show (if w32 j < w32 (u 160 (381 * q + t)) then (jb (Md_namesFrom t u) fun v1 s1 => if (0 ≤ (w32 (((16 * q) + v1) + j)) ∧ (w32 (((16 * q) + v1) + j)) < 80) then if (w32 (jlcmp (s1 163 (w32 (((16 * q) + v1) + j))) (s1 155 19))) = 0 then (some (j, s1)) else ((Md_named_2 f) 155 q t (j + 1) s1) else none) else (some ((-1), u))) = some (v, u)
    rw [namesFrom_eq ht, jb_t, h0] at h
    rw [namesFrom_eq ht, jb_t]
    by_cases z : w32 j < w32 (u 160 (381 * q + t))
    · rw [if_pos z] at h ⊢
      by_cases y : 0 ≤ w32 (16 * q + nfr t + j) ∧ w32 (16 * q + nfr t + j) < 80
      · rw [if_pos y, h8, h19] at h
        rw [if_pos y]
        by_cases x : w32 (jlcmp (u 163 (w32 (16 * q + nfr t + j))) (u 155 19)) = 0
        · rw [if_pos x] at h ⊢
          have := congrArg Prod.fst (Option.some.inj h)
          have : j = v := this
          rw [this]
        · rw [if_neg x] at h ⊢
          exact ih _ _ h
      · rw [if_neg y] at h
        cases h
    · rw [if_neg z] at h ⊢
      have := congrArg Prod.fst (Option.some.inj h)
      have : -1 = v := this
      rw [this]
/-- names as if more were told -/
def NMv (s u : jM) (B q t : Int) : Prop := ∃ u2 : jM, NMx s u2 B q ∧ u2 160 (381 * q + t) = u 160 (381 * q + t) ∧ (∀ i, u2 163 i = u 163 i) ∧ u2 155 19 = u 155 19
theorem NMx.v {s u : jM} {B q t : Int} (h : NMx s u B q) : NMv s u B q t := ⟨u, h, rfl, fun _ => rfl, rfl⟩
/-- a thing that is named -/
theorem tk_thing {s u : jM} {B q t : Int} (hB : 20 ≤ B) (h : TW s u ∨ BD s u) (hb : 0 ≤ s B 8 ∧ s B 8 ≤ 16) (hn : TW s u → NMv s u B q t) (hq : 0 ≤ q ∧ q ≤ 4) (ht : 0 ≤ t ∧ t ≤ 2) : ∃ v w s' u', Te_takeThing 11 B t s = some (v, s') ∧ Md_readTold 155 q t u = some (w, u') ∧ EB s u s' u' ∧ (TW s' u' → v = w ∧ 0 ≤ v ∧ v < u 160 (381 * q + t)) := by
  rcases h with h | h
  · obtain ⟨un, nm, un1, un2, un3⟩ := hn h
    obtain ⟨b1, b2, b3⟩ := both_name h.1
    obtain ⟨f, f1, f2⟩ := findC (B := B) (x := s 11 7) (t := t) hb (s B 8).toNat jFU 0 (by omega) (by omega) (bub_ge (by omega))
    have f1' : Se_find B (s 11 7) t s = some (f, s) := f1
    have nv : nmw s = 0 ∨ nmw s = 1 := by unfold nmw; split <;> omega
    rcases nv with q0 | q1
    · obtain ⟨s', u', a1, a2, a3⟩ := both_amiss h
      have bd := (⟨a3.1.2.2.1, a3.1.2.2.2.1⟩ : 0 < u' 155 12 ∧ u' 155 12 ≤ 100)
      refine ⟨f, 0, s', u', ?_, ?_, EB.bd a3, fun y => absurd y (nb_tw a3.1)⟩
      · rw [Te_takeThing, f1', jb_t, b1, jb_t, q0, if_pos (by decide), a1, jb_t]
      · rw [Md_readTold, Md_told, if_pos (u12z h.2.2), b2, jb_t, q0, if_pos (by decide), a2, jb_t, Md_told_18, if_pos (bd12 bd), jb_t, must_bd bd, jb_t]
    · obtain ⟨k4, hw⟩ := b3 q1
      obtain ⟨v, v1, v2', v3⟩ := both_find nm hq ht (by rw [un3]; exact hw)
      have v2 : Md_named 155 q t u = some (v, u) := named_cg hq ht un1 un2 un3 jFU 0 v v2'
      rw [un1] at v3
      have e : some (f, s) = some (v, s) := f1'.symm.trans v1
      have e : f = v := congrArg Prod.fst (Option.some.inj e)
      subst e
      clear f2 f1
      have h6 : u 160 (381 * q + t) ≤ 6 := by
        have := (nm.2.1 t ht.1 ht.2).2
        have : un 160 (381 * q + t) ≤ (if t = 1 then 6 else 5) := this
        rw [un1] at this
        split at this <;> omega
      by_cases z : f = -1
      · obtain ⟨s', u', a1, a2, a3⟩ := both_fail h (c := 3) (by omega)
        rw [if_neg (by omega)] at a2
        have bd := (⟨a3.1.2.2.1, a3.1.2.2.2.1⟩ : 0 < u' 155 12 ∧ u' 155 12 ≤ 100)
        refine ⟨f, jmax 0 f, s', u', ?_, ?_, EB.bd a3, fun y => absurd y (nb_tw a3.1)⟩
        · rw [Te_takeThing, f1', jb_t, b1, jb_t, q1, if_neg (by decide), if_pos (by rw [z]; decide), a1, jb_t]
        · rw [Md_readTold, Md_told, if_pos (u12z h.2.2), b2, jb_t, q1, if_neg (by decide), Md_told_18, if_neg (u12 h.2.2), v2, jb_t, if_pos (by rw [z]; decide), a2, jb_t, jb_t, must_bd bd, jb_t]
      · have fb : 0 ≤ f ∧ f < u 160 (381 * q + t) := by omega
        obtain ⟨s', u', a1, a2, a3, a4, a5⟩ := both_adv h
        have jm : jmax 0 f = f := by rw [jmax_e (by unfold i32; omega) (by unfold i32; omega)]; split <;> omega
        refine ⟨f, f, s', u', ?_, ?_, ⟨Or.inl ⟨a3, TW_3 h a4⟩, a5⟩, fun _ => ⟨rfl, fb.1, fb.2⟩⟩
        · rw [Te_takeThing, f1', jb_t, b1, jb_t, q1, if_neg (by decide), w32_id (x := f) (by omega) (by omega), if_neg (show ¬ f = -1 by omega), a1, jb_t]
        · rw [Md_readTold, Md_told, if_pos (u12z h.2.2), b2, jb_t, q1, if_neg (by decide), Md_told_18, if_neg (u12 h.2.2), v2, jb_t, w32_id (x := f) (by omega) (by omega), if_neg (by omega), jm, jb_t, Md_must, if_neg (u12 h.2.2), if_neg (by decide), a2, jb_t, jb_t]
  · have bd := (⟨h.2.2.1, h.2.2.2.1⟩ : 0 < u 155 12 ∧ u 155 12 ≤ 100)
    obtain ⟨f, f1, f2⟩ := findC (B := B) (x := s 11 7) (t := t) hb (s B 8).toNat jFU 0 (by omega) (by omega) (bub_ge (by omega))
    have f1' : Se_find B (s 11 7) t s = some (f, s) := f1
    clear f2
    obtain ⟨n, b1, -⟩ := isNameC s
    have nt : ∀ s', ¬ TW s' u := fun s' y => by have := y.2.2; omega
    by_cases y1 : w32 n = 0
    · exact ⟨f, 0, s, u, by rw [Te_takeThing, f1', jb_t, b1, jb_t, if_pos y1, SB_fail bd _ (BD_SB h), jb_t], readTold_bd bd q t, ⟨Or.inr h, EX.rf _ _, EX.rf _ _⟩, fun y => absurd y (nt s)⟩
    · by_cases y2 : w32 f = -1
      · exact ⟨f, 0, s, u, by rw [Te_takeThing, f1', jb_t, b1, jb_t, if_neg y1, if_pos y2, SB_fail bd _ (BD_SB h), jb_t], readTold_bd bd q t, ⟨Or.inr h, EX.rf _ _, EX.rf _ _⟩, fun y => absurd y (nt s)⟩
      · obtain ⟨t', t1, t2, t3⟩ := SB_adv (BD_SB h)
        exact ⟨f, 0, t', u, by rw [Te_takeThing, f1', jb_t, b1, jb_t, if_neg y1, if_neg y2, t1, jb_t], readTold_bd bd q t, ⟨Or.inr (SB_BD t2 bd), t3, EX.rf _ _⟩, fun y => absurd y (nt t')⟩
/-- what a new name changes -/
def rN (B n a b : Int) : Prop := (a = 11 ∧ 2 ≤ b ∧ b ≤ 9) ∨ (a = B ∧ b = 8) ∨ ((a = B + 6 ∨ a = B + 7 ∨ a = B + 8) ∧ b = n)
def rM (i a b : Int) : Prop := (a = 155 ∧ 12 ≤ b ∧ b ≤ 19) ∨ (a = 163 ∧ b = i)
theorem TW_ex {s u s' u' : jM} (h : TW s u) (e1 : ∀ b, s' 11 b = s 11 b) (e2 : ∀ b, s' 12 b = s 12 b) (e3 : ∀ b, b ≤ 19 → u' 155 b = u 155 b) (e4 : ∀ b, u' 159 b = u 159 b) : TW s' u' := by
  unfold TW TK SFT TXT KDR WRD at *
  simp only [e1, e2, e4, e3 9 (by omega), e3 12 (by omega), e3 14 (by omega), e3 15 (by omega), e3 16 (by omega), e3 17 (by omega), e3 18 (by omega), e3 19 (by omega)]
  exact h
theorem BD_ex {s u s' u' : jM} (h : BD s u) (e1 : ∀ b, s' 11 b = s 11 b) (e2 : ∀ b, s' 12 b = s 12 b) (e3 : u' 155 12 = u 155 12 ∧ u' 155 13 = u 155 13) : BD s' u' := by
  unfold BD SFT at *
  simp only [e1, e2, e3.1, e3.2]
  exact h
theorem tk_new {s u : jM} {B t j : Int} (hB : 20 ≤ B ∧ B ≤ 100) (h : TW s u) (nm : NMx s u B 4) (ht : 0 ≤ t ∧ t ≤ 2) (hj : u 160 (1524 + t) = j) (hl : j < (if t = 1 then 6 else 5)) : ∃ w s' u', Te_takeNewName 11 B t j s = some (0, s') ∧ (jb (Md_isName 155 u) fun v10 s10 => if (w32 v10) = 0 then (jb (Md_amiss 155 s10) fun v11 s11 => Md_readNew_50 155 t j s11) else (Md_readNew_50 155 t j s10)) = some (w, u') ∧ ((TW s' u' ∧ w = j ∧ s 11 2 ≤ s' 11 3 ∧ EX (rN B (s B 8)) s s' ∧ EX (rM (64 + nfr t + j)) u u' ∧ s' B 8 = s B 8 + 1 ∧ s' (B + 6) (s B 8) = s 11 7 ∧ s' (B + 7) (s B 8) = t ∧ s' (B + 8) (s B 8) = j ∧ u' 163 (64 + nfr t + j) = u 155 19 ∧ WD (s 11 7) (u 155 19) ∧ ∀ k, 0 ≤ k → k < s B 8 → s (B + 6) k ≠ s 11 7) ∨ (BD s' u' ∧ EX rC s s' ∧ EX rD u u')) := by
  have n0 := NMC_n nm
  have c0 := nm.2.1 t ht.1 ht.2
  have c0 : 0 ≤ u 160 (1524 + t) ∧ u 160 (1524 + t) ≤ (if t = 1 then 6 else 5) := by
    have e : (381 : Int) * 4 + t = 1524 + t := by omega
    have c0 : 0 ≤ u 160 (381 * 4 + t) ∧ u 160 (381 * 4 + t) ≤ (if t = 1 then 6 else 5) := c0
    rw [e] at c0
    exact c0
  obtain ⟨b1, b2, b3⟩ := both_name h.1
  have nv : nmw s = 0 ∨ nmw s = 1 := by unfold nmw; split <;> omega
  rcases nv with q0 | q1
  · obtain ⟨s', u', a1, a2, a3⟩ := both_amiss h
    have bd := (⟨a3.1.2.2.1, a3.1.2.2.2.1⟩ : 0 < u' 155 12 ∧ u' 155 12 ≤ 100)
    refine ⟨0, s', u', ?_, ?_, Or.inr a3⟩
    · rw [Te_takeNewName, b1, jb_t, q0, if_pos (by decide), a1, jb_t]
    · rw [b2, jb_t, q0, if_pos (by decide), a2, jb_t, Md_readNew_50, if_neg (bd12n bd), Md_readNew_93, if_pos (bd12 bd)]
  · obtain ⟨k4, hw⟩ := b3 q1
    obtain ⟨v, a, b, c, v1, v2, v3, v4, v5, v6⟩ := both_taken nm (by omega) hw
    rcases v6 with ⟨e, ea, eb, ec, hx⟩ | ⟨e, hh⟩
    · subst e ea eb ec
      have n16 : s B 8 < 16 := by
        have g0 : u 160 (381 * 4 + 0) = u 160 1524 := by rw [show (381 : Int) * 4 + 0 = 1524 by omega]
        have g1 : u 160 (381 * 4 + 1) = u 160 1525 := by rw [show (381 : Int) * 4 + 1 = 1525 by omega]
        have g2 : u 160 (381 * 4 + 2) = u 160 1526 := by rw [show (381 : Int) * 4 + 2 = 1526 by omega]
        have e := nm.1
        have e : s B 8 = u 160 (381 * 4 + 0) + u 160 (381 * 4 + 1) + u 160 (381 * 4 + 2) := e
        obtain ⟨-, -, x0, x1, x2⟩ := n0
        have x0 : 0 ≤ u 160 (381 * 4 + 0) ∧ u 160 (381 * 4 + 0) ≤ 5 := x0
        have x1 : 0 ≤ u 160 (381 * 4 + 1) ∧ u 160 (381 * 4 + 1) ≤ 6 := x1
        have x2 : 0 ≤ u 160 (381 * 4 + 2) ∧ u 160 (381 * 4 + 2) ≤ 5 := x2
        rw [g0, g1, g2] at e
        rw [g0] at x0
        rw [g1] at x1
        rw [g2] at x2
        clear hx nm v1 v2 v3 v4 b1 b2 b3
        rcases (by omega : t = 0 ∨ t = 1 ∨ t = 2) with q | q | q <;> subst q <;> simp only [Int.reduceEq, if_true, if_false, Int.reduceAdd] at hl hj <;> omega
      have n15 : 0 ≤ s B 8 ∧ s B 8 < 16 := ⟨n0.1, n16⟩
      obtain ⟨S, hS⟩ : ∃ S, S = jup (jup (jup (jup s (B + 6) (s B 8) (s 11 7)) (B + 7) (s B 8) t) (B + 8) (s B 8) j) B 8 (s B 8 + 1) := ⟨_, rfl⟩
      have hadd : Se_addName B (s 11 7) t j s = some (0, S) := by
        rw [Se_addName, u_ne (by omega), u_ne (by omega), u_ne (by omega), w32_id (x := s B 8) (by omega) (by omega), if_pos n16, if_pos ⟨n15, n15, n15⟩]
        show some (0, jup _ B 8 (jup (jup (jup s (B + 6) (s B 8) (s 11 7)) (B + 7) (s B 8) t) (B + 8) (s B 8) j B 8 + 1)) = _
        rw [u_ne (by omega), u_ne (by omega), u_ne (by omega), hS]
      have SE : EX (rN B (s B 8)) s S := by
        rw [hS]
        exact ((((EX.rf _ _).up (Or.inr (Or.inr ⟨Or.inl rfl, rfl⟩))).up (Or.inr (Or.inr ⟨Or.inr (Or.inl rfl), rfl⟩))).up (Or.inr (Or.inr ⟨Or.inr (Or.inr rfl), rfl⟩))).up (Or.inr (Or.inl ⟨rfl, rfl⟩))
      have s11 : ∀ x y, x ≤ 19 → S x y = s x y := fun x y q => by
        rw [hS, u_ne (by omega), u_ne (by omega), u_ne (by omega), u_ne (by omega)]
      obtain ⟨U, hU⟩ : ∃ U, U = jup u 163 (64 + nfr t + j) (u 155 19) := ⟨_, rfl⟩
      have hU2 : TW S U := TW_ex h (fun b => s11 11 b (by omega)) (fun b => s11 12 b (by omega)) (fun b _ => by rw [hU, u_ne (by omega)]) (fun b => by rw [hU, u_ne (by omega)])
      obtain ⟨s', u', a1, a2, a3, a4, a5, a6⟩ := both_adv hU2
      have nb := nfr_b ht (j := j) (by omega)
      have se : ∀ x y, x ≠ 11 → s' x y = S x y := fun x y q => a5 x y (fun z => q z.1)
      have ue : ∀ x y, x ≠ 155 → u' x y = U x y := fun x y q => a6 x y (fun z => q z.1)
      refine ⟨j, s', u', ?_, ?_, Or.inl ⟨a3, rfl, ?_, ?_, ?_, ?_, ?_, ?_, ?_, ?_, hw, hx⟩⟩
      · rw [Te_takeNewName, b1, jb_t, q1, if_neg (by decide), v1, jb_t, if_pos (by decide), hadd, jb_t, a1, jb_t]
      · rw [b2, jb_t, q1, if_neg (by decide), Md_readNew_50, if_pos (u12z h.2.2), v2, jb_t, if_pos (by decide), v3, jb_t, if_pos (by decide), v4, jb_t, if_pos (by decide), Md_readNew_93, if_neg (u12 h.2.2), namesFrom_eq ht, jb_t, w32_id (x := 64 + nfr t + j) (by omega) (by omega), if_pos (by omega)]
        show (jb (Md_advance 155 (jup u 163 (64 + nfr t + j) (u 155 19))) _) = _
        rw [← hU, a2, jb_t]
      · rw [s11 11 2 (by omega)] at a4; exact a4
      · exact SE.tr (a5.wk (fun x y q => Or.inl q))
      · rw [hU] at a6
        exact EX.tr ((EX.rf (rM (64 + nfr t + j)) u).up (Or.inr ⟨rfl, rfl⟩)) (a6.wk (fun x y q => Or.inl q))
      · rw [se _ _ (by omega), hS, u_eq ⟨rfl, rfl⟩]
      · rw [se _ _ (by omega), hS, u_ne (by omega), u_ne (by omega), u_ne (by omega), u_eq ⟨rfl, rfl⟩]
      · rw [se _ _ (by omega), hS, u_ne (by omega), u_ne (by omega), u_eq ⟨rfl, rfl⟩]
      · rw [se _ _ (by omega), hS, u_ne (by omega), u_eq ⟨rfl, rfl⟩]
      · rw [ue _ _ (by omega), hU, u_eq ⟨rfl, rfl⟩]
    · subst e
      obtain ⟨s', u', a1, a2, a3⟩ := both_fail h (c := 3) (by omega)
      rw [if_neg (by omega)] at a2
      have bd := (⟨a3.1.2.2.1, a3.1.2.2.2.1⟩ : 0 < u' 155 12 ∧ u' 155 12 ≤ 100)
      refine ⟨0, s', u', ?_, ?_, Or.inr a3⟩
      · rw [Te_takeNewName, b1, jb_t, q1, if_neg (by decide), v1, jb_t, if_neg (by decide), a1, jb_t]
      · rw [b2, jb_t, q1, if_neg (by decide), Md_readNew_50, if_pos (u12z h.2.2), v2, jb_t]
        by_cases y0 : 0 ≤ a
        · rw [w32_id (x := a) (by omega) (by omega), if_neg (by omega), a2, jb_t, Md_readNew_93, if_pos (bd12 bd)]
        · rw [w32_id (x := a) (by omega) (by omega), if_pos (by omega), v3, jb_t]
          by_cases y1 : 0 ≤ b
          · rw [w32_id (x := b) (by omega) (by omega), if_neg (by omega), a2, jb_t, Md_readNew_93, if_pos (bd12 bd)]
          · rw [w32_id (x := b) (by omega) (by omega), if_pos (by omega), v4, jb_t, w32_id (x := c) (by omega) (by omega), if_neg (by omega), a2, jb_t, Md_readNew_93, if_pos (bd12 bd)]
