/-! names on both sides: See at B, block q -/
def NMC (n : Int) (N6 N7 N8 C W : Int → Int) : Prop :=
  n = C 0 + C 1 + C 2 ∧ (∀ t, 0 ≤ t → t ≤ 2 → 0 ≤ C t ∧ C t ≤ (if t = 1 then 6 else 5)) ∧
  (∀ k, 0 ≤ k → k < n → 0 ≤ N7 k ∧ N7 k ≤ 2 ∧ 0 ≤ N8 k ∧ N8 k < C (N7 k) ∧ WD (N6 k) (W (nfr (N7 k) + N8 k))) ∧
  (∀ t j, 0 ≤ t → t ≤ 2 → 0 ≤ j → j < C t → ∃ k, 0 ≤ k ∧ k < n ∧ N7 k = t ∧ N8 k = j) ∧
  (∀ k k', 0 ≤ k → k < n → 0 ≤ k' → k' < n → N6 k = N6 k' → k = k')
def NMx (s u : jM) (B q : Int) : Prop := NMC (s B 8) (s (B + 6)) (s (B + 7)) (s (B + 8)) (fun o => u 160 (381 * q + o)) (fun i => u 163 (16 * q + i))
theorem NMC_n {n : Int} {N6 N7 N8 C W : Int → Int} (h : NMC n N6 N7 N8 C W) : 0 ≤ n ∧ n ≤ 16 ∧ (0 ≤ C 0 ∧ C 0 ≤ 5) ∧ (0 ≤ C 1 ∧ C 1 ≤ 6) ∧ 0 ≤ C 2 ∧ C 2 ≤ 5 := by
  have a := h.2.1 0 (by omega) (by omega)
  have b := h.2.1 1 (by omega) (by omega)
  have c := h.2.1 2 (by omega) (by omega)
  rw [if_neg (by omega)] at a
  rw [if_pos (by omega)] at b
  rw [if_neg (by omega)] at c
  have e := h.1
  omega
/-- the class seeks a name of a kind -/
theorem findC {B x t : Int} {s : jM} (hn : 0 ≤ s B 8 ∧ s B 8 ≤ 16) : ∀ (d f : Nat) (k : Int), k + d = s B 8 → 0 ≤ k → d < f → ∃ v, Se_find_3 f B x t k s = some (v, s) ∧ ((v = -1 ∧ ∀ k', k ≤ k' → k' < s B 8 → ¬ (w64 (s (B + 6) k') = w64 x ∧ w32 (s (B + 7) k') = w32 t)) ∨ ∃ k', k ≤ k' ∧ k' < s B 8 ∧ w64 (s (B + 6) k') = w64 x ∧ w32 (s (B + 7) k') = w32 t ∧ v = s (B + 8) k') := by
  intro d
  induction d with
  | zero =>
    intro f k h1 h2 h3
    obtain ⟨f, rfl⟩ : ∃ g, f = g + 1 := ⟨f - 1, by omega⟩
    exact ⟨-1, by rw [Se_find_3, w32_id (x := k) (by omega) (by omega), w32_id (x := s B 8) (by omega) (by omega), if_neg (by omega)], Or.inl ⟨rfl, fun k' a b => by omega⟩⟩
  | succ d ih =>
    intro f k h1 h2 h3
    obtain ⟨f, rfl⟩ : ∃ g, f = g + 1 := ⟨f - 1, by omega⟩
    obtain ⟨v, v1, v2⟩ := ih f (k + 1) (by omega) (by omega) (by omega)
    have c2 : 0 ≤ k ∧ k < 16 := by omega
    have hd : Se_find_3 (f + 1) B x t k s = if w64 (s (B + 6) k) = w64 x ∧ w32 (s (B + 7) k) = w32 t then some (s (B + 8) k, s) else some (v, s) := by
      rw [Se_find_3, w32_id (x := k) (by omega) (by omega), w32_id (x := s B 8) (by omega) (by omega), if_pos (by omega), if_pos c2, v1]
      simp only [lcmp_eq]
      by_cases q1 : w64 (s (B + 6) k) = w64 x
      · rw [if_pos q1, if_pos c2]
        by_cases q2 : w32 (s (B + 7) k) = w32 t
        · rw [if_pos q2, if_pos c2, if_pos ⟨q1, q2⟩]
        · rw [if_neg q2, if_neg (fun z => q2 z.2)]
      · rw [if_neg q1, if_neg (fun z => q1 z.1)]
    rw [hd]
    by_cases q : w64 (s (B + 6) k) = w64 x ∧ w32 (s (B + 7) k) = w32 t
    · exact ⟨_, if_pos q, Or.inr ⟨k, Int.le_refl _, by omega, q.1, q.2, rfl⟩⟩
    · refine ⟨v, if_neg q, ?_⟩
      rcases v2 with ⟨a, b⟩ | ⟨k', a, b⟩
      · refine Or.inl ⟨a, fun k' z1 z2 => ?_⟩
        by_cases z : k' = k
        · rw [z]; exact q
        · exact b k' (by omega) z2
      · exact Or.inr ⟨k', by omega, b⟩
theorem takenC {B x : Int} {s : jM} (hn : 0 ≤ s B 8 ∧ s B 8 ≤ 16) : ∀ (d f : Nat) (k : Int), k + d = s B 8 → 0 ≤ k → d < f → ∃ v, Se_isTaken_2 f B x k s = some (v, s) ∧ ((v = 0 ∧ ∀ k', k ≤ k' → k' < s B 8 → ¬ w64 (s (B + 6) k') = w64 x) ∨ (v = 1 ∧ ∃ k', k ≤ k' ∧ k' < s B 8 ∧ w64 (s (B + 6) k') = w64 x)) := by
  intro d
  induction d with
  | zero =>
    intro f k h1 h2 h3
    obtain ⟨f, rfl⟩ : ∃ g, f = g + 1 := ⟨f - 1, by omega⟩
    exact ⟨0, by rw [Se_isTaken_2, w32_id (x := k) (by omega) (by omega), w32_id (x := s B 8) (by omega) (by omega), if_neg (by omega)], Or.inl ⟨rfl, fun k' a b => by omega⟩⟩
  | succ d ih =>
    intro f k h1 h2 h3
    obtain ⟨f, rfl⟩ : ∃ g, f = g + 1 := ⟨f - 1, by omega⟩
    obtain ⟨v, v1, v2⟩ := ih f (k + 1) (by omega) (by omega) (by omega)
    have c2 : 0 ≤ k ∧ k < 16 := by omega
    have hd : Se_isTaken_2 (f + 1) B x k s = if w64 (s (B + 6) k) = w64 x then some (1, s) else some (v, s) := by
      rw [Se_isTaken_2, w32_id (x := k) (by omega) (by omega), w32_id (x := s B 8) (by omega) (by omega), if_pos (by omega), if_pos c2, v1]
      simp only [lcmp_eq]
    rw [hd]
    by_cases q : w64 (s (B + 6) k) = w64 x
    · exact ⟨1, if_pos q, Or.inr ⟨rfl, k, Int.le_refl _, by omega, q⟩⟩
    · refine ⟨v, if_neg q, ?_⟩
      rcases v2 with ⟨a, b⟩ | ⟨e, k', a, b⟩
      · refine Or.inl ⟨a, fun k' z1 z2 => ?_⟩
        by_cases z : k' = k
        · rw [z]; exact q
        · exact b k' (by omega) z2
      · exact Or.inr ⟨e, k', by omega, b⟩
theorem nfr_b {t j : Int} (ht : 0 ≤ t ∧ t ≤ 2) (hj : 0 ≤ j ∧ j < (if t = 1 then 6 else 5)) : 0 ≤ nfr t + j ∧ nfr t + j < 16 := by
  unfold nfr
  rcases (by omega : t = 0 ∨ t = 1 ∨ t = 2) with q | q | q <;> subst q
  · rw [if_neg (by omega)] at hj; rw [if_pos rfl]; omega
  · rw [if_pos rfl] at hj; rw [if_neg (by omega), if_pos rfl]; omega
  · rw [if_neg (by omega)] at hj; rw [if_neg (by omega), if_neg (by omega)]; omega
theorem namesFrom_eq {t : Int} (ht : 0 ≤ t ∧ t ≤ 2) {u : jM} : Md_namesFrom t u = some (nfr t, u) := by
  rcases (by omega : t = 0 ∨ t = 1 ∨ t = 2) with q | q | q <;> subst q <;> rfl
/-- the reference seeks a name of a kind -/
theorem namedR {q t : Int} {u : jM} (hq : 0 ≤ q ∧ q ≤ 4) (ht : 0 ≤ t ∧ t ≤ 2) (hC : 0 ≤ u 160 (381 * q + t) ∧ u 160 (381 * q + t) ≤ (if t = 1 then 6 else 5)) : ∀ (d f : Nat) (j : Int), j + d = u 160 (381 * q + t) → 0 ≤ j → d < f → ∃ v, Md_named_2 f 155 q t j u = some (v, u) ∧ ((v = -1 ∧ ∀ j', j ≤ j' → j' < u 160 (381 * q + t) → ¬ w64 (u 163 (16 * q + (nfr t + j'))) = w64 (u 155 19)) ∨ (j ≤ v ∧ v < u 160 (381 * q + t) ∧ w64 (u 163 (16 * q + (nfr t + v))) = w64 (u 155 19))) := by
  intro d
  have h6 : u 160 (381 * q + t) ≤ 6 := by
    have := hC.2
    split at this <;> omega
  have c0 : 0 ≤ 381 * q + t ∧ 381 * q + t < 1905 := by omega
  induction d with
  | zero =>
    intro f j h1 h2 h3
    obtain ⟨f, rfl⟩ : ∃ g, f = g + 1 := ⟨f - 1, by omega⟩
    refine ⟨-1, ?_, Or.inl ⟨rfl, fun j' a b => by omega⟩⟩
    rw [Md_named_2, w32_id (x := 381 * q + t) (by omega) (by omega), if_pos c0]
    show (if w32 j < w32 (u 160 (381 * q + t)) then _ else _) = _
    rw [w32_id (x := j) (by omega) (by omega), w32_id (x := u 160 (381 * q + t)) (by omega) (by omega), if_neg (by omega)]
  | succ d ih =>
    intro f j h1 h2 h3
    obtain ⟨f, rfl⟩ : ∃ g, f = g + 1 := ⟨f - 1, by omega⟩
    obtain ⟨v, v1, v2⟩ := ih f (j + 1) (by omega) (by omega) (by omega)
    have nb := nfr_b ht (j := j) ⟨h2, by have := hC.2; omega⟩
    have c2 : 0 ≤ 16 * q + nfr t + j ∧ 16 * q + nfr t + j < 80 := by omega
    have e : 16 * q + nfr t + j = 16 * q + (nfr t + j) := by omega
    have hd : Md_named_2 (f + 1) 155 q t j u = if w64 (u 163 (16 * q + (nfr t + j))) = w64 (u 155 19) then some (j, u) else some (v, u) := by
      rw [Md_named_2, w32_id (x := 381 * q + t) (by omega) (by omega), if_pos c0]
      show (if w32 j < w32 (u 160 (381 * q + t)) then _ else _) = _
      rw [w32_id (x := j) (by omega) (by omega), w32_id (x := u 160 (381 * q + t)) (by omega) (by omega), if_pos (by omega), namesFrom_eq ht, jb_t, w32_id (x := 16 * q + nfr t + j) (by omega) (by omega), if_pos c2, e, v1]
      simp only [lcmp_eq]
      rfl
    rw [hd]
    by_cases z : w64 (u 163 (16 * q + (nfr t + j))) = w64 (u 155 19)
    · exact ⟨j, if_pos z, Or.inr ⟨Int.le_refl _, by omega, z⟩⟩
    · refine ⟨v, if_neg z, ?_⟩
      rcases v2 with ⟨a, b⟩ | ⟨a, b⟩
      · refine Or.inl ⟨a, fun j' z1 z2 => ?_⟩
        by_cases y : j' = j
        · rw [y]; exact z
        · exact b j' (by omega) z2
      · exact Or.inr ⟨by omega, b⟩
/-- both find the same -/
theorem both_find {s u : jM} {B q t : Int} (h : NMx s u B q) (hq : 0 ≤ q ∧ q ≤ 4) (ht : 0 ≤ t ∧ t ≤ 2) (hw : WD (s 11 7) (u 155 19)) : ∃ v, Se_find B (s 11 7) t s = some (v, s) ∧ Md_named 155 q t u = some (v, u) ∧ (v = -1 ∨ (0 ≤ v ∧ v < u 160 (381 * q + t))) := by
  have n0 := NMC_n h
  obtain ⟨n1, n2, n3, n4, n5⟩ := h
  have hC : 0 ≤ u 160 (381 * q + t) ∧ u 160 (381 * q + t) ≤ (if t = 1 then 6 else 5) := n2 t ht.1 ht.2
  have h6 : u 160 (381 * q + t) ≤ 6 := by
    have := hC.2
    split at this <;> omega
  obtain ⟨v, v1, v2⟩ := findC (B := B) (x := s 11 7) (t := t) ⟨n0.1, n0.2.1⟩ (s B 8).toNat jFU 0 (by omega) (by omega) (bub_ge (by omega))
  obtain ⟨r, r1, r2⟩ := namedR hq ht hC (u 160 (381 * q + t)).toNat jFU 0 (by omega) (by omega) (bub_ge (by omega))
  have xb := WD_b hw
  have x64 : w64 (s 11 7) = s 11 7 := w64_id (by omega) (by omega)
  have y64 : w64 (u 155 19) = u 155 19 := w64_id (by omega) (by omega)
  have row : ∀ k, 0 ≤ k → k < s B 8 → w64 (s (B + 6) k) = s (B + 6) k ∧ w32 (s (B + 7) k) = s (B + 7) k := fun k k1 k2 => by
    obtain ⟨a, b, -, -, c⟩ := n3 k k1 k2
    have := WD_b c
    exact ⟨w64_id (by omega) (by omega), w32_id (by omega) (by omega)⟩
  have wrow : ∀ k, 0 ≤ k → k < s B 8 → w64 (u 163 (16 * q + (nfr (s (B + 7) k) + s (B + 8) k))) = u 163 (16 * q + (nfr (s (B + 7) k) + s (B + 8) k)) := fun k k1 k2 => by
    obtain ⟨-, -, -, -, c⟩ := n3 k k1 k2
    have c : WD (s (B + 6) k) (u 163 (16 * q + (nfr (s (B + 7) k) + s (B + 8) k))) := c
    have := WD_b c
    exact w64_id (by omega) (by omega)
  rw [x64, w32_id (x := t) (by omega) (by omega)] at v2
  rw [y64] at r2
  have e : v = r := by
    rcases v2 with ⟨a, b⟩ | ⟨k, k1, k2, k3, k4, k5⟩
    · rcases r2 with ⟨c, -⟩ | ⟨c1, c2, c3⟩
      · omega
      · obtain ⟨k, k1, k2, k3, k4⟩ := n4 t r ht.1 ht.2 c1 c2
        obtain ⟨-, -, -, -, c⟩ := n3 k k1 k2
        have wr := wrow k k1 k2
        rw [k3, k4] at c wr
        rw [wr] at c3
        have c : WD (s (B + 6) k) (u 163 (16 * q + (nfr t + r))) := c
        rw [c3] at c
        exact absurd ⟨by rw [(row k k1 k2).1]; exact (WD_iff c hw).2 rfl, by rw [(row k k1 k2).2]; exact k3⟩ (b k k1 k2)
    · rw [(row k k1 k2).1] at k3
      rw [(row k k1 k2).2] at k4
      obtain ⟨-, -, c1, c2, c⟩ := n3 k k1 k2
      have wr := wrow k k1 k2
      rw [k4] at c c2 wr
      rw [k3] at c
      have cy := (WD_iff c hw).1 rfl
      have cy : u 163 (16 * q + (nfr t + s (B + 8) k)) = u 155 19 := cy
      rcases r2 with ⟨-, b⟩ | ⟨d1, d2, d3⟩
      · exact absurd (by rw [wr]; exact cy) (b (s (B + 8) k) c1 c2)
      · obtain ⟨k', e1, e2, e3, e4⟩ := n4 t r ht.1 ht.2 d1 d2
        obtain ⟨-, -, -, -, g⟩ := n3 k' e1 e2
        have wr2 := wrow k' e1 e2
        rw [e3, e4] at g wr2
        rw [wr2] at d3
        have g : WD (s (B + 6) k') (u 163 (16 * q + (nfr t + r))) := g
        rw [d3] at g
        have e6 := (WD_iff g hw).2 rfl
        have e7 := n5 k k' k1 k2 e1 e2 (by rw [k3, e6])
        rw [k5, e7, e4]
  refine ⟨v, v1, ?_, ?_⟩
  · rw [e]; exact r1
  · rcases r2 with ⟨a, -⟩ | ⟨a, b, -⟩
    · exact Or.inl (by omega)
    · exact Or.inr ⟨by omega, by omega⟩
/-- both see whether a name is taken -/
theorem both_taken {s u : jM} {B q : Int} (h : NMx s u B q) (hq : 0 ≤ q ∧ q ≤ 4) (hw : WD (s 11 7) (u 155 19)) : ∃ v a b c, Se_isTaken B (s 11 7) s = some (v, s) ∧ Md_named 155 q 0 u = some (a, u) ∧ Md_named 155 q 1 u = some (b, u) ∧ Md_named 155 q 2 u = some (c, u) ∧ (-1 ≤ a ∧ a ≤ 10 ∧ -1 ≤ b ∧ b ≤ 10 ∧ -1 ≤ c ∧ c ≤ 10) ∧ ((v = 0 ∧ a = -1 ∧ b = -1 ∧ c = -1 ∧ ∀ k, 0 ≤ k → k < s B 8 → s (B + 6) k ≠ s 11 7) ∨ (v = 1 ∧ (0 ≤ a ∨ 0 ≤ b ∨ 0 ≤ c))) := by
  have n0 := NMC_n h
  obtain ⟨a, f0, a1, a2⟩ := both_find h hq (t := 0) (by omega) hw
  obtain ⟨b, f1, b1, b2⟩ := both_find h hq (t := 1) (by omega) hw
  obtain ⟨c, f2, c1, c2⟩ := both_find h hq (t := 2) (by omega) hw
  obtain ⟨v, v1, v2⟩ := takenC (B := B) (x := s 11 7) ⟨n0.1, n0.2.1⟩ (s B 8).toNat jFU 0 (by omega) (by omega) (bub_ge (by omega))
  obtain ⟨-, -, n3, n4, n5⟩ := h
  have xb := WD_b hw
  have x64 : w64 (s 11 7) = s 11 7 := w64_id (by omega) (by omega)
  have row : ∀ k, 0 ≤ k → k < s B 8 → w64 (s (B + 6) k) = s (B + 6) k ∧ w32 (s (B + 7) k) = s (B + 7) k := fun k k1 k2 => by
    obtain ⟨a, b, -, -, c⟩ := n3 k k1 k2
    have := WD_b c
    exact ⟨w64_id (by omega) (by omega), w32_id (by omega) (by omega)⟩
  rw [x64] at v2
  have bb : (-1 ≤ a ∧ a ≤ 10 ∧ -1 ≤ b ∧ b ≤ 10 ∧ -1 ≤ c ∧ c ≤ 10) := by
    clear v2 n3 n4 n5
    obtain ⟨-, -, g0, g1, g2⟩ := n0
    have g0 : 0 ≤ u 160 (381 * q + 0) ∧ u 160 (381 * q + 0) ≤ 5 := g0
    have g1 : 0 ≤ u 160 (381 * q + 1) ∧ u 160 (381 * q + 1) ≤ 6 := g1
    have g2 : 0 ≤ u 160 (381 * q + 2) ∧ u 160 (381 * q + 2) ≤ 5 := g2
    omega
  refine ⟨v, a, b, c, v1, a1, b1, c1, bb, ?_⟩
  have none : ∀ t w, 0 ≤ t ∧ t ≤ 2 → Se_find B (s 11 7) t s = some (w, s) → (∀ k', 0 ≤ k' → k' < s B 8 → ¬ w64 (s (B + 6) k') = s 11 7) → w = -1 := fun t w ht hf hk => by
    obtain ⟨v', v3, v4⟩ := findC (B := B) (x := s 11 7) (t := t) ⟨n0.1, n0.2.1⟩ (s B 8).toNat jFU 0 (by omega) (by omega) (bub_ge (by omega))
    have e : some (v', s) = some (w, s) := v3.symm.trans hf
    have e : v' = w := congrArg Prod.fst (Option.some.inj e)
    rcases v4 with ⟨y, -⟩ | ⟨k', k1, k2, k3, -⟩
    · omega
    · rw [x64] at k3
      exact absurd k3 (hk k' k1 k2)
  rcases v2 with ⟨y, z⟩ | ⟨y, k, k1, k2, k3⟩
  · exact Or.inl ⟨y, none 0 a (by omega) f0 z, none 1 b (by omega) f1 z, none 2 c (by omega) f2 z, fun k k1 k2 e => z k k1 k2 (by rw [(row k k1 k2).1]; exact e)⟩
  · refine Or.inr ⟨y, ?_⟩
    obtain ⟨g1, g2, -⟩ := n3 k k1 k2
    have some' : ∀ w, Se_find B (s 11 7) (s (B + 7) k) s = some (w, s) → (w = -1 ∨ (0 ≤ w ∧ w < u 160 (381 * q + s (B + 7) k))) → 0 ≤ w := fun w hf hk => by
      obtain ⟨v', v3, v4⟩ := findC (B := B) (x := s 11 7) (t := s (B + 7) k) ⟨n0.1, n0.2.1⟩ (s B 8).toNat jFU 0 (by omega) (by omega) (bub_ge (by omega))
      have e : some (v', s) = some (w, s) := v3.symm.trans hf
      have e : v' = w := congrArg Prod.fst (Option.some.inj e)
      rcases v4 with ⟨-, y⟩ | ⟨k', k4, k5, -, -, k6⟩
      · rw [x64] at y
        exact absurd ⟨k3, rfl⟩ (y k k1 k2)
      · obtain ⟨-, -, y, -⟩ := n3 k' k4 k5
        omega
    rcases (by omega : s (B + 7) k = 0 ∨ s (B + 7) k = 1 ∨ s (B + 7) k = 2) with e | e | e
    · rw [e] at some'; exact Or.inl (some' a f0 a2)
    · rw [e] at some'; exact Or.inr (Or.inl (some' b f1 b2))
    · rw [e] at some'; exact Or.inr (Or.inr (some' c f2 c2))
