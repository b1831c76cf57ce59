/-! feasts: one step's own text -/
def FR (B F dep : Int) (s u : jM) : Prop := FX B F s u ∧ s 14 3 = dep ∧ (0 ≤ dep ∧ dep ≤ 3) ∧ s F 1 = u 155 26 ∧ (0 ≤ s F 1 ∧ s F 1 ≤ 30) ∧ 0 ≤ s F 2 ∧ s F 2 + dep ≤ 2 * s F 1 ∧ ∀ i, 0 ≤ i → i < dep → 0 ≤ s 15 i ∧ s 15 i < 60
def HDr (F l e op : Int) (s u : jM) : Prop := (op = 0 ∧ ∃ k w, KD k w ∧ k ≠ 23 ∧ s (F + 1) l = k ∧ u 160 e = w ∧ RST F l e k s u) ∨ (op = 1 ∧ ((s (F + 1) l = 23 ∧ u 160 e = 9 ∧ RST F l e 23 s u) ∨ (u 160 e = 8 ∧ WHr F l e s u)))
def rTs (F l dep a b : Int) : Prop := (a = 11 ∧ 2 ≤ b ∧ b ≤ 9) ∨ (a = F ∧ (b = 1 ∨ b = 2)) ∨ (F + 1 ≤ a ∧ a ≤ F + 4 ∧ b = l) ∨ (a = 14 ∧ b = 3) ∨ (a = 15 ∧ b = dep)
def rRs2 (e a b : Int) : Prop := (a = 155 ∧ ((12 ≤ b ∧ b ≤ 19) ∨ b = 26)) ∨ (a = 160 ∧ e ≤ b ∧ b ≤ e + 7)
theorem begs {k : Int} (h : -1 ≤ k ∧ k ≤ 25) (s : jM) : Fr_beginsStep k s = some (if k = 0 ∨ (13 ≤ k ∧ k ≤ 20) ∨ k = 23 ∨ k = 25 then 1 else 0, s) := by
  rcases (by omega : k = -1 ∨ k = 0 ∨ k = 1 ∨ k = 2 ∨ k = 3 ∨ k = 4 ∨ k = 5 ∨ k = 6 ∨ k = 7 ∨ k = 8 ∨ k = 9 ∨ k = 10 ∨ k = 11 ∨ k = 12 ∨ k = 13 ∨ k = 14 ∨ k = 15 ∨ k = 16 ∨ k = 17 ∨ k = 18 ∨ k = 19 ∨ k = 20 ∨ k = 21 ∨ k = 22 ∨ k = 23 ∨ k = 24 ∨ k = 25) with q | q | q | q | q | q | q | q | q | q | q | q | q | q | q | q | q | q | q | q | q | q | q | q | q | q | q <;> subst q <;> rfl
theorem s31_bd {rec : Int → Int → jM → Option (Int × jM)} {dep w op : Int} {u : jM} (h : 0 < u 155 12 ∧ u 155 12 ≤ 100) : Md_readStep_31 rec 155 dep w op u = some (0, u) := by
  rw [Md_readStep_31, if_neg (bd12n h), Md_readStep_57, if_neg (bd12n h), Md_readStep_83, if_pos (bd12 h)]
theorem s57_bd {rec : Int → Int → jM → Option (Int × jM)} {dep w op : Int} {u : jM} (h : 0 < u 155 12 ∧ u 155 12 ≤ 100) : Md_readStep_57 rec 155 dep w op u = some (0, u) := by
  rw [Md_readStep_57, if_neg (bd12n h), Md_readStep_83, if_pos (bd12 h)]
theorem s83_bd {rec : Int → Int → jM → Option (Int × jM)} {dep w op : Int} {u : jM} (h : 0 < u 155 12 ∧ u 155 12 ≤ 100) : Md_readStep_83 rec 155 dep w op u = some (0, u) := by
  rw [Md_readStep_83, if_pos (bd12 h)]
theorem step_fault {c : Int} (hc : 0 < c ∧ c ≤ 100) {s u : jM} (h : TW s u) (hk : s 11 4 ≠ 4) : ∃ s' u', Te_fail 11 c s = some (0, s') ∧ Md_fail 155 c (u 155 15) u = some (0, u') ∧ BD s' u' ∧ EX rC s s' ∧ EX rD u u' := by
  obtain ⟨s', u', b1, b2, b3, b4, b5⟩ := both_fail h hc
  rw [if_neg hk] at b2
  exact ⟨s', u', b1, b2, b3, b4, b5⟩
theorem step1 {B F dep : Int} {rec : Int → Int → jM → Option (Int × jM)} (hB : B = 30 ∨ B = 55) (hF : (B = 30 ∧ F = 64) ∨ (B = 55 ∧ F = 39)) {s u : jM} (h : TW s u) (hr : FR B F dep s u) (h24 : s 11 5 ≠ 24) : (∃ s' u', Fr_takeStep 14 (s 11 5) (s F 2) s = some (0, s') ∧ Md_readStep_b rec 155 dep u = some (0, u') ∧ BD s' u' ∧ EX rC s s' ∧ EX rD u u') ∨ ∃ op s' u', (op = 0 ∨ op = 1) ∧ (op = 1 → dep < 3) ∧ Fr_takeStep 14 (s 11 5) (s F 2) s = some (0, s') ∧ Md_readStep_b rec 155 dep u = Md_readStep_142 rec jFU 155 dep op (1635 + 9 * s F 1) u' ∧ MO s u s' u' ∧ (TW s' u' → s 11 2 ≤ s' 11 3) ∧ EX (rTs F (s F 2) dep) s s' ∧ EX (rRs2 (1635 + 9 * s F 1)) u u' ∧ FX B F s' u' ∧ s' F 1 = s F 1 + 1 ∧ u' 155 26 = s F 1 + 1 ∧ s' F 2 = s F 2 + 1 ∧ s' 14 3 = dep + op ∧ (op = 1 → s' 15 dep = s F 2) ∧ s F 1 < 30 ∧ s F 2 < 60 ∧ (TW s' u' → HDr F (s F 2) (1635 + 9 * s F 1) op s' u') := by
  have hF' : F = 39 ∨ F = 64 := by omega
  have hB' : 30 ≤ B ∧ B ≤ 55 := by omega
  have hFB : B + 8 < F ∨ F + 5 < B := by omega
  obtain ⟨hx, hd, hd3, h1, h1b, h2, h2b, -⟩ := hr
  obtain ⟨x0, x1, x2, x3⟩ := hx
  have hx : FX B F s u := ⟨x0, x1, x2, x3⟩
  have k5 := TK_5 h.1
  obtain ⟨k, hk⟩ : ∃ k, k = s 11 5 := ⟨_, rfl⟩
  obtain ⟨l, hl⟩ : ∃ l, l = s F 2 := ⟨_, rfl⟩
  obtain ⟨a, ha⟩ : ∃ a, a = s F 1 := ⟨_, rfl⟩
  rw [← hk] at h24 ⊢
  rw [← hl] at h2 h2b ⊢
  rw [← ha] at h1 h1b h2b ⊢
  rw [← hk] at k5
  have wk : ∀ i : Int, -1000 ≤ i → i ≤ 1000 → w32 i = i := fun i a b => w32_id (by omega) (by omega)
  have bg := begs (k := k) (by omega) s
  have sw := stepWord_eq h.1
  rw [← hk] at sw
  have hc17 : ∀ t0, Fr_takeStep_17 14 k l t0 s = if k = 0 ∨ (13 ≤ k ∧ k ≤ 20) ∨ k = 23 ∨ k = 25 then (if a < 30 then (if l < 60 then (if (w32 t0) = 0 then (Fr_takeStep_90 14 k l t0 s) else (if dep < 3 then (Fr_takeStep_90 14 k l t0 s) else (jb (Te_fail 11 7 s) fun v9 s9 => some (0, s9)))) else (jb (Te_fail 11 6 s) fun v10 s10 => some (0, s10))) else (jb (Te_fail 11 6 s) fun v11 s11 => some (0, s11))) else (jb (Te_fail 11 2 s) fun v8 s8 => some (0, s8)) := fun t0 => by
    rw [Fr_takeStep_17, bg, jb_t, w32_if, x0, x2, if_pos jok5, if_pos (jok4 hF'), ← ha, hd, wk a (by omega) (by omega), wk l (by omega) (by omega), wk dep (by omega) (by omega), if_pos jok5, if_pos jok5]
  have hc : Fr_takeStep 14 k l s = Fr_takeStep_17 14 k l (if k = 20 ∨ k = 23 then 1 else 0) s := by
    rw [Fr_takeStep, wk k (by omega) (by omega)]
    by_cases q1 : k = 20
    · rw [if_pos q1, if_pos (Or.inl q1)]
    · rw [if_neg q1]
      by_cases q2 : k = 23
      · rw [if_pos q2, if_pos (Or.inr q2)]
      · rw [if_neg q2, if_neg (by omega)]
  by_cases q0 : k = 0 ∨ (13 ≤ k ∧ k ≤ 20) ∨ k = 23 ∨ k = 25
  rotate_left
  · left
    have sw' : Md_stepWord 155 u = some (-1, u) := by
      rw [sw, if_neg (by omega), if_neg (by omega), if_neg (by omega), if_neg (by omega), if_neg (by omega), if_neg (by omega), if_neg (by omega), if_neg (by omega), if_neg (by omega), if_neg (by omega), if_neg (by omega)]
    obtain ⟨s', u', a1, a2, a3, a4, a5⟩ := both_amiss h
    refine ⟨s', u', ?_, ?_, a3, a4, a5⟩
    · rw [hc, hc17, if_neg q0, a1, jb_t]
    · rw [Md_readStep_b, sw', jb_t, if_neg (by decide), if_neg (by decide), if_pos (by decide), a2, jb_t, s31_bd (bdb a3)]
  have k4 : s 11 4 ≠ 4 := by
    have := TK_kw h.1 (by omega)
    omega
  obtain ⟨w, op, hsw, hop, hw⟩ : ∃ w op, Md_stepWord 155 u = some (w, u) ∧ op = (if k = 20 ∨ k = 23 then (1 : Int) else 0) ∧ ((KD k w ∧ k ≠ 23 ∧ k ≠ 20) ∨ (k = 23 ∧ w = 9) ∨ (k = 20 ∧ w = 8)) := by
    refine ⟨_, _, sw, rfl, ?_⟩
    unfold KD
    rcases (by omega : k = 0 ∨ k = 13 ∨ k = 14 ∨ k = 15 ∨ k = 16 ∨ k = 17 ∨ k = 18 ∨ k = 19 ∨ k = 20 ∨ k = 23 ∨ k = 25) with q | q | q | q | q | q | q | q | q | q | q <;> rw [q] <;> simp only [Int.reduceEq, if_true, if_false] <;> omega
  have wb : 0 ≤ w ∧ w ≤ 10 := by
    unfold KD at hw
    omega
  have opb : (op = 0 ∧ k ≠ 20 ∧ k ≠ 23) ∨ (op = 1 ∧ (k = 20 ∨ k = 23)) := by
    rw [hop]
    split <;> omega
  have hopw : (op = 1 ∧ (w = 8 ∨ w = 9)) ∨ (op = 0 ∧ w ≠ 8 ∧ w ≠ 9) := by
    unfold KD at hw
    omega
  rw [← hop] at hc
  have hrb : Md_readStep_b rec 155 dep u = Md_readStep_31 rec 155 dep w op u := by
    rw [Md_readStep_b, hsw, jb_t, wk w (by omega) (by omega)]
    by_cases z8 : w = 8
    · rw [if_pos z8, if_neg (by omega), show op = 1 by omega]
    · rw [if_neg z8]
      by_cases z9 : w = 9
      · rw [if_pos z9, if_neg (by omega), show op = 1 by omega]
      · rw [if_neg z9, if_neg (by omega), show op = 0 by omega]
  rw [hc, hc17, if_pos q0, hrb, Md_readStep_31, if_pos (u12z h.2.2), ← h1, wk a (by omega) (by omega)]
  clear hc hc17 hrb sw bg
  by_cases qa : a < 30
  rotate_left
  · left
    obtain ⟨s', u', a1, a2, a3, a4, a5⟩ := step_fault (c := 6) (by omega) h k4
    exact ⟨s', u', by rw [if_neg qa, a1, jb_t], by rw [if_pos (by omega), a2, jb_t, s57_bd (bdb a3)], a3, a4, a5⟩
  have ql : l < 60 := by omega
  rw [if_pos qa, if_pos ql, if_neg (by omega : ¬ a = 30), Md_readStep_57, if_pos (u12z h.2.2), wk op (by omega) (by omega), wk dep (by omega) (by omega)]
  by_cases q3 : op = 1 ∧ dep = 3
  · left
    obtain ⟨s', u', a1, a2, a3, a4, a5⟩ := step_fault (c := 7) (by omega) h k4
    exact ⟨s', u', by rw [if_neg (by omega), if_neg (by omega), a1, jb_t], by rw [if_neg (by omega), if_pos q3.2, a2, jb_t, s83_bd (bdb a3)], a3, a4, a5⟩
  right
  have hcl : (if op = 0 then Fr_takeStep_90 14 k l op s else if dep < 3 then Fr_takeStep_90 14 k l op s else (jb (Te_fail 11 7 s) fun v9 s9 => some ((0 : Int), s9))) = Fr_takeStep_90 14 k l op s := by
    by_cases z : op = 0
    · rw [if_pos z]
    · rw [if_neg z, if_pos (by omega)]
  have hrl : (if op = 0 then Md_readStep_83 rec 155 dep w op u else if dep = 3 then (jb (Md_fail 155 7 (u 155 15) u) fun v11 s11 => Md_readStep_83 rec 155 dep w op s11) else Md_readStep_83 rec 155 dep w op u) = Md_readStep_83 rec 155 dep w op u := by
    by_cases z : op = 0
    · rw [if_pos z]
    · rw [if_neg z, if_neg (by omega)]
  rw [hcl, hrl]
  clear hcl hrl
  sorry
