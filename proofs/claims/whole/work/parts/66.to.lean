/-! what both readers do with a token; well: TW, faulty: BD -/
def TW (s u : jM) : Prop := TK s u ∧ s 11 8 = 0 ∧ u 155 12 = 0
def BD (s u : jM) : Prop := SFT s ∧ s 11 8 = u 155 12 ∧ 0 < u 155 12 ∧ u 155 12 ≤ 100 ∧ s 11 9 = u 155 13
def rC (a b : Int) : Prop := a = 11 ∧ 2 ≤ b ∧ b ≤ 9
def rD (a b : Int) : Prop := a = 155 ∧ 12 ≤ b ∧ b ≤ 19
theorem SFT_ex {s t : jM} (h : SFT s) (e : ∀ b, b ≤ 2 → t 11 b = s 11 b) (e2 : ∀ b, t 12 b = s 12 b) : SFT t := by
  unfold SFT at *
  rw [e 1 (by omega), e 2 (by omega)]
  simp only [e2]
  exact h
/-- the class alone: a step -/
theorem advC {s : jM} (h : SFT s) : ∃ t, Te_advance 11 s = some (0, t) ∧ SFT t ∧ EX rT s t := by
  obtain ⟨u, hu⟩ : ∃ u : jM, u = fun a b => if a = 159 then s 12 b else if b = 9 then s 11 1 else if b = 16 then s 11 2 else 0 := ⟨_, rfl⟩
  have ht : TXT s u := by
    refine ⟨?_, ?_, fun i _ _ => ?_⟩ <;> rw [hu] <;> rfl
  obtain ⟨t, v, t1, _, t2, t3, _⟩ := adv_eq h ht
  exact ⟨t, t1, t2.1, t3⟩
/-- the class alone: a fault -/
theorem failC {s : jM} (c : Int) (h : SFT s) : ∃ t, Te_fail 11 c s = some (0, t) ∧ SFT t ∧ EX rC s t ∧ (s 11 8 ≠ 0 → w32 (s 11 8) = s 11 8 → t = s) ∧ (s 11 8 = 0 → t 11 8 = (if w32 (s 11 4) = 4 then 1 else c) ∧ t 11 9 = s 11 3 ∧ ∀ a b, ¬ (a = 11 ∧ (b = 8 ∨ b = 9)) → t a b = s a b) := by
  by_cases q : w32 (s 11 8) = 0
  · refine ⟨jup (jup s 11 8 (if w32 (s 11 4) = 4 then 1 else c)) 11 9 (s 11 3), ?_, SFT_ex h (fun b b1 => by rw [u_ne (by omega), u_ne (by omega)]) (fun b => by rw [u_ne (by omega), u_ne (by omega)]), ((EX.rf _ _).up ⟨rfl, by omega, by omega⟩).up ⟨rfl, by omega, by omega⟩, fun z y => absurd (y.symm.trans q) z, fun _ => ⟨by rw [u_ne (by omega), u_eq ⟨rfl, rfl⟩], u_eq ⟨rfl, rfl⟩, fun a b z => by rw [u_ne (by omega), u_ne (by omega)]⟩⟩
    rw [Te_fail, if_pos q]
    by_cases z : w32 (s 11 4) = 4
    · rw [if_pos z, if_pos z, u_ne (by omega)]
    · rw [if_neg z, if_neg z, u_ne (by omega)]
  · exact ⟨s, by rw [Te_fail, if_neg q], h, EX.rf _ _, fun _ _ => rfl, fun z => absurd (by rw [z]; decide) q⟩
/-- the class goes on though it is faulty -/
def SB (x y : Int) (s : jM) : Prop := SFT s ∧ s 11 8 = x ∧ s 11 9 = y
theorem SB_adv {x y : Int} {s : jM} (h : SB x y s) : ∃ t, Te_advance 11 s = some (0, t) ∧ SB x y t ∧ EX rC s t := by
  obtain ⟨t, t1, t2, t3⟩ := advC h.1
  exact ⟨t, t1, ⟨t2, by rw [t3 _ _ (by unfold rT; omega)]; exact h.2.1, by rw [t3 _ _ (by unfold rT; omega)]; exact h.2.2⟩, t3.wk (fun a b q => ⟨q.1, q.2.1, by have := q.2.2; omega⟩)⟩
theorem SB_fail {x y : Int} (hx : 0 < x ∧ x ≤ 100) {s : jM} (c : Int) (h : SB x y s) : Te_fail 11 c s = some (0, s) := by
  obtain ⟨t, t1, -, -, t4, -⟩ := failC c h.1
  rw [t4 (by rw [h.2.1]; omega) (by rw [h.2.1]; exact w32_id (by omega) (by omega))] at t1
  exact t1
theorem BD_SB {s u : jM} (h : BD s u) : SB (u 155 12) (u 155 13) s := ⟨h.1, h.2.1, h.2.2.2.2⟩
theorem SB_BD {s u : jM} (h : SB (u 155 12) (u 155 13) s) (hu : 0 < u 155 12 ∧ u 155 12 ≤ 100) : BD s u := ⟨h.1, h.2.1, hu.1, hu.2, h.2.2⟩
theorem SB_word {x y : Int} (hx : 0 < x ∧ x ≤ 100) {s : jM} (k : Int) (h : SB x y s) : ∃ t, Te_takeWord 11 k s = some (0, t) ∧ SB x y t ∧ EX rC s t := by
  rw [Te_takeWord]
  by_cases q : w32 (s 11 5) = w32 k
  · obtain ⟨t, t1, t2, t3⟩ := SB_adv h
    exact ⟨t, by rw [if_pos q, t1, jb_t], t2, t3⟩
  · exact ⟨s, by rw [if_neg q, SB_fail hx _ h, jb_t], h, EX.rf _ _⟩
theorem SB_stop {x y : Int} (hx : 0 < x ∧ x ≤ 100) {s : jM} (h : SB x y s) : ∃ t, Te_takeStop 11 s = some (0, t) ∧ SB x y t ∧ EX rC s t := by
  rw [Te_takeStop]
  by_cases q : w32 (s 11 4) = 3
  · by_cases q2 : w32 (s 11 6) = 59
    · obtain ⟨t, t1, t2, t3⟩ := SB_adv h
      exact ⟨t, by rw [if_pos q, if_pos q2, t1, jb_t], t2, t3⟩
    · exact ⟨s, by rw [if_pos q, if_neg q2, SB_fail hx _ h, jb_t], h, EX.rf _ _⟩
  · exact ⟨s, by rw [if_neg q, SB_fail hx _ h, jb_t], h, EX.rf _ _⟩
theorem SB_cmp {x y : Int} (hx : 0 < x ∧ x ≤ 100) {s : jM} (h : SB x y s) : ∃ v t, Te_takeCompare 11 s = some (v, t) ∧ SB x y t ∧ EX rC s t := by
  rw [Te_takeCompare]
  by_cases q : w32 (s 11 4) = 3
  · by_cases q2 : w32 (s 11 6) = 59
    · exact ⟨_, s, by rw [if_pos q, if_pos q2, SB_fail hx _ h, jb_t], h, EX.rf _ _⟩
    · obtain ⟨t, t1, t2, t3⟩ := SB_adv h
      exact ⟨_, t, by rw [if_pos q, if_neg q2, t1, jb_t], t2, t3⟩
  · exact ⟨_, s, by rw [if_neg q, SB_fail hx _ h, jb_t], h, EX.rf _ _⟩
theorem SB_num {x y : Int} (hx : 0 < x ∧ x ≤ 100) {s : jM} (lo hi : Int) (h : SB x y s) : ∃ v t, Te_takeNumber 11 lo hi s = some (v, t) ∧ SB x y t ∧ EX rC s t := by
  rw [Te_takeNumber]
  by_cases q : w32 (s 11 4) = 2
  · by_cases q2 : w32 (s 11 6) < w32 lo
    · exact ⟨_, s, by rw [if_pos q, if_pos q2, SB_fail hx _ h, jb_t], h, EX.rf _ _⟩
    · by_cases q3 : w32 hi < w32 (s 11 6)
      · exact ⟨_, s, by rw [if_pos q, if_neg q2, if_pos q3, SB_fail hx _ h, jb_t], h, EX.rf _ _⟩
      · obtain ⟨t, t1, t2, t3⟩ := SB_adv h
        exact ⟨_, t, by rw [if_pos q, if_neg q2, if_neg q3, t1, jb_t], t2, t3⟩
  · exact ⟨_, s, by rw [if_neg q, SB_fail hx _ h, jb_t], h, EX.rf _ _⟩
theorem isNameC (s : jM) : ∃ v, Te_isName 11 s = some (v, s) ∧ (v = 0 ∨ v = 1) := by
  rw [Te_isName]
  split
  · split
    · split
      · exact ⟨0, rfl, Or.inl rfl⟩
      · exact ⟨1, rfl, Or.inr rfl⟩
    · exact ⟨0, rfl, Or.inl rfl⟩
  · exact ⟨0, rfl, Or.inl rfl⟩
/-! the reference does nothing more -/
theorem bd12 {u : jM} (h : 0 < u 155 12 ∧ u 155 12 ≤ 100) : 0 < w32 (u 155 12) := by rw [w32_id (by omega) (by omega)]; exact h.1
theorem bd12n {u : jM} (h : 0 < u 155 12 ∧ u 155 12 ≤ 100) : ¬ w32 (u 155 12) = 0 := by rw [w32_id (by omega) (by omega)]; omega
theorem must_bd {u : jM} (h : 0 < u 155 12 ∧ u 155 12 ≤ 100) (v : Int) : Md_must 155 v u = some (0, u) := by rw [Md_must, if_pos (bd12 h)]
theorem fail_bd {u : jM} (h : 0 < u 155 12 ∧ u 155 12 ≤ 100) (c p : Int) : Md_fail 155 c p u = some (0, u) := by rw [Md_fail, if_pos (bd12 h)]
theorem amiss_bd {u : jM} (h : 0 < u 155 12 ∧ u 155 12 ≤ 100) : Md_amiss 155 u = some (0, u) := by
  rw [Md_amiss]
  split
  · rw [fail_bd h, jb_t]
  · rw [fail_bd h, jb_t]
theorem count_bd {u : jM} (h : 0 < u 155 12 ∧ u 155 12 ≤ 100) (lo hi : Int) : Md_count 155 lo hi u = some (0, u) := by
  rw [Md_count, if_neg (bd12n h), Md_count_19, if_neg (bd12n h), Md_count_50, if_pos (bd12 h)]
theorem perhaps_bd {u : jM} (h : 0 < u 155 12 ∧ u 155 12 ≤ 100) (v : Int) : Md_perhaps 155 v u = some (0, u) := by rw [Md_perhaps, if_pos (bd12 h)]
theorem behind_bd {u : jM} (h : 0 < u 155 12 ∧ u 155 12 ≤ 100) (v lo hi : Int) : Md_behindWord 155 v lo hi u = some (0, u) := by rw [Md_behindWord, must_bd h, jb_t, count_bd h, jb_t]
theorem told_bd {u : jM} (h : 0 < u 155 12 ∧ u 155 12 ≤ 100) (q t : Int) : Md_told 155 q t u = some (0, u) := by rw [Md_told, if_neg (bd12n h), Md_told_18, if_pos (bd12 h)]
theorem readTold_bd {u : jM} (h : 0 < u 155 12 ∧ u 155 12 ≤ 100) (q t : Int) : Md_readTold 155 q t u = some (0, u) := by rw [Md_readTold, told_bd h, jb_t, must_bd h, jb_t]
/-! both, well -/
/-- both go on -/
theorem both_adv {s u : jM} (h : TW s u) : ∃ s' u', Te_advance 11 s = some (0, s') ∧ Md_advance 155 u = some (0, u') ∧ TW s' u' ∧ s 11 2 ≤ s' 11 3 ∧ EX rC s s' ∧ EX rD u u' := by
  obtain ⟨h1, h2, h3⟩ := h
  obtain ⟨s', u', a1, a2, a3, a4, a5, a6⟩ := adv_eq h1.1 h1.2.1
  exact ⟨s', u', a1, a2, ⟨a3, by rw [a4 _ _ (by unfold rT; omega)]; exact h2, by rw [a5 _ _ (by unfold rU; omega)]; exact h3⟩, a6, a4.wk (fun a b q => ⟨q.1, q.2.1, by have := q.2.2; omega⟩), a5.wk (fun a b q => ⟨q.1, by have := q.2.1; omega, q.2.2⟩)⟩
/-- both find the same fault -/
theorem both_fail {s u : jM} (h : TW s u) {c : Int} (hc : 0 < c ∧ c ≤ 100) : ∃ s' u', Te_fail 11 c s = some (0, s') ∧ Md_fail 155 (if s 11 4 = 4 then 1 else c) (u 155 15) u = some (0, u') ∧ BD s' u' ∧ EX rC s s' ∧ EX rD u u' := by
  obtain ⟨h1, h2, h3⟩ := h
  obtain ⟨t, t1, t2, t3, -, t5⟩ := failC c h1.1
  obtain ⟨t5, t6, -⟩ := t5 h2
  have k := TK_5 h1
  rw [w32_id (x := s 11 4) (by omega) (by omega)] at t5
  refine ⟨t, jup (jup u 155 12 (if s 11 4 = 4 then 1 else c)) 155 13 (u 155 15), t1, ?_, ⟨t2, ?_, ?_, ?_, ?_⟩, t3, ((EX.rf _ _).up ⟨rfl, by omega, by omega⟩).up ⟨rfl, by omega, by omega⟩⟩
  · rw [Md_fail, h3, if_neg (by decide)]
  · rw [t5, u_ne (by omega), u_eq ⟨rfl, rfl⟩]
  · rw [u_ne (by omega), u_eq ⟨rfl, rfl⟩]; split <;> omega
  · rw [u_ne (by omega), u_eq ⟨rfl, rfl⟩]; split <;> omega
  · rw [u_eq ⟨rfl, rfl⟩, t6]; exact h1.2.2.1
theorem amiss_eq {s u : jM} (h : TK s u) : Md_amiss 155 u = (jb (Md_fail 155 (if s 11 4 = 4 then 1 else 2) (u 155 15) u) fun _ s2 => some (0, s2)) := by
  have k := TK_5 h
  rw [Md_amiss, ← k.1, w32_id (x := s 11 4) (by omega) (by omega)]
  by_cases q : s 11 4 = 4
  · rw [if_pos q, if_pos q]
  · rw [if_neg q, if_neg q]
theorem both_amiss {s u : jM} (h : TW s u) : ∃ s' u', Te_fail 11 2 s = some (0, s') ∧ Md_amiss 155 u = some (0, u') ∧ BD s' u' ∧ EX rC s s' ∧ EX rD u u' := by
  obtain ⟨s', u', a1, a2, a3⟩ := both_fail h (c := 2) (by omega)
  exact ⟨s', u', a1, by rw [amiss_eq h.1, a2, jb_t], a3⟩
def EB (s u s' u' : jM) : Prop := ((TW s' u' ∧ s 11 3 ≤ s' 11 3) ∨ BD s' u') ∧ EX rC s s' ∧ EX rD u u'
theorem EB.bd {s u s' u' : jM} (h : BD s' u' ∧ EX rC s s' ∧ EX rD u u') : EB s u s' u' := ⟨Or.inr h.1, h.2⟩
theorem TW_3 {s u s' : jM} (h : TW s u) (h2 : s 11 2 ≤ s' 11 3) : s 11 3 ≤ s' 11 3 := Int.le_trans h.1.2.2.2.2.1 h2
theorem u12 {u : jM} (h : u 155 12 = 0) : ¬ 0 < w32 (u 155 12) := by rw [h]; decide
theorem u12z {u : jM} (h : u 155 12 = 0) : w32 (u 155 12) = 0 := by rw [h]; decide
/-- a word that must stand here -/
theorem tk_word {s u : jM} (h : TW s u ∨ BD s u) {k v : Int} (hk : 0 ≤ k ∧ k < 26) (hv : TW s u → v = if s 11 5 = k then 1 else 0) : ∃ s' u', Te_takeWord 11 k s = some (0, s') ∧ Md_must 155 v u = some (0, u') ∧ EB s u s' u' := by
  rcases h with h | h
  · have k5 := TK_5 h.1
    rw [hv h, Te_takeWord, w32_id (x := s 11 5) (by omega) (by omega), w32_id (x := k) (by omega) (by omega), Md_must, if_neg (u12 h.2.2)]
    by_cases q : s 11 5 = k
    · obtain ⟨s', u', a1, a2, a3, a4, a5⟩ := both_adv h
      exact ⟨s', u', by rw [if_pos q, a1, jb_t], by rw [if_pos q, if_neg (by decide), a2, jb_t], Or.inl ⟨a3, TW_3 h a4⟩, a5⟩
    · obtain ⟨s', u', a1, a2, a3⟩ := both_amiss h
      exact ⟨s', u', by rw [if_neg q, a1, jb_t], by rw [if_neg q, if_pos (by decide), a2, jb_t], EB.bd a3⟩
  · obtain ⟨t, t1, t2, t3⟩ := SB_word ⟨h.2.2.1, h.2.2.2.1⟩ k (BD_SB h)
    exact ⟨t, u, t1, must_bd ⟨h.2.2.1, h.2.2.2.1⟩ v, Or.inr (SB_BD t2 ⟨h.2.2.1, h.2.2.2.1⟩), t3, EX.rf _ _⟩
theorem isSign_eq {s u : jM} (h : TK s u) {x : Int} (hx : 0 ≤ x ∧ x ≤ 100) : Md_isSign 155 x u = some (if s 11 4 = 3 ∧ s 11 6 = x then 1 else 0, u) := by
  have k := TK_5 h
  obtain ⟨-, -, -, -, -, -, -, d⟩ := h
  rw [Md_isSign, ← k.1, w32_id (x := s 11 4) (by omega) (by omega)]
  by_cases q : s 11 4 = 3
  · have e : s 11 6 = u 155 17 ∧ 59 ≤ s 11 6 ∧ s 11 6 ≤ 62 := by
      rcases d with ⟨a, -⟩ | ⟨a, -⟩ | ⟨a, -⟩ | ⟨-, -, b⟩ | ⟨a, -⟩
      · omega
      · omega
      · omega
      · exact b
      · omega
    rw [if_pos q, ← e.1, w32_id (x := s 11 6) (by omega) (by omega), w32_id (x := x) (by omega) (by omega)]
    by_cases z : s 11 6 = x
    · rw [if_pos z, if_pos ⟨q, z⟩]
    · rw [if_neg z, if_neg (fun y => z y.2)]
  · rw [if_neg q, if_neg (fun y => q y.1)]
/-- the stop sign -/
theorem tk_stop {s u : jM} (h : TW s u ∨ BD s u) {v : Int} (hv : TW s u → v = if s 11 4 = 3 ∧ s 11 6 = 59 then 1 else 0) : ∃ s' u', Te_takeStop 11 s = some (0, s') ∧ Md_must 155 v u = some (0, u') ∧ EB s u s' u' := by
  rcases h with h | h
  · have k5 := TK_5 h.1
    have e6 : s 11 4 = 3 → w32 (s 11 6) = s 11 6 := fun q => by
      obtain ⟨-, -, -, -, -, -, -, d⟩ := h.1
      rcases d with ⟨a, -⟩ | ⟨a, -⟩ | ⟨a, -⟩ | ⟨-, -, b⟩ | ⟨a, -⟩
      · omega
      · omega
      · omega
      · exact w32_id (by omega) (by omega)
      · omega
    rw [hv h, Te_takeStop, w32_id (x := s 11 4) (by omega) (by omega), Md_must, if_neg (u12 h.2.2)]
    by_cases q : s 11 4 = 3 ∧ s 11 6 = 59
    · obtain ⟨s', u', a1, a2, a3, a4, a5⟩ := both_adv h
      exact ⟨s', u', by rw [if_pos q.1, e6 q.1, if_pos q.2, a1, jb_t], by rw [if_pos q, if_neg (by decide), a2, jb_t], Or.inl ⟨a3, TW_3 h a4⟩, a5⟩
    · obtain ⟨s', u', a1, a2, a3⟩ := both_amiss h
      refine ⟨s', u', ?_, by rw [if_neg q, if_pos (by decide), a2, jb_t], EB.bd a3⟩
      by_cases z : s 11 4 = 3
      · rw [if_pos z, e6 z, if_neg (fun y => q ⟨z, y⟩), a1, jb_t]
      · rw [if_neg z, a1, jb_t]
  · obtain ⟨t, t1, t2, t3⟩ := SB_stop ⟨h.2.2.1, h.2.2.2.1⟩ (BD_SB h)
    exact ⟨t, u, t1, must_bd ⟨h.2.2.1, h.2.2.2.1⟩ v, Or.inr (SB_BD t2 ⟨h.2.2.1, h.2.2.2.1⟩), t3, EX.rf _ _⟩
/-- a number from lo to hi -/
theorem tk_num {s u : jM} (h : TW s u ∨ BD s u) {lo hi : Int} (hl : 0 ≤ lo ∧ lo ≤ 100) (hh : 0 ≤ hi ∧ hi ≤ 100) : ∃ v w s' u', Te_takeNumber 11 lo hi s = some (v, s') ∧ Md_count 155 lo hi u = some (w, u') ∧ EB s u s' u' ∧ (TW s' u' → v = w ∧ lo ≤ v ∧ v ≤ hi) := by
  rcases h with h | h
  · have k5 := TK_5 h.1
    have nb : ∀ {s' u' : jM}, BD s' u' → ¬ TW s' u' := fun a b => by have := a.2.2.1; have := b.2.2; omega
    rw [Te_takeNumber, w32_id (x := s 11 4) (by omega) (by omega), Md_count, if_pos (u12z h.2.2), ← k5.1, w32_id (x := s 11 4) (by omega) (by omega)]
    by_cases q : s 11 4 = 2
    · have e : s 11 6 = u 155 17 ∧ 0 ≤ s 11 6 ∧ s 11 6 ≤ 9999 := by
        obtain ⟨-, -, -, -, -, -, -, d⟩ := h.1
        rcases d with ⟨a, -⟩ | ⟨a, -⟩ | ⟨-, -, b⟩ | ⟨a, -⟩ | ⟨a, -⟩
        · omega
        · omega
        · exact b
        · omega
        · omega
      rw [if_pos q, if_pos q, Md_count_19, if_pos (u12z h.2.2), ← e.1, w32_id (x := s 11 6) (by omega) (by omega), w32_id (x := lo) (by omega) (by omega), w32_id (x := hi) (by omega) (by omega), Md_isIn_eq (by unfold i64; omega) (by unfold i64; omega) (by unfold i64; omega), jb_t]
      by_cases z : lo ≤ s 11 6 ∧ s 11 6 ≤ hi
      · obtain ⟨s', u', a1, a2, a3, a4, a5⟩ := both_adv h
        refine ⟨s 11 6, s 11 6, s', u', by rw [if_neg (by omega), if_neg (by omega), a1, jb_t], ?_, ⟨Or.inl ⟨a3, TW_3 h a4⟩, a5⟩, fun _ => ⟨rfl, z.1, z.2⟩⟩
        rw [if_pos z, if_neg (by decide), Md_count_50, if_neg (u12 h.2.2), a2, jb_t, e.1]
      · obtain ⟨s', u', a1, a2, a3⟩ := both_fail h (c := 4) (by omega)
        rw [if_neg (by omega)] at a2
        refine ⟨s 11 6, 0, s', u', ?_, ?_, EB.bd a3, fun y => absurd y (nb a3.1)⟩
        · by_cases y : s 11 6 < lo
          · rw [if_pos y, a1, jb_t]
          · rw [if_neg y, if_pos (by omega), a1, jb_t]
        · rw [if_neg z, if_pos (by decide), a2, jb_t, Md_count_50, if_pos (bd12 ⟨a3.1.2.2.1, a3.1.2.2.2.1⟩)]
    · obtain ⟨s', u', a1, a2, a3⟩ := both_amiss h
      have b := (⟨a3.1.2.2.1, a3.1.2.2.2.1⟩ : 0 < u' 155 12 ∧ u' 155 12 ≤ 100)
      refine ⟨s 11 6, 0, s', u', by rw [if_neg q, a1, jb_t], ?_, EB.bd a3, fun y => absurd y (nb a3.1)⟩
      rw [if_neg q, a2, jb_t, Md_count_19, if_neg (bd12n b), Md_count_50, if_pos (bd12 b)]
  · obtain ⟨v, t, t1, t2, t3⟩ := SB_num ⟨h.2.2.1, h.2.2.2.1⟩ lo hi (BD_SB h)
    exact ⟨v, 0, t, u, t1, count_bd ⟨h.2.2.1, h.2.2.2.1⟩ lo hi, ⟨Or.inr (SB_BD t2 ⟨h.2.2.1, h.2.2.2.1⟩), t3, EX.rf _ _⟩, fun y => by have := y.2.2; have := h.2.2.1; omega⟩
/-! names -/
def nmw (s : jM) : Int := if s 11 4 = 1 ∧ s 11 5 = -1 ∧ s 11 7 ≠ 0 then 1 else 0
theorem both_name {s u : jM} (h : TK s u) : Te_isName 11 s = some (nmw s, s) ∧ Md_isName 155 u = some (nmw s, u) ∧ (nmw s = 1 → s 11 4 = 1 ∧ WD (s 11 7) (u 155 19)) := by
  have k5 := TK_5 h
  have kp := isKept_eq h
  obtain ⟨-, -, -, -, -, -, -, d⟩ := h
  unfold nmw
  by_cases q : s 11 4 = 1
  · have w : WRD s u := by
      rcases d with ⟨a, -⟩ | ⟨-, a⟩ | ⟨a, -⟩ | ⟨a, -⟩ | ⟨a, -⟩
      · omega
      · exact a
      · omega
      · omega
      · omega
    have hr : Md_isName 155 u = if 8 < w32 (u 155 18) then some (0, u) else (if s 11 5 = -1 then some (1, u) else some (0, u)) := by
      rw [Md_isName, ← k5.1, q, if_pos (by decide), kp, jb_t]
      split
      · rfl
      · by_cases z : s 11 5 = -1
        · rw [if_pos z, if_pos (by decide), if_pos z]
        · rw [if_neg z, if_neg (by decide), if_neg z]
    have hc : Te_isName 11 s = if s 11 5 = -1 then (if w32 (jlcmp (s 11 7) 0) = 0 then some (0, s) else some (1, s)) else some (0, s) := by
      rw [Te_isName, q, if_pos (by decide), w32_id (x := s 11 5) (by omega) (by omega)]
    rw [hc, hr]
    rcases w with ⟨l, l1, l2, l3, l4, -⟩ | ⟨a, b, c, -, e⟩
    · have hw : WD (s 11 7) (u 155 19) := ⟨l, l1, l2, l3⟩
      have wb := WD_b hw
      have ll := l1.2.1
      have e : (w32 (jlcmp (s 11 7) 0) = 0) = False := by
        rw [lcmp_eq, w64_id (by omega) (by omega), w64_id (by omega) (by omega)]
        exact eq_false (by omega)
      rw [if_neg (c := 8 < w32 (u 155 18)) (by rw [w32_id (by omega) (by omega)]; omega)]
      simp only [e, if_false]
      by_cases z : s 11 5 = -1
      · rw [if_pos z, if_pos z, if_pos ⟨q, z, by omega⟩]
        exact ⟨rfl, rfl, fun _ => ⟨q, hw⟩⟩
      · rw [if_neg z, if_neg z, if_neg (fun y => z y.2.1)]
        exact ⟨rfl, rfl, fun y => absurd y (by decide)⟩
    · have e2 : (w32 (jlcmp (s 11 7) 0) = 0) = True := by
        rw [a]
        exact eq_true (by decide)
      rw [if_pos (c := 8 < w32 (u 155 18)) (by rw [w32_id (by omega) (by omega)]; omega), if_pos e]
      simp only [e2, if_true]
      rw [if_neg (c := s 11 4 = 1 ∧ s 11 5 = -1 ∧ s 11 7 ≠ 0) (fun y => y.2.2 a)]
      exact ⟨rfl, rfl, fun y => absurd y (by decide)⟩
  · rw [Te_isName, w32_id (x := s 11 4) (by omega) (by omega), if_neg q, Md_isName, ← k5.1, w32_id (x := s 11 4) (by omega) (by omega), if_neg q, if_neg (fun y => q y.1)]
    exact ⟨rfl, rfl, fun y => absurd y (by decide)⟩
