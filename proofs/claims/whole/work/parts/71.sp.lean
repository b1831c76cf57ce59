/-! a new thing of a see: place -/
theorem readNew_full {t lim : Int} {u u' : jM} (ht : 0 ≤ t ∧ t ≤ 2) (hc : u 160 (1524 + t) = lim) (hf : Md_fail 155 6 (u 155 15) u = some (0, u')) (h12 : 0 < u' 155 12 ∧ u' 155 12 ≤ 100) : Md_readNew 155 t lim u = some (0, u') := by
  rw [Md_readNew, w32_id (x := 1524 + t) (by omega) (by omega), if_pos (by omega)]
  show (if w32 (u 160 (1524 + t)) = w32 lim then (jb (Md_fail 155 6 (u 155 15) u) fun v12 s12 => Md_readNew_26 155 t (u 160 (1524 + t)) s12) else Md_readNew_26 155 t (u 160 (1524 + t)) u) = _
  rw [if_pos (by rw [hc]), hf, jb_t, Md_readNew_26, if_pos (bd12 h12)]
theorem readNew_go {t lim j : Int} {u u2 : jM} (ht : 0 ≤ t ∧ t ≤ 2) (hc : u 160 (1524 + t) = j) (hj : 0 ≤ j ∧ j < lim ∧ lim ≤ 6) (h12 : u 155 12 = 0) (ha : Md_advance 155 u = some (0, u2)) : Md_readNew 155 t lim u = (jb (Md_isName 155 u2) fun v10 s10 => if (w32 v10) = 0 then (jb (Md_amiss 155 s10) fun v11 s11 => Md_readNew_50 155 t j s11) else (Md_readNew_50 155 t j s10)) := by
  rw [Md_readNew, w32_id (x := 1524 + t) (by omega) (by omega), if_pos (by omega)]
  show (if w32 (u 160 (1524 + t)) = w32 lim then (jb (Md_fail 155 6 (u 155 15) u) fun v12 s12 => Md_readNew_26 155 t (u 160 (1524 + t)) s12) else Md_readNew_26 155 t (u 160 (1524 + t)) u) = _
  rw [hc, w32_id (x := j) (by omega) (by omega), w32_id (x := lim) (by omega) (by omega), if_neg (by omega), Md_readNew_26, if_neg (u12 h12), ha, jb_t]
theorem RNm_add {B t j x y : Int} {s u s' u' : jM} (h : RNm B s u) (ht : 0 ≤ t ∧ t ≤ 2) (hj : u 160 (1524 + t) = j) (hl : j < (if t = 1 then 6 else 5)) (e0 : s' B 8 = s B 8 + 1) (e6 : s' (B + 6) (s B 8) = x) (e7 : s' (B + 7) (s B 8) = t) (e8 : s' (B + 8) (s B 8) = j) (eo : ∀ a b, B + 6 ≤ a → a ≤ B + 8 → b ≠ s B 8 → s' a b = s a b) (f : u' 160 (1524 + t) = j + 1) (fo : ∀ o, 1524 ≤ o → o ≤ 1526 → o ≠ 1524 + t → u' 160 o = u 160 o) (g : u' 163 (64 + nfr t + j) = y) (go : ∀ i, i ≠ 64 + nfr t + j → u' 163 i = u 163 i) (hw : WD x y) (hx : ∀ k, 0 ≤ k → k < s B 8 → s (B + 6) k ≠ x) : RNm B s' u' := by
  unfold RNm at *
  rw [e0]
  have cj : cR u t = j := hj
  refine NMC_add (t := t) (x := x) (y := y) h ht (by rw [cj]; exact hl) ⟨by rw [cj]; exact f, fun o o1 o2 o3 => fo _ (by omega) (by omega) (by omega)⟩ ⟨e6, fun k k1 k2 => eo _ _ (by omega) (by omega) (by omega)⟩ ⟨e7, fun k k1 k2 => eo _ _ (by omega) (by omega) (by omega)⟩ ⟨by rw [cj]; exact e8, fun k k1 k2 => eo _ _ (by omega) (by omega) (by omega)⟩ ⟨?_, fun i i1 i2 i3 => go _ (by rw [cj] at i3; omega)⟩ hw hx
  rw [cj]
  show u' 163 (64 + (nfr t + j)) = y
  rw [← Int.add_assoc]
  exact g
/-! in either mode -/
def EC (s u s' u' : jM) : Prop := ((TW s' u' ∧ s 11 3 ≤ s' 11 3) ∨ BD s' u') ∧ EX rC s s' ∧ EX rD u u' ∧ (BD s u → BD s' u')
theorem EC_of {s u s' u' : jM} (h : TW s u) (e : EB s u s' u') : EC s u s' u' := ⟨e.1, e.2.1, e.2.2, fun b => absurd h (nb_tw b)⟩
theorem EC_m {s u s' u' : jM} (e : EC s u s' u') : TW s' u' ∨ BD s' u' := e.1.imp And.left id
theorem EC_tw {s u s' u' : jM} (h : TW s u ∨ BD s u) (e : EC s u s' u') (t : TW s' u') : TW s u ∧ s 11 3 ≤ s' 11 3 := by
  rcases h with h | h
  · rcases e.1 with z | z
    · exact ⟨h, z.2⟩
    · exact absurd t (nb_tw z)
  · exact absurd t (nb_tw (e.2.2.2 h))
theorem bdb {s u : jM} (h : BD s u) : 0 < u 155 12 ∧ u 155 12 ≤ 100 := ⟨h.2.2.1, h.2.2.2.1⟩
theorem tk_word2 {s u : jM} (h : TW s u ∨ BD s u) {k v : Int} (hk : 0 ≤ k ∧ k < 26) (hv : TW s u → v = if s 11 5 = k then 1 else 0) : ∃ s' u', Te_takeWord 11 k s = some (0, s') ∧ Md_must 155 v u = some (0, u') ∧ EC s u s' u' := by
  rcases h with h | h
  · obtain ⟨s', u', a, b, c⟩ := tk_word (Or.inl h) hk hv
    exact ⟨s', u', a, b, EC_of h c⟩
  · obtain ⟨t, t1, t2, t3⟩ := SB_word (bdb h) k (BD_SB h)
    exact ⟨t, u, t1, must_bd (bdb h) v, Or.inr (SB_BD t2 (bdb h)), t3, EX.rf _ _, fun _ => SB_BD t2 (bdb h)⟩
theorem tk_stop2 {s u : jM} (h : TW s u ∨ BD s u) {v : Int} (hv : TW s u → v = if s 11 4 = 3 ∧ s 11 6 = 59 then 1 else 0) : ∃ s' u', Te_takeStop 11 s = some (0, s') ∧ Md_must 155 v u = some (0, u') ∧ EC s u s' u' := by
  rcases h with h | h
  · obtain ⟨s', u', a, b, c⟩ := tk_stop (Or.inl h) hv
    exact ⟨s', u', a, b, EC_of h c⟩
  · obtain ⟨t, t1, t2, t3⟩ := SB_stop (bdb h) (BD_SB h)
    exact ⟨t, u, t1, must_bd (bdb h) v, Or.inr (SB_BD t2 (bdb h)), t3, EX.rf _ _, fun _ => SB_BD t2 (bdb h)⟩
theorem tk_num2 {s u : jM} (h : TW s u ∨ BD s u) {lo hi : Int} (hl : 0 ≤ lo ∧ lo ≤ 100) (hh : 0 ≤ hi ∧ hi ≤ 100) : ∃ v w s' u', Te_takeNumber 11 lo hi s = some (v, s') ∧ Md_count 155 lo hi u = some (w, u') ∧ EC s u s' u' ∧ (TW s' u' → v = w ∧ lo ≤ v ∧ v ≤ hi) := by
  rcases h with h | h
  · obtain ⟨v, w, s', u', a, b, c, d⟩ := tk_num (Or.inl h) hl hh
    exact ⟨v, w, s', u', a, b, EC_of h c, d⟩
  · obtain ⟨v, t, t1, t2, t3⟩ := SB_num (bdb h) lo hi (BD_SB h)
    exact ⟨v, 0, t, u, t1, count_bd (bdb h) lo hi, ⟨Or.inr (SB_BD t2 (bdb h)), t3, EX.rf _ _, fun _ => SB_BD t2 (bdb h)⟩, fun y => absurd y (nb_tw (SB_BD t2 (bdb h)))⟩
theorem tk_thing2 {s u : jM} {B q t : Int} (hB : 20 ≤ B) (h : TW s u ∨ BD s u) (hb : 0 ≤ s B 8 ∧ s B 8 ≤ 16) (hn : TW s u → NMv s u B q t) (hq : 0 ≤ q ∧ q ≤ 4) (ht : 0 ≤ t ∧ t ≤ 2) : ∃ v w s' u', Te_takeThing 11 B t s = some (v, s') ∧ Md_readTold 155 q t u = some (w, u') ∧ EC s u s' u' ∧ (TW s' u' → v = w ∧ 0 ≤ v ∧ v < u 160 (381 * q + t)) := by
  rcases h with h | h
  · obtain ⟨v, w, s', u', a, b, c, d⟩ := tk_thing hB (Or.inl h) hb hn hq ht
    exact ⟨v, w, s', u', a, b, EC_of h c, d⟩
  · obtain ⟨v, t', t1, t2, t3⟩ := SB_thing (bdb h) t hb (BD_SB h)
    exact ⟨v, 0, t', u, t1, readTold_bd (bdb h) q t, ⟨Or.inr (SB_BD t2 (bdb h)), t3, EX.rf _ _, fun _ => SB_BD t2 (bdb h)⟩, fun y => absurd y (nb_tw (SB_BD t2 (bdb h)))⟩
theorem isWord_tot (y : Int) (u : jM) : ∃ v, Md_isWord 155 y u = some (v, u) ∧ (v = 0 ∨ v = 1) := by
  rw [Md_isWord]
  split
  · split
    · exact ⟨1, rfl, Or.inr rfl⟩
    · exact ⟨0, rfl, Or.inl rfl⟩
  · exact ⟨0, rfl, Or.inl rfl⟩
theorem kt_3 (s u : jM) : ∃ v, Md_isSets 155 u = some (v, u) ∧ (TW s u → v = if s 11 5 = 3 then 1 else 0) := by
  obtain ⟨v, v1, v2⟩ := isWord_tot _ u
  refine ⟨v, by rw [Md_isSets, sp_3, jb_t, v1, jb_t, if_pos v2], fun h => ?_⟩
  have := (v1.symm.trans (kq_3 h.1))
  exact congrArg Prod.fst (Option.some.inj this)
theorem kt_4 (s u : jM) : ∃ v, Md_isCosts 155 u = some (v, u) ∧ (TW s u → v = if s 11 5 = 4 then 1 else 0) := by
  obtain ⟨v, v1, v2⟩ := isWord_tot _ u
  refine ⟨v, by rw [Md_isCosts, sp_4, jb_t, v1, jb_t, if_pos v2], fun h => ?_⟩
  have := (v1.symm.trans (kq_4 h.1))
  exact congrArg Prod.fst (Option.some.inj this)
theorem kt_5 (s u : jM) : ∃ v, Md_isStock 155 u = some (v, u) ∧ (TW s u → v = if s 11 5 = 5 then 1 else 0) := by
  obtain ⟨v, v1, v2⟩ := isWord_tot _ u
  refine ⟨v, by rw [Md_isStock, sp_5, jb_t, v1, jb_t, if_pos v2], fun h => ?_⟩
  have := (v1.symm.trans (kq_5 h.1))
  exact congrArg Prod.fst (Option.some.inj this)
theorem kt_8 (s u : jM) : ∃ v, Md_isShakes 155 u = some (v, u) ∧ (TW s u → v = if s 11 5 = 8 then 1 else 0) := by
  obtain ⟨v, v1, v2⟩ := isWord_tot _ u
  refine ⟨v, by rw [Md_isShakes, sp_8, jb_t, v1, jb_t, if_pos v2], fun h => ?_⟩
  have := (v1.symm.trans (kq_8 h.1))
  exact congrArg Prod.fst (Option.some.inj this)
theorem kt_10 (s u : jM) : ∃ v, Md_isHigh 155 u = some (v, u) ∧ (TW s u → v = if s 11 5 = 10 then 1 else 0) := by
  obtain ⟨v, v1, v2⟩ := isWord_tot _ u
  refine ⟨v, by rw [Md_isHigh, sp_10, jb_t, v1, jb_t, if_pos v2], fun h => ?_⟩
  have := (v1.symm.trans (kq_10 h.1))
  exact congrArg Prod.fst (Option.some.inj this)
theorem kt_11 (s u : jM) : ∃ v, Md_isHolds 155 u = some (v, u) ∧ (TW s u → v = if s 11 5 = 11 then 1 else 0) := by
  obtain ⟨v, v1, v2⟩ := isWord_tot _ u
  refine ⟨v, by rw [Md_isHolds, sp_11, jb_t, v1, jb_t, if_pos v2], fun h => ?_⟩
  have := (v1.symm.trans (kq_11 h.1))
  exact congrArg Prod.fst (Option.some.inj this)
theorem kt_12 (s u : jM) : ∃ v, Md_isAt 155 u = some (v, u) ∧ (TW s u → v = if s 11 5 = 12 then 1 else 0) := by
  obtain ⟨v, v1, v2⟩ := isWord_tot _ u
  refine ⟨v, by rw [Md_isAt, sp_12, jb_t, v1, jb_t, if_pos v2], fun h => ?_⟩
  have := (v1.symm.trans (kq_12 h.1))
  exact congrArg Prod.fst (Option.some.inj this)
theorem kt_24 (s u : jM) : ∃ v, Md_isEnd 155 u = some (v, u) ∧ (TW s u → v = if s 11 5 = 24 then 1 else 0) := by
  obtain ⟨v, v1, v2⟩ := isWord_tot _ u
  refine ⟨v, by rw [Md_isEnd, sp_24, jb_t, v1, jb_t, if_pos v2], fun h => ?_⟩
  have := (v1.symm.trans (kq_24 h.1))
  exact congrArg Prod.fst (Option.some.inj this)
theorem sign_tot (x : Int) (hx : 0 ≤ x ∧ x ≤ 100) (s u : jM) : ∃ v, Md_isSign 155 x u = some (v, u) ∧ (TW s u → v = if s 11 4 = 3 ∧ s 11 6 = x then 1 else 0) := by
  have h1 : ∃ v, Md_isSign 155 x u = some (v, u) := by
    rw [Md_isSign]
    split
    · split
      · exact ⟨1, rfl⟩
      · exact ⟨0, rfl⟩
    · exact ⟨0, rfl⟩
  obtain ⟨v, v1⟩ := h1
  refine ⟨v, v1, fun h => ?_⟩
  have := v1.symm.trans (isSign_eq h.1 hx)
  exact congrArg Prod.fst (Option.some.inj this)
def nmc (B n a b : Int) : Prop := (a = B ∧ b = 8) ∨ ((a = B + 6 ∨ a = B + 7 ∨ a = B + 8) ∧ b = n)
/-- a new name, from the first step on: what both sides have after it -/
theorem new_both {B t j lim : Int} (hB : B = 30 ∨ B = 55) {s u : jM} (h : TW s u) (hr : RDs B s u) (ht : 0 ≤ t ∧ t ≤ 2) (hj : u 160 (1524 + t) = j) (hlim : lim = if t = 1 then 6 else 5) (hl : 0 ≤ j ∧ j < lim) : ∃ w s2 s3 u3, Te_advance 11 s = some (0, s2) ∧ Te_takeNewName 11 B t j s2 = some (0, s3) ∧ s2 13 0 = 11 ∧ s2 13 1 = B ∧ Md_readNew 155 t lim u = some (w, u3) ∧ (∀ a b, a ≠ 11 → ¬ nmc B (s B 8) a b → s3 a b = s a b) ∧ (∀ a b, a ≠ 155 → ¬ (a = 163 ∧ b = 64 + nfr t + j) → u3 a b = u a b) ∧ u3 155 25 = u 155 25 ∧ EX (rS B) s s3 ∧ EX rQ u u3 ∧ (0 ≤ s3 B 8 ∧ s3 B 8 ≤ 16) ∧ ((TW s3 u3 ∧ w = j ∧ s 11 2 ≤ s3 11 3 ∧ ∀ s' u', s' B 8 = s3 B 8 → (∀ a b, B + 6 ≤ a → a ≤ B + 8 → s' a b = s3 a b) → u' 160 (1524 + t) = j + 1 → (∀ o, 1524 ≤ o → o ≤ 1526 → o ≠ 1524 + t → u' 160 o = u 160 o) → (∀ i, u' 163 i = u3 163 i) → RNm B s' u') ∨ BD s3 u3) := by
  have hb : 20 ≤ B := by omega
  have hr0 := hr
  have bd := RS_b hr
  obtain ⟨r1, r2, r3, r4, r5, r6, r7⟩ := hr
  obtain ⟨a0, a1, a2, a3, a4⟩ := r1
  obtain ⟨s2, u2, b1, b2, b3, b4, b5, b6⟩ := both_adv h
  have hr2 := RS_tok hb hr0 b5 b6
  have f2 : ∀ a b, a ≠ 11 → s2 a b = s a b := fun a b z => b5 a b (fun y => z y.1)
  have g2 : ∀ a b, a ≠ 155 → u2 a b = u a b := fun a b z => b6 a b (fun y => z y.1)
  have cj : u2 160 (1524 + t) = j := by rw [g2 _ _ (by omega)]; exact hj
  have l6 : lim ≤ 6 := by rw [hlim]; split <;> omega
  obtain ⟨w, s3, u3, d1, d2, d3⟩ := tk_new (B := B) (t := t) (j := j) (by omega) b3 (RNm_NMx hr2.2.2.1) ht cj (by rw [← hlim]; exact hl.2)
  have rn := readNew_go (t := t) (lim := lim) (j := j) ht hj ⟨hl.1, hl.2, l6⟩ h.2.2 b2
  rw [d2] at rn
  have n8 : s2 B 8 = s B 8 := f2 _ _ (by omega)
  refine ⟨w, s2, s3, u3, b1, d1, by rw [f2 _ _ (by omega)]; exact a0, by rw [f2 _ _ (by omega)]; exact a1, rn, ?_⟩
  have i6 : ∀ k, s2 (B + 6) k = s (B + 6) k := fun k => f2 _ _ (by omega)
  rcases d3 with ⟨d3, d4, d5, d6, d7, d8, d9, d10, d11, d12, d13, d14⟩ | ⟨d3, d4, d5⟩
  · rw [n8] at d6 d8 d9 d10 d11 d14
    have f3 : ∀ a b, a ≠ 11 → ¬ nmc B (s B 8) a b → s3 a b = s a b := fun a b z1 z2 => by rw [d6 a b (fun y => y.elim (fun q => z1 q.1) z2), f2 a b z1]
    have g3 : ∀ a b, a ≠ 155 → ¬ (a = 163 ∧ b = 64 + nfr t + j) → u3 a b = u a b := fun a b z1 z2 => by rw [d7 a b (fun y => y.elim (fun q => z1 q.1) z2), g2 a b z1]
    have s16 : s B 8 + 1 ≤ 16 ∨ 16 < s B 8 + 1 := by omega
    refine ⟨f3, g3, ?_, ?_, ?_, ?_, Or.inl ⟨d3, d4, ?_, fun s' u' e1 e2 e3 e4 e5 => ?_⟩⟩
    · rw [d7 155 25 (by unfold rM; omega), b6 155 25 (by unfold rD; omega)]
    · exact (rC_rS b5).tr (d6.wk (fun a b q => by unfold rN at q; unfold rS; omega))
    · have nb := nfr_b ht (j := j) (by omega)
      exact (rD_rQ b6).tr (d7.wk (fun a b q => by unfold rM at q; unfold rQ; omega))
    · have e : s B 8 = u 160 1524 + u 160 1525 + u 160 1526 := r3.1
      rw [d8]
      have hj2 := hj
      clear d14 f3 g3 hr2 hr0 r3 rn
      rcases (by omega : t = 0 ∨ t = 1 ∨ t = 2) with q | q | q <;> subst q <;> simp only [Int.reduceEq, if_true, if_false, Int.reduceAdd] at hlim hj2 <;> omega
    · have := b3.1.2.2.2.2.1
      omega
    · refine RNm_add (t := t) (j := j) (x := s2 11 7) (y := u2 155 19) r3 ht hj (by rw [← hlim]; exact hl.2) (by rw [e1, d8]) (by rw [e2 _ _ (by omega) (by omega)]; exact d9) (by rw [e2 _ _ (by omega) (by omega)]; exact d10) (by rw [e2 _ _ (by omega) (by omega)]; exact d11) (fun a b z1 z2 z3 => by rw [e2 a b z1 z2]; exact f3 a b (by omega) (by unfold nmc; omega)) e3 e4 (by rw [e5]; exact d12) (fun i z => by rw [e5]; exact g3 163 i (by omega) (by omega)) d13 (fun k k1 k2 => by rw [← i6]; exact d14 k k1 k2)
  · have f3 : ∀ a b, a ≠ 11 → s3 a b = s a b := fun a b z => by rw [d4 a b (fun y => z y.1), f2 a b z]
    have g3 : ∀ a b, a ≠ 155 → u3 a b = u a b := fun a b z => by rw [d5 a b (fun y => z y.1), g2 a b z]
    refine ⟨fun a b z _ => f3 a b z, fun a b z _ => g3 a b z, ?_, (rC_rS b5).tr (rC_rS d4), (rD_rQ b6).tr (rD_rQ d5), ?_, Or.inr d3⟩
    · rw [d5 155 25 (by unfold rD; omega), b6 155 25 (by unfold rD; omega)]
    · rw [f3 _ _ (by omega)]; exact bd.1
theorem sr_place {B : Int} (hB : B = 30 ∨ B = 55) {s u : jM} (h : TW s u) (hr : RDs B s u) (hk : s 11 5 = 6) : ∃ s' u', Sr_takePlace 13 (s B 5) s = some (0, s') ∧ Md_readPlace 155 u = some (0, u') ∧ PO B s u s' u' := by
  have hb : 20 ≤ B := by omega
  have bd := RS_b hr
  have sv := RS_SV hr
  have hr0 := hr
  obtain ⟨r1, r2, r3, r4, r5, r6, r7⟩ := hr
  obtain ⟨a0, a1, a2, a3, a4⟩ := r1
  have c5 : s B 5 = u 160 1525 := r2.2.2.2.2.2.2.2.2.2.1
  by_cases q : s B 5 < 6
  · obtain ⟨w, s2, s3, u3, d1, d2, p0, p1, d3, f3, g3, g25, d6, d7, n8, d8⟩ := new_both (t := 1) (j := s B 5) (lim := 6) hB h hr0 (by omega) c5.symm rfl (by omega)
    have x0 : s3 13 0 = 11 := by rw [f3 _ _ (by omega) (by unfold nmc; omega)]; exact a0
    have x1 : s3 13 1 = B := by rw [f3 _ _ (by omega) (by unfold nmc; omega)]; exact a1
    have x5 : s3 B 5 = s B 5 := f3 _ _ (by omega) (by unfold nmc; omega)
    have hcl : Sr_takePlace 13 (s B 5) s = some (0, jup s3 B 5 (s B 5 + 1)) := by
      rw [Sr_takePlace, w32_id (x := s B 5) (by omega) (by omega), if_pos q, a0, if_pos jok5, d1, jb_t, p0, p1, if_pos ⟨jok5, jok3 hB⟩, d2, jb_t, x1, if_pos (jok3 hB), x5]
    rw [hcl, Md_readPlace, d3, jb_t]
    show ∃ s' u', some (0, jup s3 B 5 (s B 5 + 1)) = some (0, s') ∧ (if w32 (u3 155 12) = 0 then some (0, jup u3 160 1525 (u3 160 1525 + 1)) else some (0, u3)) = some (0, u') ∧ PO B s u s' u'
    have se : ∀ a b, a ≠ 11 → ¬ nmc B (s B 8) a b → ¬ (a = B ∧ b = 5) → jup s3 B 5 (s B 5 + 1) a b = s a b := fun a b z1 z2 z3 => by rw [u_ne z3, f3 a b z1 z2]
    have sE : EX (rS B) s (jup s3 B 5 (s B 5 + 1)) := d6.up (Or.inr (Or.inr ⟨by omega, by omega⟩))
    rcases d8 with ⟨d8, d9, d10, d11⟩ | d8
    · rw [if_pos (u12z d8.2.2)]
      have y5 : u3 160 1525 = s B 5 := by rw [g3 _ _ (by omega) (by omega)]; exact c5.symm
      have ue : ∀ a b, a ≠ 155 → ¬ (a = 163 ∧ b = 64 + nfr 1 + s B 5) → ¬ (a = 160 ∧ b = 1525) → jup u3 160 1525 (u3 160 1525 + 1) a b = u a b := fun a b z1 z2 z3 => by rw [u_ne z3, g3 a b z1 z2]
      refine ⟨_, _, rfl, rfl, ⟨sE, d7.up (Or.inr (Or.inl ⟨rfl, by omega⟩))⟩, Or.inl ⟨TW_ex d8 (fun b => u_ne (by omega)) (fun b => u_ne (by omega)) (fun b _ => u_ne (by omega)) (fun b => u_ne (by omega)), ⟨R13_fr ⟨a0, a1, a2, a3, a4⟩ (fun b _ _ => se _ _ (by omega) (by unfold nmc; omega) (by omega)) (by rw [u_ne (by omega)]; exact g25), RHd_of r2 5 1525 (Or.inr (Or.inr (Or.inr (Or.inl ⟨rfl, rfl⟩)))) (by rw [u_eq ⟨rfl, rfl⟩, u_eq ⟨rfl, rfl⟩, y5]) (fun b z1 z2 z => se _ _ (by omega) (by unfold nmc; omega) (by omega)) (fun o _ _ z => ue _ _ (by omega) (by omega) (by omega)), d11 _ _ (u_ne (by omega)) (fun a b z1 z2 => u_ne (by omega)) (by show jup u3 160 1525 (u3 160 1525 + 1) 160 1525 = _; rw [u_eq ⟨rfl, rfl⟩, y5]) (fun o _ _ z => ue _ _ (by omega) (by omega) (by omega)) (fun i => u_ne (by omega)), RSt_fr r4 bd.2.1.2 (fun a b _ _ => se _ _ (by omega) (by unfold nmc; omega) (by omega)) (ue _ _ (by omega) (by omega) (by omega)) (fun o _ _ => ue _ _ (by omega) (by omega) (by omega)), RMo_fr r5 bd.2.2.2.1.2 (fun a b _ _ => se _ _ (by omega) (by unfold nmc; omega) (by omega)) (ue _ _ (by omega) (by omega) (by omega)) (by rw [u_eq ⟨rfl, rfl⟩, y5]; omega) (fun o _ _ => ue _ _ (by omega) (by omega) (by omega)), RWk_fr r6 bd.2.2.2.2.2 (fun b => se _ _ (by omega) (by unfold nmc; omega) (by omega)) (ue _ _ (by omega) (by omega) (by omega)) (by rw [u_eq ⟨rfl, rfl⟩, y5]; omega) (fun o _ _ => ue _ _ (by omega) (by omega) (by omega)), RZe_fr r7 (se _ _ (by omega) (by unfold nmc; omega) (by omega)) (se _ _ (by omega) (by unfold nmc; omega) (by omega)) (fun o _ => ue _ _ (by omega) (by omega) (by omega))⟩, by rw [u_ne (by omega)]; exact d10⟩⟩
    · rw [if_neg (bd12n (bdb d8))]
      refine ⟨_, _, rfl, rfl, ⟨sE, d7⟩, Or.inr ⟨BD_ex d8 (fun b => u_ne (by omega)) (fun b => u_ne (by omega)) ⟨rfl, rfl⟩, ?_⟩⟩
      obtain ⟨v0, v1, v8, v4, v5, v6⟩ := sv
      refine ⟨by rw [u_ne (by omega)]; exact x0, by rw [u_ne (by omega)]; exact x1, by rw [u_ne (by omega)]; exact n8, by rw [se _ _ (by omega) (by unfold nmc; omega) (by omega)]; exact v4, by rw [u_eq ⟨rfl, rfl⟩]; omega, by rw [se _ _ (by omega) (by unfold nmc; omega) (by omega)]; exact v6⟩
  · have k4 := TK_kw h.1 (by omega)
    have e6 : s B 5 = 6 := by omega
    obtain ⟨s', u', b1, b2, b3, b4⟩ := fault_PO hb (c := 6) (by omega) h (by omega) hr0
    refine ⟨s', u', ?_, ?_, b4⟩
    · rw [Sr_takePlace, e6, if_neg (by decide), a0, if_pos jok5, b1, jb_t]
    · rw [Md_readPlace, readNew_full (t := 1) (by omega) (by show u 160 1525 = 6; omega) b2 b3, jb_t, if_neg (bd12n b3)]
