/-! a see, part by part -/
theorem sr_part {B : Int} (hB : B = 30 ∨ B = 55) {s u : jM} (h : TW s u) (hr : RDs B s u) : ∃ s' u', Sr_takePart 13 s = some (0, s') ∧ Md_readPart 155 u = some (0, u') ∧ PO B s u s' u' := by
  have hb : 20 ≤ B := by omega
  have sv := RS_SV hr
  have k5 := TK_5 h.1
  have w5 : w32 (s 11 5) = s 11 5 := w32_id (by omega) (by omega)
  have hR : Md_readPart 155 u = if s 11 5 = 0 then (jb (Md_readOnce 155 3 0 9 u) fun v13 s13 => some (0, s13)) else if s 11 5 = 1 then (jb (Md_readOnce 155 4 0 16 u) fun v12 s12 => some (0, s12)) else if s 11 5 = 2 then (jb (Md_readStuff 155 u) fun v11 s11 => some (0, s11)) else if s 11 5 = 6 then (jb (Md_readPlace 155 u) fun v10 s10 => some (0, s10)) else if s 11 5 = 7 then (jb (Md_readWalk 155 u) fun v9 s9 => some (0, s9)) else if s 11 5 = 9 then (jb (Md_readMould 155 u) fun v8 s8 => some (0, s8)) else (jb (Md_amiss 155 u) fun v7 s7 => some (0, s7)) := by
    simp only [Md_readPart, ki_0 h.1, ki_1 h.1, ki_2 h.1, ki_6 h.1, ki_7 h.1, ki_9 h.1, jb_t, w32_if]
  have hC : Sr_takePart 13 s = if s 11 5 = 0 then (jb (Sr_takeHeat 13 s) fun v2 s2 => some (0, s2)) else if s 11 5 = 1 then (jb (Sr_takeOdds 13 s) fun v4 s4 => some (0, s4)) else if s 11 5 = 2 then (jb (Sr_takeStuff 13 (s B 4) s) fun v6 s6 => some (0, s6)) else if s 11 5 = 6 then (jb (Sr_takePlace 13 (s B 5) s) fun v14 s14 => some (0, s14)) else if s 11 5 = 7 then (jb (Sr_takeWalk 13 s) fun v16 s16 => some (0, s16)) else if s 11 5 = 9 then (jb (Sr_takeMould 13 (s B 6) s) fun v20 s20 => some (0, s20)) else (jb (Te_fail 11 2 s) fun v21 s21 => some (0, s21)) := by
    rw [Sr_takePart, sv.1, sv.2.1, if_pos jok5, w5, if_pos (jok3 hB)]
    generalize s 11 5 = v
    by_cases e0 : v = 0
    · rw [if_pos e0, if_pos e0]
    rw [if_neg e0, if_neg e0]
    by_cases e1 : v = 1
    · rw [if_pos e1, if_pos e1]
    rw [if_neg e1, if_neg e1]
    by_cases e2 : v = 2
    · rw [if_pos e2, if_pos e2]
    rw [if_neg e2, if_neg e2]
    simp only [jok5, if_true, jok3 hB]
    by_cases e6 : v = 6
    · rw [if_pos e6, if_neg (by omega), if_neg (by omega), if_neg (by omega), if_pos e6]
    rw [if_neg (c := v = 6) e6, if_neg (c := v = 6) e6]
    by_cases e7 : v = 7
    · rw [if_neg (by omega), if_neg (by omega), if_neg (by omega), if_pos e7, if_pos e7]
    rw [if_neg (c := v = 7) e7, if_neg (c := v = 7) e7]
    by_cases e9 : v = 9
    · rw [if_neg (by omega), if_neg (by omega), if_neg (by omega), if_neg (by omega), if_pos e9]
    rw [if_neg (c := v = 9) e9]
    split
    · rfl
    split
    · rfl
    split
    · rfl
    split <;> rfl
  rw [hR, hC]
  clear hR hC
  by_cases e0 : s 11 5 = 0
  · obtain ⟨s', u', a1, a2, a3⟩ := sr_heat hB h hr e0
    exact ⟨s', u', by rw [if_pos e0, a1, jb_t], by rw [if_pos e0, a2, jb_t], a3⟩
  by_cases e1 : s 11 5 = 1
  · obtain ⟨s', u', a1, a2, a3⟩ := sr_odds hB h hr e1
    exact ⟨s', u', by rw [if_neg e0, if_pos e1, a1, jb_t], by rw [if_neg e0, if_pos e1, a2, jb_t], a3⟩
  by_cases e2 : s 11 5 = 2
  · obtain ⟨s', u', a1, a2, a3⟩ := sr_stuff hB h hr e2
    exact ⟨s', u', by rw [if_neg e0, if_neg e1, if_pos e2, a1, jb_t], by rw [if_neg e0, if_neg e1, if_pos e2, a2, jb_t], a3⟩
  by_cases e6 : s 11 5 = 6
  · obtain ⟨s', u', a1, a2, a3⟩ := sr_place hB h hr e6
    exact ⟨s', u', by rw [if_neg e0, if_neg e1, if_neg e2, if_pos e6, a1, jb_t], by rw [if_neg e0, if_neg e1, if_neg e2, if_pos e6, a2, jb_t], a3⟩
  by_cases e7 : s 11 5 = 7
  · obtain ⟨s', u', a1, a2, a3⟩ := sr_walk hB h hr e7
    exact ⟨s', u', by rw [if_neg e0, if_neg e1, if_neg e2, if_neg e6, if_pos e7, a1, jb_t], by rw [if_neg e0, if_neg e1, if_neg e2, if_neg e6, if_pos e7, a2, jb_t], a3⟩
  by_cases e9 : s 11 5 = 9
  · obtain ⟨s', u', a1, a2, a3⟩ := sr_mould hB h hr e9
    exact ⟨s', u', by rw [if_neg e0, if_neg e1, if_neg e2, if_neg e6, if_neg e7, if_pos e9, a1, jb_t], by rw [if_neg e0, if_neg e1, if_neg e2, if_neg e6, if_neg e7, if_pos e9, a2, jb_t], a3⟩
  · obtain ⟨s', u', a1, a2, a3⟩ := amiss_PO hb h hr
    exact ⟨s', u', by rw [if_neg e0, if_neg e1, if_neg e2, if_neg e6, if_neg e7, if_neg e9, a1, jb_t], by rw [if_neg e0, if_neg e1, if_neg e2, if_neg e6, if_neg e7, if_neg e9, a2, jb_t], a3⟩
/-- the end of the class's reading -/
def srE (B : Int) (s : jM) : Option (Int × jM) := jb (Se_joinWalks B s) fun v1 s1 => if jok 5 (s1 13 0) = true then jb (Te_isWell (s1 13 0) s1) fun v2 s2 => if v2 = 0 ∨ v2 = 1 then some (v2, s2) else none else none
theorem sr_loop {B : Int} (hB : B = 30 ∨ B = 55) : ∀ (d f f2 : Nat) (x : Int) (s u : jM), x + d = 902 → 0 ≤ x → d < f → d < f2 → ((TW s u ∧ RDs B s u ∧ x ≤ s 11 3) ∨ (BD s u ∧ SV B s)) → ∃ s' u', Sr_take_29 f 13 x s = srE B s' ∧ Md_see_33 f2 155 u = Md_see_64 155 u' ∧ EX (rS B) s s' ∧ EX rQ u u' ∧ ((TW s' u' ∧ RDs B s' u') ∨ (BD s' u' ∧ SV B s')) := by
  have hb : 20 ≤ B := by omega
  intro d
  induction d with
  | zero =>
    intro f f2 x s u h1 h2 h3 h4 h5
    obtain ⟨f, rfl⟩ : ∃ g, f = g + 1 := ⟨f - 1, by omega⟩
    obtain ⟨f2, rfl⟩ : ∃ g, f2 = g + 1 := ⟨f2 - 1, by omega⟩
    rcases h5 with ⟨t, hr, h6⟩ | ⟨b, sv⟩
    · have := t.1.1
      have := t.1.2.2.2.2.1
      unfold SFT at *
      omega
    · refine ⟨s, u, ?_, ?_, EX.rf _ _, EX.rf _ _, Or.inr ⟨b, sv⟩⟩
      · rw [Sr_take_29, w32_id (x := x) (by omega) (by omega), if_pos (by omega), sv.2.1, if_pos (jok3 hB)]
        rfl
      · rw [Md_see_33, if_neg (bd12n (bdb b))]
  | succ d ih =>
    intro f f2 x s u h1 h2 h3 h4 h5
    obtain ⟨f, rfl⟩ : ∃ g, f = g + 1 := ⟨f - 1, by omega⟩
    obtain ⟨f2, rfl⟩ : ∃ g, f2 = g + 1 := ⟨f2 - 1, by omega⟩
    rcases h5 with ⟨t, hr, h6⟩ | ⟨b, sv⟩
    · have sv := RS_SV hr
      have k := TK_5 t.1
      have l1 := t.1.1.2.1
      have l2 := t.1.1.2.2.2.1
      have l3 := t.1.2.2.2.2.1
      have l4 := t.1.2.2.2.2.2.1
      have x9 : ¬ 900 < x := by omega
      have hc : Sr_take_29 (f + 1) 13 x s = if s 11 4 = 0 then srE B s else (jb (Sr_takePart 13 s) fun v8 s8 => if jok 5 (s8 13 0) = true then jb (Te_takeStop (s8 13 0) s8) fun v9 s9 => (Sr_take_29 f) 13 (x + 1) s9 else none) := by
        rw [Sr_take_29, w32_id (x := x) (by omega) (by omega), if_neg x9, sv.1, if_pos jok5, Te_isWell, t.2.1, if_pos (by decide), jb_t, if_neg (by decide), sv.1, if_pos jok5, w32_id (x := s 11 4) (by omega) (by omega), sv.2.1, if_pos (jok3 hB)]
        rfl
      have hm : Md_see_33 (f2 + 1) 155 u = if s 11 4 = 0 then Md_see_64 155 u else (jb (Md_readPart 155 u) fun v3 s3 => jb (Md_isSign 155 59 s3) fun v4 s4 => jb (Md_must 155 v4 s4) fun v5 s5 => (Md_see_33 f2) 155 s5) := by
        rw [Md_see_33, if_pos (u12z t.2.2), ← k.1, w32_id (x := s 11 4) (by omega) (by omega)]
      rw [hc, hm]
      by_cases z : s 11 4 = 0
      · rw [if_pos z, if_pos z]
        exact ⟨s, u, rfl, rfl, EX.rf _ _, EX.rf _ _, Or.inl ⟨t, hr⟩⟩
      · rw [if_neg z, if_neg z]
        obtain ⟨s2, u2, a1, a2, ⟨a3, a4⟩, a5⟩ := sr_part hB t hr
        obtain ⟨y, ye, yv⟩ := sign_tot 59 (by omega) s2 u2
        have m2 : TW s2 u2 ∨ BD s2 u2 := a5.imp And.left And.left
        obtain ⟨s3, u3, b1, b2, b3⟩ := tk_stop2 m2 yv
        have v0 : s2 13 0 = 11 := by
          rcases a5 with y | y
          · exact (RS_SV y.2.1).1
          · exact y.2.1
        have nx : (TW s3 u3 ∧ RDs B s3 u3 ∧ x + 1 ≤ s3 11 3) ∨ (BD s3 u3 ∧ SV B s3) := by
          have svs : SV B s2 := by
            rcases a5 with y | y
            · exact RS_SV y.2.1
            · exact y.2
          rcases EC_m b3 with t3 | b3'
          · obtain ⟨t2, o2⟩ := EC_tw m2 b3 t3
            rcases a5 with y | y
            · refine Or.inl ⟨t3, RS_tok hb y.2.1 b3.2.1 b3.2.2.1, ?_⟩
              have := y.2.2
              have := l4 z
              omega
            · exact absurd t2 (nb_tw y.1)
          · exact Or.inr ⟨b3', SV_ex hb svs b3.2.1⟩
        obtain ⟨s', u', c1, c2, c3, c4, c5⟩ := ih f f2 (x + 1) s3 u3 (by omega) (by omega) (by omega) (by omega) nx
        refine ⟨s', u', ?_, ?_, (a3.tr (rC_rS b3.2.1)).tr c3, (a4.tr (rD_rQ b3.2.2.1)).tr c4, c5⟩
        · rw [a1, jb_t, v0, if_pos jok5, b1, jb_t]
          exact c1
        · rw [a2, jb_t, ye, jb_t, b2, jb_t]
          exact c2
    · refine ⟨s, u, ?_, ?_, EX.rf _ _, EX.rf _ _, Or.inr ⟨b, sv⟩⟩
      · have w8 : ¬ w32 (s 11 8) = 0 := by rw [b.2.1]; exact bd12n (bdb b)
        have isw : ∀ s' : jM, Te_isWell 11 s' = some (if w32 (s' 11 8) = 0 then 1 else 0, s') := fun s' => by
          rw [Te_isWell]
          split <;> rfl
        by_cases z : 900 < w32 x
        · rw [Sr_take_29, if_pos z, sv.2.1, if_pos (jok3 hB)]
          rfl
        · rw [Sr_take_29, if_neg z, sv.1, if_pos jok5, isw, if_neg w8, jb_t, if_pos (by decide), sv.2.1, if_pos (jok3 hB)]
          rfl
      · rw [Md_see_33, if_neg (bd12n (bdb b))]
