/-! feasts -/
def rFg (b F x y : Int) : Prop := (x = 0 ∧ (y = 0 ∨ y = 3 ∨ y = 4)) ∨ (x = 11 ∧ 0 ≤ y ∧ y ≤ 9) ∨ (x = 14 ∧ 0 ≤ y ∧ y ≤ 3) ∨ x = 15 ∨ (F ≤ x ∧ x ≤ F + 5) ∨ (b + 9 ≤ x ∧ x ≤ b + 14) ∨ (x = 155 ∧ (y = 0 ∨ y = 1 ∨ y = 8 ∨ y = 9 ∨ y = 10 ∨ y = 11 ∨ (12 ≤ y ∧ y ≤ 19) ∨ y = 26)) ∨ (x = 160 ∧ 1635 ≤ y) ∨ (x = 160 ∧ 109 ≤ y ∧ y < 381)
theorem INV_fe {s t : jM} (h : INV s) (hE : EX (rFg (s 0 5) (s 0 6 + 9)) s t) (h0 : t 0 0 = t 155 0) (h3 : t 0 3 = t 155 10) (h4 : t 0 4 = t 155 11) (h11 : t 11 0 = 0) (h8 : t 155 8 = 0) (hB : iB (vw t (s 0 5)) (cw t 0) (ww t 0)) : INV t ∧ t (-1) = s (-1) ∧ t (-2) = s (-2) := by
  have hb := h.b
  obtain ⟨h1, h2, -, hl, h5, h6, h7⟩ := h
  have b6 := hb.2.2.2.1
  have b5 := hb.1
  have hne : (s 0 5 = 30 ∧ s 0 6 = 55) ∨ (s 0 5 = 55 ∧ s 0 6 = 30) := h5.1
  clear hb
  refine ⟨⟨⟨h0, ?_, ?_, h3, h4⟩, iTrs_fr h2 (fun a b q => hE a b (by unfold rTr at q; unfold rFg; omega)), ⟨by rw [h11, h8], by rw [h11]; omega, by rw [h11]; omega, fun i i1 i2 => by rw [h11] at i2; omega⟩, iLv_fr hl (fun a b q => hE a b (by unfold rLv at q; unfold rFg; omega)), iBs_fr h5 (fun a b q => hE a b (by unfold rBs at q; unfold rFg; omega)), by rw [hE 0 5 (by unfold rFg; omega)]; exact hB, iMk_fr h7 (hE 0 7 (by unfold rFg; omega)) h5.2.2.1 (fun a b q => hE a b (by unfold rMk at q; unfold rFg; omega))⟩, funext fun b => hE _ _ (by unfold rFg; omega), funext fun b => hE _ _ (by unfold rFg; omega)⟩
  · rw [hE 0 1 (by unfold rFg; omega), hE 155 2 (by unfold rFg; omega)]; exact h1.2.1
  · rw [hE 0 2 (by unfold rFg; omega), hE 155 3 (by unfold rFg; omega)]; exact h1.2.2.1
theorem feasts_ok {s : jM} (h : INV s) {L : Int} (hL : i32 L) : OKc s (Jc_feasts 0 L) (Md_feasts 155 L) := by
  unfold i32 at hL
  obtain ⟨p1, p2, p3, p4⟩ := h.2.2.1
  have hbb := h.b
  have hB := hbb.1
  have hj6 := hbb.2.2.1
  have hj := hbb.2.1
  have hne : (s 0 5 = 30 ∧ s 0 6 = 55) ∨ (s 0 5 = 55 ∧ s 0 6 = 30) := h.2.2.2.2.1.1
  by_cases q1 : L < 0
  · exact OKc.no (w := 5) (r := -1) h (by simp (disch := omega) only [↓jb_m, ↓jm_s, ↓reduceIte, t_lt, t_nlt, t_le, t_nle, t_eq, t_neq, w32_id, w64_id, jb_s, and_true, true_and, and_self, and_false, false_and, or_true, true_or, or_false, false_or, or_self, not_false_eq_true, not_true_eq_false, u_ne, u_eq, u_u, Int.reduceAdd, Int.reduceSub, Int.reduceMul, Int.reduceNeg, Int.zero_add, Int.add_zero, n15, n16, q10, q11, q12, q13, q14, Jc_feasts, Jc_answer, Jc_refuse, Jc_deny, Jc_grant, Se_isMould, Se_isStuff, Se_isPlace, hj]) (by simp (disch := omega) only [↓jb_m, ↓jm_s, ↓reduceIte, t_lt, t_nlt, t_le, t_nle, t_eq, t_neq, w32_id, w64_id, jb_s, and_true, true_and, and_self, and_false, false_and, or_true, true_or, or_false, false_or, or_self, not_false_eq_true, not_true_eq_false, u_ne, u_eq, u_u, Int.reduceAdd, Int.reduceSub, Int.reduceMul, Int.reduceNeg, Int.zero_add, Int.add_zero, n15, n16, q10, q11, q12, q13, q14, Md_feasts, Md_starts, Md_isMouldAt, Md_isStuffAt, Md_isPlaceAt, Md_isTray, Md_isIn_1, Md_isIn_0, Md_refuse, Md_no])
  by_cases q2 : s 11 0 < L
  · exact OKc.no (w := 5) (r := -1) h (by simp (disch := omega) only [↓jb_m, ↓jm_s, ↓reduceIte, t_lt, t_nlt, t_le, t_nle, t_eq, t_neq, w32_id, w64_id, jb_s, and_true, true_and, and_self, and_false, false_and, or_true, true_or, or_false, false_or, or_self, not_false_eq_true, not_true_eq_false, u_ne, u_eq, u_u, Int.reduceAdd, Int.reduceSub, Int.reduceMul, Int.reduceNeg, Int.zero_add, Int.add_zero, n15, n16, q10, q11, q12, q13, q14, Jc_feasts, Jc_answer, Jc_refuse, Jc_deny, Jc_grant, Se_isMould, Se_isStuff, Se_isPlace, hj]) (by simp (disch := omega) only [↓jb_m, ↓jm_s, ↓reduceIte, t_lt, t_nlt, t_le, t_nle, t_eq, t_neq, w32_id, w64_id, jb_s, and_true, true_and, and_self, and_false, false_and, or_true, true_or, or_false, false_or, or_self, not_false_eq_true, not_true_eq_false, u_ne, u_eq, u_u, Int.reduceAdd, Int.reduceSub, Int.reduceMul, Int.reduceNeg, Int.zero_add, Int.add_zero, n15, n16, q10, q11, q12, q13, q14, Md_feasts, Md_starts, Md_isMouldAt, Md_isStuffAt, Md_isPlaceAt, Md_isTray, Md_isIn_1, Md_isIn_0, Md_refuse, Md_no])
  by_cases q3 : 300 < L
  · exact OKc.no (w := 5) (r := -1) h (by simp (disch := omega) only [↓jb_m, ↓jm_s, ↓reduceIte, t_lt, t_nlt, t_le, t_nle, t_eq, t_neq, w32_id, w64_id, jb_s, and_true, true_and, and_self, and_false, false_and, or_true, true_or, or_false, false_or, or_self, not_false_eq_true, not_true_eq_false, u_ne, u_eq, u_u, Int.reduceAdd, Int.reduceSub, Int.reduceMul, Int.reduceNeg, Int.zero_add, Int.add_zero, n15, n16, q10, q11, q12, q13, q14, Jc_feasts, Jc_answer, Jc_refuse, Jc_deny, Jc_grant, Se_isMould, Se_isStuff, Se_isPlace, hj]) (by simp (disch := omega) only [↓jb_m, ↓jm_s, ↓reduceIte, t_lt, t_nlt, t_le, t_nle, t_eq, t_neq, w32_id, w64_id, jb_s, and_true, true_and, and_self, and_false, false_and, or_true, true_or, or_false, false_or, or_self, not_false_eq_true, not_true_eq_false, u_ne, u_eq, u_u, Int.reduceAdd, Int.reduceSub, Int.reduceMul, Int.reduceNeg, Int.zero_add, Int.add_zero, n15, n16, q10, q11, q12, q13, q14, Md_feasts, Md_starts, Md_isMouldAt, Md_isStuffAt, Md_isPlaceAt, Md_isTray, Md_isIn_1, Md_isIn_0, Md_refuse, Md_no])
  have hLL : 0 ≤ L ∧ L ≤ 900 := by omega
  have hby : ∀ i, 0 ≤ i → i < L → s 12 i = s 159 i ∧ -128 ≤ s 12 i ∧ s 12 i ≤ 127 := fun i i1 i2 => p4 i i1 (by omega)
  obtain ⟨b, hb⟩ : ∃ b, b = s 0 5 := ⟨_, rfl⟩
  obtain ⟨F, hFe⟩ : ∃ F, F = s 0 6 + 9 := ⟨_, rfl⟩
  have hF : (b = 30 ∧ F = 64) ∨ (b = 55 ∧ F = 39) := by omega
  have hB' : b = 30 ∨ b = 55 := by omega
  have nm := NMx_of h.2.2.2.2.2.1
  rw [← hb] at nm
  obtain ⟨s3, v, s4, u0, a1, a2, a3, a4, -⟩ := fe_run hB' hF (s := s) (u := s) hLL hby nm
  have e05 : s4 0 5 = s 0 5 := a4 _ _ (by unfold rCf; omega)
  have e06 : s4 0 6 = s 0 6 := a4 _ _ (by unfold rCf; omega)
  have a25 := a2 5
  have a26 := a2 6
  have run : ∀ sc : jM, (∀ i, sc 159 i = s 159 i) → sc 155 8 = s 155 8 → (∀ o, 0 ≤ o → o ≤ 2 → sc 160 o = s 160 o) → (∀ i, sc 163 i = s 163 i) → ∃ u4, Md_feasts 155 L sc = Md_feasts_50 155 u4 ∧ EX rRf (jup (jup sc 155 1 0) 155 0 0) u4 ∧ u4 155 8 = 0 ∧ ((v = 1 ∧ u4 155 12 = 0 ∧ s4 F 0 = 1 ∧ s4 F 1 = u4 155 26 ∧ (0 ≤ s4 F 1 ∧ s4 F 1 ≤ 30) ∧ (0 ≤ s4 F 2 ∧ s4 F 2 ≤ 60) ∧ BKE (VF F s4) (cF u4) 3 0 (s4 F 1) 0 (s4 F 2)) ∨ (v = 0 ∧ s4 11 8 = u4 155 12 ∧ (0 < u4 155 12 ∧ u4 155 12 ≤ 100) ∧ s4 11 9 = u4 155 13)) := fun sc x1 x2 x3 x4 => by
    have nm2 : NMx s (jup (jup sc 155 1 0) 155 0 0) b 0 := by
      have fx : FX b F (jup (jup (jup s 14 0 11) 14 1 b) 14 2 F) s := by
        refine ⟨by rw [u_ne (by omega), u_ne (by omega), u_eq ⟨rfl, rfl⟩], by rw [u_ne (by omega), u_eq ⟨rfl, rfl⟩], by rw [u_eq ⟨rfl, rfl⟩], ?_⟩
        have e : ∀ x, x ≠ 14 → (jup (jup (jup s 14 0 11) 14 1 b) 14 2 F) x = s x := fun x z => funext fun y => by rw [u_ne (by omega), u_ne (by omega), u_ne (by omega)]
        unfold NMx
        rw [e b (by omega), e (b + 6) (by omega), e (b + 7) (by omega), e (b + 8) (by omega)]
        exact nm
      have r := (FX_ex (s' := jup (jup (jup s 14 0 11) 14 1 b) 14 2 F) (u' := jup (jup sc 155 1 0) 155 0 0) (by omega) fx (fun _ _ _ => rfl) (fun o o1 o2 => by rw [u_ne (by omega), u_ne (by omega)]; exact x3 o o1 o2) (fun i => by rw [u_ne (by omega), u_ne (by omega)]; exact x4 i)).2.2.2
      have e : ∀ x, x ≠ 14 → (jup (jup (jup s 14 0 11) 14 1 b) 14 2 F) x = s x := fun x z => funext fun y => by rw [u_ne (by omega), u_ne (by omega), u_ne (by omega)]
      unfold NMx at r ⊢
      rw [e b (by omega), e (b + 6) (by omega), e (b + 7) (by omega), e (b + 8) (by omega)] at r
      exact r
    obtain ⟨t3, w, t4, u4, b1, b2, b3, b4, b5, b6, b7, b8⟩ := fe_run hB' hF (s := s) (u := jup (jup sc 155 1 0) 155 0 0) hLL (fun i i1 i2 => by rw [u_ne (by omega), u_ne (by omega), x1]; exact hby i i1 i2) nm2
    have e3 : some ((0 : Int), t3) = some (0, s3) := b1.symm.trans a1
    have e3 : t3 = s3 := congrArg Prod.snd (Option.some.inj e3)
    subst e3
    have e4 : some (w, t4) = some (v, s4) := b3.symm.trans a3
    have ew : w = v := congrArg Prod.fst (Option.some.inj e4)
    have e5 : t4 = s4 := congrArg Prod.snd (Option.some.inj e4)
    clear e4
    subst ew
    subst e5
    refine ⟨u4, ?_, b6, b7, b8⟩
    rw [Md_feasts, starts_eq (by rw [u_ne (by omega), u_ne (by omega), x2, ← p1]; omega) (by omega), jb_one]
    exact b5
  have vv : v = 1 ∨ v = 0 := by
    obtain ⟨u4, -, -, -, c⟩ := run s (fun _ => rfl) rfl (fun _ _ _ => rfl) (fun _ => rfl)
    rcases c with ⟨c, -⟩ | ⟨c, -⟩
    · exact Or.inl c
    · exact Or.inr c
  rcases vv with e | e
  · subst e
    obtain ⟨s5, hs5⟩ : ∃ s5, s5 = jup (jup (jup s4 11 0 0) 0 3 0) 0 4 (-1) := ⟨_, rfl⟩
    have x5 : ∀ a c, 39 ≤ a → s5 a c = s4 a c := fun a c z => by rw [hs5, u_ne (by omega), u_ne (by omega), u_ne (by omega)]
    obtain ⟨ua, -, -, -, ca⟩ := run s (fun _ => rfl) rfl (fun _ _ _ => rfl) (fun _ => rfl)
    have g0 : s4 F 0 = 1 ∧ (0 ≤ s4 F 1 ∧ s4 F 1 ≤ 30) ∧ 0 ≤ s4 F 2 ∧ s4 F 2 ≤ 60 := by
      rcases ca with ⟨-, -, c1, -, c2, c3, -⟩ | ⟨c, -⟩
      · exact ⟨c1, c2, c3⟩
      · omega
    clear ca
    obtain ⟨t, t1, t2, t3, t4⟩ := Fe_copyOf_eq (s := s5) (d := b + 9) (b := F) (by omega) (by rw [x5 _ _ (by omega)]; exact Or.inr g0.1) (by rw [x5 _ _ (by omega)]; exact g0.2.2)
    have td : ∀ j, 0 ≤ j → j ≤ 2 → t (b + 9) j = s4 F j := fun j j1 j2 => by rw [t2 j j1 j2, x5 _ _ (by omega)]
    have te : ∀ a c, ¬ (b + 9 ≤ a ∧ a ≤ b + 14) → t a c = s5 a c := fun a c z => by rw [t4 a (by omega)]
    obtain ⟨sc, hsc⟩ : ∃ sc, sc = jup t 0 0 0 := ⟨_, rfl⟩
    have o05 : t 0 5 = s 0 5 := by rw [te _ _ (by omega), hs5]; simp (disch := omega) only [↓jb_m, ↓jm_s, ↓reduceIte, t_lt, t_nlt, t_le, t_nle, t_eq, t_neq, w32_id, w64_id, jb_s, and_true, true_and, and_self, and_false, false_and, or_true, true_or, or_false, false_or, or_self, not_false_eq_true, not_true_eq_false, u_ne, u_eq, u_u, Int.reduceAdd, Int.reduceSub, Int.reduceMul, Int.reduceNeg, Int.zero_add, Int.add_zero, n15, n16, q10, q11, q12, q13, q14, e05]
    have t9 := td 1 (by omega) (by omega)
    have hcl : Jc_feasts 0 L s = some (s4 F 1, sc) := by
      rw [hsc]
      rw [hb, hFe] at a3 t1
      rw [hb] at t9
      rw [hs5] at t1
      simp (disch := omega) only [↓jb_m, ↓jm_s, ↓reduceIte, t_lt, t_nlt, t_le, t_nle, t_eq, t_neq, w32_id, w64_id, jb_s, and_true, true_and, and_self, and_false, false_and, or_true, true_or, or_false, false_or, or_self, not_false_eq_true, not_true_eq_false, u_ne, u_eq, u_u, Int.reduceAdd, Int.reduceSub, Int.reduceMul, Int.reduceNeg, Int.zero_add, Int.add_zero, n15, n16, q10, q11, q12, q13, q14, Jc_feasts, Jc_endText, Jc_endText_24, Jc_answer, Jc_refuse, Jc_deny, Jc_grant, Se_isMould, Se_isStuff, Se_isPlace, hj, a1, a25, a26, hj6, a3, e05, e06, t1, o05, t9]
    have sce : ∀ a c, ¬ (a = 0 ∧ (c = 0 ∨ c = 3 ∨ c = 4)) → ¬ (a = 11 ∧ c = 0) → ¬ (b + 9 ≤ a ∧ a ≤ b + 14) → sc a c = s4 a c := fun a c z1 z2 z3 => by
      rw [hsc, u_ne (by omega), te a c z3, hs5, u_ne (by omega), u_ne (by omega), u_ne (by omega)]
    obtain ⟨u4, c1, c2, c3, c4⟩ := run sc (fun i => by rw [sce _ _ (by omega) (by omega) (by omega)]; exact a4 _ _ (by unfold rCf; omega)) (by rw [sce _ _ (by omega) (by omega) (by omega)]; exact a4 _ _ (by unfold rCf; omega)) (fun o _ _ => by rw [sce _ _ (by omega) (by omega) (by omega)]; exact a4 _ _ (by unfold rCf; omega)) (fun i => by rw [sce _ _ (by omega) (by omega) (by omega)]; exact a4 _ _ (by unfold rCf; omega))
    rcases c4 with ⟨-, c5, -, c6, -, -, c7⟩ | ⟨c5, -⟩
    rotate_left
    · omega
    obtain ⟨n, hn⟩ : ∃ n : Nat, (n : Int) = s4 F 1 := ⟨(s4 F 1).toNat, by omega⟩
    obtain ⟨y, hy⟩ : ∃ y, y = jup (jup (jup (jup u4 155 10 0) 155 11 (-1)) 160 109 1) 160 110 (u4 155 26) := ⟨_, rfl⟩
    have ye : ∀ a c, ¬ (a = 155 ∧ (c = 10 ∨ c = 11)) → ¬ (a = 160 ∧ (c = 109 ∨ c = 110)) → y a c = u4 a c := fun a c z1 z2 => by
      rw [hy, u_ne (by omega), u_ne (by omega), u_ne (by omega), u_ne (by omega)]
    obtain ⟨z, z1, z2, z3⟩ := fe80 (n := n) (by omega) (9 * n) jFU 0 y (by omega) (Nat.lt_of_lt_of_le (m := 1000) (by omega) (jFU_ge (by decide))) (by rw [ye _ _ (by omega) (by omega), ← c6, hn]) (fun i i1 i2 => by omega)
    have hm : Md_feasts 155 L sc = some (s4 F 1, z) := by
      rw [c1, Md_feasts_50, isWell_0 c5, jb_t, if_neg (by decide), ← hn]
      have e26 : jup (jup (jup u4 155 10 0) 155 11 (-1)) 160 109 1 155 26 = u4 155 26 := by rw [u_ne (by omega), u_ne (by omega), u_ne (by omega)]
      show Md_feasts_80 jFU 155 0 (jup (jup (jup (jup u4 155 10 0) 155 11 (-1)) 160 109 1) 160 110 (jup (jup (jup u4 155 10 0) 155 11 (-1)) 160 109 1 155 26)) = _
      rw [e26, ← hy]
      exact z1
    have ue : ∀ a c, a < 155 → u4 a c = sc a c := fun a c w => by rw [c2 a c (by unfold rRf; omega), u_ne (by omega), u_ne (by omega)]
    have zl : ∀ a c, a < 155 → z a c = sc a c := fun a c w => by rw [z3 a c (by omega), ye a c (by omega) (by omega), ue a c w]
    have zs : ∀ a c, ¬ rFg b F a c → z a c = s a c := fun a c w => by
      unfold rFg at w
      rw [z3 a c (by omega), ye a c (by omega) (by omega), c2 a c (by unfold rRf; omega), u_ne (by omega), u_ne (by omega), sce a c (by omega) (by omega) (by omega)]
      exact a4 a c (by unfold rCf; omega)
    have zF : ∀ i j, 10 ≤ i → i ≤ 14 → 0 ≤ j → j < s4 F 2 → z (b + i) j = VF F s4 i j := fun i j i1 i2 j1 j2 => by
      rw [zl _ _ (by omega), hsc, u_ne (by omega), show b + i = b + 9 + (i - 9) by omega, t3 (i - 9) j (by omega) (by omega) j1 (by rw [x5 _ _ (by omega)]; exact j2), x5 _ _ (by omega)]
      show s4 (F + (i - 9)) j = s4 (F - 9 + i) j
      rw [show F + (i - 9) = F - 9 + i by omega]
    have z9 : ∀ j, 0 ≤ j → j ≤ 2 → z (b + 9) j = s4 F j := fun j j1 j2 => by rw [zl _ _ (by omega), hsc, u_ne (by omega)]; exact td j j1 j2
    have u4c : ∀ o, 0 ≤ o → o ≤ 2 → z 160 o = cF u4 o := fun o o1 o2 => by
      unfold cF
      rw [if_pos o2, z3 _ _ (by omega), ye _ _ (by omega) (by omega)]
    have hiB : iB (vw z b) (cw z 0) (ww z 0) := by
      have h6 := h.2.2.2.2.2.1
      rw [← hb] at h6
      refine iB_feasts (n := s4 F 1) (m := s4 F 2) h6 (fun i j i1 i2 w => zs _ _ (by unfold rFg; omega)) (fun o o1 o2 => zs _ _ (by unfold rFg; omega)) (fun i _ _ => zs _ _ (by unfold rFg; omega)) (by rw [z9 0 (by omega) (by omega)]; exact g0.1) ?_ (z9 1 (by omega) (by omega)) ?_ g0.2.1 (z9 2 (by omega) (by omega)) g0.2.2 c7 zF ⟨u4c 0 (by omega) (by omega), u4c 1 (by omega) (by omega), u4c 2 (by omega) (by omega)⟩ (fun o o1 o2 => ?_)
      · rw [z3 _ _ (by omega), hy, u_ne (by omega), u_eq ⟨rfl, rfl⟩]
      · rw [z3 _ _ (by omega), hy, u_eq ⟨rfl, rfl⟩, c6]
      · have w := z2 (o - 111) (by omega) (by omega)
        rw [show 111 + (o - 111) = o by omega, show 1635 + (o - 111) = 1524 + o by omega, ye _ _ (by omega) (by omega)] at w
        unfold cF
        rw [if_neg (by omega), w]
    have hfin : INV z ∧ z (-1) = s (-1) ∧ z (-2) = s (-2) := by
      refine INV_fe h (by rw [← hb, ← hFe]; exact zs) ?_ ?_ ?_ ?_ ?_ (by rw [← hb]; exact hiB)
      · rw [zl _ _ (by omega), hsc, u_eq ⟨rfl, rfl⟩, z3 _ _ (by omega), ye _ _ (by omega) (by omega), c2 _ _ (by unfold rRf; omega), u_eq ⟨rfl, rfl⟩]
      · rw [zl _ _ (by omega), hsc, u_ne (by omega), te _ _ (by omega), hs5, z3 _ _ (by omega), hy]
        simp (disch := omega) only [↓jb_m, ↓jm_s, ↓reduceIte, t_lt, t_nlt, t_le, t_nle, t_eq, t_neq, w32_id, w64_id, jb_s, and_true, true_and, and_self, and_false, false_and, or_true, true_or, or_false, false_or, or_self, not_false_eq_true, not_true_eq_false, u_ne, u_eq, u_u, Int.reduceAdd, Int.reduceSub, Int.reduceMul, Int.reduceNeg, Int.zero_add, Int.add_zero, n15, n16, q10, q11, q12, q13, q14]
      · rw [zl _ _ (by omega), hsc, u_ne (by omega), te _ _ (by omega), hs5, z3 _ _ (by omega), hy]
        simp (disch := omega) only [↓jb_m, ↓jm_s, ↓reduceIte, t_lt, t_nlt, t_le, t_nle, t_eq, t_neq, w32_id, w64_id, jb_s, and_true, true_and, and_self, and_false, false_and, or_true, true_or, or_false, false_or, or_self, not_false_eq_true, not_true_eq_false, u_ne, u_eq, u_u, Int.reduceAdd, Int.reduceSub, Int.reduceMul, Int.reduceNeg, Int.zero_add, Int.add_zero, n15, n16, q10, q11, q12, q13, q14]
      · rw [zl _ _ (by omega), hsc, u_ne (by omega), te _ _ (by omega), hs5]
        simp (disch := omega) only [↓jb_m, ↓jm_s, ↓reduceIte, t_lt, t_nlt, t_le, t_nle, t_eq, t_neq, w32_id, w64_id, jb_s, and_true, true_and, and_self, and_false, false_and, or_true, true_or, or_false, false_or, or_self, not_false_eq_true, not_true_eq_false, u_ne, u_eq, u_u, Int.reduceAdd, Int.reduceSub, Int.reduceMul, Int.reduceNeg, Int.zero_add, Int.add_zero, n15, n16, q10, q11, q12, q13, q14]
      · rw [z3 _ _ (by omega), ye _ _ (by omega) (by omega)]; exact c3
    exact ⟨s4 F 1, sc, z, hcl, hm, hfin⟩
  · subst e
    obtain ⟨sc, hsc⟩ : ∃ sc, sc = jup (jup (jup (jup s4 11 0 0) 0 3 (s4 11 8)) 0 4 (s4 11 9)) 0 0 10 := ⟨_, rfl⟩
    have hcl : Jc_feasts 0 L s = some (-1, sc) := by
      rw [hsc]
      rw [hb, hFe] at a3
      simp (disch := omega) only [↓jb_m, ↓jm_s, ↓reduceIte, t_lt, t_nlt, t_le, t_nle, t_eq, t_neq, w32_id, w64_id, jb_s, and_true, true_and, and_self, and_false, false_and, or_true, true_or, or_false, false_or, or_self, not_false_eq_true, not_true_eq_false, u_ne, u_eq, u_u, Int.reduceAdd, Int.reduceSub, Int.reduceMul, Int.reduceNeg, Int.zero_add, Int.add_zero, n15, n16, q10, q11, q12, q13, q14, Jc_feasts, Jc_endText, Jc_endText_24, Jc_answer, Jc_refuse, Jc_deny, Jc_grant, Se_isMould, Se_isStuff, Se_isPlace, hj, a1, a25, a26, hj6, a3, e05, e06]
    have sce : ∀ a c, ¬ (a = 0 ∧ (c = 0 ∨ c = 3 ∨ c = 4)) → ¬ (a = 11 ∧ c = 0) → sc a c = s4 a c := fun a c z1 z2 => by
      rw [hsc, u_ne (by omega), u_ne (by omega), u_ne (by omega), u_ne (by omega)]
    obtain ⟨u4, c1, c2, c3, c4⟩ := run sc (fun i => by rw [sce _ _ (by omega) (by omega)]; exact a4 _ _ (by unfold rCf; omega)) (by rw [sce _ _ (by omega) (by omega)]; exact a4 _ _ (by unfold rCf; omega)) (fun o _ _ => by rw [sce _ _ (by omega) (by omega)]; exact a4 _ _ (by unfold rCf; omega)) (fun i => by rw [sce _ _ (by omega) (by omega)]; exact a4 _ _ (by unfold rCf; omega))
    rcases c4 with ⟨c5, -⟩ | ⟨-, c5, c6, c7⟩
    · omega
    obtain ⟨z, hz⟩ : ∃ z, z = jup (jup (jup u4 155 10 (u4 155 12)) 155 11 (u4 155 13)) 155 0 10 := ⟨_, rfl⟩
    have ze : ∀ a c, ¬ (a = 155 ∧ (c = 0 ∨ c = 10 ∨ c = 11)) → z a c = u4 a c := fun a c z1 => by
      rw [hz, u_ne (by omega), u_ne (by omega), u_ne (by omega)]
    have hm : Md_feasts 155 L sc = some (-1, z) := by
      rw [c1, Md_feasts_50, isWell_1 c6, jb_t, if_pos (by decide), ← hz]
    have ue : ∀ a c, a < 155 → u4 a c = sc a c := fun a c w => by rw [c2 a c (by unfold rRf; omega), u_ne (by omega), u_ne (by omega)]
    have zs : ∀ a c, ¬ ((a = 0 ∧ (c = 0 ∨ c = 3 ∨ c = 4)) ∨ (a = 11 ∧ 0 ≤ c ∧ c ≤ 9) ∨ (a = 14 ∧ 0 ≤ c ∧ c ≤ 3) ∨ a = 15 ∨ (F ≤ a ∧ a ≤ F + 5) ∨ (a = 155 ∧ (c = 0 ∨ c = 1 ∨ c = 8 ∨ c = 9 ∨ c = 10 ∨ c = 11 ∨ (12 ≤ c ∧ c ≤ 19) ∨ c = 26)) ∨ (a = 160 ∧ 1635 ≤ c)) → z a c = s a c := fun a c w => by
      rw [ze a c (by omega), c2 a c (by unfold rRf; omega), u_ne (by omega), u_ne (by omega), sce a c (by omega) (by omega)]
      exact a4 a c (by unfold rCf; omega)
    have hfin : INV z ∧ z (-1) = s (-1) ∧ z (-2) = s (-2) := by
      refine INV_fe h (fun a c w => zs a c (by unfold rFg at w; omega)) ?_ ?_ ?_ ?_ ?_ (iNo_fr h.2.2.2.2.2.1 (fun a c w => zs a c (by unfold rNo at w; omega)))
      · rw [ze _ _ (by omega), ue _ _ (by omega), hsc, hz, u_eq ⟨rfl, rfl⟩, u_eq ⟨rfl, rfl⟩]
      · rw [ze _ _ (by omega), ue _ _ (by omega), hsc, hz]
        simp (disch := omega) only [↓jb_m, ↓jm_s, ↓reduceIte, t_lt, t_nlt, t_le, t_nle, t_eq, t_neq, w32_id, w64_id, jb_s, and_true, true_and, and_self, and_false, false_and, or_true, true_or, or_false, false_or, or_self, not_false_eq_true, not_true_eq_false, u_ne, u_eq, u_u, Int.reduceAdd, Int.reduceSub, Int.reduceMul, Int.reduceNeg, Int.zero_add, Int.add_zero, n15, n16, q10, q11, q12, q13, q14, c5]
      · rw [ze _ _ (by omega), ue _ _ (by omega), hsc, hz]
        simp (disch := omega) only [↓jb_m, ↓jm_s, ↓reduceIte, t_lt, t_nlt, t_le, t_nle, t_eq, t_neq, w32_id, w64_id, jb_s, and_true, true_and, and_self, and_false, false_and, or_true, true_or, or_false, false_or, or_self, not_false_eq_true, not_true_eq_false, u_ne, u_eq, u_u, Int.reduceAdd, Int.reduceSub, Int.reduceMul, Int.reduceNeg, Int.zero_add, Int.add_zero, n15, n16, q10, q11, q12, q13, q14, c7]
      · rw [ze _ _ (by omega), ue _ _ (by omega), hsc]
        simp (disch := omega) only [↓jb_m, ↓jm_s, ↓reduceIte, t_lt, t_nlt, t_le, t_nle, t_eq, t_neq, w32_id, w64_id, jb_s, and_true, true_and, and_self, and_false, false_and, or_true, true_or, or_false, false_or, or_self, not_false_eq_true, not_true_eq_false, u_ne, u_eq, u_u, Int.reduceAdd, Int.reduceSub, Int.reduceMul, Int.reduceNeg, Int.zero_add, Int.add_zero, n15, n16, q10, q11, q12, q13, q14]
      · rw [ze _ _ (by omega)]; exact c3
    exact ⟨-1, sc, z, hcl, hm, hfin⟩
