/-! feasts: from the first word to the last -/
theorem step_endK {rec : Int → Int → jM → Option (Int × jM)} {dep : Int} {s u : jM} (h : TW s u) (hk : s 11 5 = 24) : ∃ s' u', Te_fail 11 2 s = some (0, s') ∧ Md_readStep_b rec 155 dep u = some (0, u') ∧ BD s' u' ∧ EX rC s s' ∧ EX rD u u' := by
  obtain ⟨s', u', a1, a2, a3, a4, a5⟩ := both_amiss h
  have sw : Md_stepWord 155 u = some (-1, u) := by rw [stepWord_eq h.1, sw_no (by omega)]
  exact ⟨s', u', a1, by rw [Md_readStep_b, sw, jb_t, if_neg (by decide), if_neg (by decide), if_pos (by decide), a2, jb_t, s31_bd (bdb a3)], a3, a4, a5⟩
theorem top_loop {B F : Int} (hB : B = 30 ∨ B = 55) (hF : (B = 30 ∧ F = 64) ∨ (B = 55 ∧ F = 39)) : ∀ (N f x : Nat) (s u : jM), 901 ≤ s 11 3 + N → N < f → TW s u → FR B F 0 s u → (x : Int) ≤ s 11 3 → (∃ s'' u'', CL x s = some (0, s'') ∧ Md_feasts_28 f 155 u = Md_feasts_50 155 u'' ∧ BD s'' u'' ∧ EX (rKc F 0 0) s s'' ∧ EX (rKr 1635) u u'') ∨ ∃ s' u', CL x s = some (1, s') ∧ Md_feasts_28 f 155 u = Md_feasts_50 155 u' ∧ GOD B F 0 0 s u s' u' ∧ BKE (VF F s') (cF u') 3 (s F 1) (s' F 1) (s F 2) (s' F 2) := by
  intro N
  have hF' : F = 39 ∨ F = 64 := by omega
  induction N with
  | zero =>
    intro f x s u h1 h2 h3
    have := start_b h3
    omega
  | succ N ih =>
    intro f x s u h1 h2 h3 h4 h5
    obtain ⟨f, rfl⟩ : ∃ g, f = g + 1 := ⟨f - 1, by omega⟩
    have sb := start_b h3
    have hx := h4.1
    have a0 := h4.2.2.2.2.1
    have l0 := h4.2.2.2.2.2.1
    have k := TK_5 h3.1
    have hm : Md_feasts_28 (f + 1) 155 u = if s 11 4 = 0 then Md_feasts_50 155 u else jb (Md_readStep 12 155 0 u) fun _ s2 => Md_feasts_28 f 155 s2 := by
      rw [Md_feasts_28, if_pos (u12z h3.2.2), ← k.1, w32_id (x := s 11 4) (by omega) (by omega)]
    have h50 : ∀ v : jM, 0 < v 155 12 ∧ v 155 12 ≤ 100 → Md_feasts_28 f 155 v = Md_feasts_50 155 v := fun v hv => by
      obtain ⟨g, rfl⟩ : ∃ g, f = g + 1 := ⟨f - 1, by omega⟩
      rw [Md_feasts_28, if_neg (bd12n hv)]
    rw [hm]
    clear hm
    by_cases y : s 11 4 = 0
    · right
      rw [if_pos y]
      refine ⟨s, u, ?_, rfl, ⟨h3, h4, by show ((0 : Nat) : Int) ≤ s 11 3; omega, Int.le_refl _, EX.rf _ _, EX.rf _ _, Int.le_refl _, Int.le_refl _⟩, BKE_nil⟩
      rw [cl_end h3 hx (by omega) y h4.2.1 (by omega), if_neg (by omega)]
    · rw [if_neg y]
      by_cases z : s 11 5 = 24
      · left
        obtain ⟨s', u', b1, b2, b3, b4, b5⟩ := step_endK (rec := Md_readStep 11) (dep := 0) h3 z
        refine ⟨s', u', ?_, ?_, b3, rC_Kc b4, rD_Kr b5⟩
        · have hc : Fr_takeClose 14 (s F 2) s = some (0, s') := by
            rw [Fr_takeClose, h4.2.1, if_neg (by decide), hx.1, if_pos jok5, b1, jb_t]
          rw [cl_step hF' h3 hx (by omega) y, if_pos z, hc, jb_t]
          exact cl_bad (by omega) b3 (by rw [b4 _ _ (by unfold rC; omega)]; exact hx.1)
        · rw [Md_readStep, b2, jb_t, h50 u' (bdb b3)]
      · rcases all_steps hB hF 0 (by omega) (by omega) x s u 12 h3 h4 z y h5 (by omega) with ⟨s', u', b1, b2, b3, b4, b5⟩ | ⟨x', s', u', b1, b2, b3, b4, b5⟩
        · left
          exact ⟨s', u', b1, by rw [b2, jb_t, h50 u' (bdb b3)], b3, b4, b5⟩
        · have gd := b3
          obtain ⟨c1, c2, c3, c4, c5, c6, c7, c8⟩ := b3
          rcases ih f x' s' u' (by omega) (by omega) c1 c2 c3 with ⟨s2, u2, e1, e2, e3, e4, e5⟩ | ⟨s2, u2, e1, e2, e3, e7⟩
          · left
            exact ⟨s2, u2, by rw [b1]; exact e1, by rw [b2, jb_t]; exact e2, e3, (Kc_0 l0 (Int.le_refl _) c5).tr e4, (Kr_0 (by omega) c6).tr e5⟩
          · right
            refine ⟨s2, u2, by rw [b1]; exact e1, by rw [b2, jb_t]; exact e2, GOD_tr ⟨a0.1, l0⟩ gd e3, ONE_cons ?_ e7⟩
            obtain ⟨-, -, -, -, g5, g6, -, -⟩ := e3
            exact ONE_cg b5 (fun i j i1 i2 j1 j2 => VF_k g5 ⟨i1, i2⟩ j2 (by omega)) (cF_0 g6 (by omega)) (fun o o1 o2 => cF_k g6 (by omega) ⟨by omega, by omega⟩)
/-- the class's and the reference's run -/
def rCf (F a b : Int) : Prop := (a = 11 ∧ 1 ≤ b ∧ b ≤ 9) ∨ (a = 14 ∧ 0 ≤ b ∧ b ≤ 3) ∨ a = 15 ∨ (F ≤ a ∧ a ≤ F + 5)
def rRf (a b : Int) : Prop := (a = 155 ∧ (b = 8 ∨ b = 9 ∨ (12 ≤ b ∧ b ≤ 19) ∨ b = 26)) ∨ (a = 160 ∧ 1635 ≤ b)
theorem fe_run {B F : Int} (hB : B = 30 ∨ B = 55) (hF : (B = 30 ∧ F = 64) ∨ (B = 55 ∧ F = 39)) {s u : jM} {L : Int} (hL : 0 ≤ L ∧ L ≤ 900) (ht : ∀ i, 0 ≤ i → i < L → s 12 i = u 159 i ∧ -128 ≤ s 12 i ∧ s 12 i ≤ 127) (hn : NMx s u B 0) : ∃ s3 v s4 u4, Te_open 11 L s = some (0, s3) ∧ (∀ b, s3 0 b = s 0 b) ∧ Fr_take 14 11 B F s3 = some (v, s4) ∧ EX (rCf F) s s4 ∧ (jb (opR L u) fun _ s6 => Md_feasts_28 jFU 155 (jup s6 155 26 0)) = Md_feasts_50 155 u4 ∧ EX rRf u u4 ∧ u4 155 8 = 0 ∧ ((v = 1 ∧ u4 155 12 = 0 ∧ s4 F 0 = 1 ∧ s4 F 1 = u4 155 26 ∧ (0 ≤ s4 F 1 ∧ s4 F 1 ≤ 30) ∧ (0 ≤ s4 F 2 ∧ s4 F 2 ≤ 60) ∧ BKE (VF F s4) (cF u4) 3 0 (s4 F 1) 0 (s4 F 2)) ∨ (v = 0 ∧ s4 11 8 = u4 155 12 ∧ (0 < u4 155 12 ∧ u4 155 12 ≤ 100) ∧ s4 11 9 = u4 155 13)) := by
  have hF' : F = 39 ∨ F = 64 := by omega
  have hB' : 30 ≤ B ∧ B ≤ 55 := by omega
  have hFB : B + 8 < F ∨ F + 5 < B := by omega
  obtain ⟨s3, u3, a1, a2, a3, a4, a5, a6⟩ := open_both hL ht
  obtain ⟨S, hS⟩ : ∃ S, S = jup (jup (jup (jup (jup (jup (jup (jup s3 14 0 11) 14 1 B) 14 2 F) F 0 0) F 1 0) F 2 0) F 0 1) 14 3 0 := ⟨_, rfl⟩
  obtain ⟨U, hU⟩ : ∃ U, U = jup u3 155 26 0 := ⟨_, rfl⟩
  have Se : ∀ a b, ¬ (a = 14 ∧ 0 ≤ b ∧ b ≤ 3) → ¬ (a = F ∧ 0 ≤ b ∧ b ≤ 2) → S a b = s3 a b := fun a b z1 z2 => by
    rw [hS, u_ne (by omega), u_ne (by omega), u_ne (by omega), u_ne (by omega), u_ne (by omega), u_ne (by omega), u_ne (by omega), u_ne (by omega)]
  have x0 : S 14 0 = 11 := by rw [hS, u_ne (by omega), u_ne (by omega), u_ne (by omega), u_ne (by omega), u_ne (by omega), u_ne (by omega), u_ne (by omega), u_eq ⟨rfl, rfl⟩]
  have x1 : S 14 1 = B := by rw [hS, u_ne (by omega), u_ne (by omega), u_ne (by omega), u_ne (by omega), u_ne (by omega), u_ne (by omega), u_eq ⟨rfl, rfl⟩]
  have x2 : S 14 2 = F := by rw [hS, u_ne (by omega), u_ne (by omega), u_ne (by omega), u_ne (by omega), u_ne (by omega), u_eq ⟨rfl, rfl⟩]
  have x3 : S 14 3 = 0 := by rw [hS, u_eq ⟨rfl, rfl⟩]
  have f0 : S F 0 = 1 := by rw [hS, u_ne (by omega), u_eq ⟨rfl, rfl⟩]
  have f1 : S F 1 = 0 := by rw [hS, u_ne (by omega), u_ne (by omega), u_ne (by omega), u_eq ⟨rfl, rfl⟩]
  have f2 : S F 2 = 0 := by rw [hS, u_ne (by omega), u_ne (by omega), u_eq ⟨rfl, rfl⟩]
  have tw : TW S U := TW_ex a3 (fun b => Se _ _ (by omega) (by omega)) (fun b => Se _ _ (by omega) (by omega)) (fun b z => by rw [hU, u_ne (by omega)]) (fun b => by rw [hU, u_ne (by omega)])
  have U26 : U 155 26 = 0 := by rw [hU, u_eq ⟨rfl, rfl⟩]
  have nm : NMx S U B 0 := by
    have h0 : FX B F (jup (jup (jup s 14 0 11) 14 1 B) 14 2 F) u := by
      refine ⟨by rw [u_ne (by omega), u_ne (by omega), u_eq ⟨rfl, rfl⟩], by rw [u_ne (by omega), u_eq ⟨rfl, rfl⟩], by rw [u_eq ⟨rfl, rfl⟩], ?_⟩
      have e : ∀ x, x ≠ 14 → (jup (jup (jup s 14 0 11) 14 1 B) 14 2 F) x = s x := fun x z => funext fun y => by rw [u_ne (by omega), u_ne (by omega), u_ne (by omega)]
      unfold NMx
      rw [e B (by omega), e (B + 6) (by omega), e (B + 7) (by omega), e (B + 8) (by omega)]
      exact hn
    refine (FX_ex (s' := S) (u' := U) hB'.1 h0 (fun a b q => ?_) (fun o o1 o2 => by rw [hU, u_ne (by omega)]; exact a5 _ _ (by omega)) (fun i => by rw [hU, u_ne (by omega)]; exact a5 _ _ (by omega))).2.2.2
    rcases q with ⟨q1, q2⟩ | q
    · subst q1
      by_cases b0 : b = 0
      · rw [b0, x0, u_ne (by omega), u_ne (by omega), u_eq ⟨rfl, rfl⟩]
      · by_cases b1 : b = 1
        · rw [b1, x1, u_ne (by omega), u_eq ⟨rfl, rfl⟩]
        · by_cases b2 : b = 2
          · rw [b2, x2, u_eq ⟨rfl, rfl⟩]
          · rw [Se _ _ (by omega) (by omega), a4 _ _ (by omega), u_ne (by omega), u_ne (by omega), u_ne (by omega)]
    · rw [Se _ _ (by omega) (by omega), a4 _ _ (by omega), u_ne (by omega), u_ne (by omega), u_ne (by omega)]
  have fr : FR B F 0 S U := ⟨⟨x0, x1, x2, nm⟩, x3, by omega, by rw [f1, U26], by rw [f1]; omega, by rw [f2]; omega, by rw [f1, f2]; omega, fun i i1 i2 => by omega⟩
  have sb := start_b tw
  have hT : Fr_take 14 11 B F s3 = CL 0 S := by
    have y : jup (jup (jup s3 14 0 11) 14 1 B) 14 2 F 14 2 = F := u_eq ⟨rfl, rfl⟩
    have y2 : jup (jup (jup (jup (jup (jup s3 14 0 11) 14 1 B) 14 2 F) F 0 0) F 1 0) F 2 0 14 2 = F := by rw [u_ne (by omega), u_ne (by omega), u_ne (by omega)]; exact y
    rw [Fr_take, y, if_pos (jok4 hF'), Fe_clear, jb_t, y2, if_pos (jok4 hF'), ← hS]
    rfl
  have hE0 : EX (rCf F) s S := fun a b z => by
    unfold rCf at z
    rw [Se a b (by omega) (by omega), a4 a b (by omega)]
  have hR0 : EX rRf u U := fun a b z => by
    unfold rRf at z
    rw [hU, u_ne (by omega), a5 a b (by omega)]
  rcases top_loop hB hF 901 jFU 0 S U (by omega) (Nat.lt_of_lt_of_le (m := 1000) (by omega) (jFU_ge (by decide))) tw fr sb.1 with ⟨s', u', b1, b2, b3, b4, b5⟩ | ⟨s', u', b1, b2, ⟨b3, b4, -, -, b7, b8, b9, b10⟩, b11⟩
  · refine ⟨s3, 0, s', u', a1, fun b => a4 _ _ (by omega), by rw [hT]; exact b1, hE0.tr (b4.wk (fun a b q => by unfold rKc at q; unfold rCf; omega)), by rw [a2, jb_t, ← hU]; exact b2, hR0.tr (b5.wk (fun a b q => by unfold rKr at q; unfold rRf; omega)), ?_, Or.inr ⟨rfl, b3.2.1, bdb b3, b3.2.2.2.2⟩⟩
    rw [b5 _ _ (by unfold rKr; omega), hU, u_ne (by omega)]; exact a6
  · rw [f1, f2] at b11
    rw [f2] at b7
    rw [f1] at b8
    have k2 := b4.2.2.2.2.2.2.1
    have k1 := b4.2.2.2.2.1
    have k0 := b4.2.2.2.2.2.1
    refine ⟨s3, 1, s', u', a1, fun b => a4 _ _ (by omega), by rw [hT]; exact b1, hE0.tr (b7.wk (fun a b q => by unfold rKc at q; unfold rCf; omega)), by rw [a2, jb_t, ← hU]; exact b2, hR0.tr (b8.wk (fun a b q => by unfold rKr at q; unfold rRf; omega)), ?_, Or.inl ⟨rfl, b3.2.2, ?_, b4.2.2.2.1, k1, by omega, b11⟩⟩
    · rw [b8 _ _ (by unfold rKr; omega), hU, u_ne (by omega)]; exact a6
    · rw [b7 _ _ (by unfold rKc; omega)]; exact f0
