/-! feasts: from the first word to the last -/
theorem step_endK {rec : Int → Int → jM → Option (Int × jM)} {dep : Int} {s u : jM} (h : TW s u) (hk : s 11 5 = 24) : ∃ s' u', Te_fail 11 2 s = some (0, s') ∧ Md_readStep_b rec 155 dep u = some (0, u') ∧ BD s' u' ∧ EX rC s s' ∧ EX rD u u' := by
  obtain ⟨s', u', a1, a2, a3, a4, a5⟩ := both_amiss h
  have sw : Md_stepWord 155 u = some (-1, u) := by rw [stepWord_eq h.1, sw_no (by omega)]
  exact ⟨s', u', a1, by rw [Md_readStep_b, sw, jb_t, if_neg (by decide), if_neg (by decide), if_pos (by decide), a2, jb_t, s31_bd (bdb a3)], a3, a4, a5⟩
theorem top_loop {B F : Int} (hB : B = 30 ∨ B = 55) (hF : (B = 30 ∧ F = 64) ∨ (B = 55 ∧ F = 39)) : ∀ (N f x : Nat) (s u : jM), 901 ≤ s 11 3 + N → N < f → TW s u → FR B F 0 s u → (x : Int) ≤ s 11 3 → (∃ s'' u'', CL x s = some (0, s'') ∧ Md_feasts_28 f 155 u = Md_feasts_50 155 u'' ∧ BD s'' u'' ∧ EX (rKc F 0 0) s s'' ∧ EX (rKr 1635) u u'') ∨ ∃ s' u', CL x s = some (1, s') ∧ Md_feasts_28 f 155 u = Md_feasts_50 155 u' ∧ TW s' u' ∧ FR B F 0 s' u' ∧ EX (rKc F 0 0) s s' ∧ EX (rKr 1635) u u' ∧ BKE (VF F s') (cF u') 3 (s F 1) (s' F 1) (s F 2) (s' F 2) := by
  intro N
  have hF' : F = 39 ∨ F = 64 := by omega
  induction N with
  | zero =>
    intro f x s u h1 h2 h3
    have := start_b h3
    omega
  | succ N ih =>
    intro f x s u h1 h2 h3 h4 h5
    obtain ⟨f, rfl⟩ : ∃ g, f = g + 1 := ⟨f - 1, by omega⟩
    have sb := start_b h3
    have hx := h4.1
    have a0 := h4.2.2.2.2.1
    have l0 := h4.2.2.2.2.2.1
    have k := TK_5 h3.1
    have hm : Md_feasts_28 (f + 1) 155 u = if s 11 4 = 0 then Md_feasts_50 155 u else jb (Md_readStep 12 155 0 u) fun _ s2 => Md_feasts_28 f 155 s2 := by
      rw [Md_feasts_28, if_pos (u12z h3.2.2), ← k.1, w32_id (x := s 11 4) (by omega) (by omega)]
    have h50 : ∀ v : jM, 0 < v 155 12 ∧ v 155 12 ≤ 100 → Md_feasts_28 f 155 v = Md_feasts_50 155 v := fun v hv => by
      obtain ⟨g, rfl⟩ : ∃ g, f = g + 1 := ⟨f - 1, by omega⟩
      rw [Md_feasts_28, if_neg (bd12n hv)]
    rw [hm]
    clear hm
    by_cases y : s 11 4 = 0
    · right
      rw [if_pos y]
      refine ⟨s, u, ?_, rfl, h3, h4, EX.rf _ _, EX.rf _ _, BKE_nil⟩
      rw [cl_end h3 hx (by omega) y h4.2.1 (by omega), if_neg (by omega)]
    · rw [if_neg y]
      by_cases z : s 11 5 = 24
      · left
        obtain ⟨s', u', b1, b2, b3, b4, b5⟩ := step_endK (rec := Md_readStep 11) (dep := 0) h3 z
        refine ⟨s', u', ?_, ?_, b3, rC_Kc b4, rD_Kr b5⟩
        · have hc : Fr_takeClose 14 (s F 2) s = some (0, s') := by
            rw [Fr_takeClose, h4.2.1, if_neg (by decide), hx.1, if_pos jok5, b1, jb_t]
          rw [cl_step hF' h3 hx (by omega) y, if_pos z, hc, jb_t]
          exact cl_bad (by omega) b3 (by rw [b4 _ _ (by unfold rC; omega)]; exact hx.1)
        · rw [Md_readStep, b2, jb_t, h50 u' (bdb b3)]
      · rcases all_steps hB hF 0 (by omega) (by omega) x s u 12 h3 h4 z y h5 (by omega) with ⟨s', u', b1, b2, b3, b4, b5⟩ | ⟨x', s', u', b1, b2, b3, b4, b5⟩
        · left
          exact ⟨s', u', b1, by rw [b2, jb_t, h50 u' (bdb b3)], b3, b4, b5⟩
        · obtain ⟨c1, c2, c3, c4, c5, c6, c7, c8⟩ := b3
          rcases ih f x' s' u' (by omega) (by omega) c1 c2 c3 with ⟨s2, u2, e1, e2, e3, e4, e5⟩ | ⟨s2, u2, e1, e2, e3, e4, e5, e6, e7⟩
          · left
            exact ⟨s2, u2, by rw [b1]; exact e1, by rw [b2, jb_t]; exact e2, e3, (Kc_0 l0 (Int.le_refl _) c5).tr e4, (Kr_0 (by omega) c6).tr e5⟩
          · right
            sorry
