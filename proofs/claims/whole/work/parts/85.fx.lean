/-! feasts: a step with all that is in it -/
theorem stept {B F : Int} {r : Nat} (hB : B = 30 ∨ B = 55) (hF : (B = 30 ∧ F = 64) ∨ (B = 55 ∧ F = 39)) (hL : ∀ r', r = r' + 1 → LOOPT B F r') : STEPT B F r := by
  intro dep hd hdr x s u k h hr h24 hk h5 h6
  have hF' : F = 39 ∨ F = 64 := by omega
  have hB' : 30 ≤ B ∧ B ≤ 55 := by omega
  have hFB : B + 8 < F ∨ F + 5 < B := by omega
  obtain ⟨k, rfl⟩ : ∃ g, k = g + 1 := ⟨k - 1, by omega⟩
  have sb := start_b h
  have hx := hr.1
  have d3 := hr.2.2.1
  have a0 := hr.2.2.2.2.1
  have l0 := hr.2.2.2.2.2.1
  have h26 := hr.2.2.2.1
  have h2b := hr.2.2.2.2.2.2.1
  have hst := hr.2.2.2.2.2.2.2
  have cs := cl_step hF' h hx (x := x) (by omega) hk
  rw [if_neg h24] at cs
  rw [Md_readStep]
  rcases step1 (rec := Md_readStep k) hB hF h hr h24 with ⟨s', u', b1, b2, b3, b4, b5⟩ | ⟨op, s', u', b0, b1, b2, b3, b4, b5, b6, b7, b8, b9, b10, b11, b12, b13, b14, b15, b16⟩
  · left
    refine ⟨s', u', ?_, b2, b3, rC_Kc b4, rD_Kr b5⟩
    rw [cs, b1, jb_t]
    exact cl_bad (by omega) b3 (by rw [b4 _ _ (by unfold rC; omega)]; exact hx.1)
  obtain ⟨a, ha⟩ : ∃ a, a = s F 1 := ⟨_, rfl⟩
  obtain ⟨l, hl⟩ : ∃ l, l = s F 2 := ⟨_, rfl⟩
  rw [← ha] at b3 b7 b9 b10 b14 b16 a0 h26 h2b ⊢
  rw [← hl] at b2 b6 b11 b13 b15 b16 l0 h2b ⊢
  obtain ⟨e, he⟩ : ∃ e, e = 1635 + 9 * a := ⟨_, rfl⟩
  rw [← he] at b3 b7 b16
  have eb : 1635 ≤ e ∧ e + 8 < 1905 := by omega
  have cs' : CL x s = CL (x + 1) s' := by rw [cs, ← hl, b2, jb_t]
  rw [b3]
  have K6 : EX (rKc F l dep) s s' := b6.wk (fun p q z => by unfold rTs at z; unfold rKc; omega)
  have R7 : EX (rKr e) u u' := b7.wk (fun p q z => by unfold rRs2 at z; unfold rKr; omega)
  rcases MO_m b4 with t' | bd
  rotate_left
  · left
    refine ⟨s', jup u' 160 (e + 8) (u' 155 26), by rw [cs']; exact cl_bad (by omega) bd b8.1, s142_bd (by decide) b0 eb (bdb bd), BD_ex bd (fun _ => rfl) (fun _ => rfl) ⟨u_ne (by omega), u_ne (by omega)⟩, Kc_0 l0 hd K6, (Kr_0 eb.1 R7).up (Or.inr ⟨rfl, by omega⟩)⟩
  have o5 := b5 t'
  have hh := b16 t'
  have lt := sb.2.2.2.1 hk
  have sx : ∀ i, 0 ≤ i → i < dep → s' 15 i = s 15 i := fun i i1 i2 => b6 _ _ (by unfold rTs; omega)
  rcases b0 with q | q
  · subst q
    right
    obtain ⟨U, hU⟩ : ∃ U, U = jup u' 160 (e + 8) (u' 155 26) := ⟨_, rfl⟩
    have RU : EX (rKr e) u U := by rw [hU]; exact R7.up (Or.inr ⟨rfl, by omega⟩)
    have tU : TW s' U := TW_ex t' (fun _ => rfl) (fun _ => rfl) (fun b _ => by rw [hU, u_ne (by omega)]) (fun b => by rw [hU, u_ne (by omega)])
    have XU : FX B F s' U := FX_ex hB'.1 b8 (fun _ _ _ => rfl) (fun o _ _ => by rw [hU, u_ne (by omega)]) (fun i => by rw [hU, u_ne (by omega)])
    have m2 : Md_readStep_142 (Md_readStep k) jFU 155 dep 0 e u' = some (0, U) := by
      obtain ⟨n, n1, -⟩ := jFU_s (x := 0) (by omega)
      have n1 : jFU = n + 1 := n1
      rw [n1, Md_readStep_142, if_pos (by decide), Md_readStep_170, if_pos (by decide), w32_id (x := e + 8) (by omega) (by omega), if_pos (by omega), hU]
      rfl
    refine ⟨x + 1, s', U, cs', m2, ⟨tU, ⟨XU, ?_, d3, ?_, ?_, ?_, ?_, ?_⟩, ?_, by omega, by rw [← hl]; exact K6, by rw [← ha, ← he]; exact RU, ?_, ?_⟩, by omega, Or.inl ⟨?_, ?_, b9, b11⟩⟩
    · rw [b12]; omega
    · rw [b9, hU, u_ne (by omega), b10]
    · rw [b9]; omega
    · rw [b11]; omega
    · rw [b11, b9]; omega
    · intro i i1 i2
      rw [sx i i1 i2]
      exact hst i i1 i2
    · omega
    · rw [← ha, b9]; omega
    · rw [← hl, b11]; omega
    · rw [he] at hh
      refine STP_cg (HDr_STP a0.1 hh) (fun _ _ _ => rfl) ?_ (fun o o1 o2 => ?_)
      · unfold cF
        rw [if_pos (by omega), if_pos (by omega), if_pos (by omega), if_pos (by omega), if_pos (by omega), if_pos (by omega), hU, u_ne (by omega), u_ne (by omega), u_ne (by omega)]
        exact ⟨rfl, rfl, rfl⟩
      · unfold cF
        rw [if_neg (by omega), if_neg (by omega), hU, u_ne (by omega)]
    · rw [cF_e a0.1 (by omega), hU, u_eq ⟨rfl, by omega⟩, b10]
  · subst q
    have dl := b1 rfl
    have s15 := b13 rfl
    obtain ⟨r', hr'⟩ : ∃ r', r = r' + 1 := ⟨r - 1, by omega⟩
    have fr1 : FR B F (dep + 1) s' u' := by
      refine ⟨b8, b12, by omega, by rw [b9, b10], by rw [b9]; omega, by rw [b11]; omega, by rw [b11, b9]; omega, fun i i1 i2 => ?_⟩
      by_cases z : i = dep
      · rw [z, s15]; omega
      · rw [sx i i1 (by omega)]
        exact hst i i1 (by omega)
    have L := hL r' hr' (dep + 1) (by omega) (by omega) 901 jFU (x + 1) s' u' k e (by omega) (Nat.lt_of_lt_of_le (m := 1000) (by omega) (jFU_ge (by decide))) t' fr1 (by omega) (by omega) eb.1 eb.2
    rw [show dep + 1 - 1 = dep by omega] at L
    rcases L with ⟨s2, u2, c1, c2, c3, c4, c5⟩ | ⟨x2, s2, u2, c1, c2, ⟨d1, d2, d3', d4, d5, d6, d7, d8⟩, c4, c5⟩
    · left
      exact ⟨s2, u2, by rw [cs']; exact c1, c2, c3, (Kc_0 l0 hd K6).tr c4, (Kr_0 eb.1 R7).tr c5⟩
    have sb2 := start_b d1
    have hk2 : s2 11 4 ≠ 0 := by
      have := TK_kw d1.1 (by omega)
      omega
    obtain ⟨s3, u3, g1, g2, g3, g4, g5, g6, g7, g8, g9, g10, g11, g12, g13⟩ := close1 (rec := Md_readStep k) (e := e) hB hF d1 d2 c4 (by omega) eb
    have cs2 := cl_step hF' d1 d2.1 (x := x2) (by omega) hk2
    rw [if_pos c4, g1, jb_t] at cs2
    have cs3 : CL x s = CL (x2 + 1) s3 := by rw [cs', c1, cs2]
    rw [c2, g2]
    rw [show dep + 1 - 1 = dep by omega] at g5 g9 g10 g11
    have o15 : s2 15 dep = l := by rw [d5 _ _ (by unfold rKc; omega), s15]
    rw [o15] at g5 g10 g11
    rw [b11] at d8
    rw [b9] at d7
    rw [b11] at d5
    rw [b9] at d6
    have a2 := d2.2.2.2.2.1
    have p2 := d2.2.2.2.1
    have q2 := d2.2.2.2.2.2.2.1
    have st2 := d2.2.2.2.2.2.2.2
    have K5 : EX (rKc F l dep) s s3 := by
      refine (K6.tr (d5.wk (fun p q z => by unfold rKc at *; omega))).tr (g5.wk (fun p q z => by unfold rCl at z; unfold rKc; omega))
    have R6 : EX (rKr e) u u3 := by
      refine (R7.tr (d6.wk (fun p q z => by unfold rKr at *; omega))).tr (fun p q z => g6 p q (by unfold rKr at z; omega) (by unfold rKr at z; omega))
    rcases g3 with t3 | bd3
    rotate_left
    · left
      exact ⟨s3, u3, by rw [cs3]; exact cl_bad (by omega) bd3 g7.1, rfl, bd3, Kc_0 l0 hd K5, Kr_0 eb.1 R6⟩
    right
    have o3 := g4 t3
    have f1 : s3 F 1 = s2 F 1 := g5 _ _ (by unfold rCl; omega)
    have lt2 := sb2.2.2.2.1 hk2
    obtain ⟨g, hg⟩ : ∃ g, g = s2 F 2 := ⟨_, rfl⟩
    rw [← hg] at d8 g5 g8 g10 g11 g12 q2 c5
    obtain ⟨b, hb⟩ : ∃ b, b = s2 F 1 := ⟨_, rfl⟩
    rw [← hb] at d7 a2 p2 q2 f1 c5
    rw [b9, b11] at c5
    have VS : ∀ i j, 10 ≤ i → i ≤ 14 → j < g → ¬ (i = 14 ∧ j = l) → VF F s3 i j = VF F s2 i j := fun i j i1 i2 j1 j2 => by
      show s3 (F - 9 + i) j = s2 (F - 9 + i) j
      exact g5 _ _ (by unfold rCl; omega)
    have c20 : cF u3 0 = cF u2 0 ∧ cF u3 1 = cF u2 1 ∧ cF u3 2 = cF u2 2 := by
      unfold cF
      rw [if_pos (by omega), if_pos (by omega), if_pos (by omega), if_pos (by omega), if_pos (by omega), if_pos (by omega)]
      exact ⟨g6 _ _ (by omega) (by omega), g6 _ _ (by omega) (by omega), g6 _ _ (by omega) (by omega)⟩
    have c2o : ∀ o, 111 ≤ o → 1524 + o ≠ e + 8 → cF u3 o = cF u2 o := fun o o1 o2 => by
      unfold cF
      rw [if_neg (by omega), if_neg (by omega)]
      exact g6 _ _ (by omega) (by omega)
    refine ⟨x2 + 1, s3, u3, cs3, rfl, ⟨t3, ⟨g7, g9, d3, ?_, ?_, ?_, ?_, ?_⟩, ?_, ?_, by rw [← hl]; exact K5, by rw [← ha, ← he]; exact R6, ?_, ?_⟩, ?_, Or.inr ⟨r', g, hr', ?_, ?_, ?_, ?_, ?_, ?_, ?_, ?_, ?_⟩⟩
    · rw [f1, p2, g6 _ _ (by omega) (by omega)]
    · rw [f1]; exact a2
    · rw [g8]; omega
    · rw [g8, f1]; omega
    · intro i i1 i2
      rw [g5 _ _ (by unfold rCl; omega)]
      exact st2 i i1 (by omega)
    · omega
    · omega
    · rw [← ha, f1]; omega
    · rw [← hl, g8]; omega
    · omega
    · rw [he] at hh
      have H1 := HDr_HED a0.1 hh
      have H2 := HED_cg (V' := VF F s2) (c' := cF u2) H1 (fun i i1 i2 => VF_k d5 ⟨i1, by omega⟩ (by omega) (by omega)) (cF_0 d6 (by omega)) (fun o o1 o2 => cF_k d6 (by omega) ⟨by omega, by omega⟩)
      exact HED_cg H2 (fun i i1 i2 => VS i l i1 (by omega) (by omega) (by omega)) c20 (fun o o1 o2 => c2o o (by omega) (by omega))
    · rw [cF_e a0.1 (by omega), show 1524 + (119 + 9 * a) = e + 8 by omega, g13, ← p2, f1]
    · show s3 (F - 9 + 14) l = g
      rw [show F - 9 + 14 = F + 5 by omega, g10, if_neg (by omega)]
    · show s3 (F - 9 + 10) g = 24
      rw [show F - 9 + 10 = F + 1 by omega]; exact g12
    · show s3 (F - 9 + 14) g = l
      rw [show F - 9 + 14 = F + 5 by omega]; exact g11
    · rw [f1]; omega
    · omega
    · rw [f1]
      exact BKE_cg c5 (fun i j i1 i2 j1 j2 => VS i j i1 i2 j2 (by omega)) c20 (fun o o1 o2 => c2o o (by omega) (by omega))
    · exact g8
theorem all_steps {B F : Int} (hB : B = 30 ∨ B = 55) (hF : (B = 30 ∧ F = 64) ∨ (B = 55 ∧ F = 39)) : STEPT B F 3 := by
  have h0 : STEPT B F 0 := stept hB hF (fun r' h => by omega)
  have l0 := loopt hB hF h0
  have h1 : STEPT B F 1 := stept hB hF (fun r' h => by rw [show r' = 0 by omega]; exact l0)
  have l1 := loopt hB hF h1
  have h2 : STEPT B F 2 := stept hB hF (fun r' h => by rw [show r' = 1 by omega]; exact l1)
  have l2 := loopt hB hF h2
  exact stept hB hF (fun r' h => by rw [show r' = 2 by omega]; exact l2)
