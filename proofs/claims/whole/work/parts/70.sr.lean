/-! the parts of a see: heat, odds, place -/
theorem RHd_of {B : Int} {s u s' u' : jM} (h : RHd B s u) (b0 o0 : Int) (hp : (b0 = 0 ∧ o0 = 1527 ∧ 0 ≤ u' 160 1527 ∧ u' 160 1527 ≤ 9) ∨ (b0 = 1 ∧ o0 = 1528 ∧ 0 ≤ u' 160 1528 ∧ u' 160 1528 ≤ 16) ∨ (b0 = 4 ∧ o0 = 1524) ∨ (b0 = 5 ∧ o0 = 1525) ∨ (b0 = 6 ∧ o0 = 1526) ∨ (b0 = 7 ∧ o0 = 1532 ∧ 0 ≤ u' 160 1532 ∧ u' 160 1532 ≤ 10)) (e0 : s' B b0 = u' 160 o0) (e : ∀ b, 0 ≤ b → b ≤ 7 → b ≠ b0 → s' B b = s B b) (e2 : ∀ o, 1524 ≤ o → o ≤ 1532 → o ≠ o0 → u' 160 o = u 160 o) : RHd B s' u' := by
  have a0 : 0 ≠ b0 → s' B 0 = s B 0 := e 0 (by omega) (by omega)
  have a1 : 1 ≠ b0 → s' B 1 = s B 1 := e 1 (by omega) (by omega)
  have a2 : 2 ≠ b0 → s' B 2 = s B 2 := e 2 (by omega) (by omega)
  have a3 : 3 ≠ b0 → s' B 3 = s B 3 := e 3 (by omega) (by omega)
  have a4 : 4 ≠ b0 → s' B 4 = s B 4 := e 4 (by omega) (by omega)
  have a5 : 5 ≠ b0 → s' B 5 = s B 5 := e 5 (by omega) (by omega)
  have a6 : 6 ≠ b0 → s' B 6 = s B 6 := e 6 (by omega) (by omega)
  have a7 : 7 ≠ b0 → s' B 7 = s B 7 := e 7 (by omega) (by omega)
  have c0 : 1527 ≠ o0 → u' 160 1527 = u 160 1527 := e2 1527 (by omega) (by omega)
  have c1 : 1528 ≠ o0 → u' 160 1528 = u 160 1528 := e2 1528 (by omega) (by omega)
  have c4 : 1524 ≠ o0 → u' 160 1524 = u 160 1524 := e2 1524 (by omega) (by omega)
  have c5 : 1525 ≠ o0 → u' 160 1525 = u 160 1525 := e2 1525 (by omega) (by omega)
  have c6 : 1526 ≠ o0 → u' 160 1526 = u 160 1526 := e2 1526 (by omega) (by omega)
  have c7 : 1532 ≠ o0 → u' 160 1532 = u 160 1532 := e2 1532 (by omega) (by omega)
  clear e e2
  unfold RHd at *
  rcases hp with ⟨q1, q2, q3⟩ | ⟨q1, q2, q3⟩ | ⟨q1, q2⟩ | ⟨q1, q2⟩ | ⟨q1, q2⟩ | ⟨q1, q2, q3⟩ <;> subst q1 <;> subst q2 <;> omega
theorem TK_kw {s u : jM} (h : TK s u) (hk : s 11 5 ≠ -1) : s 11 4 = 1 := by
  obtain ⟨-, -, -, -, -, -, -, d⟩ := h
  rcases d with ⟨-, b⟩ | ⟨a, -⟩ | ⟨-, b, -⟩ | ⟨-, b, -⟩ | ⟨-, b⟩
  · exact absurd b hk
  · exact a
  · exact absurd b hk
  · exact absurd b hk
  · exact absurd b hk
theorem fault_PO {B c : Int} (hB : 20 ≤ B) (hc : 0 < c ∧ c ≤ 100) {s u : jM} (h : TW s u) (hk : s 11 4 ≠ 4) (hr : RDs B s u) : ∃ s' u', Te_fail 11 c s = some (0, s') ∧ Md_fail 155 c (u 155 15) u = some (0, u') ∧ (0 < u' 155 12 ∧ u' 155 12 ≤ 100) ∧ PO B s u s' u' := by
  obtain ⟨s', u', b1, b2, b3, b4, b5⟩ := both_fail h hc
  rw [if_neg hk] at b2
  exact ⟨s', u', b1, b2, ⟨b3.2.2.1, b3.2.2.2.1⟩, ⟨rC_rS b4, rD_rQ b5⟩, Or.inr ⟨b3, SV_ex hB (RS_SV hr) b4⟩⟩
theorem amiss_PO {B : Int} (hB : 20 ≤ B) {s u : jM} (h : TW s u) (hr : RDs B s u) : ∃ s' u', Te_fail 11 2 s = some (0, s') ∧ Md_amiss 155 u = some (0, u') ∧ PO B s u s' u' := by
  obtain ⟨s', u', b1, b2, b3, b4, b5⟩ := both_amiss h
  exact ⟨s', u', b1, b2, ⟨rC_rS b4, rD_rQ b5⟩, Or.inr ⟨b3, SV_ex hB (RS_SV hr) b4⟩⟩
theorem sr_heat {B : Int} (hB : B = 30 ∨ B = 55) {s u : jM} (h : TW s u) (hr : RDs B s u) (hk : s 11 5 = 0) : ∃ s' u', Sr_takeHeat 13 s = some (0, s') ∧ Md_readOnce 155 3 0 9 u = some (0, u') ∧ PO B s u s' u' := by
  have hb : 20 ≤ B := by omega
  have bd := RS_b hr
  have sv := RS_SV hr
  have hr0 := hr
  obtain ⟨r1, r2, r3, r4, r5, r6, r7⟩ := hr
  obtain ⟨a0, a1, a2, a3, a4⟩ := r1
  by_cases q : s 13 2 = 0
  · obtain ⟨S, hS⟩ : ∃ S, S = jup s 13 2 1 := ⟨_, rfl⟩
    obtain ⟨U, hU⟩ : ∃ U, U = jup u 155 25 (8 * 1 + 16 * s 13 3) := ⟨_, rfl⟩
    have hw : TW S U := TW_ex h (fun b => by rw [hS, u_ne (by omega)]) (fun b => by rw [hS, u_ne (by omega)]) (fun b _ => by rw [hU, u_ne (by omega)]) (fun b => by rw [hU, u_ne (by omega)])
    obtain ⟨s2, u2, b1, b2, b3, b4, b5, b6⟩ := both_adv hw
    obtain ⟨v, w, s3, u3, d1, d2, ⟨d3, d4, d5⟩, d6⟩ := tk_num (Or.inl b3) (lo := 0) (hi := 9) (by omega) (by omega)
    have f2 : ∀ a b, a ≠ 11 → s2 a b = S a b := fun a b z => b5 a b (fun y => z y.1)
    have f3 : ∀ a b, a ≠ 11 → s3 a b = S a b := fun a b z => by rw [d4 a b (fun y => z y.1), f2 a b z]
    have g3 : ∀ a b, ¬ (a = 155 ∧ 12 ≤ b ∧ b ≤ 19) → u3 a b = U a b := fun a b z => by rw [d5 a b z, b6 a b z]
    have s0 : S 13 0 = 11 := by rw [hS, u_ne (by omega)]; exact a0
    have t0 : s2 13 0 = 11 := by rw [f2 _ _ (by omega)]; exact s0
    have t1 : s2 13 1 = B := by rw [f2 _ _ (by omega), hS, u_ne (by omega)]; exact a1
    have se : ∀ a b, a ≠ 11 → ¬ (a = 13 ∧ b = 2) → ¬ (a = B ∧ b = 0) → jup s3 B 0 v a b = s a b := fun a b z1 z2 z3 => by rw [u_ne z3, f3 a b z1, hS, u_ne z2]
    have ue : ∀ a b, a ≠ 155 → ¬ (a = 160 ∧ b = 1527) → jup u3 160 1527 w a b = u a b := fun a b z1 z2 => by rw [u_ne z2, g3 a b (fun y => z1 y.1), hU, u_ne (fun y => z1 y.1)]
    refine ⟨jup s3 B 0 v, jup u3 160 1527 w, ?_, ?_, ⟨?_, ?_⟩, ?_⟩
    · rw [Sr_takeHeat, q, if_pos (by decide), ← hS, s0, if_pos jok5, b1, jb_t, t0, t1, if_pos ⟨jok3 hB, jok5⟩, d1, jb_t]
    · rw [Md_readOnce, a4, (has_eq a2 a3).1, jb_t, q, if_pos (by decide), Md_readOnce_20, if_neg (u12 h.2.2), a4, q, ior3 a3, ← hU, b2, jb_t, d2, jb_t]
      rfl
    · rw [hS] at b5
      exact ((((EX.rf _ _).up (Or.inr (Or.inl ⟨rfl, Or.inl rfl⟩))).tr (rC_rS b5)).tr (rC_rS d4)).up (Or.inr (Or.inr ⟨by omega, by omega⟩))
    · rw [hU] at b6
      exact ((((EX.rf _ _).up (Or.inl ⟨rfl, Or.inr rfl⟩)).tr (rD_rQ b6)).tr (rD_rQ d5)).up (Or.inr (Or.inl ⟨rfl, by omega⟩))
    · rcases d3 with ⟨d3, d7⟩ | d3
      · obtain ⟨e1, e2, e3⟩ := d6 d3
        refine Or.inl ⟨TW_ex d3 (fun b => u_ne (by omega)) (fun b => u_ne (by omega)) (fun b _ => u_ne (by omega)) (fun b => u_ne (by omega)), ⟨⟨?_, ?_, ?_, ?_, ?_⟩, RHd_of r2 0 1527 (Or.inl ⟨rfl, rfl, ?_⟩) ?_ (fun b _ _ z => se _ _ (by omega) (by omega) (by omega)) (fun o _ _ z => ue _ _ (by omega) (by omega)), RNm_fr r3 (se _ _ (by omega) (by omega) (by omega)) (fun a b _ _ => se _ _ (by omega) (by omega) (by omega)) (fun o _ _ => ue _ _ (by omega) (by omega)) (fun i => ue _ _ (by omega) (by omega)), RSt_fr r4 bd.2.1.2 (fun a b _ _ => se _ _ (by omega) (by omega) (by omega)) (ue _ _ (by omega) (by omega)) (fun o _ _ => ue _ _ (by omega) (by omega)), RMo_fr r5 bd.2.2.2.1.2 (fun a b _ _ => se _ _ (by omega) (by omega) (by omega)) (ue _ _ (by omega) (by omega)) (by rw [ue _ _ (by omega) (by omega)]; omega) (fun o _ _ => ue _ _ (by omega) (by omega)), RWk_fr r6 bd.2.2.2.2.2 (fun b => se _ _ (by omega) (by omega) (by omega)) (ue _ _ (by omega) (by omega)) (by rw [ue _ _ (by omega) (by omega)]; omega) (fun o _ _ => ue _ _ (by omega) (by omega)), RZe_fr r7 (se _ _ (by omega) (by omega) (by omega)) (se _ _ (by omega) (by omega) (by omega)) (fun o _ => ue _ _ (by omega) (by omega))⟩, ?_⟩
        · rw [se _ _ (by omega) (by omega) (by omega)]; exact a0
        · rw [se _ _ (by omega) (by omega) (by omega)]; exact a1
        · right; rw [u_ne (by omega), f3 _ _ (by omega), hS, u_eq ⟨rfl, rfl⟩]
        · rw [se _ _ (by omega) (by omega) (by omega)]; exact a3
        · rw [u_ne (by omega), g3 _ _ (by omega), hU, u_eq ⟨rfl, rfl⟩, se 13 3 (by omega) (by omega) (by omega), u_ne (by omega), f3 _ _ (by omega), hS, u_eq ⟨rfl, rfl⟩]
        · rw [u_eq ⟨rfl, rfl⟩]; omega
        · rw [u_eq ⟨rfl, rfl⟩, u_eq ⟨rfl, rfl⟩]; exact e1
        · rw [u_ne (by omega)]
          have : S 11 2 = s 11 2 := by rw [hS, u_ne (by omega)]
          omega
      · refine Or.inr ⟨BD_ex d3 (fun b => u_ne (by omega)) (fun b => u_ne (by omega)) ⟨u_ne (by omega), u_ne (by omega)⟩, ?_⟩
        unfold SV at *
        rw [se 13 0 (by omega) (by omega) (by omega), se 13 1 (by omega) (by omega) (by omega), se B 8 (by omega) (by omega) (by omega), se B 4 (by omega) (by omega) (by omega), se B 5 (by omega) (by omega) (by omega), se B 6 (by omega) (by omega) (by omega)]
        exact sv
  · have q1 : s 13 2 = 1 := a2.resolve_left q
    have k4 := TK_kw h.1 (by omega)
    obtain ⟨s', u', b1, b2, b3, b4⟩ := fault_PO hb (c := 5) (by omega) h (by omega) hr0
    refine ⟨s', u', ?_, ?_, b4⟩
    · rw [Sr_takeHeat, q1, if_neg (by decide), a0, if_pos jok5, b1, jb_t]
    · rw [Md_readOnce, a4, (has_eq a2 a3).1, jb_t, q1, if_neg (by decide), b2, jb_t, Md_readOnce_20, if_pos (bd12 b3)]
theorem sr_odds {B : Int} (hB : B = 30 ∨ B = 55) {s u : jM} (h : TW s u) (hr : RDs B s u) (hk : s 11 5 = 1) : ∃ s' u', Sr_takeOdds 13 s = some (0, s') ∧ Md_readOnce 155 4 0 16 u = some (0, u') ∧ PO B s u s' u' := by
  have hb : 20 ≤ B := by omega
  have bd := RS_b hr
  have sv := RS_SV hr
  have hr0 := hr
  obtain ⟨r1, r2, r3, r4, r5, r6, r7⟩ := hr
  obtain ⟨a0, a1, a2, a3, a4⟩ := r1
  by_cases q : s 13 3 = 0
  · obtain ⟨S, hS⟩ : ∃ S, S = jup s 13 3 1 := ⟨_, rfl⟩
    obtain ⟨U, hU⟩ : ∃ U, U = jup u 155 25 (8 * s 13 2 + 16 * 1) := ⟨_, rfl⟩
    have hw : TW S U := TW_ex h (fun b => by rw [hS, u_ne (by omega)]) (fun b => by rw [hS, u_ne (by omega)]) (fun b _ => by rw [hU, u_ne (by omega)]) (fun b => by rw [hU, u_ne (by omega)])
    obtain ⟨s2, u2, b1, b2, b3, b4, b5, b6⟩ := both_adv hw
    obtain ⟨v, w, s3, u3, d1, d2, ⟨d3, d4, d5⟩, d6⟩ := tk_num (Or.inl b3) (lo := 0) (hi := 16) (by omega) (by omega)
    have f2 : ∀ a b, a ≠ 11 → s2 a b = S a b := fun a b z => b5 a b (fun y => z y.1)
    have f3 : ∀ a b, a ≠ 11 → s3 a b = S a b := fun a b z => by rw [d4 a b (fun y => z y.1), f2 a b z]
    have g3 : ∀ a b, ¬ (a = 155 ∧ 12 ≤ b ∧ b ≤ 19) → u3 a b = U a b := fun a b z => by rw [d5 a b z, b6 a b z]
    have s0 : S 13 0 = 11 := by rw [hS, u_ne (by omega)]; exact a0
    have t0 : s2 13 0 = 11 := by rw [f2 _ _ (by omega)]; exact s0
    have t1 : s2 13 1 = B := by rw [f2 _ _ (by omega), hS, u_ne (by omega)]; exact a1
    have se : ∀ a b, a ≠ 11 → ¬ (a = 13 ∧ b = 3) → ¬ (a = B ∧ b = 1) → jup s3 B 1 v a b = s a b := fun a b z1 z2 z3 => by rw [u_ne z3, f3 a b z1, hS, u_ne z2]
    have ue : ∀ a b, a ≠ 155 → ¬ (a = 160 ∧ b = 1528) → jup u3 160 1528 w a b = u a b := fun a b z1 z2 => by rw [u_ne z2, g3 a b (fun y => z1 y.1), hU, u_ne (fun y => z1 y.1)]
    refine ⟨jup s3 B 1 v, jup u3 160 1528 w, ?_, ?_, ⟨?_, ?_⟩, ?_⟩
    · rw [Sr_takeOdds, q, if_pos (by decide), ← hS, s0, if_pos jok5, b1, jb_t, t0, t1, if_pos ⟨jok3 hB, jok5⟩, d1, jb_t]
    · rw [Md_readOnce, a4, (has_eq a2 a3).2, jb_t, q, if_pos (by decide), Md_readOnce_20, if_neg (u12 h.2.2), a4, q, ior4 a2, ← hU, b2, jb_t, d2, jb_t]
      rfl
    · rw [hS] at b5
      exact ((((EX.rf _ _).up (Or.inr (Or.inl ⟨rfl, Or.inr rfl⟩))).tr (rC_rS b5)).tr (rC_rS d4)).up (Or.inr (Or.inr ⟨by omega, by omega⟩))
    · rw [hU] at b6
      exact ((((EX.rf _ _).up (Or.inl ⟨rfl, Or.inr rfl⟩)).tr (rD_rQ b6)).tr (rD_rQ d5)).up (Or.inr (Or.inl ⟨rfl, by omega⟩))
    · rcases d3 with ⟨d3, d7⟩ | d3
      · obtain ⟨e1, e2, e3⟩ := d6 d3
        refine Or.inl ⟨TW_ex d3 (fun b => u_ne (by omega)) (fun b => u_ne (by omega)) (fun b _ => u_ne (by omega)) (fun b => u_ne (by omega)), ⟨⟨?_, ?_, ?_, ?_, ?_⟩, RHd_of r2 1 1528 (Or.inr (Or.inl ⟨rfl, rfl, ?_⟩)) ?_ (fun b _ _ z => se _ _ (by omega) (by omega) (by omega)) (fun o _ _ z => ue _ _ (by omega) (by omega)), RNm_fr r3 (se _ _ (by omega) (by omega) (by omega)) (fun a b _ _ => se _ _ (by omega) (by omega) (by omega)) (fun o _ _ => ue _ _ (by omega) (by omega)) (fun i => ue _ _ (by omega) (by omega)), RSt_fr r4 bd.2.1.2 (fun a b _ _ => se _ _ (by omega) (by omega) (by omega)) (ue _ _ (by omega) (by omega)) (fun o _ _ => ue _ _ (by omega) (by omega)), RMo_fr r5 bd.2.2.2.1.2 (fun a b _ _ => se _ _ (by omega) (by omega) (by omega)) (ue _ _ (by omega) (by omega)) (by rw [ue _ _ (by omega) (by omega)]; omega) (fun o _ _ => ue _ _ (by omega) (by omega)), RWk_fr r6 bd.2.2.2.2.2 (fun b => se _ _ (by omega) (by omega) (by omega)) (ue _ _ (by omega) (by omega)) (by rw [ue _ _ (by omega) (by omega)]; omega) (fun o _ _ => ue _ _ (by omega) (by omega)), RZe_fr r7 (se _ _ (by omega) (by omega) (by omega)) (se _ _ (by omega) (by omega) (by omega)) (fun o _ => ue _ _ (by omega) (by omega))⟩, ?_⟩
        · rw [se _ _ (by omega) (by omega) (by omega)]; exact a0
        · rw [se _ _ (by omega) (by omega) (by omega)]; exact a1
        · rw [se _ _ (by omega) (by omega) (by omega)]; exact a2
        · right; rw [u_ne (by omega), f3 _ _ (by omega), hS, u_eq ⟨rfl, rfl⟩]
        · rw [u_ne (by omega), g3 _ _ (by omega), hU, u_eq ⟨rfl, rfl⟩, se 13 2 (by omega) (by omega) (by omega), u_ne (by omega), f3 _ _ (by omega), hS, u_eq ⟨rfl, rfl⟩]
        · rw [u_eq ⟨rfl, rfl⟩]; omega
        · rw [u_eq ⟨rfl, rfl⟩, u_eq ⟨rfl, rfl⟩]; exact e1
        · rw [u_ne (by omega)]
          have : S 11 2 = s 11 2 := by rw [hS, u_ne (by omega)]
          omega
      · refine Or.inr ⟨BD_ex d3 (fun b => u_ne (by omega)) (fun b => u_ne (by omega)) ⟨u_ne (by omega), u_ne (by omega)⟩, ?_⟩
        unfold SV at *
        rw [se 13 0 (by omega) (by omega) (by omega), se 13 1 (by omega) (by omega) (by omega), se B 8 (by omega) (by omega) (by omega), se B 4 (by omega) (by omega) (by omega), se B 5 (by omega) (by omega) (by omega), se B 6 (by omega) (by omega) (by omega)]
        exact sv
  · have q1 : s 13 3 = 1 := a3.resolve_left q
    have k4 := TK_kw h.1 (by omega)
    obtain ⟨s', u', b1, b2, b3, b4⟩ := fault_PO hb (c := 5) (by omega) h (by omega) hr0
    refine ⟨s', u', ?_, ?_, b4⟩
    · rw [Sr_takeOdds, q1, if_neg (by decide), a0, if_pos jok5, b1, jb_t]
    · rw [Md_readOnce, a4, (has_eq a2 a3).2, jb_t, q1, if_neg (by decide), b2, jb_t, Md_readOnce_20, if_pos (bd12 b3)]
