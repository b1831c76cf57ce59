/-! a mould of a see -/
theorem moV_o {s : jM} {k a b : Int} (h : a ≠ k ∧ a ≠ k + 1) : moV s k a b = s a b := by
  unfold moV
  rw [f_out (by omega), u_ne (by omega), u_ne (by omega), u_ne (by omega), u_ne (by omega)]
theorem moV_k {s : jM} {k b : Int} (h : 3 ≤ b ∧ b ≤ 6) : moV s k k b = 0 := by
  unfold moV
  rw [f_out (by omega)]
  rcases (by omega : b = 3 ∨ b = 4 ∨ b = 5 ∨ b = 6) with q | q | q | q <;> subst q
  · rw [u_ne (by omega), u_ne (by omega), u_ne (by omega), u_eq ⟨rfl, rfl⟩]
  · rw [u_ne (by omega), u_ne (by omega), u_eq ⟨rfl, rfl⟩]
  · rw [u_ne (by omega), u_eq ⟨rfl, rfl⟩]
  · rw [u_eq ⟨rfl, rfl⟩]
theorem moV_p {s : jM} {k b : Int} (h : 0 ≤ b ∧ b < 5) : moV s k (k + 1) b = 0 := by
  unfold moV
  rw [f_in (by omega)]
theorem mould_end {B i v1 v2 v3 : Int} (hB : B = 30 ∨ B = 55) {s u s' u' : jM} (hr : RDs B s u) (hj : u 160 1526 = i) (hl : 0 ≤ i ∧ i < 5) (b1 : 1 ≤ v1 ∧ v1 ≤ 30) (b2 : 1 ≤ v2 ∧ v2 ≤ 9) (b3 : 0 ≤ v3 ∧ v3 < u 160 1525) (F : ∀ a b, a ≠ 11 → ¬ nmc B (s B 8) a b → ¬ (a = B + (15 + 2 * i) ∨ a = B + (16 + 2 * i)) → ¬ (a = B ∧ b = 6) → s' a b = s a b) (c0 : s' (B + (15 + 2 * i)) 0 = v1) (c1 : s' (B + (15 + 2 * i)) 1 = v2) (c2 : s' (B + (15 + 2 * i)) 2 = v3) (c3 : ∀ b, 3 ≤ b → b ≤ 7 → s' (B + (15 + 2 * i)) b = 0) (c5 : ∀ b, 0 ≤ b → b < 5 → s' (B + (16 + 2 * i)) b = 0) (c4 : s' B 6 = i + 1) (G : ∀ a b, a ≠ 155 → ¬ (a = 163 ∧ b = 64 + nfr 2 + i) → ¬ (a = 160 ∧ (b = 1578 + i ∨ b = 1583 + i ∨ b = 1588 + i ∨ b = 1526)) → u' a b = u a b) (g25 : u' 155 25 = u 155 25) (d1 : u' 160 (1578 + i) = v1) (d2 : u' 160 (1583 + i) = v2) (d3 : u' 160 (1588 + i) = v3) (d4 : u' 160 1526 = i + 1) (hn : RNm B s' u') : RDs B s' u' := by
  have bd := RS_b hr
  obtain ⟨r1, r2, r3, r4, r5, r6, r7⟩ := hr
  refine ⟨R13_fr r1 (fun b _ _ => F _ _ (by omega) (by unfold nmc; omega) (by omega) (by omega)) g25, RHd_of r2 6 1526 (Or.inr (Or.inr (Or.inr (Or.inr (Or.inl ⟨rfl, rfl⟩))))) (by rw [c4, d4]) (fun b z1 z2 z => F _ _ (by omega) (by unfold nmc; omega) (by omega) (by omega)) (fun o _ _ z => G _ _ (by omega) (by omega) (by omega)), hn, RSt_fr r4 bd.2.1.2 (fun a b _ _ => F _ _ (by omega) (by unfold nmc; omega) (by omega) (by omega)) (G _ _ (by omega) (by omega) (by omega)) (fun o _ _ => G _ _ (by omega) (by omega) (by omega)), fun k k1 k2 => ?_, RWk_fr r6 bd.2.2.2.2.2 (fun b => F _ _ (by omega) (by unfold nmc; omega) (by omega) (by omega)) (G _ _ (by omega) (by omega) (by omega)) (by rw [G _ _ (by omega) (by omega) (by omega)]; omega) (fun o _ _ => G _ _ (by omega) (by omega) (by omega)), RZe_fr r7 (F _ _ (by omega) (by unfold nmc; omega) (by omega) (by omega)) (F _ _ (by omega) (by unfold nmc; omega) (by omega) (by omega)) (fun o _ => G _ _ (by omega) (by omega) (by omega))⟩
  rw [d4] at k2
  have g5 : u' 160 1525 = u 160 1525 := G _ _ (by omega) (by omega) (by omega)
  by_cases z : k = i
  · subst z
    rw [c0, c1, c2, d1, d2, d3, g5]
    exact ⟨⟨rfl, rfl, rfl⟩, by omega, c3, c5⟩
  · obtain ⟨h1, h2, h3, h4⟩ := r5 k k1 (by omega)
    refine ⟨?_, ?_, fun b y1 y2 => ?_, fun b y1 y2 => ?_⟩
    · rw [F (B + (15 + 2 * k)) 0 (by omega) (by unfold nmc; omega) (by omega) (by omega), F (B + (15 + 2 * k)) 1 (by omega) (by unfold nmc; omega) (by omega) (by omega), F (B + (15 + 2 * k)) 2 (by omega) (by unfold nmc; omega) (by omega) (by omega), G 160 (1578 + k) (by omega) (by omega) (by omega), G 160 (1583 + k) (by omega) (by omega) (by omega), G 160 (1588 + k) (by omega) (by omega) (by omega)]
      exact h1
    · rw [g5, G 160 (1578 + k) (by omega) (by omega) (by omega), G 160 (1583 + k) (by omega) (by omega) (by omega), G 160 (1588 + k) (by omega) (by omega) (by omega)]
      exact h2
    · rw [F _ _ (by omega) (by unfold nmc; omega) (by omega) (by omega)]; exact h3 b y1 y2
    · rw [F _ _ (by omega) (by unfold nmc; omega) (by omega) (by omega)]; exact h4 b y1 y2
theorem sr_mould {B : Int} (hB : B = 30 ∨ B = 55) {s u : jM} (h : TW s u) (hr : RDs B s u) (hk : s 11 5 = 9) : ∃ s' u', Sr_takeMould 13 (s B 6) s = some (0, s') ∧ Md_readMould 155 u = some (0, u') ∧ PO B s u s' u' := by
  have hb : 20 ≤ B := by omega
  have bd := RS_b hr
  have sv := RS_SV hr
  have hr0 := hr
  obtain ⟨r1, r2, r3, r4, r5, r6, r7⟩ := hr
  obtain ⟨a0, a1, a2, a3, a4⟩ := r1
  obtain ⟨i, hi⟩ : ∃ i, i = s B 6 := ⟨_, rfl⟩
  have c4 : u 160 1526 = i := by rw [hi]; exact r2.2.2.2.2.2.2.2.2.2.2.1.symm
  rw [← hi]
  by_cases q : i < 5
  · have ii : 0 ≤ i ∧ i < 5 := by omega
    have iw : w32 i = i := w32_id (by omega) (by omega)
    obtain ⟨M, hM⟩ : ∃ M, M = B + (15 + 2 * i) := ⟨_, rfl⟩
    have eM : B + 4 + 11 + 2 * i = M := by omega
    have eM1 : M + 1 = B + (16 + 2 * i) := by omega
    have Mr : B + 15 ≤ M ∧ M ≤ B + 23 := by omega
    obtain ⟨S1, hS1⟩ : ∃ S1, S1 = jup (moV s M) M 7 0 := ⟨_, rfl⟩
    have F1 : ∀ a b, a ≠ M → a ≠ M + 1 → S1 a b = s a b := fun a b z1 z2 => by rw [hS1, u_ne (by omega), moV_o ⟨z1, z2⟩]
    have h1 : TW S1 u := TW_ex h (fun b => F1 _ _ (by omega) (by omega)) (fun b => F1 _ _ (by omega) (by omega)) (fun _ _ => rfl) (fun _ => rfl)
    have hr1 : RDs B S1 u := by
      refine ⟨R13_fr ⟨a0, a1, a2, a3, a4⟩ (fun b _ _ => F1 _ _ (by omega) (by omega)) rfl, RHd_fr r2 (fun b _ _ => F1 _ _ (by omega) (by omega)) (fun _ _ _ => rfl), RNm_fr r3 (F1 _ _ (by omega) (by omega)) (fun a b _ _ => F1 _ _ (by omega) (by omega)) (fun _ _ _ => rfl) (fun _ => rfl), RSt_fr r4 bd.2.1.2 (fun a b _ _ => F1 _ _ (by omega) (by omega)) rfl (fun _ _ _ => rfl), fun k k1 k2 => ?_, RWk_fr r6 bd.2.2.2.2.2 (fun b => F1 _ _ (by omega) (by omega)) rfl (Int.le_refl _) (fun _ _ _ => rfl), RZe_fr r7 (F1 _ _ (by omega) (by omega)) (F1 _ _ (by omega) (by omega)) (fun _ _ => rfl)⟩
      obtain ⟨x1, x2, x3, x4⟩ := r5 k k1 k2
      rw [F1 (B + (15 + 2 * k)) 0 (by omega) (by omega), F1 (B + (15 + 2 * k)) 1 (by omega) (by omega), F1 (B + (15 + 2 * k)) 2 (by omega) (by omega)]
      exact ⟨x1, x2, fun b y1 y2 => by rw [F1 _ _ (by omega) (by omega)]; exact x3 b y1 y2, fun b y1 y2 => by rw [F1 _ _ (by omega) (by omega)]; exact x4 b y1 y2⟩
    obtain ⟨w, s2, s3, u3, d1, d2, p0, p1, d3, f3, g3, g25, d6, d7, n8, d8⟩ := new_both (t := 2) (j := i) (lim := 5) hB h1 hr1 (by omega) c4 rfl ii
    have S18 : S1 B 8 = s B 8 := F1 _ _ (by omega) (by omega)
    rw [S18] at f3
    have m3 : TW s3 u3 ∨ BD s3 u3 := d8.imp (fun z => z.1) id
    obtain ⟨x1, x1e, x1v⟩ := kt_10 s3 u3
    obtain ⟨s4, u4, e1, e2, e3⟩ := tk_word2 m3 (k := 10) (by omega) x1v
    obtain ⟨v5, w5, s5, u5, i1, i2, i3, i4⟩ := tk_num2 (EC_m e3) (lo := 1) (hi := 30) (by omega) (by omega)
    obtain ⟨S5, hS5⟩ : ∃ S5, S5 = jup s5 M 0 v5 := ⟨_, rfl⟩
    have m5 : TW S5 u5 ∨ BD S5 u5 := M_up (EC_m i3) (fun b => by rw [hS5, u_ne (by omega)]) (fun b => by rw [hS5, u_ne (by omega)])
    obtain ⟨x2, x2e, x2v⟩ := kt_11 S5 u5
    obtain ⟨s6, u6, k1, k2, k3⟩ := tk_word2 m5 (k := 11) (by omega) x2v
    obtain ⟨v7, w7, s7, u7, l1, l2, l3, l4⟩ := tk_num2 (EC_m k3) (lo := 1) (hi := 9) (by omega) (by omega)
    obtain ⟨S8, hS8⟩ : ∃ S8, S8 = jup s7 M 1 v7 := ⟨_, rfl⟩
    have m8 : TW S8 u7 ∨ BD S8 u7 := M_up (EC_m l3) (fun b => by rw [hS8, u_ne (by omega)]) (fun b => by rw [hS8, u_ne (by omega)])
    obtain ⟨x3, x3e, x3v⟩ := kt_12 S8 u7
    obtain ⟨s9, u9, o1, o2, o3⟩ := tk_word2 m8 (k := 12) (by omega) x3v
    have f4 : ∀ a b, a ≠ 11 → s4 a b = s3 a b := fun a b z => e3.2.1 a b (fun y => z y.1)
    have f5 : ∀ a b, a ≠ 11 → s5 a b = s3 a b := fun a b z => by rw [i3.2.1 a b (fun y => z y.1), f4 a b z]
    have F5 : ∀ a b, a ≠ 11 → ¬ (a = M ∧ b = 0) → S5 a b = s3 a b := fun a b z y => by rw [hS5, u_ne y, f5 a b z]
    have f6 : ∀ a b, a ≠ 11 → s6 a b = S5 a b := fun a b z => k3.2.1 a b (fun y => z y.1)
    have f7 : ∀ a b, a ≠ 11 → s7 a b = S5 a b := fun a b z => by rw [l3.2.1 a b (fun y => z y.1), f6 a b z]
    have F8 : ∀ a b, a ≠ 11 → ¬ (a = M ∧ (b = 0 ∨ b = 1)) → S8 a b = s3 a b := fun a b z y => by rw [hS8, u_ne (by omega), f7 a b z, F5 a b z (by omega)]
    have f9 : ∀ a b, a ≠ 11 → s9 a b = S8 a b := fun a b z => o3.2.1 a b (fun y => z y.1)
    have g9 : ∀ a b, ¬ (a = 155 ∧ 12 ≤ b ∧ b ≤ 19) → u9 a b = u3 a b := fun a b z => by rw [o3.2.2.1 a b z, l3.2.2.1 a b z, k3.2.2.1 a b z, i3.2.2.1 a b z, e3.2.2.1 a b z]
    have y0 : s3 13 0 = 11 := by rw [f3 _ _ (by omega) (by unfold nmc; omega), F1 _ _ (by omega) (by omega)]; exact a0
    have y1 : s3 13 1 = B := by rw [f3 _ _ (by omega) (by unfold nmc; omega), F1 _ _ (by omega) (by omega)]; exact a1
    have n9 : 0 ≤ s9 B 8 ∧ s9 B 8 ≤ 16 := by rw [f9 _ _ (by omega), F8 _ _ (by omega) (by omega)]; exact n8
    -- the reference's names of places, unchanged
    have back9 : TW s9 u9 → (TW s3 u3 ∧ v5 = w5 ∧ (1 ≤ v5 ∧ v5 ≤ 30) ∧ v7 = w7 ∧ (1 ≤ v7 ∧ v7 ≤ 9) ∧ s3 11 3 ≤ s9 11 3) := fun t9 => by
      obtain ⟨t8, o8⟩ := EC_tw m8 o3 t9
      have t7 : TW s7 u7 := TW_ex t8 (fun b => by rw [hS8, u_ne (by omega)]) (fun b => by rw [hS8, u_ne (by omega)]) (fun _ _ => rfl) (fun _ => rfl)
      obtain ⟨t6, o6⟩ := EC_tw (EC_m k3) l3 t7
      obtain ⟨t5', o5⟩ := EC_tw m5 k3 t6
      have t5 : TW s5 u5 := TW_ex t5' (fun b => by rw [hS5, u_ne (by omega)]) (fun b => by rw [hS5, u_ne (by omega)]) (fun _ _ => rfl) (fun _ => rfl)
      obtain ⟨t4, o4⟩ := EC_tw (EC_m e3) i3 t5
      obtain ⟨t3, o3'⟩ := EC_tw m3 e3 t4
      have z1 := i4 t5
      have z2 := l4 t7
      have e5 : S5 11 3 = s5 11 3 := by rw [hS5, u_ne (by omega)]
      have e8 : S8 11 3 = s7 11 3 := by rw [hS8, u_ne (by omega)]
      exact ⟨t3, z1.1, z1.2, z2.1, z2.2, by omega⟩
    have q9 : s9 13 0 = 11 := by rw [f9 _ _ (by omega), F8 _ _ (by omega) (by omega)]; exact y0
    have q9b : s9 13 1 = B := by rw [f9 _ _ (by omega), F8 _ _ (by omega) (by omega)]; exact y1
    have ca : u3 160 1526 = i := by rw [g3 _ _ (by omega) (by omega)]; exact c4
    have cp : u3 160 1525 = u 160 1525 := g3 _ _ (by omega) (by omega)
    have c9 : u9 160 1525 = u 160 1525 := by rw [g9 _ _ (by omega)]; exact cp
    have hnv : TW s9 u9 → NMv s9 u9 B 4 1 := fun t9 => by
      obtain ⟨t3, -⟩ := back9 t9
      rcases d8 with ⟨-, -, -, d11⟩ | d8
      · refine ⟨jup u9 160 1526 (i + 1), RNm_NMx (d11 s9 _ (by rw [f9 _ _ (by omega), F8 _ _ (by omega) (by omega)]) (fun a b z1 z2 => by rw [f9 _ _ (by omega), F8 _ _ (by omega) (by omega)]) ?_ (fun o z1 z2 z3 => ?_) (fun k => ?_)), u_ne (by omega), fun k => u_ne (by omega), u_ne (by omega)⟩
        · show jup u9 160 1526 (i + 1) 160 1526 = _
          exact u_eq ⟨rfl, rfl⟩
        · rw [u_ne (by omega), g9 _ _ (by omega), g3 _ _ (by omega) (by omega)]
        · rw [u_ne (by omega), g9 _ _ (by omega)]
      · exact absurd t3 (nb_tw d8)
    obtain ⟨v10, w10, s10, u10, n1, n2, n3, n4⟩ := tk_thing2 (B := B) (q := 4) (t := 1) hb (EC_m o3) n9 hnv (by omega) (by omega)
    have f10 : ∀ a b, a ≠ 11 → s10 a b = S8 a b := fun a b z => by rw [n3.2.1 a b (fun y => z y.1), f9 a b z]
    have g10 : ∀ a b, ¬ (a = 155 ∧ 12 ≤ b ∧ b ≤ 19) → u10 a b = u3 a b := fun a b z => by rw [n3.2.2.1 a b z, g9 a b z]
    have s3M : ∀ b, s3 M b = S1 M b := fun b => f3 _ _ (by omega) (by unfold nmc; omega)
    have s3M1 : ∀ b, s3 (M + 1) b = S1 (M + 1) b := fun b => f3 _ _ (by omega) (by unfold nmc; omega)
    have q6 : s10 B 6 = i := by rw [f10 _ _ (by omega), F8 _ _ (by omega) (by omega), f3 _ _ (by omega) (by unfold nmc; omega), F1 _ _ (by omega) (by omega), hi]
    have hcl : Sr_takeMould 13 i s = some (0, jup (jup s10 M 2 v10) B 6 (i + 1)) := by
      have x0 : S1 13 0 = 11 := by rw [F1 _ _ (by omega) (by omega)]; exact a0
      have z0 : s4 13 0 = 11 := by rw [f4 _ _ (by omega)]; exact y0
      have z1 : S5 13 0 = 11 := by rw [F5 _ _ (by omega) (by omega)]; exact y0
      have z2 : s6 13 0 = 11 := by rw [f6 _ _ (by omega)]; exact z1
      have z3 : S8 13 0 = 11 := by rw [F8 _ _ (by omega) (by omega)]; exact y0
      have z4 : jup s10 M 2 v10 13 1 = B := by rw [u_ne (by omega), f10 _ _ (by omega), F8 _ _ (by omega) (by omega)]; exact y1
      have z5 : jup s10 M 2 v10 B 6 = i := by rw [u_ne (by omega)]; exact q6
      rw [Sr_takeMould, iw, if_pos q, a1, if_pos ⟨jok3 hB, ii⟩, eM, Mo_makeVoid_eq, jb_t, ← hS1, x0, if_pos jok5, d1, jb_t, p0, p1, if_pos ⟨jok5, jok3 hB⟩, d2, jb_t, y0, if_pos jok5, e1, jb_t, z0, if_pos jok5, i1, jb_t, ← hS5, z1, if_pos jok5, k1, jb_t, z2, if_pos jok5, l1, jb_t, ← hS8, z3, if_pos jok5, o1, jb_t, q9, q9b, if_pos ⟨jok5, jok3 hB⟩, n1, jb_t, z4, if_pos (jok3 hB), z5]
    have hrf : Md_readMould 155 u = if 0 < (w32 (u10 155 12)) then (some (0, u10)) else (if (0 ≤ (w32 (1578 + w)) ∧ (w32 (1578 + w)) < 1905) ∧ (0 ≤ (w32 (1583 + w)) ∧ (w32 (1583 + w)) < 1905) ∧ (0 ≤ (w32 (1588 + w)) ∧ (w32 (1588 + w)) < 1905) then jm (jup (jup (jup u10 160 (w32 (1578 + w)) w5) 160 (w32 (1583 + w)) w7) 160 (w32 (1588 + w)) w10) fun s9 => some (0, (jup s9 160 1526 ((s9 160 1526) + 1))) else none) := by
      rw [Md_readMould, d3, jb_t, x1e, jb_t, Md_behindWord, e2, jb_t, i2, jb_t, jb_t, x2e, jb_t, Md_behindWord, k2, jb_t, l2, jb_t, jb_t, x3e, jb_t, o2, jb_t, n2, jb_t]
      rfl
    rw [hcl, hrf]
    clear hcl hrf
    have E10 : EX (rS B) s (jup (jup s10 M 2 v10) B 6 (i + 1)) := by
      intro a b z
      unfold rS at z
      rw [u_ne (by omega), u_ne (by omega)]
      by_cases y : a = 11
      · have e1' := n3.2.1 a b (by unfold rC; omega)
        have e2' := o3.2.1 a b (by unfold rC; omega)
        have e3' := l3.2.1 a b (by unfold rC; omega)
        have e4' := k3.2.1 a b (by unfold rC; omega)
        have e5' := i3.2.1 a b (by unfold rC; omega)
        have e6' := e3.2.1 a b (by unfold rC; omega)
        rw [e1', e2', hS8, u_ne (by omega), e3', e4', hS5, u_ne (by omega), e5', e6', d6 a b (by unfold rS; omega), F1 a b (by omega) (by omega)]
      · rw [f10 a b y, F8 a b y (by omega), d6 a b (by unfold rS; omega), F1 a b (by omega) (by omega)]
    have U10 : EX rQ u u10 := (((((d7.tr (rD_rQ e3.2.2.1)).tr (rD_rQ i3.2.2.1)).tr (rD_rQ k3.2.2.1)).tr (rD_rQ l3.2.2.1)).tr (rD_rQ o3.2.2.1)).tr (rD_rQ n3.2.2.1)
    rcases EC_m n3 with t10 | b10
    · obtain ⟨t9, o10⟩ := EC_tw (EC_m o3) n3 t10
      obtain ⟨t3, z1, z2, z3, z4, z5⟩ := back9 t9
      obtain ⟨y3, y4, y5⟩ := n4 t10
      have y5 : v10 < u9 160 1525 := y5
      rw [c9] at y5
      rcases d8 with ⟨d8, d9, d10, d11⟩ | d8
      rotate_left
      · exact absurd t3 (nb_tw d8)
      have u26 : u10 160 1526 = i := by rw [g10 _ _ (by omega)]; exact ca
      rw [if_neg (u12 t10.2.2), d9, w32_id (x := 1578 + i) (by omega) (by omega), w32_id (x := 1583 + i) (by omega) (by omega), w32_id (x := 1588 + i) (by omega) (by omega), if_pos (by omega)]
      show ∃ s' u', some (0, jup (jup s10 M 2 v10) B 6 (i + 1)) = some (0, s') ∧ some ((0 : Int), jup (jup (jup (jup u10 160 (1578 + i) w5) 160 (1583 + i) w7) 160 (1588 + i) w10) 160 1526 (jup (jup (jup u10 160 (1578 + i) w5) 160 (1583 + i) w7) 160 (1588 + i) w10 160 1526 + 1)) = some (0, u') ∧ PO B s u s' u'
      rw [u_ne (by omega), u_ne (by omega), u_ne (by omega), u26]
      refine ⟨_, _, rfl, rfl, ⟨E10, (((U10.up (Or.inr (Or.inl ⟨rfl, by omega⟩))).up (Or.inr (Or.inl ⟨rfl, by omega⟩))).up (Or.inr (Or.inl ⟨rfl, by omega⟩))).up (Or.inr (Or.inl ⟨rfl, by omega⟩))⟩, Or.inl ⟨?_, ?_, ?_⟩⟩
      · exact TW_ex t10 (fun b => by rw [u_ne (by omega), u_ne (by omega)]) (fun b => by rw [u_ne (by omega), u_ne (by omega)]) (fun b _ => by rw [u_ne (by omega), u_ne (by omega), u_ne (by omega), u_ne (by omega)]) (fun b => by rw [u_ne (by omega), u_ne (by omega), u_ne (by omega), u_ne (by omega)])
      · refine mould_end (i := i) (v1 := v5) (v2 := v7) (v3 := v10) hB hr0 c4 ii z2 z4 ⟨y4, y5⟩ (fun a b x1 x2 x3 x4 => ?_) ?_ ?_ ?_ (fun b x1 x2 => ?_) (fun b x1 x2 => ?_) (u_eq ⟨rfl, rfl⟩) (fun a b x1 x2 x3 => ?_) ?_ ?_ ?_ ?_ (u_eq ⟨rfl, rfl⟩) ?_
        · rw [u_ne x4, u_ne (by omega), f10 a b x1, F8 a b x1 (by omega), f3 a b x1 x2, F1 a b (by omega) (by omega)]
        · rw [← hM, u_ne (by omega), u_ne (by omega), f10 _ _ (by omega), hS8, u_ne (by omega), f7 _ _ (by omega), hS5, u_eq ⟨rfl, rfl⟩]
        · rw [← hM, u_ne (by omega), u_ne (by omega), f10 _ _ (by omega), hS8, u_eq ⟨rfl, rfl⟩]
        · rw [← hM, u_ne (by omega), u_eq ⟨rfl, rfl⟩]
        · rw [← hM, u_ne (by omega), u_ne (by omega), f10 _ _ (by omega), F8 _ _ (by omega) (by omega), s3M, hS1]
          by_cases x : b = 7
          · exact u_eq ⟨rfl, x⟩
          · rw [u_ne (by omega)]; exact moV_k (by omega)
        · rw [← eM1, u_ne (by omega), u_ne (by omega), f10 _ _ (by omega), F8 _ _ (by omega) (by omega), s3M1, hS1, u_ne (by omega)]
          exact moV_p ⟨x1, x2⟩
        · rw [u_ne (by omega), u_ne (by omega), u_ne (by omega), u_ne (by omega), g10 a b (fun y => x1 y.1), g3 a b x1 x2]
        · rw [u_ne (by omega), u_ne (by omega), u_ne (by omega), u_ne (by omega), g10 _ _ (by omega)]; exact g25
        · rw [u_ne (by omega), u_ne (by omega), u_ne (by omega), u_eq ⟨rfl, rfl⟩]; exact z1.symm
        · rw [u_ne (by omega), u_ne (by omega), u_eq ⟨rfl, rfl⟩]; exact z3.symm
        · rw [u_ne (by omega), u_eq ⟨rfl, rfl⟩]; exact y3.symm
        · refine d11 _ _ ?_ (fun a b x1 x2 => ?_) ?_ (fun o x1 x2 x3 => ?_) (fun k => ?_)
          · rw [u_ne (by omega), u_ne (by omega), f10 _ _ (by omega), F8 _ _ (by omega) (by omega)]
          · rw [u_ne (by omega), u_ne (by omega), f10 _ _ (by omega), F8 _ _ (by omega) (by omega)]
          · show jup _ 160 1526 (i + 1) 160 1526 = _
            exact u_eq ⟨rfl, rfl⟩
          · rw [u_ne (by omega), u_ne (by omega), u_ne (by omega), u_ne (by omega), g10 _ _ (by omega), g3 _ _ (by omega) (by omega)]
          · rw [u_ne (by omega), u_ne (by omega), u_ne (by omega), u_ne (by omega), g10 _ _ (by omega)]
      · rw [u_ne (by omega), u_ne (by omega)]
        have : S1 11 2 = s 11 2 := F1 _ _ (by omega) (by omega)
        omega
    · rw [if_pos (bd12 (bdb b10))]
      refine ⟨_, _, rfl, rfl, ⟨E10, U10⟩, Or.inr ⟨BD_ex b10 (fun b => by rw [u_ne (by omega), u_ne (by omega)]) (fun b => by rw [u_ne (by omega), u_ne (by omega)]) ⟨rfl, rfl⟩, ?_⟩⟩
      obtain ⟨v0, v1, v8, v4, v5', v6⟩ := sv
      refine ⟨?_, ?_, ?_, ?_, ?_, ?_⟩
      · rw [u_ne (by omega), u_ne (by omega), f10 _ _ (by omega), F8 _ _ (by omega) (by omega)]; exact y0
      · rw [u_ne (by omega), u_ne (by omega), f10 _ _ (by omega), F8 _ _ (by omega) (by omega)]; exact y1
      · rw [u_ne (by omega), u_ne (by omega), f10 _ _ (by omega), F8 _ _ (by omega) (by omega)]; exact n8
      · rw [u_ne (by omega), u_ne (by omega), f10 _ _ (by omega), F8 _ _ (by omega) (by omega), f3 _ _ (by omega) (by unfold nmc; omega), F1 _ _ (by omega) (by omega)]; exact v4
      · rw [u_ne (by omega), u_ne (by omega), f10 _ _ (by omega), F8 _ _ (by omega) (by omega), f3 _ _ (by omega) (by unfold nmc; omega), F1 _ _ (by omega) (by omega)]; exact v5'
      · rw [u_eq ⟨rfl, rfl⟩]; omega
  · have k4 := TK_kw h.1 (by omega)
    have e6 : i = 5 := by omega
    obtain ⟨s', u', b1, b2, b3, b4⟩ := fault_PO hb (c := 6) (by omega) h (by omega) hr0
    refine ⟨s', u', ?_, ?_, b4⟩
    · rw [Sr_takeMould, e6, if_neg (by decide), a0, if_pos jok5, b1, jb_t]
    · obtain ⟨y1, y1e, -⟩ := kt_10 s' u'
      obtain ⟨y2, y2e, -⟩ := kt_11 s' u'
      obtain ⟨y3, y3e, -⟩ := kt_12 s' u'
      rw [Md_readMould, readNew_full (t := 2) (by omega) (by show u 160 1526 = 5; omega) b2 b3, jb_t, y1e, jb_t, behind_bd b3, jb_t, y2e, jb_t, behind_bd b3, jb_t, y3e, jb_t, must_bd b3, jb_t, readTold_bd b3, jb_t, if_pos (bd12 b3)]
