/-! a mould of a see -/
theorem moV_o {s : jM} {k a b : Int} (h : a ≠ k ∧ a ≠ k + 1) : moV s k a b = s a b := by
  unfold moV
  rw [f_out (by omega), u_ne (by omega), u_ne (by omega), u_ne (by omega), u_ne (by omega)]
theorem moV_k {s : jM} {k b : Int} (h : 3 ≤ b ∧ b ≤ 6) : moV s k k b = 0 := by
  unfold moV
  rw [f_out (by omega)]
  simp only [jup_at]
  split
  · rfl
  · split
    · rfl
    · split
      · rfl
      · split
        · rfl
        · omega
theorem moV_p {s : jM} {k b : Int} (h : 0 ≤ b ∧ b < 5) : moV s k (k + 1) b = 0 := by
  unfold moV
  rw [f_in (by omega)]
theorem mould_end {B i v1 v2 v3 : Int} (hB : B = 30 ∨ B = 55) {s u s' u' : jM} (hr : RDs B s u) (hj : u 160 1526 = i) (hl : 0 ≤ i ∧ i < 5) (b1 : 1 ≤ v1 ∧ v1 ≤ 30) (b2 : 1 ≤ v2 ∧ v2 ≤ 9) (b3 : 0 ≤ v3 ∧ v3 < u 160 1525) (F : ∀ a b, a ≠ 11 → ¬ nmc B (s B 8) a b → ¬ (a = B + (15 + 2 * i) ∨ a = B + (16 + 2 * i)) → ¬ (a = B ∧ b = 6) → s' a b = s a b) (c0 : s' (B + (15 + 2 * i)) 0 = v1) (c1 : s' (B + (15 + 2 * i)) 1 = v2) (c2 : s' (B + (15 + 2 * i)) 2 = v3) (c3 : ∀ b, 3 ≤ b → b ≤ 7 → s' (B + (15 + 2 * i)) b = 0) (c5 : ∀ b, 0 ≤ b → b < 5 → s' (B + (16 + 2 * i)) b = 0) (c4 : s' B 6 = i + 1) (G : ∀ a b, a ≠ 155 → ¬ (a = 163 ∧ b = 64 + nfr 2 + i) → ¬ (a = 160 ∧ (b = 1578 + i ∨ b = 1583 + i ∨ b = 1588 + i ∨ b = 1526)) → u' a b = u a b) (g25 : u' 155 25 = u 155 25) (d1 : u' 160 (1578 + i) = v1) (d2 : u' 160 (1583 + i) = v2) (d3 : u' 160 (1588 + i) = v3) (d4 : u' 160 1526 = i + 1) (hn : RNm B s' u') : RDs B s' u' := by
  have bd := RS_b hr
  obtain ⟨r1, r2, r3, r4, r5, r6, r7⟩ := hr
  refine ⟨R13_fr r1 (fun b _ _ => F _ _ (by omega) (by unfold nmc; omega) (by omega) (by omega)) g25, RHd_of r2 6 1526 (Or.inr (Or.inr (Or.inr (Or.inr (Or.inl ⟨rfl, rfl⟩))))) (by rw [c4, d4]) (fun b z1 z2 z => F _ _ (by omega) (by unfold nmc; omega) (by omega) (by omega)) (fun o _ _ z => G _ _ (by omega) (by omega) (by omega)), hn, RSt_fr r4 bd.2.1.2 (fun a b _ _ => F _ _ (by omega) (by unfold nmc; omega) (by omega) (by omega)) (G _ _ (by omega) (by omega) (by omega)) (fun o _ _ => G _ _ (by omega) (by omega) (by omega)), fun k k1 k2 => ?_, RWk_fr r6 bd.2.2.2.2.2 (fun b => F _ _ (by omega) (by unfold nmc; omega) (by omega) (by omega)) (G _ _ (by omega) (by omega) (by omega)) (by rw [G _ _ (by omega) (by omega) (by omega)]; omega) (fun o _ _ => G _ _ (by omega) (by omega) (by omega)), RZe_fr r7 (F _ _ (by omega) (by unfold nmc; omega) (by omega) (by omega)) (F _ _ (by omega) (by unfold nmc; omega) (by omega) (by omega)) (fun o _ => G _ _ (by omega) (by omega) (by omega))⟩
  rw [d4] at k2
  have g5 : u' 160 1525 = u 160 1525 := G _ _ (by omega) (by omega) (by omega)
  by_cases z : k = i
  · subst z
    rw [c0, c1, c2, d1, d2, d3, g5]
    exact ⟨⟨rfl, rfl, rfl⟩, by omega, c3, c5⟩
  · obtain ⟨h1, h2, h3, h4⟩ := r5 k k1 (by omega)
    refine ⟨?_, ?_, fun b y1 y2 => ?_, fun b y1 y2 => ?_⟩
    · rw [F (B + (15 + 2 * k)) 0 (by omega) (by unfold nmc; omega) (by omega) (by omega), F (B + (15 + 2 * k)) 1 (by omega) (by unfold nmc; omega) (by omega) (by omega), F (B + (15 + 2 * k)) 2 (by omega) (by unfold nmc; omega) (by omega) (by omega), G 160 (1578 + k) (by omega) (by omega) (by omega), G 160 (1583 + k) (by omega) (by omega) (by omega), G 160 (1588 + k) (by omega) (by omega) (by omega)]
      exact h1
    · rw [g5, G 160 (1578 + k) (by omega) (by omega) (by omega), G 160 (1583 + k) (by omega) (by omega) (by omega), G 160 (1588 + k) (by omega) (by omega) (by omega)]
      exact h2
    · rw [F _ _ (by omega) (by unfold nmc; omega) (by omega) (by omega)]; exact h3 b y1 y2
    · rw [F _ _ (by omega) (by unfold nmc; omega) (by omega) (by omega)]; exact h4 b y1 y2
theorem sr_mould {B : Int} (hB : B = 30 ∨ B = 55) {s u : jM} (h : TW s u) (hr : RDs B s u) (hk : s 11 5 = 9) : ∃ s' u', Sr_takeMould 13 (s B 6) s = some (0, s') ∧ Md_readMould 155 u = some (0, u') ∧ PO B s u s' u' := by
  have hb : 20 ≤ B := by omega
  have bd := RS_b hr
  have sv := RS_SV hr
  have hr0 := hr
  obtain ⟨r1, r2, r3, r4, r5, r6, r7⟩ := hr
  obtain ⟨a0, a1, a2, a3, a4⟩ := r1
  obtain ⟨i, hi⟩ : ∃ i, i = s B 6 := ⟨_, rfl⟩
  have c4 : u 160 1526 = i := by rw [hi]; exact r2.2.2.2.2.2.2.2.2.2.2.1.symm
  rw [← hi]
  by_cases q : i < 5
  · have ii : 0 ≤ i ∧ i < 5 := by omega
    have iw : w32 i = i := w32_id (by omega) (by omega)
    obtain ⟨M, hM⟩ : ∃ M, M = B + (15 + 2 * i) := ⟨_, rfl⟩
    have eM : B + 4 + 11 + 2 * i = M := by omega
    have eM1 : M + 1 = B + (16 + 2 * i) := by omega
    have Mr : B + 15 ≤ M ∧ M ≤ B + 23 := by omega
    obtain ⟨S1, hS1⟩ : ∃ S1, S1 = jup (moV s M) M 7 0 := ⟨_, rfl⟩
    have F1 : ∀ a b, a ≠ M → a ≠ M + 1 → S1 a b = s a b := fun a b z1 z2 => by rw [hS1, u_ne (by omega), moV_o ⟨z1, z2⟩]
    have h1 : TW S1 u := TW_ex h (fun b => F1 _ _ (by omega) (by omega)) (fun b => F1 _ _ (by omega) (by omega)) (fun _ _ => rfl) (fun _ => rfl)
    have hr1 : RDs B S1 u := by
      refine ⟨R13_fr ⟨a0, a1, a2, a3, a4⟩ (fun b _ _ => F1 _ _ (by omega) (by omega)) rfl, RHd_fr r2 (fun b _ _ => F1 _ _ (by omega) (by omega)) (fun _ _ _ => rfl), RNm_fr r3 (F1 _ _ (by omega) (by omega)) (fun a b _ _ => F1 _ _ (by omega) (by omega)) (fun _ _ _ => rfl) (fun _ => rfl), RSt_fr r4 bd.2.1.2 (fun a b _ _ => F1 _ _ (by omega) (by omega)) rfl (fun _ _ _ => rfl), fun k k1 k2 => ?_, RWk_fr r6 bd.2.2.2.2.2 (fun b => F1 _ _ (by omega) (by omega)) rfl (Int.le_refl _) (fun _ _ _ => rfl), RZe_fr r7 (F1 _ _ (by omega) (by omega)) (F1 _ _ (by omega) (by omega)) (fun _ _ => rfl)⟩
      obtain ⟨x1, x2, x3, x4⟩ := r5 k k1 k2
      rw [F1 (B + (15 + 2 * k)) 0 (by omega) (by omega), F1 (B + (15 + 2 * k)) 1 (by omega) (by omega), F1 (B + (15 + 2 * k)) 2 (by omega) (by omega)]
      exact ⟨x1, x2, fun b y1 y2 => by rw [F1 _ _ (by omega) (by omega)]; exact x3 b y1 y2, fun b y1 y2 => by rw [F1 _ _ (by omega) (by omega)]; exact x4 b y1 y2⟩
    obtain ⟨w, s2, s3, u3, d1, d2, p0, p1, d3, f3, g3, g25, d6, d7, n8, d8⟩ := new_both (t := 2) (j := i) (lim := 5) hB h1 hr1 (by omega) c4 rfl ii
    have S18 : S1 B 8 = s B 8 := F1 _ _ (by omega) (by omega)
    rw [S18] at f3
    have m3 : TW s3 u3 ∨ BD s3 u3 := d8.imp (fun z => z.1) id
    obtain ⟨x1, x1e, x1v⟩ := kt_10 s3 u3
    obtain ⟨s4, u4, e1, e2, e3⟩ := tk_word2 m3 (k := 10) (by omega) x1v
    obtain ⟨v5, w5, s5, u5, i1, i2, i3, i4⟩ := tk_num2 (EC_m e3) (lo := 1) (hi := 30) (by omega) (by omega)
    obtain ⟨S5, hS5⟩ : ∃ S5, S5 = jup s5 M 0 v5 := ⟨_, rfl⟩
    have m5 : TW S5 u5 ∨ BD S5 u5 := M_up (EC_m i3) (fun b => by rw [hS5, u_ne (by omega)]) (fun b => by rw [hS5, u_ne (by omega)])
    obtain ⟨x2, x2e, x2v⟩ := kt_11 S5 u5
    obtain ⟨s6, u6, k1, k2, k3⟩ := tk_word2 m5 (k := 11) (by omega) x2v
    obtain ⟨v7, w7, s7, u7, l1, l2, l3, l4⟩ := tk_num2 (EC_m k3) (lo := 1) (hi := 9) (by omega) (by omega)
    obtain ⟨S8, hS8⟩ : ∃ S8, S8 = jup s7 M 1 v7 := ⟨_, rfl⟩
    have m8 : TW S8 u7 ∨ BD S8 u7 := M_up (EC_m l3) (fun b => by rw [hS8, u_ne (by omega)]) (fun b => by rw [hS8, u_ne (by omega)])
    obtain ⟨x3, x3e, x3v⟩ := kt_12 S8 u7
    obtain ⟨s9, u9, o1, o2, o3⟩ := tk_word2 m8 (k := 12) (by omega) x3v
    have f4 : ∀ a b, a ≠ 11 → s4 a b = s3 a b := fun a b z => e3.2.1 a b (fun y => z y.1)
    have f5 : ∀ a b, a ≠ 11 → s5 a b = s3 a b := fun a b z => by rw [i3.2.1 a b (fun y => z y.1), f4 a b z]
    have F5 : ∀ a b, a ≠ 11 → ¬ (a = M ∧ b = 0) → S5 a b = s3 a b := fun a b z y => by rw [hS5, u_ne y, f5 a b z]
    have f6 : ∀ a b, a ≠ 11 → s6 a b = S5 a b := fun a b z => k3.2.1 a b (fun y => z y.1)
    have f7 : ∀ a b, a ≠ 11 → s7 a b = S5 a b := fun a b z => by rw [l3.2.1 a b (fun y => z y.1), f6 a b z]
    have F8 : ∀ a b, a ≠ 11 → ¬ (a = M ∧ (b = 0 ∨ b = 1)) → S8 a b = s3 a b := fun a b z y => by rw [hS8, u_ne (by omega), f7 a b z, F5 a b z (by omega)]
    have f9 : ∀ a b, a ≠ 11 → s9 a b = S8 a b := fun a b z => o3.2.1 a b (fun y => z y.1)
    have g9 : ∀ a b, ¬ (a = 155 ∧ 12 ≤ b ∧ b ≤ 19) → u9 a b = u3 a b := fun a b z => by rw [o3.2.2.1 a b z, l3.2.2.1 a b z, k3.2.2.1 a b z, i3.2.2.1 a b z, e3.2.2.1 a b z]
    have y0 : s3 13 0 = 11 := by rw [f3 _ _ (by omega) (by unfold nmc; omega), F1 _ _ (by omega) (by omega)]; exact a0
    have y1 : s3 13 1 = B := by rw [f3 _ _ (by omega) (by unfold nmc; omega), F1 _ _ (by omega) (by omega)]; exact a1
    have n9 : 0 ≤ s9 B 8 ∧ s9 B 8 ≤ 16 := by rw [f9 _ _ (by omega), F8 _ _ (by omega) (by omega)]; exact n8
    -- the reference's names of places, unchanged
    have back9 : TW s9 u9 → (TW s3 u3 ∧ v5 = w5 ∧ (1 ≤ v5 ∧ v5 ≤ 30) ∧ v7 = w7 ∧ (1 ≤ v7 ∧ v7 ≤ 9) ∧ s3 11 3 ≤ s9 11 3) := fun t9 => by
      obtain ⟨t8, o8⟩ := EC_tw m8 o3 t9
      have t7 : TW s7 u7 := TW_ex t8 (fun b => by rw [hS8, u_ne (by omega)]) (fun b => by rw [hS8, u_ne (by omega)]) (fun _ _ => rfl) (fun _ => rfl)
      obtain ⟨t6, o6⟩ := EC_tw (EC_m k3) l3 t7
      obtain ⟨t5', o5⟩ := EC_tw m5 k3 t6
      have t5 : TW s5 u5 := TW_ex t5' (fun b => by rw [hS5, u_ne (by omega)]) (fun b => by rw [hS5, u_ne (by omega)]) (fun _ _ => rfl) (fun _ => rfl)
      obtain ⟨t4, o4⟩ := EC_tw (EC_m e3) i3 t5
      obtain ⟨t3, o3'⟩ := EC_tw m3 e3 t4
      have z1 := i4 t5
      have z2 := l4 t7
      have e5 : S5 11 3 = s5 11 3 := by rw [hS5, u_ne (by omega)]
      have e8 : S8 11 3 = s7 11 3 := by rw [hS8, u_ne (by omega)]
      exact ⟨t3, z1.1, z1.2, z2.1, z2.2, by omega⟩
    sorry
  · have k4 := TK_kw h.1 (by omega)
    have e6 : i = 5 := by omega
    obtain ⟨s', u', b1, b2, b3, b4⟩ := fault_PO hb (c := 6) (by omega) h (by omega) hr0
    refine ⟨s', u', ?_, ?_, b4⟩
    · rw [Sr_takeMould, e6, if_neg (by decide), a0, if_pos jok5, b1, jb_t]
    · obtain ⟨y1, y1e, -⟩ := kt_10 s' u'
      obtain ⟨y2, y2e, -⟩ := kt_11 s' u'
      obtain ⟨y3, y3e, -⟩ := kt_12 s' u'
      rw [Md_readMould, readNew_full (t := 2) (by omega) (by show u 160 1526 = 5; omega) b2 b3, jb_t, y1e, jb_t, behind_bd b3, jb_t, y2e, jb_t, behind_bd b3, jb_t, y3e, jb_t, must_bd b3, jb_t, readTold_bd b3, jb_t, if_pos (bd12 b3)]
