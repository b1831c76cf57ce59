/-! the library's own calls, and one straight instruction whatever it is -/
def jlibw : List (Nat × Cond) := []
theorem jcat_eq {G : jG} (r : List jV) : ((r.map (jval G)).map fun v => v.category).sum = jcat r := by
  simp only [jcat, List.map_map]
  refine congrArg List.sum (List.map_congr_left fun v _ => ?_)
  show (jval G v).category = _
  by_cases h : v.1 = 1
  · rw [(jval_cat G v).mpr h, h]; rfl
  · rw [jval_cat1 h]
    have : Nat.beq v.1 1 = false := by
      cases hb : Nat.beq v.1 1 with
      | true => exact absurd (Nat.eq_of_beq_eq_true hb) h
      | false => rfl
    rw [this]; rfl
theorem jin_max1 : Cond.static Lib.Math.max.name ∈ jT := of_decide_eq_true (by decide +kernel)
theorem jin_max2 : Cond.code Lib.Math.max.name Lib.Math.max.code 2 (some .int) ∈ jT := of_decide_eq_true (by decide +kernel)
theorem jin_min1 : Cond.static Lib.Math.min.name ∈ jT := of_decide_eq_true (by decide +kernel)
theorem jin_min2 : Cond.code Lib.Math.min.name Lib.Math.min.code 2 (some .int) ∈ jT := of_decide_eq_true (by decide +kernel)
theorem jin_abs1 : Cond.static Lib.MathLoose.abs_long.x ∈ jT := of_decide_eq_true (by decide +kernel)
theorem jin_abs2 : Cond.code Lib.MathLoose.abs_long.x Lib.MathLoose.abs_long.code 2 (some .long) ∈ jT := of_decide_eq_true (by decide +kernel)
theorem jin_math : Cond.initialized "java/lang/Math" ∈ jT := of_decide_eq_true (by decide +kernel)
theorem jin_cp1 : Cond.native arraycopyName ∈ jT := of_decide_eq_true (by decide +kernel)
theorem jin_cp2 : Cond.static arraycopyName ∈ jT := of_decide_eq_true (by decide +kernel)
theorem jin_cp3 : Cond.initialized "java/lang/System" ∈ jT := of_decide_eq_true (by decide +kernel)
section JR
variable {S : jS} {d : Nat} {p : Program} {l : Launch} {e : Env} {R : Room} {s : State} {m : MethodId} {args : Array Value} {below : List Frame} {meth : Method} {cd : Code} {cells slots : Nat} {Q : State → Prop} {G : jG} {c c' : jC} {n : Nat} {g : List Prop}
theorem jr_math2 {f : Int → Int → Int} (hr : ∀ (a b : Int) (ls : Array Slot) (H : Heap) (locs : List Loc) (rest : List Value), ls.size = S.2.2.1 → (rest.map fun v => v.category).sum ≤ 8 → W p l e R s m args below meth cd H locs cells slots Q (F0 m (c.1 + n) ls (jval G (0, f a b) :: rest)) → W p l e R s m args below meth cd H locs cells slots Q (F0 m c.1 ls (jval G (0, b) :: jval G (0, a) :: rest))) (h : jmath2 c n f = some (g, c')) (k : jGo S p l e R s m args below meth cd cells slots Q G c') : jGo S p l e R s m args below meth cd cells slots Q G c := by
  obtain ⟨pc, L, st, σ⟩ := c
  unfold jmath2 at h
  dsimp only at h hr
  split at h
  · rename_i b a r
    by_cases hb : (Nat.beq 0 b.1 && Nat.beq 0 a.1 && Nat.ble (jcat r) 8) = true
    · rw [hb] at h
      simp only [cond_true, Option.some.injEq, Prod.mk.injEq] at h
      obtain ⟨-, rfl⟩ := h
      simp only [Bool.and_eq_true] at hb
      obtain ⟨tb, b⟩ := b
      obtain ⟨ta, a⟩ := a
      have e1 := Nat.eq_of_beq_eq_true hb.1.1
      have e2 := Nat.eq_of_beq_eq_true hb.1.2
      subst e1; subst e2
      intro ls H locs h1 h2 h3 h4
      exact hr a b ls H locs _ h1.2.1.1 (by rw [jcat_eq]; exact Nat.ble_eq.mp hb.2) (k ls H locs h1 (fun w hw => (List.mem_cons.mp hw).elim (fun q => q ▸ jvok_0 _) (fun hw => h2 w (List.mem_cons_of_mem _ (List.mem_cons_of_mem _ hw)))) h3 h4)
    · rw [Bool.not_eq_true] at hb
      rw [hb] at h
      cases h
  · cases h
theorem jr_mathL {i pos : Nat} (C : jat S d p R s m args cd cells slots G) (h1d : 1 ≤ d) (hd : decode S.2.1 c.1 = .ok (.invokestatic i, 3)) (hk : jw pos (.methodLink S.1.cls i Lib.MathLoose.abs_long.x) = true) (h : jmathL c 3 = some (g, c')) (k : jGo S p l e R s m args below meth cd cells slots Q G c') : jGo S p l e R s m args below meth cd cells slots Q G c := by
  obtain ⟨hx, hb, hml, hown, hts, hG, hC, hf, hlo, hce, hsl⟩ := C
  obtain ⟨pc, L, st, σ⟩ := c
  unfold jmathL at h
  dsimp only at h hd
  split at h
  · rename_i a r
    by_cases hz : (Nat.beq 1 a.1 && Nat.ble (jcat r) 8) = true
    · rw [hz] at h
      simp only [cond_true, Option.some.injEq, Prod.mk.injEq] at h
      obtain ⟨-, rfl⟩ := h
      simp only [Bool.and_eq_true] at hz
      obtain ⟨ta, a⟩ := a
      have e1 := Nat.eq_of_beq_eq_true hz.1
      subst e1
      intro ls H locs h1 h2 h3 h4
      have h9 : ((r.map (jval G)).map fun v => v.category).sum ≤ 8 := by rw [jcat_eq]; exact Nat.ble_eq.mp hz.2
      refine va_mabs_long hx hb (by rw [hml]; exact h1.2.1.1.symm) hown (hts _ (jw_mem hk)) (hts _ jin_abs1) (hts _ jin_math) (hts _ jin_abs2) (by omega) (by omega) hce hsl hd ?_
      have k2 := k ls H locs h1 (fun w hw => (List.mem_cons.mp hw).elim (fun q => q ▸ jvok_1 _) (fun hw => h2 w (List.mem_cons_of_mem _ hw))) h3 h4
      rw [← o64_abs]
      exact k2
    · rw [Bool.not_eq_true] at hz
      rw [hz] at h
      cases h
  · cases h
theorem jr_copy {i pos : Nat} (C : jat S d p R s m args cd cells slots G) (h1d : 1 ≤ d) (hd : decode S.2.1 c.1 = .ok (.invokestatic i, 3)) (hk : jw pos (.methodLink S.1.cls i arraycopyName) = true) (h : jcopy c 3 = some (g, c')) (hg : ∀ x ∈ g, x) (k : jGo S p l e R s m args below meth cd cells slots Q G c') : jGo S p l e R s m args below meth cd cells slots Q G c := by
  obtain ⟨hx, hb, hml, hown, hts, hG, hC, hf, hlo, hce, hsl⟩ := C
  obtain ⟨pc, L, st, σ⟩ := c
  unfold jcopy at h
  dsimp only at h hd
  split at h
  · rename_i mm dp b sp a r
    obtain ⟨tm, mm⟩ := mm
    obtain ⟨tdp, dp⟩ := dp
    obtain ⟨tb, b⟩ := b
    obtain ⟨tsp, sp⟩ := sp
    obtain ⟨ta, a⟩ := a
    by_cases hz : (Nat.beq 0 tm && Nat.beq 0 tdp && Nat.beq 0 tsp && Nat.beq (jelt ta) (jelt tb) && Nat.ble (jelt ta) 1 && Nat.ble (jcat r) 8) = true
    · rw [hz] at h
      simp only [cond_true, Option.some.injEq, Prod.mk.injEq] at h
      obtain ⟨rfl, rfl⟩ := h
      simp only [Bool.and_eq_true] at hz
      obtain ⟨⟨⟨⟨⟨z1, z2⟩, z3⟩, z4⟩, z5⟩, z6⟩ := hz
      have e1 := Nat.eq_of_beq_eq_true z1
      have e2 := Nat.eq_of_beq_eq_true z2
      have e3 := Nat.eq_of_beq_eq_true z3
      have e4 := Nat.eq_of_beq_eq_true z4
      have e5 := Nat.ble_eq.mp z5
      have e6 := Nat.ble_eq.mp z6
      subst e1; subst e2; subst e3
      have hin : 0 ≤ w32 sp ∧ 0 ≤ w32 dp ∧ 0 ≤ w32 mm ∧ w32 sp + w32 mm ≤ jlen ta σ ∧ w32 dp + w32 mm ≤ jlen tb σ := hg _ List.mem_cons_self
      intro ls H locs h1 h2 h3 h4
      have hva := h2 _ (List.mem_cons_of_mem _ (List.mem_cons_of_mem _ (List.mem_cons_of_mem _ (List.mem_cons_of_mem _ List.mem_cons_self))))
      have hvb := h2 _ (List.mem_cons_of_mem _ (List.mem_cons_of_mem _ List.mem_cons_self))
      obtain ⟨a0, xa, rfl, haa, hea⟩ := jelt_k (show jelt ta ≤ 3 by omega)
      obtain ⟨b0, xb, rfl, hab, heb⟩ := jelt_k (show jelt tb ≤ 3 by omega)
      obtain ⟨q3, q5, q1, hcella, t1, ht1⟩ := jr_cellA (σ := σ) hG hva haa
      obtain ⟨u3, u5, u1, hcellb, t2, ht2⟩ := jr_cellA (σ := σ) hG hvb hab
      have u4 := (jvok_k hvb).2.2.2.1
      rw [jlen_k haa, jlen_k hab] at hin
      have h9 : ((r.map (jval G)).map fun v => v.category).sum ≤ 8 := by rw [jcat_eq]; exact e6
      have n1 : ¬ Int32.ofInt sp < 0 := by rw [o32_lt0]; omega
      have n2 : ¬ Int32.ofInt dp < 0 := by rw [o32_lt0]; omega
      have n3 : ¬ Int32.ofInt mm < 0 := by rw [o32_lt0]; omega
      have hloc : ((r.map (jval G)).map fun v => v.category).sum + (nativeFrameWords "java/lang/System" "arraycopy" 5 + 11) ≤ R.locals := by
        have : nativeFrameWords "java/lang/System" "arraycopy" 5 = 7 := by decide +kernel
        omega
      show W p l e R s m args below meth cd H locs cells slots Q (F0 m pc ls (.int (Int32.ofInt mm) :: .int (Int32.ofInt dp) :: jval G (4 + b0, b) :: .int (Int32.ofInt sp) :: jval G (4 + a0, a) :: r.map (jval G)))
      rw [jval_r, jval_r]
      have fin : ∀ (H1 : Heap) (locs1 : List Loc) (ee : va_E), jcell G (jcp σ a (w32 sp) b (w32 dp) (w32 mm)) b.toNat = ee → va_P (gD G) jcl ((jW G σ).set b.toNat (gad G b.toNat, ee)) H1 → va_S (gA G) s.heap H1 locs1 → W p l e R s m args below meth cd H1 locs1 cells slots Q (F0 m (pc + 3) ls (r.map (jval G))) := by
        intro H1 locs1 ee hee hP1 hS1
        rw [jW_set (t := jcp σ a (w32 sp) b (w32 dp) (w32 mm)) u3 hee (fun j hj => (jcp_ne (by omega)).symm)] at hP1
        exact k ls H1 locs1 h1 (fun w hw => h2 w (List.mem_cons_of_mem _ (List.mem_cons_of_mem _ (List.mem_cons_of_mem _ (List.mem_cons_of_mem _ (List.mem_cons_of_mem _ hw)))))) (jWd_set hP1 u1 (fun a ha => jcp_ne ha) h3) hS1
      have hcp : ∀ j : Nat, jcp σ a (w32 sp) b (w32 dp) (w32 mm) b j = if (w32 dp).toNat ≤ j ∧ j < (w32 dp).toNat + (w32 mm).toNat then σ a (((w32 sp).toNat + (j - (w32 dp).toNat) : Nat) : Int) else σ b j := by
        intro j
        simp only [jcp]
        by_cases hj : (w32 dp).toNat ≤ j ∧ j < (w32 dp).toNat + (w32 mm).toNat
        · rw [if_pos hj, if_pos ⟨trivial, by omega, by omega⟩]
          congr 1
          omega
        · rw [if_neg hj, if_neg (by intro q; omega)]
      by_cases e0 : xa.1 = 0
      · have e0b : xb.1 = 0 := by omega
        rw [jco_0 (Or.inl e0)] at hcella
        rw [jco_0 (Or.inl e0b)] at hcellb
        have ht3 : (gtys G)[t1]? = some (gcA G a.toNat, .int) := by rw [ht1]; simp only [jety, e0]
        have ht4 : (gtys G)[t2]? = some (gcA G b.toNat, .int) := by rw [ht2]; simp only [jety, e0b]
        refine va_copyi hx hb (by rw [hml]; exact h1.2.1.1.symm) hown (hts _ (jw_mem hk)) (hts _ jin_cp1) (hts _ jin_cp2) (hts _ jin_cp3) hC.2.1 h3.1 (jW_D hG σ) h4 a.toNat b.toNat t1 t2 hcella hcellb ht3 ht4 rfl n1 n2 n3 (by rw [o32_cl, o32_cl]; omega) (by rw [o32_cl, o32_cl]; omega) (fun _ _ => rfl) (by omega) hloc hd (fun H1 locs1 hP1 hD1 hS1 => ?_)
        refine fin H1 locs1 _ ?_ hP1 hS1
        rw [jcell_a u4 hab, jco_0 (Or.inl e0b), u5]
        refine congrArg (fun z => Sum.inl (gcA G b.toNat, xb.2.1, Sum.inl z)) (funext fun j => ?_)
        rw [hcp, va_cpy, o32_cl, o32_cl, o32_cl]
        split <;> rfl
      · have e0 : xa.1 = 1 := by omega
        have e0b : xb.1 = 1 := by omega
        rw [jco_1 e0] at hcella
        rw [jco_1 e0b] at hcellb
        have ht3 : (gtys G)[t1]? = some (gcA G a.toNat, .long) := by rw [ht1]; simp only [jety, e0]
        have ht4 : (gtys G)[t2]? = some (gcA G b.toNat, .long) := by rw [ht2]; simp only [jety, e0b]
        refine va_copyl hx hb (by rw [hml]; exact h1.2.1.1.symm) hown (hts _ (jw_mem hk)) (hts _ jin_cp1) (hts _ jin_cp2) (hts _ jin_cp3) hC.2.1 h3.1 (jW_D hG σ) h4 a.toNat b.toNat t1 t2 hcella hcellb ht3 ht4 rfl n1 n2 n3 (by rw [o32_cl, o32_cl]; omega) (by rw [o32_cl, o32_cl]; omega) (fun _ _ => rfl) (by omega) hloc hd (fun H1 locs1 hP1 hD1 hS1 => ?_)
        refine fin H1 locs1 _ ?_ hP1 hS1
        rw [jcell_a u4 hab, jco_1 e0b, u5]
        refine congrArg (fun z => Sum.inl (gcA G b.toNat, xb.2.1, Sum.inr (Sum.inl z))) (funext fun j => ?_)
        rw [hcp, va_cpy, o32_cl, o32_cl, o32_cl]
        split <;> rfl
    · rw [Bool.not_eq_true] at hz
      rw [hz] at h
      cases h
  · cases h
end JR
