/-! one straight instruction, a row of them -/
def jil : Instr → Nat
  | .bipush _ => 2
  | .sipush _ => 3
  | .ldc _ => 2
  | .ldc_w _ => 3
  | .ldc2_w _ => 3
  | .iload _ => 2
  | .lload _ => 2
  | .aload _ => 2
  | .istore _ => 2
  | .astore _ => 2
  | .lstore _ => 2
  | .iinc _ _ => 3
  | .goto _ => 3
  | .getfield _ => 3
  | .putfield _ => 3
  | .getstatic _ => 3
  | .invokestatic _ => 3
  | .invokevirtual _ => 3
  | .invokespecial _ => 3
  | .if_icmp _ _ => 3
  | .ifCond _ _ => 3
  | _ => 1
def jbk (S : jS) (es : List jE) : Bool := es.all fun e => Nat.beq e.2.2.1 (jil e.2.1) && jeok S e
section JR
variable {S : jS} {d : Nat} {p : Program} {l : Launch} {e : Env} {R : Room} {s : State} {m : MethodId} {args : Array Value} {below : List Frame} {meth : Method} {cd : Code} {cells slots : Nat} {Q : State → Prop} {G : jG} {c c' : jC} {n : Nat} {g : List Prop}
set_option maxHeartbeats 1000000 in
theorem jone (C : jat S (d + 1) p R s m args cd cells slots G) {ins : Instr} {x : jX} (hn : n = jil ins) (hk : jeok S (c.1, ins, n, x) = true) (h : jx ins n x c = some (g, c')) (hg : ∀ x ∈ g, x) (k : jGo S p l e R s m args below meth cd cells slots Q G c') : jGo S p l e R s m args below meth cd cells slots Q G c := by
  have C0 := C
  obtain ⟨hx, hb, hml, hown, hts, hG, hC, hf, hlo, hce, hsl⟩ := C
  simp only [jeok, Bool.and_eq_true, decide_eq_true_eq] at hk
  obtain ⟨hd, hk⟩ := hk
  have hi0 : ∀ t : Nat, Nat.beq 0 t = true → t = 0 := fun t h => (Nat.eq_of_beq_eq_true h).symm
  have hi1 : ∀ t : Nat, Nat.beq 1 t = true → t = 1 := fun t h => (Nat.eq_of_beq_eq_true h).symm
  have hn0 : ∀ t : Nat, Nat.beq 0 t = true → t ≠ 99 := fun t h => by have := hi0 t h; omega
  have hn1 : ∀ t : Nat, Nat.beq 1 t = true → t ≠ 99 := fun t h => by have := hi1 t h; omega
  have hnr : ∀ t : Nat, jref t = true → t ≠ 99 := fun t h => by simp only [jref, Bool.and_eq_true, Nat.ble_eq] at h; omega
  cases ins
  case iconst v => subst hn; exact jr_push (fun ls H locs rest hS kk => lv_iconst hx hb hd rfl kk) (jvok_0 _) h k
  case bipush v => subst hn; exact jr_push (fun ls H locs rest hS kk => lv_bipush hx hb hd (show _ = Int32.ofInt v by rw [o8_i, of_decide_eq_true hk]) kk) (jvok_0 _) h k
  case sipush v => subst hn; exact jr_push (fun ls H locs rest hS kk => lv_sipush hx hb hd (show _ = Int32.ofInt v by rw [o16_i, of_decide_eq_true hk]) kk) (jvok_0 _) h k
  case lconst v => subst hn; exact jr_push (fun ls H locs rest hS kk => lv_lconst hx hb hd (Int64.ofInt_eq_ofNat).symm kk) (jvok_1 _) h k
  case ldc v => subst hn; exact jr_push (fun ls H locs rest hS kk => lv_ldc hx hb hown (hts _ (jw_mem hk)) hd kk) (jvok_0 _) h k
  case ldc_w v => subst hn; exact jr_push (fun ls H locs rest hS kk => lv_ldcw hx hb hown (hts _ (jw_mem hk)) hd kk) (jvok_0 _) h k
  case ldc2_w v => subst hn; exact jr_push (fun ls H locs rest hS kk => lv_ldc2 hx hb hown (hts _ (jw_mem hk)) hd kk) (jvok_1 _) h k
  case iload i => subst hn; exact jr_ld hn0 (fun v ls H locs rest hq hl kk => by
    obtain ⟨t, v⟩ := v
    have := hi0 t hq
    subst this
    exact lv_iload hx hb hd hl kk) h k
  case iload_n i => subst hn; exact jr_ld hn0 (fun v ls H locs rest hq hl kk => by
    obtain ⟨t, v⟩ := v
    have := hi0 t hq
    subst this
    exact lv_iload_n hx hb hd rfl hl kk) h k
  case lload i => subst hn; exact jr_ld hn1 (fun v ls H locs rest hq hl kk => by
    obtain ⟨t, v⟩ := v
    have := hi1 t hq
    subst this
    exact lv_lload hx hb hd hl kk) h k
  case lload_n i => subst hn; exact jr_ld hn1 (fun v ls H locs rest hq hl kk => by
    obtain ⟨t, v⟩ := v
    have := hi1 t hq
    subst this
    exact lv_lload_n hx hb hd rfl hl kk) h k
  case aload i => subst hn; exact jr_ld hnr (fun v ls H locs rest hq hl kk => by
    obtain ⟨a, ha⟩ := jval_ref (G := G) hq
    rw [ha] at hl kk
    exact lv_aload hx hb hd hl kk) h k
  case aload_n i => subst hn; exact jr_ld hnr (fun v ls H locs rest hq hl kk => by
    obtain ⟨a, ha⟩ := jval_ref (G := G) hq
    rw [ha] at hl kk
    exact lv_aload_n hx hb hd rfl hl kk) h k
  case istore i => subst hn; exact jr_st1 (fun v ls H locs rest lv hq hl hi kk => by
    obtain ⟨t, v⟩ := v
    have := hi0 t hq
    subst this
    exact lv_istore hx hb hd hl hi rfl kk) h k
  case istore_n i => subst hn; exact jr_st1 (fun v ls H locs rest lv hq hl hi kk => by
    obtain ⟨t, v⟩ := v
    have := hi0 t hq
    subst this
    exact lv_istore_n hx hb hd rfl hl hi rfl kk) h k
  case astore i => subst hn; exact jr_st1 (fun v ls H locs rest lv hq hl hi kk => by
    obtain ⟨a, ha⟩ := jval_ref (G := G) hq
    rw [ha] at kk ⊢
    exact lv_astore hx hb hd hl hi rfl kk) h k
  case astore_n i => subst hn; exact jr_st1 (fun v ls H locs rest lv hq hl hi kk => by
    obtain ⟨a, ha⟩ := jval_ref (G := G) hq
    rw [ha] at kk ⊢
    exact lv_astore_n hx hb hd rfl hl hi rfl kk) h k
  case lstore i => subst hn; exact jr_st2 (fun v ls H locs rest lv hq hl hi kk => by
    obtain ⟨t, v⟩ := v
    have hq : t = 1 := hq
    subst hq
    exact lv_lstore hx hb hd hl hi rfl kk) h k
  case lstore_n i => subst hn; exact jr_st2 (fun v ls H locs rest lv hq hl hi kk => by
    obtain ⟨t, v⟩ := v
    have hq : t = 1 := hq
    subst hq
    exact lv_lstore_n hx hb hd rfl hl hi rfl kk) h k
  case iinc i z => subst hn; exact jr_inc hx hb hd h k
  case iadd => subst hn; exact jr_bin (Or.inl rfl) (fun a b ls H locs rest kk => lv_iadd hx hb hd (by rw [← Int32.ofInt_add]; exact kk)) h k
  case isub => subst hn; exact jr_bin (Or.inl rfl) (fun a b ls H locs rest kk => lv_isub hx hb hd (by rw [← Int32.ofInt_sub]; exact kk)) h k
  case imul => subst hn; exact jr_bin (Or.inl rfl) (fun a b ls H locs rest kk => lv_imul hx hb hd (by rw [← Int32.ofInt_mul]; exact kk)) h k
  case iand => subst hn; exact jr_bin (Or.inl rfl) (fun a b ls H locs rest kk => lv_iand hx hb hd (by have e9 : Int32.ofInt (jiand a b) = Int32.ofInt a &&& Int32.ofInt b := Int32.ofInt_toInt _; rw [← e9]; exact kk)) h k
  case ior => subst hn; exact jr_bin (Or.inl rfl) (fun a b ls H locs rest kk => lv_ior hx hb hd (by have e9 : Int32.ofInt (jior a b) = Int32.ofInt a ||| Int32.ofInt b := Int32.ofInt_toInt _; rw [← e9]; exact kk)) h k
  case ishl => subst hn; exact jr_bin (Or.inl rfl) (fun a b ls H locs rest kk => lv_ishl hx hb hd (by have e9 : Int32.ofInt (jishl a b) = Int32.ofInt a <<< (Int32.ofInt b &&& 31) := Int32.ofInt_toInt _; rw [← e9]; exact kk)) h k
  case ishr => subst hn; exact jr_bin (Or.inl rfl) (fun a b ls H locs rest kk => lv_ishr hx hb hd (by have e9 : Int32.ofInt (jishr a b) = Int32.ofInt a >>> (Int32.ofInt b &&& 31) := Int32.ofInt_toInt _; rw [← e9]; exact kk)) h k
  case ladd => subst hn; exact jr_bin (Or.inr rfl) (fun a b ls H locs rest kk => lv_ladd hx hb hd (by rw [← Int64.ofInt_add]; exact kk)) h k
  case lsub => subst hn; exact jr_bin (Or.inr rfl) (fun a b ls H locs rest kk => lv_lsub hx hb hd (by rw [← Int64.ofInt_sub]; exact kk)) h k
  case lmul => subst hn; exact jr_bin (Or.inr rfl) (fun a b ls H locs rest kk => lv_lmul hx hb hd (by rw [← Int64.ofInt_mul]; exact kk)) h k
  case land => subst hn; exact jr_bin (Or.inr rfl) (fun a b ls H locs rest kk => lv_land hx hb hd (by have e9 : Int64.ofInt (jland a b) = Int64.ofInt a &&& Int64.ofInt b := Int64.ofInt_toInt _; rw [← e9]; exact kk)) h k
  case lor => subst hn; exact jr_bin (Or.inr rfl) (fun a b ls H locs rest kk => lv_lor hx hb hd (by have e9 : Int64.ofInt (jlor a b) = Int64.ofInt a ||| Int64.ofInt b := Int64.ofInt_toInt _; rw [← e9]; exact kk)) h k
  case lshl => subst hn; exact jr_bin (t1 := 0) (t2 := 1) (Or.inr rfl) (fun a b ls H locs rest kk => lv_lshl hx hb hd (v := Int64.ofInt (jlshl a b)) (Int64.ofInt_toInt _).symm kk) h k
  case lcmp => subst hn; exact jr_bin (Or.inl rfl) (fun a b ls H locs rest kk => W.lcmp hx hb hd (by rw [← o32_cmp]; exact kk)) h k
  case idiv => subst hn; exact jr_binN (Or.inl rfl) (fun a b ls H locs rest hne kk => lv_idiv hx hb hd (fun q => hne (o32_eq0.mp q)) (by rw [← o32_div]; exact kk)) h hg k
  case irem => subst hn; exact jr_binN (Or.inl rfl) (fun a b ls H locs rest hne kk => lv_irem hx hb hd (fun q => hne (o32_eq0.mp q)) (by rw [← o32_rem]; exact kk)) h hg k
  case ldiv => subst hn; exact jr_binN (Or.inr rfl) (fun a b ls H locs rest hne kk => lv_ldiv hx hb hd (fun q => hne (o64_eq0.mp q)) (by rw [← o64_div]; exact kk)) h hg k
  case lrem => subst hn; exact jr_binN (Or.inr rfl) (fun a b ls H locs rest hne kk => lv_lrem hx hb hd (fun q => hne (o64_eq0.mp q)) (by rw [← o64_rem]; exact kk)) h hg k
  case i2l => subst hn; exact jr_un (t1 := 0) (Or.inr rfl) (fun a ls H locs rest kk => lv_i2l hx hb hd (o32_l a) kk) h k
  case l2i => subst hn; exact jr_un (t1 := 1) (f := fun a => a) (Or.inl rfl) (fun a ls H locs rest kk => lv_l2i hx hb hd (Int64.toInt32_ofInt) kk) h k
  case i2b => subst hn; exact jr_un (t1 := 0) (Or.inl rfl) (fun a ls H locs rest kk => lv_i2b hx hb hd (o32_b a) kk) h k
  case i2s => subst hn; exact jr_un (t1 := 0) (Or.inl rfl) (fun a ls H locs rest kk => lv_i2s hx hb hd (o32_s a) kk) h k
  case dup => subst hn; exact jr_dup C0 hd h k
  case dup2 => subst hn; exact jr_dup2 C0 hd h k
  case pop => subst hn; exact jr_pop C0 hd h k
  case goto off =>
    subst hn
    simp only [jx, Option.some.injEq, Prod.mk.injEq] at h
    obtain ⟨-, rfl⟩ := h
    have h9 : 0 ≤ (c.1 : Int) + off := of_decide_eq_true hk
    intro ls H locs h1 h2 h3 h4
    exact lv_goto (tgt := ((c.1 : Int) + off).toNat) hx hb hd (Int.toNat_of_nonneg h9).symm (k ls H locs h1 h2 h3 h4)
  case getfield i => subst hn; exact jr_getf (x := x.2.1) (pos := x.1) C0 hd hk h hg k
  case putfield i => subst hn; exact jr_putf (x := x.2.1) (pos := x.1) C0 hd hk h hg k
  case getstatic i => subst hn; exact jr_push (fun ls H locs rest hS kk => va_getsN hx hb hC.2.2.1 hS hown (by rw [of_decide_eq_true hk]; exact va_Nw.use rfl hC.1.1) (fun _ h9 => h9) hd kk) (Or.inr (Or.inr (Or.inl rfl))) h k
  case arraylength => subst hn; exact jr_alen C0 hd h k
  case iaload => subst hn; exact jr_ald (q := fun e => Nat.beq e 0 || Nat.beq e 6) C0 hd (Or.inl ⟨rfl, fun t h => by rw [Bool.or_eq_true] at h; exact h.elim (fun q => Or.inl (Nat.eq_of_beq_eq_true q)) (fun q => Or.inr (Nat.eq_of_beq_eq_true q))⟩) h hg k
  case laload => subst hn; exact jr_ald (q := fun e => Nat.beq e 1 || Nat.beq e 5) C0 hd (Or.inr (Or.inl ⟨rfl, fun t h => by rw [Bool.or_eq_true] at h; exact h.elim (fun q => Or.inl (Nat.eq_of_beq_eq_true q)) (fun q => Or.inr (Nat.eq_of_beq_eq_true q))⟩)) h hg k
  case baload => subst hn; exact jr_ald C0 hd (Or.inr (Or.inr (Or.inl ⟨rfl, fun t h => (Nat.eq_of_beq_eq_true h).symm⟩))) h hg k
  case aaload => subst hn; exact jr_ald C0 hd (Or.inr (Or.inr (Or.inr ⟨rfl, fun t h => (Nat.eq_of_beq_eq_true h).symm⟩))) h hg k
  case iastore => subst hn; exact jr_ast C0 hd (Or.inl ⟨rfl, rfl, rfl, rfl⟩) h hg k
  case lastore => subst hn; exact jr_ast C0 hd (Or.inr (Or.inl ⟨rfl, rfl, rfl, rfl⟩)) h hg k
  case bastore => subst hn; exact jr_ast C0 hd (Or.inr (Or.inr ⟨rfl, rfl, rfl, rfl⟩)) h hg k
  case invokestatic i =>
    subst hn
    obtain ⟨x1, x2, x3⟩ := x
    have h : jintr c 3 x2 = some (g, c') := h
    unfold jintr at h
    split at h
    · exact jr_math2 (fun a b ls H locs rest hz hr kk => va_mmax hx hb (by rw [hml]; exact hz.symm) hown (hts _ (jw_mem hk)) (hts _ jin_max1) (hts _ jin_math) (hts _ jin_max2) (by omega) (by omega) hce hsl hd (by rw [← o32_max]; exact kk)) h k
    · exact jr_math2 (fun a b ls H locs rest hz hr kk => va_mmin hx hb (by rw [hml]; exact hz.symm) hown (hts _ (jw_mem hk)) (hts _ jin_min1) (hts _ jin_math) (hts _ jin_min2) (by omega) (by omega) hce hsl hd (by rw [← o32_min]; exact kk)) h k
    · exact jr_mathL C0 (by omega) hd hk h k
    · exact jr_copy C0 (by omega) hd hk h hg k
    · cases h
  all_goals cases h
/-- what must hold of a row: each of them -/
theorem jand_all {g : List Prop} (h : jand g) : ∀ x ∈ g, x := by
  induction g with
  | nil => intro x hx; cases hx
  | cons a r ih =>
    cases r with
    | nil =>
      intro x hx
      rcases List.mem_cons.mp hx with rfl | hx
      · exact h
      · cases hx
    | cons b r =>
      have h : a ∧ jand (b :: r) := h
      intro x hx
      rcases List.mem_cons.mp hx with rfl | hx
      · exact h.1
      · exact ih h.2 x hx
theorem jruns (C : jat S (d + 1) p R s m args cd cells slots G) : ∀ (es : List jE) (c c' : jC) (g : List Prop), jbk S es = true → jrun es c = some (g, c') → (∀ x ∈ g, x) → jGo S p l e R s m args below meth cd cells slots Q G c' → jGo S p l e R s m args below meth cd cells slots Q G c := by
  intro es
  induction es with
  | nil =>
    intro c c' g _ h _ k
    simp only [jrun, Option.some.injEq, Prod.mk.injEq] at h
    rw [h.2]
    exact k
  | cons en r ih =>
    intro c c' g hk h hg k
    unfold jrun at h
    by_cases hz : Nat.beq en.1 c.1 = true
    · rw [hz] at h
      simp only [cond_true] at h
      split at h
      · rename_i g1 c1 h1
        split at h
        · rename_i g2 c2 h2
          simp only [Option.some.injEq, Prod.mk.injEq] at h
          obtain ⟨rfl, rfl⟩ := h
          simp only [jbk, List.all_cons, Bool.and_eq_true] at hk
          have e1 := Nat.eq_of_beq_eq_true hz
          have e2 := Nat.eq_of_beq_eq_true hk.1.1
          obtain ⟨pc, ins, n, x⟩ := en
          have e1 : pc = c.1 := e1
          subst e1
          exact jone C e2 hk.1.2 h1 (fun x hx => hg x (List.mem_append_left _ hx)) (ih c1 c2 g2 hk.2 h2 (fun x hx => hg x (List.mem_append_right _ hx)) k)
        · cases h
      · cases h
    · rw [Bool.not_eq_true] at hz
      rw [hz] at h
      cases h
theorem jbrs (C : jat S (d + 1) p R s m args cd cells slots G) {ins : Instr} {x : jX} {q : Prop} {cT cF : jC} (hk : jbk S [(c.1, ins, 3, x)] = true) (h : jbr ins c = some (q, cT, cF)) (kT : q → jGo S p l e R s m args below meth cd cells slots Q G cT) (kF : ¬ q → jGo S p l e R s m args below meth cd cells slots Q G cF) : jGo S p l e R s m args below meth cd cells slots Q G c := by
  obtain ⟨hx, hb, hml, hown, hts, hG, hC, hf, hlo, hce, hsl⟩ := C
  simp only [jbk, List.all_cons, List.all_nil, Bool.and_true, Bool.and_eq_true, jeok, decide_eq_true_eq] at hk
  obtain ⟨-, hd, hk⟩ := hk
  obtain ⟨pc, L, st, σ⟩ := c
  dsimp only at hd hk
  cases ins
  case if_icmp kk off =>
    have h9 : 0 ≤ (pc : Int) + off := of_decide_eq_true hk
    have h10 := (Int.toNat_of_nonneg h9).symm
    simp only [jbr] at h
    split at h
    · rename_i b a r
      obtain ⟨tb, b⟩ := b
      obtain ⟨ta, a⟩ := a
      by_cases hz : (Nat.beq 0 tb && Nat.beq 0 ta) = true
      · rw [hz] at h
        simp only [Bool.and_eq_true] at hz
        have e1 := Nat.eq_of_beq_eq_true hz.1
        have e2 := Nat.eq_of_beq_eq_true hz.2
        subst e1; subst e2
        intro ls H locs h1 h2 h3 h4
        have h5 : ∀ v ∈ r, jvok v := fun w hw => h2 w (List.mem_cons_of_mem _ (List.mem_cons_of_mem _ hw))
        cases kk <;> (simp only [cond_true, Option.some.injEq, Prod.mk.injEq] at h; obtain ⟨rfl, rfl, rfl⟩ := h)
        · exact lv_icmp_eq hx hb hd h10 (fun q => kT (o32_eq.mp q) ls H locs h1 h5 h3 h4) (fun q => kF (fun z => q (o32_eq.mpr z)) ls H locs h1 h5 h3 h4)
        · exact lv_icmp_ne hx hb hd h10 (fun q => kF (fun z => q (o32_eq.mpr z)) ls H locs h1 h5 h3 h4) (fun q => kT (o32_eq.mp q) ls H locs h1 h5 h3 h4)
        · exact lv_icmp_lt hx hb hd h10 (fun q => kT (o32_lt.mp q) ls H locs h1 h5 h3 h4) (fun q => kF (fun z => q (o32_lt.mpr z)) ls H locs h1 h5 h3 h4)
        · exact lv_icmp_ge hx hb hd h10 (fun q => kF (Int.not_lt.mpr (o32_le.mp q)) ls H locs h1 h5 h3 h4) (fun q => kT (Int.not_le.mp (fun z => q (o32_le.mpr z))) ls H locs h1 h5 h3 h4)
        · exact lv_icmp_gt hx hb hd h10 (fun q => kT (o32_lt.mp q) ls H locs h1 h5 h3 h4) (fun q => kF (fun z => q (o32_lt.mpr z)) ls H locs h1 h5 h3 h4)
        · exact lv_icmp_le hx hb hd h10 (fun q => kF (Int.not_lt.mpr (o32_le.mp q)) ls H locs h1 h5 h3 h4) (fun q => kT (Int.not_le.mp (fun z => q (o32_le.mpr z))) ls H locs h1 h5 h3 h4)
      · rw [Bool.not_eq_true] at hz
        rw [hz] at h
        cases h
    · cases h
  case ifCond kk off =>
    have h9 : 0 ≤ (pc : Int) + off := of_decide_eq_true hk
    have h10 := (Int.toNat_of_nonneg h9).symm
    simp only [jbr] at h
    split at h
    · rename_i a r
      obtain ⟨ta, a⟩ := a
      by_cases hz : Nat.beq 0 ta = true
      · rw [hz] at h
        have e1 := Nat.eq_of_beq_eq_true hz
        subst e1
        intro ls H locs h1 h2 h3 h4
        have h5 : ∀ v ∈ r, jvok v := fun w hw => h2 w (List.mem_cons_of_mem _ hw)
        cases kk <;> (simp only [cond_true, Option.some.injEq, Prod.mk.injEq] at h; obtain ⟨rfl, rfl, rfl⟩ := h)
        · exact lv_if_eq hx hb hd h10 (fun q => kT (o32_eq0.mp q) ls H locs h1 h5 h3 h4) (fun q => kF (fun z => q (o32_eq0.mpr z)) ls H locs h1 h5 h3 h4)
        · exact lv_if_ne hx hb hd h10 (fun q => kF (fun z => q (o32_eq0.mpr z)) ls H locs h1 h5 h3 h4) (fun q => kT (o32_eq0.mp q) ls H locs h1 h5 h3 h4)
        · exact lv_if_lt hx hb hd h10 (fun q => kT (o32_lt0.mp q) ls H locs h1 h5 h3 h4) (fun q => kF (fun z => q (o32_lt0.mpr z)) ls H locs h1 h5 h3 h4)
        · exact lv_if_ge hx hb hd h10 (fun q => kF (Int.not_lt.mpr (o32_0le.mp q)) ls H locs h1 h5 h3 h4) (fun q => kT (Int.not_le.mp (fun z => q (o32_0le.mpr z))) ls H locs h1 h5 h3 h4)
        · exact lv_if_gt hx hb hd h10 (fun q => kT (o32_0lt.mp q) ls H locs h1 h5 h3 h4) (fun q => kF (fun z => q (o32_0lt.mpr z)) ls H locs h1 h5 h3 h4)
        · exact lv_if_le hx hb hd h10 (fun q => kF (Int.not_lt.mpr (o32_le0.mp q)) ls H locs h1 h5 h3 h4) (fun q => kT (Int.not_le.mp (fun z => q (o32_le0.mpr z))) ls H locs h1 h5 h3 h4)
      · rw [Bool.not_eq_true] at hz
        rw [hz] at h
        cases h
    · cases h
  all_goals cases h
end JR
