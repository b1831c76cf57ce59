/-! ONE INSTRUCTION: the pure machine's step is the machine's -/
/-- what holds in a frame of the method S: the machine, the bytes, the words, the world's constants, room for d calls deep -/
def jat (S : jS) (d : Nat) (p : Program) (R : Room) (s : State) (m : MethodId) (args : Array Value) (cd : Code) (cells slots : Nat) (G : jG) : Prop :=
  p.tables.exec = Jvm.exec ∧ cd.code = S.2.1 ∧ cd.maxLocals = S.2.2.1 ∧ s.vm.findClass S.1.cls = some m.cls ∧ (∀ w ∈ jT, w.before args s = true) ∧ jGok G ∧ jCx G s ∧ d ≤ R.frames ∧ 100 * d ≤ R.locals ∧ cells ≤ R.cells ∧ slots ≤ R.slots
def jGo (S : jS) (p : Program) (l : Launch) (e : Env) (R : Room) (s : State) (m : MethodId) (args : Array Value) (below : List Frame) (meth : Method) (cd : Code) (cells slots : Nat) (Q : State → Prop) (G : jG) (c : jC) : Prop :=
  ∀ (ls : Array Slot) (H : Heap) (locs : List Loc), jlok G ls S.2.2.1 c.2.1 → (∀ v ∈ c.2.2.1, jvok v) → jWd G c.2.2.2 H → va_S (gA G) s.heap H locs → W p l e R s m args below meth cd H locs cells slots Q (F0 m c.1 ls (c.2.2.1.map (jval G)))
def jcl0 : vw_C := ("", jT0, 0)
/-- an entry of a method's code is what the bytes and the tables say -/
def jeok (S : jS) (e : jE) : Bool := decide (decode S.2.1 e.1 = .ok (e.2.1, e.2.2.1)) && (match e.2.1 with
  | .getfield i => Nat.blt (e.2.2.2.2.1 % 100) (jcl.getD (e.2.2.2.2.1 / 100) jcl0).2.2 && jw e.2.2.2.1 (.fieldLink S.1.cls i ((jcl.getD (e.2.2.2.2.1 / 100) jcl0).2.1 (e.2.2.2.2.1 % 100)).1 ((jcl.getD (e.2.2.2.2.1 / 100) jcl0).2.1 (e.2.2.2.2.1 % 100)).2.1 ((jcl.getD (e.2.2.2.2.1 / 100) jcl0).2.1 (e.2.2.2.2.1 % 100)).2.2.1)
  | .putfield i => Nat.blt (e.2.2.2.2.1 % 100) (jcl.getD (e.2.2.2.2.1 / 100) jcl0).2.2 && jw e.2.2.2.1 (.fieldLink S.1.cls i ((jcl.getD (e.2.2.2.2.1 / 100) jcl0).2.1 (e.2.2.2.2.1 % 100)).1 ((jcl.getD (e.2.2.2.2.1 / 100) jcl0).2.1 (e.2.2.2.2.1 % 100)).2.1 ((jcl.getD (e.2.2.2.2.1 / 100) jcl0).2.1 (e.2.2.2.2.1 % 100)).2.2.1)
  | .ldc i => jw e.2.2.2.1 (.constant S.1.cls i (Int32.ofInt e.2.2.2.2.2))
  | .ldc_w i => jw e.2.2.2.1 (.constant S.1.cls i (Int32.ofInt e.2.2.2.2.2))
  | .ldc2_w i => jw e.2.2.2.1 (.constantLong S.1.cls i (Int64.ofInt e.2.2.2.2.2))
  | .getstatic i => decide (Cond.fieldLinkNest S.1.cls i "JellyCathedral" "KEPT_WORDS" "[J" "JellyCathedral" = jnF)
  | .invokestatic i => (match e.2.2.2.2.1 with
    | 1 => jw e.2.2.2.1 (.methodLink S.1.cls i Lib.Math.max.name)
    | 2 => jw e.2.2.2.1 (.methodLink S.1.cls i Lib.Math.min.name)
    | 3 => jw e.2.2.2.1 (.methodLink S.1.cls i Lib.MathLoose.abs_long.x)
    | 4 => jw e.2.2.2.1 (.methodLink S.1.cls i arraycopyName)
    | _ => false)
  | .bipush v => decide (w8 v = v)
  | .sipush v => decide (w16 v = v)
  | .goto off => decide (0 ≤ (e.1 : Int) + off)
  | .if_icmp _ off => decide (0 ≤ (e.1 : Int) + off)
  | .ifCond _ off => decide (0 ≤ (e.1 : Int) + off)
  | _ => true)
section JR
variable {S : jS} {d : Nat} {p : Program} {l : Launch} {e : Env} {R : Room} {s : State} {m : MethodId} {args : Array Value} {below : List Frame} {meth : Method} {cd : Code} {cells slots : Nat} {Q : State → Prop} {G : jG} {c c' : jC} {n : Nat} {g : List Prop}
theorem jr_push {v : jV} (hr : ∀ (ls : Array Slot) (H : Heap) (locs : List Loc) (rest : List Value), va_S (gA G) s.heap H locs → W p l e R s m args below meth cd H locs cells slots Q (F0 m (c.1 + n) ls (jval G v :: rest)) → W p l e R s m args below meth cd H locs cells slots Q (F0 m c.1 ls rest)) (hv : jvok v) (h : jpush c n v = some (g, c')) (k : jGo S p l e R s m args below meth cd cells slots Q G c') : jGo S p l e R s m args below meth cd cells slots Q G c := by
  simp only [jpush, Option.some.injEq, Prod.mk.injEq] at h
  obtain ⟨-, rfl⟩ := h
  intro ls H locs h1 h2 h3 h4
  exact hr ls H locs _ h4 (k ls H locs h1 (fun w hw => (List.mem_cons.mp hw).elim (fun q => q ▸ hv) (h2 w)) h3 h4)
theorem jr_ld {i : Nat} {q : Nat → Bool} (hq : ∀ t, q t = true → t ≠ 99) (hr : ∀ (v : jV) (ls : Array Slot) (H : Heap) (locs : List Loc) (rest : List Value), q v.1 = true → ls[i]? = some (.val (jval G v)) → W p l e R s m args below meth cd H locs cells slots Q (F0 m (c.1 + n) ls (jval G v :: rest)) → W p l e R s m args below meth cd H locs cells slots Q (F0 m c.1 ls rest)) (h : jld c n i q = some (g, c')) (k : jGo S p l e R s m args below meth cd cells slots Q G c') : jGo S p l e R s m args below meth cd cells slots Q G c := by
  unfold jld at h
  split at h
  · rename_i v hv
    by_cases hb : q v.1 = true
    · rw [hb] at h
      simp only [cond_true, Option.some.injEq, Prod.mk.injEq] at h
      obtain ⟨-, rfl⟩ := h
      intro ls H locs h1 h2 h3 h4
      exact hr v ls H locs _ hb (jlok_at h1 hv (hq _ hb)) (k ls H locs h1 (fun w hw => (List.mem_cons.mp hw).elim (fun q1 => q1 ▸ h1.2.2 i v hv (hq _ hb)) (h2 w)) h3 h4)
    · rw [Bool.not_eq_true] at hb
      rw [hb] at h
      cases h
  · cases h
theorem jr_st1 {i : Nat} {q : Nat → Bool} (hr : ∀ (v : jV) (ls : Array Slot) (H : Heap) (locs : List Loc) (rest : List Value) (lv : List (Nat × Value)), q v.1 = true → lv_has ls S.2.2.1 lv → i < S.2.2.1 → (∀ ls' : Array Slot, lv_has ls' S.2.2.1 ((i, jval G v) :: lv.filter (fun q => !(q.1 == i) && !(q.1 + 1 == i && q.2.category == 2))) → W p l e R s m args below meth cd H locs cells slots Q (F0 m (c.1 + n) ls' rest)) → W p l e R s m args below meth cd H locs cells slots Q (F0 m c.1 ls (jval G v :: rest))) (h : jst1 c n i q = some (g, c')) (k : jGo S p l e R s m args below meth cd cells slots Q G c') : jGo S p l e R s m args below meth cd cells slots Q G c := by
  obtain ⟨pc, L, st, σ⟩ := c
  unfold jst1 at h
  dsimp only at h hr
  split at h
  · rename_i v r
    by_cases hb : (q v.1 && Nat.blt i L.length) = true
    · rw [hb] at h
      simp only [cond_true, Option.some.injEq, Prod.mk.injEq] at h
      obtain ⟨-, rfl⟩ := h
      simp only [Bool.and_eq_true] at hb
      intro ls H locs h1 h2 h3 h4
      have hi : i < S.2.2.1 := by rw [← h1.1]; exact Nat.ble_eq.mp hb.2
      refine hr v ls H locs _ _ hb.1 h1.2.1 hi (fun ls' h' => ?_)
      exact k ls' H locs (jlok_set1 h1 hi (h2 v List.mem_cons_self) h') (fun w hw => h2 w (List.mem_cons_of_mem _ hw)) h3 h4
    · rw [Bool.not_eq_true] at hb
      rw [hb] at h
      cases h
  · cases h
theorem jr_st2 {i : Nat} (hr : ∀ (v : jV) (ls : Array Slot) (H : Heap) (locs : List Loc) (rest : List Value) (lv : List (Nat × Value)), v.1 = 1 → lv_has ls S.2.2.1 lv → i + 1 < S.2.2.1 → (∀ ls' : Array Slot, lv_has ls' S.2.2.1 ((i, jval G v) :: lv.filter (fun q => !(q.1 == i) && (!(q.1 == i + 1) && !(q.1 + 1 == i && q.2.category == 2)))) → W p l e R s m args below meth cd H locs cells slots Q (F0 m (c.1 + n) ls' rest)) → W p l e R s m args below meth cd H locs cells slots Q (F0 m c.1 ls (jval G v :: rest))) (h : jst2 c n i = some (g, c')) (k : jGo S p l e R s m args below meth cd cells slots Q G c') : jGo S p l e R s m args below meth cd cells slots Q G c := by
  obtain ⟨pc, L, st, σ⟩ := c
  unfold jst2 at h
  dsimp only at h hr
  split at h
  · rename_i v r
    by_cases hb : (Nat.beq 1 v.1 && Nat.blt (i + 1) L.length) = true
    · rw [hb] at h
      simp only [cond_true, Option.some.injEq, Prod.mk.injEq] at h
      obtain ⟨-, rfl⟩ := h
      simp only [Bool.and_eq_true] at hb
      intro ls H locs h1 h2 h3 h4
      have hi : i + 1 < S.2.2.1 := by rw [← h1.1]; exact Nat.ble_eq.mp hb.2
      refine hr v ls H locs _ _ (Nat.eq_of_beq_eq_true hb.1).symm h1.2.1 hi (fun ls' h' => ?_)
      exact k ls' H locs (jlok_set2 h1 hi (h2 v List.mem_cons_self) h') (fun w hw => h2 w (List.mem_cons_of_mem _ hw)) h3 h4
    · rw [Bool.not_eq_true] at hb
      rw [hb] at h
      cases h
  · cases h
theorem jr_bin {t1 t2 tr : Nat} {f : Int → Int → Int} (htr : tr = 0 ∨ tr = 1) (hr : ∀ (a b : Int) (ls : Array Slot) (H : Heap) (locs : List Loc) (rest : List Value), W p l e R s m args below meth cd H locs cells slots Q (F0 m (c.1 + n) ls (jval G (tr, f a b) :: rest)) → W p l e R s m args below meth cd H locs cells slots Q (F0 m c.1 ls (jval G (t1, b) :: jval G (t2, a) :: rest))) (h : jbin c n t1 t2 tr f = some (g, c')) (k : jGo S p l e R s m args below meth cd cells slots Q G c') : jGo S p l e R s m args below meth cd cells slots Q G c := by
  obtain ⟨pc, L, st, σ⟩ := c
  unfold jbin at h
  dsimp only at h hr
  split at h
  · rename_i b a r
    by_cases hb : (Nat.beq t1 b.1 && Nat.beq t2 a.1) = true
    · rw [hb] at h
      simp only [cond_true, Option.some.injEq, Prod.mk.injEq] at h
      obtain ⟨-, rfl⟩ := h
      simp only [Bool.and_eq_true] at hb
      obtain ⟨tb, b⟩ := b
      obtain ⟨ta, a⟩ := a
      have e1 : t1 = tb := Nat.eq_of_beq_eq_true hb.1
      have e2 : t2 = ta := Nat.eq_of_beq_eq_true hb.2
      subst e1; subst e2
      intro ls H locs h1 h2 h3 h4
      exact hr a b ls H locs _ (k ls H locs h1 (fun w hw => (List.mem_cons.mp hw).elim (fun q => q ▸ (htr.elim (fun z => z ▸ jvok_0 _) (fun z => z ▸ jvok_1 _))) (fun hw => h2 w (List.mem_cons_of_mem _ (List.mem_cons_of_mem _ hw)))) h3 h4)
    · rw [Bool.not_eq_true] at hb
      rw [hb] at h
      cases h
  · cases h
theorem jr_binN {t : Nat} {wr : Int → Int} {f : Int → Int → Int} (htr : t = 0 ∨ t = 1) (hr : ∀ (a b : Int) (ls : Array Slot) (H : Heap) (locs : List Loc) (rest : List Value), ¬ wr b = 0 → W p l e R s m args below meth cd H locs cells slots Q (F0 m (c.1 + n) ls (jval G (t, f a b) :: rest)) → W p l e R s m args below meth cd H locs cells slots Q (F0 m c.1 ls (jval G (t, b) :: jval G (t, a) :: rest))) (h : jbinN c n t wr f = some (g, c')) (hg : ∀ x ∈ g, x) (k : jGo S p l e R s m args below meth cd cells slots Q G c') : jGo S p l e R s m args below meth cd cells slots Q G c := by
  obtain ⟨pc, L, st, σ⟩ := c
  unfold jbinN at h
  dsimp only at h hr
  split at h
  · rename_i b a r
    by_cases hb : (Nat.beq t b.1 && Nat.beq t a.1) = true
    · rw [hb] at h
      simp only [cond_true, Option.some.injEq, Prod.mk.injEq] at h
      obtain ⟨rfl, rfl⟩ := h
      simp only [Bool.and_eq_true] at hb
      obtain ⟨tb, b⟩ := b
      obtain ⟨ta, a⟩ := a
      have e1 : t = tb := Nat.eq_of_beq_eq_true hb.1
      have e2 : t = ta := Nat.eq_of_beq_eq_true hb.2
      subst e1; subst e2
      intro ls H locs h1 h2 h3 h4
      exact hr a b ls H locs _ (hg _ List.mem_cons_self) (k ls H locs h1 (fun w hw => (List.mem_cons.mp hw).elim (fun q => q ▸ (htr.elim (fun z => z ▸ jvok_0 _) (fun z => z ▸ jvok_1 _))) (fun hw => h2 w (List.mem_cons_of_mem _ (List.mem_cons_of_mem _ hw)))) h3 h4)
    · rw [Bool.not_eq_true] at hb
      rw [hb] at h
      cases h
  · cases h
theorem jr_un {t1 tr : Nat} {f : Int → Int} (htr : tr = 0 ∨ tr = 1) (hr : ∀ (a : Int) (ls : Array Slot) (H : Heap) (locs : List Loc) (rest : List Value), W p l e R s m args below meth cd H locs cells slots Q (F0 m (c.1 + n) ls (jval G (tr, f a) :: rest)) → W p l e R s m args below meth cd H locs cells slots Q (F0 m c.1 ls (jval G (t1, a) :: rest))) (h : jun c n t1 tr f = some (g, c')) (k : jGo S p l e R s m args below meth cd cells slots Q G c') : jGo S p l e R s m args below meth cd cells slots Q G c := by
  obtain ⟨pc, L, st, σ⟩ := c
  unfold jun at h
  dsimp only at h hr
  split at h
  · rename_i a r
    by_cases hb : Nat.beq t1 a.1 = true
    · rw [hb] at h
      simp only [cond_true, Option.some.injEq, Prod.mk.injEq] at h
      obtain ⟨-, rfl⟩ := h
      obtain ⟨ta, a⟩ := a
      have e2 : t1 = ta := Nat.eq_of_beq_eq_true hb
      subst e2
      intro ls H locs h1 h2 h3 h4
      exact hr a ls H locs _ (k ls H locs h1 (fun w hw => (List.mem_cons.mp hw).elim (fun q => q ▸ (htr.elim (fun z => z ▸ jvok_0 _) (fun z => z ▸ jvok_1 _))) (fun hw => h2 w (List.mem_cons_of_mem _ hw))) h3 h4)
    · rw [Bool.not_eq_true] at hb
      rw [hb] at h
      cases h
  · cases h
theorem jr_inc {i : Nat} {z : Int} (hx : p.tables.exec = Jvm.exec) (hb : cd.code = S.2.1) (hd : decode S.2.1 c.1 = .ok (.iinc i z, 3)) (h : jinc c 3 i z = some (g, c')) (k : jGo S p l e R s m args below meth cd cells slots Q G c') : jGo S p l e R s m args below meth cd cells slots Q G c := by
  obtain ⟨pc, L, st, σ⟩ := c
  unfold jinc at h
  dsimp only at h hd
  split at h
  · rename_i v hv
    by_cases hq : Nat.beq 0 v.1 = true
    · rw [hq] at h
      simp only [cond_true, Option.some.injEq, Prod.mk.injEq] at h
      obtain ⟨-, rfl⟩ := h
      obtain ⟨tv, v⟩ := v
      have e2 : 0 = tv := Nat.eq_of_beq_eq_true hq
      subst e2
      intro ls H locs h1 h2 h3 h4
      have hi : i < S.2.2.1 := by rw [← h1.1]; exact (List.getElem?_eq_some_iff.mp hv).1
      obtain ⟨kk, hkk⟩ := List.getElem?_of_mem (jlv_mem (G := G) hv (show (0 : Nat) ≠ 99 by decide))
      refine lv_iinc (v := Int32.ofInt (v + z)) (x := Int32.ofInt v) hx hb hd h1.2.1 (k := kk) hkk (by rw [Int32.ofInt_add]) hi rfl (fun ls' h' => ?_)
      exact k ls' H locs (jlok_set1 (w := (0, v + z)) h1 hi (jvok_0 _) h') h2 h3 h4
    · rw [Bool.not_eq_true] at hq
      rw [hq] at h
      cases h
  · cases h
end JR
