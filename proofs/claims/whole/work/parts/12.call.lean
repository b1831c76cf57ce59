/-! A METHOD's CONTRACT out of its run, and calls of it -/
def jrt (S : jS) : Option FieldType := match S.2.2.2.1 with
  | 0 => none
  | 1 => some .int
  | 2 => some .long
  | _ => some .boolean
def jrm (d : Nat) : Room := { frames := d + 1, cells := 0, slots := 0, locals := 100 * (d + 1) }
def jws (S : jS) : List Cond := Cond.code S.1 S.2.1 S.2.2.1 (jrt S) :: jT
def jQ (S : jS) (G : jG) (o : Int × jM) : Array Value → State → Outcome → State → Prop := match S.2.2.2.1 with
  | 0 => va_Qv (fun _ : Unit => True) (fun _ t => jWd G o.2 t.heap) (gA G)
  | 2 => va_Ql (fun r (_ : Unit) => r = Int64.ofInt o.1) (fun _ t => jWd G o.2 t.heap) (gA G)
  | _ => va_Qi (fun r (_ : Unit) => r = Int32.ofInt o.1) (fun _ t => jWd G o.2 t.heap) (gA G)
def jPre (G : jG) (as : List jV) (σ : jM) : Array Value → State → Prop := va_Pc (as.map (jval G)) (fun U => jCx G U ∧ jWd G σ U.heap)
/-- the method's contract: given these it answers o -/
def MK (S : jS) (d : Nat) (as : List jV) (σ : jM) (o : Int × jM) : Prop :=
  ∀ (l : Launch) (G : jG), jGok G → (∀ v ∈ as, jvok v) → Met l S.1 (jws S) (jrm d) (jPre G as σ) (jQ S G o) 0 0 (gA G)
def jent : List jV → List jV
  | [] => []
  | v :: r => bif Nat.beq v.1 1 then v :: (99, 0) :: jent r else v :: jent r
def jL0 (n : Nat) (as : List jV) : List jV := jent as ++ List.replicate (n - (jent as).length) (99, 0)
theorem nbeq_false {a b : Nat} (h : a ≠ b) : Nat.beq a b = false := by
  cases hb : Nat.beq a b with
  | true => exact absurd (Nat.eq_of_beq_eq_true hb) h
  | false => rfl
theorem jent_len (G : jG) (as : List jV) : (jent as).length = (lg_sl (as.map (jval G))).length := by
  induction as with
  | nil => rfl
  | cons v r ih =>
    simp only [lg_sl, List.map_cons, List.flatMap_cons, List.length_append] at ih ⊢
    by_cases h : v.1 = 1
    · rw [if_pos ((jval_cat G v).mpr h)]
      have e : Nat.beq v.1 1 = true := by rw [h]; rfl
      simp only [jent, e, cond_true, List.length_cons, ih, List.length_nil]
      omega
    · rw [if_neg (fun q => h ((jval_cat G v).mp q))]
      simp only [jent, nbeq_false h, cond_false, List.length_cons, ih, List.length_nil]
      omega
theorem jent_at (G : jG) (as : List jV) : ∀ (off i : Nat) (w : jV), (jent as)[i]? = some w → w.1 ≠ 99 → (off + i, jval G w) ∈ lv_args off (as.map (jval G)) ∧ w ∈ as := by
  induction as with
  | nil => intro off i w h; simp [jent] at h
  | cons v r ih =>
    intro off i w h hw
    by_cases hv : v.1 = 1
    · have e : Nat.beq v.1 1 = true := by rw [hv]; rfl
      simp only [jent, e, cond_true] at h
      simp only [List.map_cons, lv_args, if_pos ((jval_cat G v).mpr hv)]
      match i, h with
      | 0, h =>
        simp only [List.getElem?_cons_zero, Option.some.injEq] at h
        subst h
        exact ⟨List.mem_cons_self, List.mem_cons_self⟩
      | 1, h =>
        simp only [List.getElem?_cons_succ, List.getElem?_cons_zero, Option.some.injEq] at h
        subst h
        exact absurd rfl hw
      | i + 2, h =>
        simp only [List.getElem?_cons_succ] at h
        obtain ⟨h1, h2⟩ := ih (off + 2) i w h hw
        refine ⟨List.mem_cons_of_mem _ ?_, List.mem_cons_of_mem _ h2⟩
        rw [show off + (i + 2) = off + 2 + i by omega]
        exact h1
    · simp only [jent, nbeq_false hv, cond_false] at h
      simp only [List.map_cons, lv_args, if_neg (fun q => hv ((jval_cat G v).mp q))]
      match i, h with
      | 0, h =>
        simp only [List.getElem?_cons_zero, Option.some.injEq] at h
        subst h
        exact ⟨List.mem_cons_self, List.mem_cons_self⟩
      | i + 1, h =>
        simp only [List.getElem?_cons_succ] at h
        obtain ⟨h1, h2⟩ := ih (off + 1) i w h hw
        refine ⟨List.mem_cons_of_mem _ ?_, List.mem_cons_of_mem _ h2⟩
        rw [show off + (i + 1) = off + 1 + i by omega]
        exact h1
theorem jL0_at {n : Nat} {as : List jV} {i : Nat} {w : jV} (h : (jL0 n as)[i]? = some w) (hw : w.1 ≠ 99) : (jent as)[i]? = some w := by
  simp only [jL0, List.getElem?_append] at h
  split at h
  · exact h
  · rw [List.getElem?_replicate] at h
    split at h
    · cases h; exact absurd rfl hw
    · cases h
theorem jL0_ok (G : jG) {n : Nat} {as : List jV} (hn : (jent as).length ≤ n) (ha : ∀ v ∈ as, jvok v) {ls : Array Slot} (h : lv_has ls n (lv_args 0 (as.map (jval G)))) : jlok G ls n (jL0 n as) := by
  refine ⟨by simp only [jL0, List.length_append, List.length_replicate]; omega, ⟨h.1, h.2.1, fun q hq => ?_⟩, fun i v hi hv => ?_⟩
  · obtain ⟨⟨v, j⟩, hm, rfl⟩ := List.mem_map.mp hq
    obtain ⟨hm1, hm2⟩ := List.mem_filter.mp hm
    rw [List.mem_zipIdx_iff_getElem?] at hm1
    have hv : v.1 ≠ 99 := by simpa using hm2
    have h9 := (jent_at G as 0 j v (jL0_at hm1 hv) hv).1
    rw [Nat.zero_add] at h9
    exact h.2.2 _ h9
  · exact ha v (jent_at G as 0 i v (jL0_at hi hv) hv).2
theorem jCx_moved {G : jG} {u U : State} (hvm : u.vm.Alike U.vm) (hh : ∀ a : Nat, a < u.heap.size → ¬ gA G a → U.heap[a]? = u.heap[a]?) (hn : va_Nw jnF U ∧ va_Nw jnM U) (h : jCx G u) : jCx G U :=
  ⟨hn, va_K.moved hvm h.2.1, (h.2.2.1.moved hvm).kept hh, (h.2.2.2.1.moved hvm).kept hh, (h.2.2.2.2.moved hvm).kept hh⟩
theorem jNw_warm {u U : State} (hW : u.WarmedH U.vm) (h : va_Nw jnF u ∧ va_Nw jnM u) : va_Nw jnF U ∧ va_Nw jnM U := ⟨va_Nw.warmF hW h.1, va_Nw.warmM hW h.2⟩
theorem jPre_blind (G : jG) (as : List jV) (σ : jM) : FrameBlind (jPre G as σ) := fun a U g mk q => ⟨q.1, jCx_moved (U := U.calling g mk a) (Vm.Alike.refl U.vm) (fun _ _ _ => rfl) ⟨va_Nw.same (u := U) (U := U.calling g mk a) rfl rfl q.2.1.1.1, va_Nw.same (u := U) (U := U.calling g mk a) rfl rfl q.2.1.1.2⟩ q.2.1, q.2.2⟩
/-- what the tables say of a method -/
def jmk (S : jS) : Bool := plainName S.1.cls && decide (S.1.cls ≠ "java/lang/invoke/MethodHandle" ∧ S.1.cls ≠ "java/lang/invoke/VarHandle") && decide (Cond.code S.1 S.2.1 S.2.2.1 (jrt S) ∈ jT) && decide (Cond.initialized S.1.cls ∈ jT) && (match S.2.2.2.2.2 with
  | 0 => decide (Cond.instanceMethod S.1 ∈ jT) && decide (Cond.selects S.1.cls S.1 S.1 ∈ jT)
  | _ => decide (Cond.static S.1 ∈ jT)) && decide ((parseMethodDescriptor S.1.desc).map (fun d => d.parameters.length) = some (S.2.2.2.2.1.length - (1 - S.2.2.2.2.2))) && Nat.ble S.2.2.1 80
set_option maxHeartbeats 1000000 in
theorem MK.of {S : jS} {d : Nat} {as : List jV} {σ : jM} {o : Int × jM} (hm : jmk S = true) (hn : Nat.ble (jent as).length S.2.2.1 = true) (h : AT S d (0, jL0 S.2.2.1 as, [], σ) o) : MK S d as σ o := by
  intro l G hG ha
  simp only [jmk, Bool.and_eq_true] at hm
  refine Met.ofW (cc := S.2.1) (maxL := S.2.2.1) (ret := jrt S) hm.1.1.1.1.1.1 rfl ?_
  intro p e s m args below meth c s₁ B hml hv
  obtain ⟨rfl, hC, hW⟩ := hv
  have hts := atoms_spec (ws := jws S) B.pre
  have hown : s.vm.findClass S.1.cls = some m.cls := findClass_of_methodNamed B.named
  have hlocks := B.notSynchronized
  have hx := B.exec
  have hb := B.bytes
  have hr := B.returns
  have hn := Nat.ble_eq.mp hn
  have hl := lv_entry (as.map (jval G)) (n := S.2.2.1) (by rw [← jent_len]; exact hn)
  rw [lg_entry_eq]
  generalize (lg_sl (as.map (jval G)) ++ List.replicate (S.2.2.1 - (lg_sl (as.map (jval G))).length) Slot.unset).toArray = ls at hl ⊢
  refine h p l e (jrm d) s m _ below meth c 0 0 (MQ below (jQ S G o) (as.map (jval G)).toArray s 0 0 (gA G)) G ⟨hx, hb, hml, hown, fun w hw => hts w (List.mem_cons_of_mem _ hw), hG, hC, Nat.le_refl _, Nat.le_refl _, Nat.zero_le _, Nat.zero_le _⟩ ?_ ls s.heap [] (jL0_ok G hn ha hl) (fun v hv => by cases hv) hW va_S.rf
  intro pc ls' H locs hd ho hW' hS
  obtain ⟨nm, by_, mL, rc, tags, kd⟩ := S
  match rc, hr, hd, ho with
  | 0, hr, hd, ho => exact W.vret hx hb hr (fun t ht hw => ⟨⟨(), rfl, trivial, by show jWd G o.2 t.heap; rw [ht]; exact hW'⟩, hS.F ht⟩) hS.2.2 hd
  | 1, hr, hd, ho => exact W.iret hx hb hr (fun t ht hw => ⟨⟨_, (), rfl, rfl, by show jWd G o.2 t.heap; rw [ht]; exact hW'⟩, hS.F ht⟩) hS.2.2 hd
  | 2, hr, hd, ho => exact W.lret hx hb hr (fun t ht hw => ⟨⟨_, (), rfl, rfl, by show jWd G o.2 t.heap; rw [ht]; exact hW'⟩, hS.F ht⟩) hS.2.2 hd
  | z + 3, hr, hd, ho => exact W.zret (ty := .boolean) hx hb hr (by rcases ho (Nat.le_add_left 3 z) with q | q <;> (rw [q]; rfl)) (fun t ht hw => ⟨⟨_, (), rfl, rfl, by show jWd G o.2 t.heap; rw [ht]; exact hW'⟩, hS.F ht⟩) hS.2.2 hd
def jres (S : jS) (v : Int) (st : List jV) : List jV := match S.2.2.2.1 with
  | 0 => st
  | 2 => (1, v) :: st
  | _ => (0, v) :: st
theorem jws_good {S : jS} (h : Cond.code S.1 S.2.1 S.2.2.1 (jrt S) ∈ jT) : GoodIn jT (jws S) := by
  intro w hw
  rcases List.mem_cons.mp hw with rfl | hw
  · exact ⟨h, good_of_word (jT_good h).2⟩
  · exact ⟨hw, good_of_word (jT_good hw).2⟩
/-- what is at a place of a call: the instruction, the link -/
def jck (S N : jS) (pc i pos : Nat) : Bool := match N.2.2.2.2.2 with
  | 0 => decide (decode S.2.1 pc = .ok (.invokevirtual i, 3)) && jw pos (.methodLink S.1.cls i N.1)
  | _ => decide (decode S.2.1 pc = .ok (.invokestatic i, 3)) && (jw pos (.methodLink S.1.cls i N.1) || decide (Cond.methodLinkNest S.1.cls i N.1 "JellyCathedral" = jnM))
theorem jrun_i {N : jS} {p : Program} {l : Launch} {e : Env} {R : Room} {s : State} {m : MethodId} {args : Array Value} {below : List Frame} {meth : Method} {cd : Code} {cells slots : Nat} {Q : State → Prop} {G : jG} {pc : Nat} {ls : Array Slot} {st0 rest : List Value} {H : Heap} {locs : List Loc} {a : Array Value} {v : Int} {σ1 : jM}
    (hr : va_Run p l e R s m args below meth cd H locs cells slots 0 0 (F0 m pc ls st0) rest (jQ N G (v, σ1) a) (gA G)) (hS : va_S (gA G) s.heap H locs)
    (kk : ∀ (H1 : Heap) (locs1 : List Loc), jWd G σ1 H1 → va_S (gA G) s.heap H1 locs1 → W p l e R s m args below meth cd H1 locs1 cells slots Q (F0 m (pc + 3) ls (((jres N v []).map (jval G)) ++ rest))) : W p l e R s m args below meth cd H locs cells slots Q (F0 m pc ls st0) := by
  obtain ⟨nm, by_, mL, rc, tags, kd⟩ := N
  match rc, hr, kk with
  | 0, hr, kk => exact va_callv (a := a) hr hS (fun _ _ h => h) (fun _ h => h) (fun u t H1 locs1 ht hvm hp hB hz hk hS1 => kk H1 locs1 (by rw [← ht]; exact hB) hS1)
  | 1, hr, kk => exact va_calli (a := a) hr hS (fun _ _ h => h) (fun _ h => h) (fun r u t H1 locs1 ht hvm hp hB hz hk hS1 => by subst hp; exact kk H1 locs1 (by rw [← ht]; exact hB) hS1)
  | 2, hr, kk => exact va_calll (a := a) hr hS (fun _ _ h => h) (fun _ h => h) (fun r u t H1 locs1 ht hvm hp hB hz hk hS1 => by subst hp; exact kk H1 locs1 (by rw [← ht]; exact hB) hS1)
  | z + 3, hr, kk => exact va_calli (a := a) hr hS (fun _ _ h => h) (fun _ h => h) (fun r u t H1 locs1 ht hvm hp hB hz hk hS1 => by subst hp; exact kk H1 locs1 (by rw [← ht]; exact hB) hS1)
theorem jres_app (G : jG) (N : jS) (v : Int) (st : List jV) : (jres N v st).map (jval G) = (jres N v []).map (jval G) ++ st.map (jval G) := by
  unfold jres
  split <;> rfl
theorem jres_ok {N : jS} {v : Int} {st : List jV} (h : ∀ w ∈ st, jvok w) : ∀ w ∈ jres N v st, jvok w := by
  unfold jres
  split
  · exact h
  · exact fun w hw => (List.mem_cons.mp hw).elim (fun q => q ▸ jvok_1 _) (h w)
  · exact fun w hw => (List.mem_cons.mp hw).elim (fun q => q ▸ jvok_0 _) (h w)
set_option maxHeartbeats 1000000 in
/-- a call of an object's method -/
theorem AT.callV {S N : jS} {d dN : Nat} {pc i pos cl : Nat} {b : Int} {L As st : List jV} {σ σ1 : jM} {v : Int} {o : Int × jM} (hm : jmk N = true) (hk : jck S N pc i pos = true) (hN : Nat.beq N.2.2.2.2.2 0 = true) (hcl : decide (jcl[cl]?.map (fun q => q.1) = some N.1.cls) = true) (hn : Nat.beq (As.length + 1) N.2.2.2.2.1.length = true) (hst : Nat.ble (jcat st) 8 = true) (hd : dN + 1 ≤ d)
    (hM : MK N dN ((4 + cl, b) :: As) σ (v, σ1)) (k : AT S d (pc + 3, L, jres N v st, σ1) o) : AT S d (pc, L, As.reverse ++ (4 + cl, b) :: st, σ) o := by
  intro p l e R s m args below meth cd cells slots Q G C kr ls H locs h1 h2 h3 h4
  have k2 := k p l e R s m args below meth cd cells slots Q G C kr
  obtain ⟨hx, hb, hml, hown, hts, hG, hC, hf, hlo, hce, hsl⟩ := C
  have hN0 := Nat.eq_of_beq_eq_true hN
  have hn := Nat.eq_of_beq_eq_true hn
  simp only [jmk, hN0, Bool.and_eq_true, decide_eq_true_eq] at hm
  obtain ⟨⟨⟨⟨⟨⟨m1, m2⟩, m3⟩, m4⟩, m5, m6⟩, m7⟩, m8⟩ := hm
  have m8 := Nat.ble_eq.mp m8
  simp only [jck, hN0, Bool.and_eq_true, decide_eq_true_eq] at hk
  have hcl := of_decide_eq_true hcl
  have hvb : jvok (4 + cl, b) := h2 _ (List.mem_append_right _ List.mem_cons_self)
  obtain ⟨q1, q2, q3, q4, q5⟩ := jvok_k hvb
  have hst2 : ((st.map (jval G)).map fun v => v.category).sum ≤ 8 := by rw [jcat_eq]; exact Nat.ble_eq.mp hst
  obtain ⟨r, hr1, hr2⟩ := Option.map_eq_some_iff.mp hcl
  have hcl12 : cl < 12 := (List.getElem?_eq_some_iff.mp hr1).1
  have hcell : (jW G σ)[b.toNat]? = some (gad G b.toNat, .inr (cl, jfs G σ b (jfields.getD cl []))) := by rw [jW_at G σ q3, jcell_o q4 hcl12, q5]
  have hvs : ∀ w ∈ (4 + cl, b) :: As, jvok w := fun w hw => (List.mem_cons.mp hw).elim (fun q => q ▸ hvb) (fun hw => h2 w (List.mem_append_left _ (List.mem_reverse.mpr hw)))
  have hrec := va_recv hC.2.1 h3.1 hr1 hcell
  rw [hr2] at hrec
  have cB := callB_of (R := R) (s := s) (args := args) (own := S.1.cls) (index := i) (y := N.1) (bytes := N.2.1) (maxL := N.2.2.1) (ret := jrt N) (rm := jrm dN) (mc := 0) (ms := 0) As.length hts (jws_good m3) rfl rfl rfl (hts _ m4) (hts _ (jw_mem hk.2)) ⟨m2.1, m2.2, by rw [m7]; congr 1; omega⟩ ⟨by show dN + 1 + 1 ≤ R.frames; omega, by show 8 + (N.2.2.1 + 11) + 100 * (dN + 1) ≤ R.locals; omega⟩
  have hrun := va_runV (l := l) (e := e) (below := below) (meth := meth) (locs := locs) (cells := cells) (slots := slots) (H := H) (b := gad G b.toNat) (As := As.map (jval G)) (rest := st.map (jval G)) (g := F0 m pc ls ((As.reverse ++ (4 + cl, b) :: st).map (jval G))) ⟨hx, hb, hml, hown, hts⟩ (hM l G hG hvs) ⟨cB, hts _ m5, hts _ m6⟩ ⟨jPre_blind G _ σ, hrec, fun U hU hW => ⟨by simp only [List.map_cons, jval_r], jCx_moved hW.alike (by rw [hU]; exact fun a ha hA => h4.2.1 a ha hA) (jNw_warm hW hC.1) hC, by rw [hU]; exact h3⟩⟩ rfl (by simp) h1.2.1.1 (by simp only [List.map_append, List.map_reverse, List.map_cons, jval_r]) (by exact lv_room hst2) hk.1 ⟨hce, hsl⟩
  have hsame : ((4 + cl, b) :: As).map (jval G) = Value.ref (gad G b.toNat) :: As.map (jval G) := by simp only [List.map_cons, jval_r]
  refine jrun_i (N := N) (v := v) (σ1 := σ1) hrun h4 (fun H1 locs1 hW1 hS1 => ?_)
  rw [← jres_app]
  exact k2 ls H1 locs1 h1 (jres_ok (fun w hw => h2 w (List.mem_append_right _ (List.mem_cons_of_mem _ hw)))) hW1 hS1
set_option maxHeartbeats 1000000 in
/-- a call without an object -/
theorem AT.callS {S N : jS} {d dN : Nat} {pc i pos : Nat} {L As st : List jV} {σ σ1 : jM} {v : Int} {o : Int × jM} (hm : jmk N = true) (hk : jck S N pc i pos = true) (hN : Nat.beq N.2.2.2.2.2 1 = true) (hn : Nat.beq As.length N.2.2.2.2.1.length = true) (hst : Nat.ble (jcat st) 8 = true) (hd : dN + 1 ≤ d)
    (hM : MK N dN As σ (v, σ1)) (k : AT S d (pc + 3, L, jres N v st, σ1) o) : AT S d (pc, L, As.reverse ++ st, σ) o := by
  intro p l e R s m args below meth cd cells slots Q G C kr ls H locs h1 h2 h3 h4
  have k2 := k p l e R s m args below meth cd cells slots Q G C kr
  obtain ⟨hx, hb, hml, hown, hts, hG, hC, hf, hlo, hce, hsl⟩ := C
  have hN0 := Nat.eq_of_beq_eq_true hN
  have hn := Nat.eq_of_beq_eq_true hn
  simp only [jmk, hN0, Bool.and_eq_true, decide_eq_true_eq] at hm
  obtain ⟨⟨⟨⟨⟨⟨m1, m2⟩, m3⟩, m4⟩, m5⟩, m7⟩, m8⟩ := hm
  have m8 := Nat.ble_eq.mp m8
  simp only [jck, hN0, Bool.and_eq_true, decide_eq_true_eq, Bool.or_eq_true] at hk
  have hst2 : ((st.map (jval G)).map fun v => v.category).sum ≤ 8 := by rw [jcat_eq]; exact Nat.ble_eq.mp hst
  have hR : (jrm dN).frames + 1 ≤ R.frames ∧ 8 + (N.2.2.1 + 11) + (jrm dN).locals ≤ R.locals := ⟨by show dN + 1 + 1 ≤ R.frames; omega, by show 8 + (N.2.2.1 + 11) + 100 * (dN + 1) ≤ R.locals; omega⟩
  have hdesc : N.1.cls ≠ "java/lang/invoke/MethodHandle" ∧ N.1.cls ≠ "java/lang/invoke/VarHandle" ∧ (parseMethodDescriptor N.1.desc).map (fun d => d.parameters.length) = some As.length := ⟨m2.1, m2.2, by rw [m7]; congr 1; omega⟩
  have hvs : ∀ w ∈ As, jvok w := fun w hw => h2 w (List.mem_append_left _ (List.mem_reverse.mpr hw))
  have hpre : PreS s H (jPre G As σ) (As.map (jval G)) := ⟨jPre_blind G _ σ, fun U hU hW => ⟨rfl, jCx_moved hW.alike (by rw [hU]; exact fun a ha hA => h4.2.1 a ha hA) (jNw_warm hW hC.1) hC, by rw [hU]; exact h3⟩⟩
  have hrun : va_Run p l e R s m args below meth cd H locs cells slots 0 0 (F0 m pc ls ((As.reverse ++ st).map (jval G))) (st.map (jval G)) (jQ N G (v, σ1) (As.map (jval G)).toArray) (gA G) := by
    rcases hk.2 with hk2 | hk2
    · have cB := callB_of (R := R) (s := s) (args := args) (own := S.1.cls) (index := i) (y := N.1) (bytes := N.2.1) (maxL := N.2.2.1) (ret := jrt N) (rm := jrm dN) (mc := 0) (ms := 0) As.length hts (jws_good m3) rfl rfl rfl (hts _ m4) (hts _ (jw_mem hk2)) hdesc hR
      exact va_runS ⟨hx, hb, hml, hown, hts⟩ (hM l G hG hvs) ⟨cB, hts _ m5⟩ hpre rfl (by simp) h1.2.1.1 (by simp only [List.map_append, List.map_reverse]) (by exact lv_room hst2) hk.1 ⟨hce, hsl⟩
    · have hnest : va_Nw (.methodLinkNest S.1.cls i N.1 "JellyCathedral") s := by
        rw [hk2]
        exact hC.1.2
      have cB := va_cnB (R := R) (s := s) (args := args) (own := S.1.cls) (host := "JellyCathedral") (index := i) (y := N.1) (bytes := N.2.1) (maxL := N.2.2.1) (ret := jrt N) (rm := jrm dN) (mc := 0) (ms := 0) As.length hts (jws_good m3) rfl rfl rfl hnest (hts _ m4) hdesc hR
      exact va_runSN ⟨hx, hb, hml, hown, hts⟩ (hM l G hG hvs) ⟨cB, hts _ m5, trivial⟩ hpre rfl (by simp) h1.2.1.1 (by simp only [List.map_append, List.map_reverse]) (by exact lv_room hst2) hk.1 ⟨hce, hsl⟩
  refine jrun_i (N := N) (v := v) (σ1 := σ1) hrun h4 (fun H1 locs1 hW1 hS1 => ?_)
  rw [← jres_app]
  exact k2 ls H1 locs1 h1 (jres_ok (fun w hw => h2 w (List.mem_append_right _ hw))) hW1 hS1
