/-! the claim out of one walk: begun with kit/laws/SKELETON.whole (printed by wip/whole/gen_ws.py) -/
/-! THE CLAIM OUT OF ONE WALK OF THE LAW'S BODY. Your part is whole_start (and what it stands on); all else here is the same for every law, but numbers. -/
def R_law : String := "JellyCathedralLaw"
def lw_P (b : Addr) (xs : List Int32) (args : Array Value) (s : State) : Prop := args = #[.ref b] ∧ s.IntsAt b xs ∧ xs.length ≤ 3072 ∧ (Jvm.Cond.and given_1 narrow_1).before args s = true
def lw_Q (_ : Array Value) (s : State) (o : Outcome) (t : State) : Prop := o = .returned (some (.int 1)) ∧ Framed s o t [] 600000 7302250
def lw_Z (below : List Frame) (a : Array Value) (s : State) : State → Prop := fun t => ∃ o, t.status = .running ∧ Ended t below o ∧ lw_Q a s o t
/-- the law's own end, with 1 on the stack, nothing written that was there before, its room as the claim has it -/
theorem lw_ret {p : Program} {l : Launch} {e : Env} {s : State} {m : MethodId} {below : List Frame} {meth : Method} {c : Code} {b : Nat} (hx : p.tables.exec = Jvm.exec) (hb : c.code = code) (hr : meth.sig.returnType = ret) (hlocks : meth.locks = false) {pc : Nat} {H : Heap} {ls : Array Slot} (hdg : decode code pc = .ok (.ireturn, 1)) : W p l e room_1 s m #[Value.ref b] below meth c H [] 600000 7302250 (lw_Z below #[Value.ref b] s) (F0 m pc ls [.int 1]) := by
  intro T hT X
  obtain ⟨fs, hret, hrun, hended, hW, hframe⟩ := X.leave (v := some (.int 1)) (hlocks := hlocks) (fun h => by rw [hr] at h; cases h)
  have hmeth' : T.vm.method? m = some meth := X.method'
  refine ⟨T.setFrames fs, ?_, .returned (some (.int 1)), hrun, hended, rfl, ⟨_, rfl⟩, hW, hframe⟩
  jvm_step X.here [X.here.top, hx, hb, hdg, hmeth', hr, ret, narrow_b1]
  (try refine ⟨rfl, ?_⟩); (try refine ⟨rfl, ?_⟩)
  first | (intro acts; rw [hret _ acts rfl rfl rfl]) | rw [hret _ _ rfl rfl rfl]
  exact Steps.refl _
/-- what holds at the law's entry: the machine, the code, the tables' words (any of lw_tbl by 'hts w (by decide +kernel)'), the script of L ints xs at the cell b, what the Statement gives of the start (any of its parts by flat_of_before) -/
def lw_At (p : Program) (s : State) (m : MethodId) (meth : Method) (c : Code) (b L : Nat) (xs : Nat → Int32) : Prop :=
  p.tables.exec = Jvm.exec ∧ c.code = code ∧ meth.sig.returnType = ret ∧ c.maxLocals = 4 ∧ s.vm.findClass R_law = some m.cls ∧ (∀ w ∈ lw_tbl, w.before #[Value.ref b] s = true) ∧ va_X b L xs s s.heap ∧ b < s.heap.size ∧ meth.locks = false ∧ (Jvm.Cond.and given_1 narrow_1).before #[Value.ref b] s = true
theorem jcl_inst : ∀ q ∈ jcl, Cond.instantiable q.1 q.2.2 ∈ jT := by
  have h : (jcl.all fun q => decide (Cond.instantiable q.1 q.2.2 ∈ jT)) = true := by decide +kernel
  intro q hq
  exact of_decide_eq_true (List.all_eq_true.mp h q hq)
theorem kg_Jc : ∀ w ∈ kn_Jc, kgood w := by
  intro w hw
  rcases List.mem_append.mp hw with hw | hw
  · simp only [List.mem_cons, List.not_mem_nil, or_false] at hw
    rcases hw with rfl | rfl | rfl | rfl | rfl | rfl | rfl | rfl | rfl
    · exact Or.inl ⟨_, _, _, _, rfl⟩
    · exact Or.inl ⟨_, _, _, _, rfl⟩
    · exact Or.inl ⟨_, _, _, _, rfl⟩
    · exact Or.inl ⟨_, _, _, _, rfl⟩
    · exact Or.inl ⟨_, _, _, _, rfl⟩
    · exact Or.inl ⟨_, _, _, _, rfl⟩
    · exact Or.inl ⟨_, _, _, _, rfl⟩
    · exact Or.inr ⟨_, rfl⟩
    · exact Or.inr ⟨_, rfl⟩
  · exact kg_Se w hw
set_option maxHeartbeats 4000000 in
set_option maxRecDepth 100000 in
/-- YOUR PART: from the entry, for every script of at most 3072 ints, the law comes to its end with true ('hflags': the launch's flags, for a law that throws: no stack traces) -/
theorem whole_start {p : Program} {e : Env} {s : State} {m : MethodId} {below : List Frame} {meth : Method} {c : Code} (l : Launch) (hflags : l.flags = flags0) {b L : Nat} {xs : Nat → Int32} (hL : L ≤ 3072) (C0 : lw_At p s m meth c b L xs) : W p l e room_1 s m #[Value.ref b] below meth c s.heap [] 0 0 (lw_Z below #[Value.ref b] s) (entryFrame m ([Value.ref b] : List Value).toArray 4) := by
  obtain ⟨hx, hb, hr, hml, hown, hts, hX, hbl, hlocks, hgv⟩ := C0
  have hjT : ∀ w ∈ jT, w.before #[Value.ref b] s = true := fun w hw => hts w (jT_good hw).1
  -- the classes' numbers and slots
  have hcl : ∀ c : Nat, ∃ x : ClassId × (Nat → Nat), ∀ q : vw_C, jcl[c]? = some q → u_Kn s q.1 q.2.1 q.2.2 x.1 x.2 := fun c => by
    cases hc : jcl[c]? with
    | none => exact ⟨(0, fun _ => 0), fun q hq => by cases hq⟩
    | some q =>
      obtain ⟨cC, iS, h⟩ := u_known hjT (jcl_in q (List.mem_of_getElem? hc)) (hjT _ (jcl_inst q (List.mem_of_getElem? hc)))
      exact ⟨(cC, iS), fun q' hq => by cases hq; exact h⟩
  obtain ⟨F, hF⟩ := Classical.axiomOfChoice hcl
  -- the array classes
  obtain ⟨c0, k0, m0, a01, a02, a03⟩ := Cond.arrayClass_spec (hts (.arrayClass .int) (jtb_mem (n := 1) (List.mem_of_getElem? (i := 103) (by decide +kernel))))
  obtain ⟨c1, k1, m1, a11, a12, a13⟩ := Cond.arrayClass_spec (hts (.arrayClass .long) (jtb_mem (n := 1) (List.mem_of_getElem? (i := 47) (by decide +kernel))))
  obtain ⟨c2, k2, m2, a21, a22, a23⟩ := Cond.arrayClass_spec (hts (.arrayClass .byte) (jtb_mem (n := 2) (List.mem_of_getElem? (i := 71) (by decide +kernel))))
  obtain ⟨m3, c3, k3, a31, -, a32, a33, a34⟩ := Cond.arrayOver_spec (hts (.arrayOver (.object "JellyCathedral$Tray")) (jtb_mem (n := 1) (List.mem_of_getElem? (i := 24) (by decide +kernel))))
  obtain ⟨m4, c4, k4, a41, -, a42, a43, a44⟩ := Cond.arrayOver_spec (hts (.arrayOver (.object "JellyCathedral$See")) (jtb_mem (n := 2) (List.mem_of_getElem? (i := 22) (by decide +kernel))))
  obtain ⟨m5, c5, k5, a51, -, a52, a53, a54⟩ := Cond.arrayOver_spec (hts (.arrayOver (.object "JellyCathedral$Mould")) (jtb_mem (n := 1) (List.mem_of_getElem? (i := 55) (by decide +kernel))))
  obtain ⟨cs, hcs⟩ : ∃ cs : Nat → ClassId, cs = fun i => ([c0, c1, c2, c3, c4, c5] : List ClassId).getD i 0 := ⟨_, rfl⟩
  obtain ⟨D, hDe⟩ : ∃ D : va_G, D = (fun c => (F c).1, fun c => (F c).2) := ⟨_, rfl⟩
  have hK : va_K D jcl (ktys cs) s := by
    subst hcs hDe
    refine ⟨fun c q hq => hF c q hq, fun k q hk => ?_⟩
    match k, hk with
    | 0, hk => cases hk; exact ⟨fun n z => ⟨(fun k h => by cases h), k0, a02, m0, a03⟩, a01⟩
    | 1, hk => cases hk; exact ⟨fun n z => ⟨(fun k h => by cases h), k1, a12, m1, a13⟩, a11⟩
    | 2, hk => cases hk; exact ⟨fun n z => ⟨(fun k h => by cases h), k2, a22, m2, a23⟩, a21⟩
    | 3, hk => cases hk; exact ⟨fun n z => ⟨(fun k h => by cases h), k3, a32, m3, a33⟩, k3, m3, a32, a33, a31, a34⟩
    | 4, hk => cases hk; exact ⟨fun n z => ⟨(fun k h => by cases h), k4, a42, m4, a43⟩, k4, m4, a42, a43, a41, a44⟩
    | 5, hk => cases hk; exact ⟨fun n z => ⟨(fun k h => by cases h), k5, a52, m5, a53⟩, k5, m5, a52, a53, a51, a54⟩
    | k + 6, hk => cases hk
  clear hcs hDe hF
  have hN : ∀ w ∈ kn_Jc, va_Nw w s := by
    intro w hw
    simp only [kn_Jc, kn_Se, List.cons_append, List.nil_append, List.mem_cons, List.not_mem_nil, or_false] at hw
    rcases hw with rfl | rfl | rfl | rfl | rfl | rfl | rfl | rfl | rfl | rfl | rfl | rfl
    · exact va_Nw.of rfl (hts _ (jtb_mem (n := 1) (List.mem_of_getElem? (i := 26) (by decide +kernel))))
    · exact va_Nw.of rfl (hts _ (jtb_mem (n := 2) (List.mem_of_getElem? (i := 25) (by decide +kernel))))
    · exact va_Nw.of rfl (hts _ (jtb_mem (n := 2) (List.mem_of_getElem? (i := 74) (by decide +kernel))))
    · exact va_Nw.of rfl (hts _ (jtb_mem (n := 2) (List.mem_of_getElem? (i := 93) (by decide +kernel))))
    · exact va_Nw.of rfl (hts _ (jtb_mem (n := 2) (List.mem_of_getElem? (i := 115) (by decide +kernel))))
    · exact va_Nw.of rfl (hts _ (jtb_mem (n := 2) (List.mem_of_getElem? (i := 145) (by decide +kernel))))
    · exact va_Nw.of rfl (hts _ (jtb_mem (n := 2) (List.mem_of_getElem? (i := 171) (by decide +kernel))))
    · exact va_AO.of (hts _ (jtb_mem (n := 1) (List.mem_of_getElem? (i := 24) (by decide +kernel))))
    · exact va_AO.of (hts _ (jtb_mem (n := 2) (List.mem_of_getElem? (i := 22) (by decide +kernel))))
    · exact va_Nw.of rfl (hts _ (jtb_mem (n := 1) (List.mem_of_getElem? (i := 58) (by decide +kernel))))
    · exact va_Nw.of rfl (hts _ (jtb_mem (n := 1) (List.mem_of_getElem? (i := 105) (by decide +kernel))))
    · exact va_AO.of (hts _ (jtb_mem (n := 1) (List.mem_of_getElem? (i := 55) (by decide +kernel))))
  -- the script, the kept words
  obtain ⟨A, hA⟩ : ∃ A : Nat → Prop, A = fun q => s.heap.size ≤ q := ⟨_, rfl⟩
  have hA1 : ∀ q, s.heap.size ≤ q → A q := fun q h => by rw [hA]; exact h
  have hA2 : ∀ a : Nat, a < s.heap.size → ¬ A a := fun a h => by rw [hA]; exact Nat.not_le.mpr h
  have hA3 : ∀ q, A q → s.heap.size ≤ q := fun q h => by rw [hA] at h; exact h
  clear hA
  have hsc : va_T .int b L (fun j => .int (xs j)) A s s.heap := by
    obtain ⟨scr, x1, x2, x3, x4, x5⟩ := hX
    exact ⟨scr, x1, x2, x3, by rw [x4]; exact Nat.le_refl _, by rw [x4], x5, hA2 b hbl⟩
  have hfl := flat_of_before _ hgv
  obtain ⟨kw, hkw1, hkw2⟩ := va_Tof (N := 26) (ty := .long) (f := fun j => .long (Int64.ofInt (jkw j))) (tm := .static "JellyCathedral" "KEPT_WORDS" "[J") (A := A) (by decide) (hfl _ (by decide +kernel)) (va_eqt (z := Int32.ofNat 26) (hfl _ (by decide +kernel))) (fun j hj => by
    match j, hj with
    | 0, _ => exact va_eqtl (z := 1751474548) (hfl _ (by decide +kernel))
    | 1, _ => exact va_eqtl (z := 1868850291) (hfl _ (by decide +kernel))
    | 2, _ => exact va_eqtl (z := 495875090022) (hfl _ (by decide +kernel))
    | 3, _ => exact va_eqtl (z := 1936028787) (hfl _ (by decide +kernel))
    | 4, _ => exact va_eqtl (z := 427071599731) (hfl _ (by decide +kernel))
    | 5, _ => exact va_eqtl (z := 495874696043) (hfl _ (by decide +kernel))
    | 6, _ => exact va_eqtl (z := 482854658917) (hfl _ (by decide +kernel))
    | 7, _ => exact va_eqtl (z := 2002873451) (hfl _ (by decide +kernel))
    | 8, _ => exact va_eqtl (z := 126892148221299) (hfl _ (by decide +kernel))
    | 9, _ => exact va_eqtl (z := 470021401700) (hfl _ (by decide +kernel))
    | 10, _ => exact va_eqtl (z := 1751738216) (hfl _ (by decide +kernel))
    | 11, _ => exact va_eqtl (z := 448545973363) (hfl _ (by decide +kernel))
    | 12, _ => exact va_eqtl (z := 24948) (hfl _ (by decide +kernel))
    | 13, _ => exact va_eqtl (z := 1886352754) (hfl _ (by decide +kernel))
    | 14, _ => exact va_eqtl (z := 1987012964) (hfl _ (by decide +kernel))
    | 15, _ => exact va_eqtl (z := 461414294379) (hfl _ (by decide +kernel))
    | 16, _ => exact va_eqtl (z := 500086170472) (hfl _ (by decide +kernel))
    | 17, _ => exact va_eqtl (z := 426836652665) (hfl _ (by decide +kernel))
    | 18, _ => exact va_eqtl (z := 120299592184933) (hfl _ (by decide +kernel))
    | 19, _ => exact va_eqtl (z := 6385273) (hfl _ (by decide +kernel))
    | 20, _ => exact va_eqtl (z := 2003330414) (hfl _ (by decide +kernel))
    | 21, _ => exact va_eqtl (z := 126943688025203) (hfl _ (by decide +kernel))
    | 22, _ => exact va_eqtl (z := 1718186605) (hfl _ (by decide +kernel))
    | 23, _ => exact va_eqtl (z := 1819242352) (hfl _ (by decide +kernel))
    | 24, _ => exact va_eqtl (z := 6647396) (hfl _ (by decide +kernel))
    | 25, _ => exact va_eqtl (z := 1937010544) (hfl _ (by decide +kernel))
    | k + 26, hj => exact absurd hj (Nat.not_lt.mpr (Nat.le_add_left 26 k))) hA2
  have hkz : va_Z "JellyCathedral" "KEPT_WORDS" "[J" (.ref kw) A s s.heap := va_Zof (hts _ (jtb_mem (n := 3) (List.mem_of_getElem? (i := 106) (by decide +kernel)))) (hts _ (jtb_mem (n := 1) (List.mem_of_getElem? (i := 1) (by decide +kernel)))) hkw1 hA2
  -- the start
  have hl := lv_entry [Value.ref b] (n := 4) (Nat.le_of_ble_eq_true rfl)
  rw [lg_entry_eq]
  generalize (lg_sl [Value.ref b] ++ List.replicate (4 - (lg_sl [Value.ref b]).length) Slot.unset).toArray = ls at hl ⊢
  have hl : lv_has ls 4 [(0, .ref b)] := hl
  have C : kat sLw_law p s m #[Value.ref b] c D cs A := ⟨hx, hb, hml, hown, hjT, hK, hA1⟩
  have hH : kHp D A s [] s.heap [] := ⟨fun k q h => by simp at h, ⟨fun i j p q h => by simp at h, fun k q h => by simp at h⟩, va_S.rf⟩
  refine kr_new C hH (pc := 0) (ci := 0) (i := 7) (p1 := 1015) (p2 := 1016) (p3 := 1001) (N := 18) (by decide) (by decide +kernel) rfl (Nat.le_of_ble_eq_true rfl) (Nat.le_of_ble_eq_true rfl) (fun hJ H hH => ?_)
  refine lv_dup C.1 C.2.1 (pc := 3) (by decide +kernel) rfl ?_
  refine kr_init C hl.1 (pc := 4) (N := sJc_init) (ns := kn_Jc) (blk := kb_Jc cs hJ) (i := 9) (p1 := 1019) (p2 := 1001) (p3 := 1018) (p4 := 1017) (ws := []) hH (c_Jc D cs hJ) (by decide +kernel) (fun w hw => ⟨kg_Jc w hw, hN w hw⟩) (Nat.le_of_ble_eq_true rfl) ⟨(Nat.le_of_ble_eq_true rfl), (Nat.le_of_ble_eq_true rfl)⟩ ⟨(Nat.le_of_ble_eq_true rfl), (Nat.le_of_ble_eq_true rfl)⟩ (fun aJ H locs hH => ?_)
  refine lv_astore_n C.1 C.2.1 (pc := 7) (k := 1) (i := 1) (lv' := [(1, .ref hJ), (0, .ref b)]) (by decide +kernel) rfl hl (by decide) rfl (fun ls hl => ?_)
  refine kr_new C hH (pc := 8) (ci := 11) (i := 10) (p1 := 5177) (p2 := 5178) (p3 := 1012) (N := 46) (by decide) (by decide +kernel) rfl (Nat.le_of_ble_eq_true rfl) (Nat.le_of_ble_eq_true rfl) (fun hM H hH => ?_)
  refine lv_dup C.1 C.2.1 (pc := 11) (by decide +kernel) rfl ?_
  refine kr_init C hl.1 (pc := 12) (N := sMd_init) (ns := []) (blk := kb_Md cs hM) (i := 12) (p1 := 5181) (p2 := 1012) (p3 := 5180) (p4 := 5179) (ws := [] ++ kb_Jc cs hJ aJ) hH (c_Md D cs hM) (by decide +kernel) (fun w hw => by cases hw) (Nat.le_of_ble_eq_true rfl) ⟨(Nat.le_of_ble_eq_true rfl), (Nat.le_of_ble_eq_true rfl)⟩ ⟨(Nat.le_of_ble_eq_true rfl), (Nat.le_of_ble_eq_true rfl)⟩ (fun aM H locs hH => ?_)
  refine lv_astore_n C.1 C.2.1 (pc := 15) (k := 2) (i := 2) (lv' := [(2, .ref hM), (1, .ref hJ), (0, .ref b)]) (by decide +kernel) rfl hl (by decide) rfl (fun ls hl => ?_)
  have hH : kHp D A s (kWW cs hJ aJ hM aM) H locs := kHp_eq (by rw [← kWW_eq]; rfl) hH
  obtain ⟨hGk, hWd⟩ := k_world (kw := kw) (b := b) (L := L) (xs := xs) hH hL
  obtain ⟨s', hs'⟩ := law_pure (s := js0 L xs) js0_INV (js0_SC hL)
  have hCx : jCx (kG D cs A hJ aJ hM aM kw b L xs) s := ⟨⟨va_Nw.of rfl (hts _ (jtb_mem (n := 3) (List.mem_of_getElem? (i := 105) (by decide +kernel)))), va_Nw.of rfl (hts _ (jtb_mem (n := 5) (List.mem_of_getElem? (i := 36) (by decide +kernel))))⟩, hK, hkz, hkw2, hsc⟩
  have hlv : jlok (kG D cs A hJ aJ hM aM kw b L xs) ls 4 [(3, 0), (4, 0), (15, 155), (99, 0)] := by
    refine ⟨rfl, ⟨hl.1, hl.2.1, fun q hq => ?_⟩, fun i v hi hv => ?_⟩
    · have e : jlv (kG D cs A hJ aJ hM aM kw b L xs) [(3, 0), (4, 0), (15, 155), (99, 0)] = [(0, .ref b), (1, .ref hJ), (2, .ref hM)] := rfl
      rw [e] at hq
      simp only [List.mem_cons, List.not_mem_nil, or_false] at hq
      rcases hq with rfl | rfl | rfl
      · exact lv_at hl 2 rfl
      · exact lv_at hl 1 rfl
      · exact lv_at hl 0 rfl
    · match i, hi with
      | 0, hi => cases hi; exact Or.inr (Or.inr (Or.inr (Or.inl rfl)))
      | 1, hi => cases hi; exact Or.inr (Or.inr (Or.inr (Or.inr ⟨by decide, by decide, by decide +kernel⟩)))
      | 2, hi => cases hi; exact Or.inr (Or.inr (Or.inr (Or.inr ⟨by decide, by decide, by decide +kernel⟩)))
      | 3, hi => cases hi; exact absurd rfl hv
      | i + 4, hi => cases hi
  refine Lx_law_ok hs' p l e room_1 s m #[Value.ref b] below meth c _ _ (lw_Z below #[Value.ref b] s) (kG D cs A hJ aJ hM aM kw b L xs) ⟨hx, hb, hml, hown, hjT, hGk, hCx, (Nat.le_of_ble_eq_true rfl), (Nat.le_of_ble_eq_true rfl), (Nat.le_of_ble_eq_true rfl), (Nat.le_of_ble_eq_true rfl)⟩ (fun pc ls H locs hd ho hW hS => ?_) ls H locs hlv (fun v hv => by cases hv) hWd hH.2.2
  refine va_forget (fun q hq => hA3 _ (hS.2.2 q hq)) ?_
  refine W.widen (k := 600000) (n := 7302250) (Nat.le_of_ble_eq_true rfl) (Nat.le_of_ble_eq_true rfl) ?_
  exact lw_ret hx hb hr hlocks hd
set_option maxHeartbeats 4000000 in
theorem lw_walk (l : Launch) (hflags : l.flags = flags0) (b : Addr) (xs : List Int32) : MetFree l x (headSpec (Jvm.Cond.code x code maxLocals ret :: tables_1) room_1) (lw_P b xs) (fun _ _ _ _ _ => True) lw_Q := by
  refine MetFree.of_bodyS (code := code) (maxLocals := maxLocals) (ret := ret) (by decide) ?_ ?_
  · intro args s m h hn
    obtain ⟨meth, c, h1, h2, h3, h4, h5, h6, -, -⟩ := Cond.code_spec hn (atoms_spec (ws := Jvm.Cond.code x code maxLocals ret :: tables_1) h _ List.mem_cons_self)
    exact ⟨meth, c, h1, h2, h3, h4, h5, h6⟩
  · intro p e s m args below meth c s₁ B hml0 hP _
    obtain ⟨rfl, hx, hbd, hgv⟩ := hP
    obtain ⟨scr, harrAt, hlist, hof, hsmall⟩ := hx
    obtain ⟨hcb, hkn, -, -⟩ := State.arrayAt?_spec harrAt
    have hown : s.vm.findClass R_law = some m.cls := findClass_of_methodNamed B.named
    have hts0 : ∀ c ∈ (Jvm.Cond.code x code maxLocals ret :: tables_1), c.before #[Value.ref b] s = true := atoms_spec (ws := Jvm.Cond.code x code maxLocals ret :: tables_1) B.pre
    have hts : ∀ w ∈ lw_tbl, w.before #[Value.ref b] s = true := k2_hts_sels lw_privs (fun w hw => hts0 w (List.mem_cons_of_mem _ hw)) lw_privs_ok
    have hml : c.maxLocals = 4 := B.maxLocals_eq (hts0 _ List.mem_cons_self)
    have X₀ : Stand p l e room_1 s m #[Value.ref b] below meth c s₁ [] 0 0 := Stand.of_body B
    have hh0 : s₁.heap = s.heap := by rw [B.state]; rfl
    have hsz : scr.slots.size = xs.length := by rw [← Array.length_toList, hlist, List.length_map]
    have hval : ∀ j : Nat, j < xs.length → scr.slots[j]? = some (.int (xs.getD j 0)) := fun j hj => by
      rw [← Array.getElem?_toList, hlist]
      simp [hj]
    have hbl : b < s.heap.size := (Array.getElem?_eq_some_iff.mp hcb).1
    have hX : va_X b xs.length (fun j => xs.getD j 0) s s.heap := ⟨scr, hcb, hof, hkn, hsz, hval⟩
    have K : W p l e room_1 s m #[Value.ref b] below meth c s₁.heap [] 0 0 (lw_Z below #[Value.ref b] s) (entryFrame m ([Value.ref b] : List Value).toArray 4) := by
      rw [hh0]
      exact whole_start l hflags hbd ⟨B.exec, B.bytes, B.returns, hml, hown, hts, hX, hbl, B.notSynchronized, hgv⟩
    obtain ⟨t, a1, o, b1, b2, b3⟩ := K s₁ rfl X₀
    exact ⟨t, o, a1, b1, b2, b3⟩
theorem lw_pre_spec {args : Array Value} {s : State} (h : (Jvm.Cond.and given_1 narrow_1).before args s = true) (hr : rest_1_c.before args s = true) : ∃ (b : Addr) (xs : List Int32), lw_P b xs args s := by
  have hs := flat_of_before _ h
  have hq := flat_of_before _ hr
  have hc : (Cond.count 1).before args s = true := hs _ (by decide +kernel)
  have harr : (Cond.arrayOf (.arg 0) .int).before args s = true := hs _ (by decide +kernel)
  have hle : (Cond.le (.length (.arg 0)) (.int 3072)).before args s = true := hs _ (by decide +kernel)
  have hlen : (Cond.isInt (.length (.arg 0))).before args s = true := hq _ (by decide +kernel)
  have hall : (Cond.all (.arg 0) (.isInt (.elem (.arg 0) (.index 0)))).before args s = true := hq _ (by decide +kernel)
  obtain ⟨b, xs, hb, hx⟩ := State.ints_of_pre rfl harr hlen hall
  have hsm : xs.length < 2 ^ 31 := hx.choose_spec.2.2.2
  have hev : (Term.length (.arg 0)).eval args s none [] s = some (.int xs.length.toInt32) := hx.length_eval hb
  have hv := Cond.le_ints hev (show (Term.int 3072).eval args s none [] s = some (.int 3072) from rfl)
  have hd : xs.length.toInt32 ≤ 3072 := by
    simpa [Cond.before, Cond.holds, hv] using hle
  have hN : xs.length ≤ 3072 := (Int32.ofNat_le_ofNat hsm (by decide)).mp (show Int32.ofNat xs.length ≤ Int32.ofNat 3072 from hd)
  exact ⟨b, xs, Cond.one_arg hc (show args[0]? = some (.ref b) from hb), hx, hN, h⟩
theorem lw_comes (l : Launch) (hflags : l.flags = flags0) : Comes l x (Jvm.Cond.code x code maxLocals ret :: tables_1) room_1 (fun tb e args s => Calls_1 tb e args s ∧ rest_1 tb e args s ∧ Pre_1 tb e args s)
    (fun _ _ args s o t => lw_Q args s o t) := by
  intro p e ha hc hk s m args below hf hfit hheap happ hpre
  obtain ⟨b, xs, hP⟩ := lw_pre_spec hpre.2.2 hpre.2.1
  obtain ⟨k, o, h1, h2, h3, hQ⟩ := lw_walk l hflags b xs p e ha hc hk s m args below hf ((Spec.applies_iff_loose hf).mp happ).1 hP trivial
  exact ⟨k, o, h1, h2, h3, hQ⟩
theorem lw_frame {s t : State} {o : Outcome} {args : Array Value} (h : Framed s o t [] 600000 7302250) :
    Framed s o t (fieldLocs frame_1_writes args s ++ arrayLocs frame_1_arrays args s ++ staticLocs frame_1_statics s) 600000 7302250 := h
theorem lw_limb (L : Cond) (hL : ∀ (args : Array Value) (s t : State), L.after args s (.returned (some (.int 1))) t = true) :
    ArmFor flags0 classFile x code maxLocals ret World_1 tables_1 room_1 Calls_1 rest_1 Pre_1
      (fun tb e a s o t => postC L tb e a s o t ∧ Framed s o t (fieldLocs frame_1_writes a s ++ arrayLocs frame_1_arrays a s ++ staticLocs frame_1_statics s) 600000 7302250) := by
  intro l hflags _ _ p e ha hc hk s m args below hf hfit hheap happ hpre
  obtain ⟨k, o, h1, h2, h3, rfl, hF⟩ := lw_comes l hflags p e ha hc hk s m args below hf hfit hheap happ hpre
  exact ⟨k, _, h1, h2, h3, hL args s _, lw_frame hF⟩
theorem i_vc : Claimed_1_1 ∧ Claimed_1_2 := ⟨lw_limb limb_1_1 (fun args s t => by simp [limb_1_1, Cond.after, Cond.holds, Cond.value]), lw_limb limb_1_2 (fun args s t => Cond.after_iff.mpr (by
  first | (rw [show limb_1_2 = Cond.eq .result (.int 1) from rfl, Cond.eq_ints (x := 1) (y := 1) rfl rfl]; simp; done) | (simp [limb_1_2, Cond.value, Term.eval]; done)))⟩
