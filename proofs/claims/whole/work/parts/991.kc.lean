/-! CONSTRUCTORS: frames, rows, calls -/
def ktys (cs : Nat → ClassId) : List (ClassId × FieldType) := [(cs 0, .int), (cs 1, .long), (cs 2, .byte), (cs 3, .object "JellyCathedral$Tray"), (cs 4, .object "JellyCathedral$See"), (cs 5, .object "JellyCathedral$Mould")]
def kat (S : jS) (p : Program) (s : State) (m : MethodId) (args : Array Value) (cd : Code) (D : va_G) (cs : Nat → ClassId) (A : Nat → Prop) : Prop := p.tables.exec = Jvm.exec ∧ cd.code = S.2.1 ∧ cd.maxLocals = S.2.2.1 ∧ s.vm.findClass S.1.cls = some m.cls ∧ (∀ w ∈ jT, w.before args s = true) ∧ va_K D jcl (ktys cs) s ∧ (∀ q, s.heap.size ≤ q → A q)
def kHp (D : va_G) (A : Nat → Prop) (s : State) (ws : va_W) (H : Heap) (locs : List Loc) : Prop := va_P D jcl ws H ∧ va_D A ws ∧ va_S A s.heap H locs
theorem jrt_0 {S : jS} (h : S.2.2.2.1 = 0) : jrt S = none := by
  unfold jrt
  rw [h]
  rfl
theorem mr_getD {α : Type} (f : Nat → α) (d : α) {n j : Nat} (h : j < n) : (((List.range n).map f)[j]?).getD d = f j := by
  rw [List.getElem?_map, List.getElem?_range h]
  rfl
/-- words that aren't in the tables' list, but stay -/
def kgood (w : Cond) : Prop := (∃ a i x h, w = .methodLinkNest a i x h) ∨ ∃ C, w = .arrayOver (.object C)
theorem kgood_call {w : Cond} (h : kgood w) {U : State} {g : JFrame} {mk : MethodId} {a : Array Value} (hw : va_Nw w U) : va_Nw w (U.calling g mk a) := by
  rcases h with ⟨a1, i, x, h, rfl⟩ | ⟨C, rfl⟩
  · exact va_Nw.same (u := U) (U := U.calling g mk a) rfl rfl hw
  · exact va_AO.moved (u := U) (U := U.calling g mk a) (Vm.Alike.refl U.vm) hw
theorem kgood_warm {w : Cond} (h : kgood w) {s U : State} (hW : s.WarmedH U.vm) (hw : va_Nw w s) : va_Nw w U := by
  rcases h with ⟨a1, i, x, h, rfl⟩ | ⟨C, rfl⟩
  · exact va_Nw.warmM hW hw
  · exact va_AO.moved hW.alike hw
def kdef (ci : Nat) : List Value := (List.range (jcl.getD ci jcl0).2.2).map (fun j => defaultValue ((jYs.getD ci jY0) j))
def kPre (D : va_G) (cs : Nat → ClassId) (ns : List Cond) (ws : va_W) (sz : Nat) (vals : List Value) : Array Value → State → Prop := va_Pc vals (fun U => U.heap.size = sz ∧ va_P D jcl ws U.heap ∧ va_K D jcl (ktys cs) U ∧ va_D (fun _ => True) ws ∧ ∀ w ∈ ns, va_Nw w U)
def kPost (D : va_G) (blk : (Nat → Nat) → va_W) (ws : va_W) (sz : Nat) : Array Value → State → Outcome → State → Prop := va_Qv (fun _ : Unit => True) (fun _ t => ∃ ad : Nat → Nat, va_P D jcl (blk ad) t.heap ∧ va_D (va_A ws sz) (blk ad)) (va_A ws sz)
theorem kPre_blind {D : va_G} {cs : Nat → ClassId} {ns : List Cond} {ws : va_W} {sz : Nat} {vals : List Value} (hn : ∀ w ∈ ns, kgood w) : FrameBlind (kPre D cs ns ws sz vals) := fun a U g mk q => by
  obtain ⟨q0, q1, qP, qK, qD, qN⟩ := q
  exact ⟨q0, q1, qP, va_K.moved (u := U) (U := U.calling g mk a) (Vm.Alike.refl U.vm) qK, qD, fun w hw => kgood_call (hn w hw) (qN w hw)⟩
/-- a method of that kind by its body's walk -/
theorem kM_of {S : jS} {rm : Room} {mc ms : Nat} {vals : List Value} {ns : List Cond} {D : va_G} {cs : Nat → ClassId} {ws : va_W} {blk : (Nat → Nat) → va_W} {lv : List (Nat × Value)} (hS : (plainName S.1.cls && Nat.beq S.2.2.2.1 0) = true) (hn : (lg_sl vals).length ≤ S.2.2.1) (hlv : lv_args 0 vals = lv)
    (body : ∀ (l : Launch) (p : Program) (e : Env) (s : State) (m : MethodId) (below : List Frame) (meth : Method) (cd : Code) (ls : Array Slot) (Q : State → Prop) (A : Nat → Prop), kat S p s m vals.toArray cd D cs A → (∀ w ∈ ns, va_Nw w s) → meth.name = S.1.name → lv_has ls S.2.2.1 lv → kHp D A s ws s.heap [] → (∀ (pc : Nat) (ls : Array Slot) (H : Heap) (locs : List Loc) (ad : Nat → Nat), decode S.2.1 pc = .ok (.return_, 1) → kHp D A s (blk ad) H locs → W p l e rm s m vals.toArray below meth cd H locs mc ms Q (F0 m pc ls [])) → W p l e rm s m vals.toArray below meth cd s.heap [] 0 0 Q (F0 m 0 ls [])) : ∀ (l : Launch) (sz : Nat), Met l S.1 (jws S) rm (kPre D cs ns ws sz vals) (kPost D blk ws sz) mc ms (va_A ws sz) := by
  intro l sz
  simp only [Bool.and_eq_true] at hS
  have h0 := Nat.eq_of_beq_eq_true hS.2
  refine Met.ofW (cc := S.2.1) (maxL := S.2.2.1) (ret := jrt S) hS.1 rfl ?_
  intro p e s m args below meth c s₁ B hml hv
  obtain ⟨rfl, hsz, hP, hK, hD0, hN⟩ := hv
  have hts := atoms_spec (ws := jws S) B.pre
  have hown : s.vm.findClass S.1.cls = some m.cls := findClass_of_methodNamed B.named
  have hlocks := B.notSynchronized
  have hx := B.exec
  have hb := B.bytes
  have hr := B.returns
  have hr2 : meth.sig.returnType = none := by
    rw [hr]
    exact jrt_0 h0
  have hnm : meth.name = S.1.name := (name_of_methodNamed B.named B.method).1
  subst hsz
  have hD := hD0.self (sz := s.heap.size)
  have hl := lv_entry vals (n := S.2.2.1) hn
  rw [hlv] at hl
  rw [lg_entry_eq]
  generalize (lg_sl vals ++ List.replicate (S.2.2.1 - (lg_sl vals).length) Slot.unset).toArray = ls at hl ⊢
  refine body l p e s m below meth c ls (MQ below (kPost D blk ws s.heap.size) vals.toArray s mc ms (va_A ws s.heap.size)) (va_A ws s.heap.size) ⟨hx, hb, hml, hown, fun w hw => hts w (List.mem_cons_of_mem _ hw), hK, fun q h => Or.inr h⟩ hN hnm hl ⟨hP, hD, va_S.rf⟩ (fun pc ls H locs ad hd hH => ?_)
  exact W.vret hx hb hr2 (fun t ht hW => ⟨⟨(), rfl, trivial, ad, by rw [ht]; exact hH.1, hH.2.1⟩, hH.2.2.F ht⟩) hH.2.2.2.2 hd
section KC
variable {S : jS} {p : Program} {l : Launch} {e : Env} {R : Room} {s : State} {m : MethodId} {args : Array Value} {below : List Frame} {meth : Method} {cd : Code} {cells slots : Nat} {Q : State → Prop} {D : va_G} {cs : Nat → ClassId} {A : Nat → Prop} {ws : va_W} {H : Heap} {locs : List Loc} {pc : Nat} {ls : Array Slot} {rest : List Value}
/-- super() -/
theorem kr_obj (C : kat S p s m args cd D cs A) (hn : ls.size = S.2.2.1) {i p1 p2 p3 a : Nat} (hk : (decide (decode S.2.1 pc = .ok (.invokespecial i, 3)) && jw p1 (.methodLink S.1.cls i Lib.objectInit) && jw p2 (.instanceMethod Lib.objectInit) && jw p3 (.code Lib.objectInit ⟨#[0xb1]⟩ 1 none)) = true) (hf : 1 ≤ R.frames) (hl : 12 ≤ R.locals)
    (kk : W p l e R s m args below meth cd H locs cells slots Q (F0 m (pc + 3) ls [])) : W p l e R s m args below meth cd H locs cells slots Q (F0 m pc ls [.ref a]) := by
  obtain ⟨hx, hb, hml, hown, hts, -⟩ := C
  simp only [Bool.and_eq_true, decide_eq_true_eq] at hk
  exact W.objInit hx hb hown (hts _ (jw_mem hk.1.1.2)) (hts _ (jw_mem hk.1.2)) (hts _ (jw_mem hk.2)) rfl (by rw [hml]; exact hn) rfl hk.1.1.1 hf (by show 2 * 0 + 0 + 12 ≤ R.locals; omega) kk
/-- newarray: ints, longs, bytes -/
theorem kr_newi (C : kat S p s m args cd D cs A) (hH : kHp D A s ws H locs) {p1 N : Nat} {n : Int32} (hk : (decide (decode S.2.1 pc = .ok (.newarray .int, 2)) && jw p1 (.arrayClass .int)) = true) (hn : ¬ n < 0) (hN : n.toNatClampNeg = N) (hb : N ≤ 2000) (hc : cells + 1 ≤ R.cells) (hs : slots + N ≤ R.slots)
    (kk : ∀ (q : Nat) (H1 : Heap), kHp D A s (ws ++ [(q, .inl (cs 0, N, .inl (fun _ => 0)))]) H1 locs → W p l e R s m args below meth cd H1 locs (cells + 1) (slots + N) Q (F0 m (pc + 2) ls (.ref q :: rest))) : W p l e R s m args below meth cd H locs cells slots Q (F0 m pc ls (.int n :: rest)) := by
  obtain ⟨hx, hb', hml, hown, hts, hK, hA⟩ := C
  obtain ⟨hP, hD, hS⟩ := hH
  simp only [Bool.and_eq_true, decide_eq_true_eq] at hk
  refine va_newa (atype := .int) hx hb' (hts _ (jw_mem hk.2)) (ty := .int) rfl hK hP hD hS hA (a0 := (N, .inl (fun _ => 0))) (fun cA => by rw [vp_cell_i]; rfl) hn hN (by show N * 4 ≤ 536870912; omega) hc hs hk.1 (fun q cA H1 hK1 hP1 hD1 hS1 => ?_)
  have e1 : s.vm.findClass ("[" ++ FieldType.int.toString) = some cA := (hK1.2 6 (cA, .int) rfl).2
  have e2 : s.vm.findClass ("[" ++ FieldType.int.toString) = some (cs 0) := (hK.2 0 (cs 0, .int) rfl).2
  have e3 : cA = cs 0 := Option.some.inj (e1.symm.trans e2)
  subst e3
  exact kk q H1 ⟨hP1, hD1, hS1⟩
theorem kr_newl (C : kat S p s m args cd D cs A) (hH : kHp D A s ws H locs) {p1 N : Nat} {n : Int32} (hk : (decide (decode S.2.1 pc = .ok (.newarray .long, 2)) && jw p1 (.arrayClass .long)) = true) (hn : ¬ n < 0) (hN : n.toNatClampNeg = N) (hb : N ≤ 2000) (hc : cells + 1 ≤ R.cells) (hs : slots + N ≤ R.slots)
    (kk : ∀ (q : Nat) (H1 : Heap), kHp D A s (ws ++ [(q, .inl (cs 1, N, .inr (.inl (fun _ => 0))))]) H1 locs → W p l e R s m args below meth cd H1 locs (cells + 1) (slots + N) Q (F0 m (pc + 2) ls (.ref q :: rest))) : W p l e R s m args below meth cd H locs cells slots Q (F0 m pc ls (.int n :: rest)) := by
  obtain ⟨hx, hb', hml, hown, hts, hK, hA⟩ := C
  obtain ⟨hP, hD, hS⟩ := hH
  simp only [Bool.and_eq_true, decide_eq_true_eq] at hk
  refine va_newa (atype := .long) hx hb' (hts _ (jw_mem hk.2)) (ty := .long) rfl hK hP hD hS hA (a0 := (N, .inr (.inl (fun _ => 0)))) (fun cA => by rw [vp_cell_l]; rfl) hn hN (by show N * 8 ≤ 536870912; omega) hc hs hk.1 (fun q cA H1 hK1 hP1 hD1 hS1 => ?_)
  have e1 : s.vm.findClass ("[" ++ FieldType.long.toString) = some cA := (hK1.2 6 (cA, .long) rfl).2
  have e2 : s.vm.findClass ("[" ++ FieldType.long.toString) = some (cs 1) := (hK.2 1 (cs 1, .long) rfl).2
  have e3 : cA = cs 1 := Option.some.inj (e1.symm.trans e2)
  subst e3
  exact kk q H1 ⟨hP1, hD1, hS1⟩
theorem kr_newb (C : kat S p s m args cd D cs A) (hH : kHp D A s ws H locs) {p1 N : Nat} {n : Int32} (hk : (decide (decode S.2.1 pc = .ok (.newarray .byte, 2)) && jw p1 (.arrayClass .byte)) = true) (hn : ¬ n < 0) (hN : n.toNatClampNeg = N) (hb : N ≤ 2000) (hc : cells + 1 ≤ R.cells) (hs : slots + N ≤ R.slots)
    (kk : ∀ (q : Nat) (H1 : Heap), kHp D A s (ws ++ [(q, .inl (cs 2, N, .inl (fun _ => 0)))]) H1 locs → W p l e R s m args below meth cd H1 locs (cells + 1) (slots + N) Q (F0 m (pc + 2) ls (.ref q :: rest))) : W p l e R s m args below meth cd H locs cells slots Q (F0 m pc ls (.int n :: rest)) := by
  obtain ⟨hx, hb', hml, hown, hts, hK, hA⟩ := C
  obtain ⟨hP, hD, hS⟩ := hH
  simp only [Bool.and_eq_true, decide_eq_true_eq] at hk
  refine va_newa (atype := .byte) hx hb' (hts _ (jw_mem hk.2)) (ty := .byte) rfl hK hP hD hS hA (a0 := (N, .inl (fun _ => 0))) (fun cA => by rw [vp_cell_i]; rfl) hn hN (by show N * 1 ≤ 536870912; omega) hc hs hk.1 (fun q cA H1 hK1 hP1 hD1 hS1 => ?_)
  have e1 : s.vm.findClass ("[" ++ FieldType.byte.toString) = some cA := (hK1.2 6 (cA, .byte) rfl).2
  have e2 : s.vm.findClass ("[" ++ FieldType.byte.toString) = some (cs 2) := (hK.2 2 (cs 2, .byte) rfl).2
  have e3 : cA = cs 2 := Option.some.inj (e1.symm.trans e2)
  subst e3
  exact kk q H1 ⟨hP1, hD1, hS1⟩
/-- anewarray -/
theorem kr_newq (C : kat S p s m args cd D cs A) (hH : kHp D A s ws H locs) {i p1 t N : Nat} {K : String} {n : Int32} (hk : (decide (decode S.2.1 pc = .ok (.anewarray i, 3)) && jw p1 (.classLink S.1.cls i K)) = true) (ht : (ktys cs)[t]? = some (cs t, .object K)) (hO : va_Nw (.arrayOver (.object K)) s) (hn : ¬ n < 0) (hN : n.toNatClampNeg = N) (hb : N ≤ 2000) (hc : cells + 1 ≤ R.cells) (hs : slots + N ≤ R.slots)
    (kk : ∀ (q : Nat) (H1 : Heap), kHp D A s (ws ++ [(q, .inl (cs t, N, .inr (.inr (.inr (.inr (fun _ => none))))))]) H1 locs → W p l e R s m args below meth cd H1 locs (cells + 1) (slots + N) Q (F0 m (pc + 3) ls (.ref q :: rest))) : W p l e R s m args below meth cd H locs cells slots Q (F0 m pc ls (.int n :: rest)) := by
  obtain ⟨hx, hb', hml, hown, hts, hK, hA⟩ := C
  obtain ⟨hP, hD, hS⟩ := hH
  simp only [Bool.and_eq_true, decide_eq_true_eq] at hk
  refine va_newq hx hb' hown (hts _ (jw_mem hk.2)) hO hK hP hD hS hA hn hN (by omega) hc hs hk.1 (fun q cA H1 hK1 hP1 hD1 hS1 => ?_)
  obtain ⟨kA, comp, -, -, -, e1⟩ := (hK1.2 6 (cA, .object K) rfl).2
  obtain ⟨kB, comp2, -, -, -, e2⟩ := (hK.2 t (cs t, .object K) ht).2
  have e3 : cA = cs t := Option.some.inj (e1.symm.trans e2)
  subst e3
  exact kk q H1 ⟨hP1, hD1, hS1⟩
/-- new -/
theorem kr_new (C : kat S p s m args cd D cs A) (hH : kHp D A s ws H locs) {ci i p1 p2 p3 N : Nat} (hci : ci < 12) (hk : (decide (decode S.2.1 pc = .ok (.new i, 3)) && jw p1 (.classLink S.1.cls i (jcl.getD ci jcl0).1) && jw p2 (.instantiable (jcl.getD ci jcl0).1 (jcl.getD ci jcl0).2.2) && jw p3 (.initialized (jcl.getD ci jcl0).1)) = true) (hN : (jcl.getD ci jcl0).2.2 = N) (hc : cells + 1 ≤ R.cells) (hs : slots + N ≤ R.slots)
    (kk : ∀ (q : Nat) (H1 : Heap), kHp D A s (ws ++ [(q, .inr (ci, kdef ci))]) H1 locs → W p l e R s m args below meth cd H1 locs (cells + 1) (slots + N) Q (F0 m (pc + 3) ls (.ref q :: rest))) : W p l e R s m args below meth cd H locs cells slots Q (F0 m pc ls rest) := by
  obtain ⟨hx, hb', hml, hown, hts, hK, hA⟩ := C
  obtain ⟨hP, hD, hS⟩ := hH
  simp only [Bool.and_eq_true, decide_eq_true_eq] at hk
  subst hN
  refine va_new (ci := ci) (fs := kdef ci) (C := (jcl.getD ci jcl0).1) (T := (jcl.getD ci jcl0).2.1) (N := (jcl.getD ci jcl0).2.2) hx hb' hts (jcl_in _ (jcl_mem hci)) (jYs.getD ci jY0) (jcl_ty ci hci) hown (hts _ (jw_mem hk.1.1.2)) (hts _ (jw_mem hk.1.2)) (hts _ (jw_mem hk.2)) hK hP hD hS hA (jcl_at hci) (fun j hj => ?_) hc hs hk.1.1.1 (fun q H1 hP1 hD1 hS1 => kk q H1 ⟨hP1, hD1, hS1⟩)
  exact (mr_getD (fun j => defaultValue ((jYs.getD ci jY0) j)) Value.null hj).symm
def kT (ci k : Nat) : String × String × String × Bool := (jcl.getD ci jcl0).2.1 k
/-- putfield: one that stays (in a constructor), one that changes -/
theorem kr_putF (C : kat S p s m args cd D cs A) (hH : kHp D A s ws H locs) (hnm : meth.name = "<init>") {ci k i p1 a : Nat} {v : Value} {fs : List Value} (hci : ci < 12) (q0 : Nat) (he : ws[q0]? = some (a, .inr (ci, fs))) (hk : (decide (decode S.2.1 pc = .ok (.putfield i, 3)) && jw p1 (.fieldLink S.1.cls i (kT ci k).1 (kT ci k).2.1 (kT ci k).2.2.1) && (kT ci k).2.2.2 && decide ((kT ci k).1 = S.1.cls) && Nat.blt k (jcl.getD ci jcl0).2.2) = true) (hv : narrow ((jYs.getD ci jY0) k) v = v ∧ fits ((jYs.getD ci jY0) k) v = true) (hl : k < fs.length)
    (kk : ∀ (H1 : Heap) (locs1 : List Loc), kHp D A s (ws.set q0 (a, .inr (ci, fs.set k v))) H1 locs1 → W p l e R s m args below meth cd H1 locs1 cells slots Q (F0 m (pc + 3) ls rest)) : W p l e R s m args below meth cd H locs cells slots Q (F0 m pc ls (v :: .ref a :: rest)) := by
  obtain ⟨hx, hb', hml, hown, hts, hK, hA⟩ := C
  obtain ⟨hP, hD, hS⟩ := hH
  simp only [Bool.and_eq_true, decide_eq_true_eq] at hk
  obtain ⟨⟨⟨⟨k1, k2⟩, k3⟩, k4⟩, k5⟩ := hk
  have hkN : k < (jcl.getD ci jcl0).2.2 := Nat.ble_eq.mp k5
  exact va_putF (D := D) (ci := ci) (v := v) (ty := (jYs.getD ci jY0) k) (C := (jcl.getD ci jcl0).1) (T := (jcl.getD ci jcl0).2.1) (N := (jcl.getD ci jcl0).2.2) hx hb' hts (jcl_in _ (jcl_mem hci)) (jYs.getD ci jY0) (jcl_ty ci hci) (jcl_nm ci hci) hown hK hP hD hS q0 he (jcl_at hci) k hkN (hts _ (jw_mem k2)) (fun _ h9 => h9) k3 hnm k4 (jcl_ty ci hci k hkN) hv.1 hv.2 hl k1 (fun H1 locs1 hP1 hD1 hS1 => kk H1 locs1 ⟨hP1, hD1, hS1⟩)
theorem kr_put (C : kat S p s m args cd D cs A) (hH : kHp D A s ws H locs) {ci k i p1 a : Nat} {v : Value} {fs : List Value} (hci : ci < 12) (q0 : Nat) (he : ws[q0]? = some (a, .inr (ci, fs))) (hk : (decide (decode S.2.1 pc = .ok (.putfield i, 3)) && jw p1 (.fieldLink S.1.cls i (kT ci k).1 (kT ci k).2.1 (kT ci k).2.2.1) && !(kT ci k).2.2.2 && Nat.blt k (jcl.getD ci jcl0).2.2) = true) (hv : narrow ((jYs.getD ci jY0) k) v = v ∧ fits ((jYs.getD ci jY0) k) v = true) (hl : k < fs.length)
    (kk : ∀ (H1 : Heap) (locs1 : List Loc), kHp D A s (ws.set q0 (a, .inr (ci, fs.set k v))) H1 locs1 → W p l e R s m args below meth cd H1 locs1 cells slots Q (F0 m (pc + 3) ls rest)) : W p l e R s m args below meth cd H locs cells slots Q (F0 m pc ls (v :: .ref a :: rest)) := by
  obtain ⟨hx, hb', hml, hown, hts, hK, hA⟩ := C
  obtain ⟨hP, hD, hS⟩ := hH
  simp only [Bool.and_eq_true, decide_eq_true_eq, Bool.not_eq_true'] at hk
  obtain ⟨⟨⟨k1, k2⟩, k3⟩, k5⟩ := hk
  have hkN : k < (jcl.getD ci jcl0).2.2 := Nat.ble_eq.mp k5
  exact va_put (D := D) (ci := ci) (v := v) (ty := (jYs.getD ci jY0) k) (C := (jcl.getD ci jcl0).1) (T := (jcl.getD ci jcl0).2.1) (N := (jcl.getD ci jcl0).2.2) hx hb' hts (jcl_in _ (jcl_mem hci)) (jYs.getD ci jY0) (jcl_ty ci hci) (jcl_nm ci hci) hown hK hP hD hS q0 he (jcl_at hci) k hkN (hts _ (jw_mem k2)) (fun _ h9 => h9) k3 (jcl_ty ci hci k hkN) hv.1 hv.2 hl k1 (fun H1 locs1 hP1 hD1 hS1 => kk H1 locs1 ⟨hP1, hD1, hS1⟩)
theorem kr_get (C : kat S p s m args cd D cs A) (hH : kHp D A s ws H locs) {ci k i p1 a : Nat} {v : Value} {fs : List Value} (hci : ci < 12) (q0 : Nat) (he : ws[q0]? = some (a, .inr (ci, fs))) (hk : (decide (decode S.2.1 pc = .ok (.getfield i, 3)) && jw p1 (.fieldLink S.1.cls i (kT ci k).1 (kT ci k).2.1 (kT ci k).2.2.1) && Nat.blt k (jcl.getD ci jcl0).2.2) = true) (hv : fs[k]? = some v)
    (kk : W p l e R s m args below meth cd H locs cells slots Q (F0 m (pc + 3) ls (v :: rest))) : W p l e R s m args below meth cd H locs cells slots Q (F0 m pc ls (.ref a :: rest)) := by
  obtain ⟨hx, hb', hml, hown, hts, hK, hA⟩ := C
  obtain ⟨hP, hD, hS⟩ := hH
  simp only [Bool.and_eq_true, decide_eq_true_eq] at hk
  obtain ⟨⟨k1, k2⟩, k5⟩ := hk
  exact va_get (D := D) (ci := ci) (v := v) (C := (jcl.getD ci jcl0).1) (T := (jcl.getD ci jcl0).2.1) (N := (jcl.getD ci jcl0).2.2) hx hb' hts (jcl_in _ (jcl_mem hci)) hown hK hP q0 he (jcl_at hci) k (Nat.ble_eq.mp k5) (hts _ (jw_mem k2)) (fun _ h9 => h9) hv k1 kk
/-- a store into an array of ints, of references; its length -/
theorem kr_iast (C : kat S p s m args cd D cs A) (hH : kHp D A s ws H locs) {a n : Nat} {f : Nat → Int32} (q0 : Nat) (he : ws[q0]? = some (a, .inl (cs 0, n, .inl f))) {i x : Int32} (hin : vp_in i n) (hdg : decode S.2.1 pc = .ok (.iastore, 1))
    (kk : ∀ (H1 : Heap) (locs1 : List Loc), kHp D A s (ws.set q0 (a, .inl (cs 0, n, .inl (upd f i.toNatClampNeg x)))) H1 locs1 → W p l e R s m args below meth cd H1 locs1 cells slots Q (F0 m (pc + 1) ls rest)) : W p l e R s m args below meth cd H locs cells slots Q (F0 m pc ls (.int x :: .int i :: .ref a :: rest)) := by
  obtain ⟨hx, hb', hml, hown, hts, hK, hA⟩ := C
  obtain ⟨hP, hD, hS⟩ := hH
  exact va_iast hx hb' hK hP hD hS q0 0 he rfl hin hdg (fun H1 locs1 hP1 hD1 hS1 => kk H1 locs1 ⟨hP1, hD1, hS1⟩)
theorem kr_astq (C : kat S p s m args cd D cs A) (hH : kHp D A s ws H locs) {a n v t ci : Nat} {f : Nat → Option Nat} {vs : List Value} (q0 qk : Nat) (he : ws[q0]? = some (a, .inl (cs t, n, .inr (.inr (.inr (.inr f)))))) (hci : ci < 12) (ht : (ktys cs)[t]? = some (cs t, .object (jcl.getD ci jcl0).1)) (hv : ws[qk]? = some (v, .inr (ci, vs))) {i : Int32} (hin : vp_in i n) (hdg : decode S.2.1 pc = .ok (.aastore, 1))
    (kk : ∀ (H1 : Heap) (locs1 : List Loc), kHp D A s (ws.set q0 (a, .inl (cs t, n, .inr (.inr (.inr (.inr (va_up f i.toNatClampNeg (some v)))))))) H1 locs1 → W p l e R s m args below meth cd H1 locs1 cells slots Q (F0 m (pc + 1) ls rest)) : W p l e R s m args below meth cd H locs cells slots Q (F0 m pc ls (.ref v :: .int i :: .ref a :: rest)) := by
  obtain ⟨hx, hb', hml, hown, hts, hK, hA⟩ := C
  obtain ⟨hP, hD, hS⟩ := hH
  exact va_astq hx hb' hK hP hD hS q0 t qk ci he ht hv (jcl_at hci) hin hdg (fun H1 locs1 hP1 hD1 hS1 => kk H1 locs1 ⟨hP1, hD1, hS1⟩)
/-- behind a constructor's call: what was there, and the new one's cells -/
theorem k_join {q : Nat} {e0 : va_E} {w1 : va_W} {H1 : Heap} {locs1 : List Loc} (hH : kHp D A s (ws ++ [(q, e0)]) H locs) (hA : ∀ q, s.heap.size ≤ q → A q) (hk1 : ∀ x : Nat, x < H.size → ¬ va_A [(q, e0)] H.size x → H1[x]? = H[x]?) (hP1 : va_P D jcl w1 H1) (hD1 : va_D (va_A [(q, e0)] H.size) w1) (hS1 : va_S A s.heap H1 locs1) : kHp D A s (ws ++ w1) H1 locs1 := by
  obtain ⟨hP, hD, hS⟩ := hH
  have at1 : ∀ (k : Nat) (x : Nat × va_E), ws[k]? = some x → (ws ++ [(q, e0)])[k]? = some x := fun k x hx => by
    rw [List.getElem?_append_left (List.getElem?_eq_some_iff.mp hx).1]
    exact hx
  have atq : (ws ++ [(q, e0)])[ws.length]? = some (q, e0) := by
    rw [List.getElem?_append_right (Nat.le_refl _), Nat.sub_self]
    rfl
  have apart : ∀ (k : Nat) (x : Nat × va_E), ws[k]? = some x → x.1 < H.size ∧ ¬ va_A [(q, e0)] H.size x.1 := fun k x hx => by
    have hl := (hP k x (at1 k x hx)).lt
    refine ⟨hl, fun h => ?_⟩
    rcases h with ⟨k2, e2, h⟩ | h
    · have hz : k2 < 1 := (List.getElem?_eq_some_iff.mp h).1
      rw [show k2 = 0 by omega] at h
      have h9 : (q, e0) = (x.1, e2) := Option.some.inj h
      have h10 := hD.1 k ws.length x (q, e0) (at1 k x hx) atq (by rw [h9])
      have := (List.getElem?_eq_some_iff.mp hx).1
      omega
    · omega
  have hF : ∀ x, va_A [(q, e0)] H.size x → A x := fun x h => by
    rcases h with ⟨k2, e2, h⟩ | h
    · have hz : k2 < 1 := (List.getElem?_eq_some_iff.mp h).1
      rw [show k2 = 0 by omega] at h
      have h9 : (q, e0) = (x, e2) := Option.some.inj h
      have := hD.2 _ _ atq
      rw [h9] at this
      exact this
    · exact hA x (Nat.le_trans hS.1 h)
  refine ⟨va_P.app (fun k x hx => ?_) hP1, va_D.app ⟨fun i j x y hx hy => hD.1 i j x y (at1 i x hx) (at1 j y hy), fun k x hx => hD.2 k x (at1 k x hx)⟩ (hD1.weaken (fun k x _ h => hF x.1 h)) (fun i j x y hx hy hxy => ?_), hS1⟩
  · obtain ⟨g1, g2⟩ := apart k x hx
    exact (hP k x (at1 k x hx)).kept (hk1 x.1 g1 g2)
  · exact (apart i x hx).2 (by rw [hxy]; exact hD1.2 j y hy)
/-- what the tables say of a constructor -/
def kmk (N : jS) (p1 p2 p3 : Nat) : Bool := decide (N.1.cls ≠ "java/lang/invoke/MethodHandle" ∧ N.1.cls ≠ "java/lang/invoke/VarHandle") && jw p1 (Cond.code N.1 N.2.1 N.2.2.1 (jrt N)) && jw p2 (Cond.initialized N.1.cls) && jw p3 (Cond.instanceMethod N.1) && decide (N.1.name = "<init>") && decide ((parseMethodDescriptor N.1.desc).map (fun d => d.parameters.length) = some 0) && Nat.beq N.2.2.2.1 0
theorem kr_initN (C : kat S p s m args cd D cs A) (hn : ls.size = S.2.2.1) {N : jS} {rm : Room} {mc ms : Nat} {ns : List Cond} {e0 : va_E} {blk : (Nat → Nat) → va_W} {q i p1 p2 p3 : Nat} (hH : kHp D A s (ws ++ [(q, e0)]) H locs) (hM : ∀ (l : Launch) (sz : Nat), Met l N.1 (jws N) rm (kPre D cs ns [(q, e0)] sz [.ref q]) (kPost D blk [(q, e0)] sz) mc ms (va_A [(q, e0)] sz)) (hk : (kmk N p1 p2 p3 && decide (decode S.2.1 pc = .ok (.invokespecial i, 3)) && decide (rm.cells = mc ∧ rm.slots = ms)) = true) (hL : va_Nw (.methodLinkNest S.1.cls i N.1 "JellyCathedral") s) (hns : ∀ w ∈ ns, kgood w ∧ va_Nw w s) (hst : ((rest.map fun v => v.category).sum) ≤ 8) (hR : rm.frames + 1 ≤ R.frames ∧ 8 + (N.2.2.1 + 11) + rm.locals ≤ R.locals) (hc : cells + mc ≤ R.cells ∧ slots + ms ≤ R.slots)
    (kk : ∀ (ad : Nat → Nat) (H1 : Heap) (locs1 : List Loc), kHp D A s (ws ++ blk ad) H1 locs1 → W p l e R s m args below meth cd H1 locs1 (cells + mc) (slots + ms) Q (F0 m (pc + 3) ls rest)) : W p l e R s m args below meth cd H locs cells slots Q (F0 m pc ls (.ref q :: rest)) := by
  have hH2 := hH
  obtain ⟨hx, hb', hml, hown, hts, hK, hA⟩ := C
  obtain ⟨hP, hD, hS⟩ := hH
  simp only [kmk, Bool.and_eq_true, decide_eq_true_eq] at hk
  obtain ⟨⟨⟨⟨⟨⟨⟨⟨k1, k2⟩, k3⟩, k4⟩, k5⟩, k6⟩, k7⟩, k8⟩, k9⟩ := hk
  have k7 := Nat.eq_of_beq_eq_true k7
  have hret : jrt N = none := jrt_0 k7
  have atq : (ws ++ [(q, e0)])[ws.length]? = some (q, e0) := by
    rw [List.getElem?_append_right (Nat.le_refl _), Nat.sub_self]
    rfl
  have hPc : va_P D jcl [(q, e0)] H := fun k x hx => by
    have hz : k < 1 := (List.getElem?_eq_some_iff.mp hx).1
    rw [show k = 0 by omega] at hx
    cases hx
    exact hP _ _ atq
  have hDc : va_D (fun _ => True) [(q, e0)] := ⟨fun i j x y hx hy _ => by
    have hz : i < 1 := (List.getElem?_eq_some_iff.mp hx).1
    have hz2 : j < 1 := (List.getElem?_eq_some_iff.mp hy).1
    omega, fun _ _ _ => trivial⟩
  have hF : ∀ x, va_A [(q, e0)] H.size x → A x := fun x h => by
    rcases h with ⟨k2, e2, h⟩ | h
    · have hz : k2 < 1 := (List.getElem?_eq_some_iff.mp h).1
      rw [show k2 = 0 by omega] at h
      have h9 : (q, e0) = (x, e2) := Option.some.inj h
      have := hD.2 _ _ atq
      rw [h9] at this
      exact this
    · exact hA x (Nat.le_trans hS.1 h)
  have hcode := jw_mem k2
  have cB : va_CN R s args S.1.cls i N.1 "JellyCathedral" N.2.1 N.2.2.1 (jrt N) (jws N) rm mc ms 0 := va_cnB 0 hts (jws_good hcode) rfl k9.1 k9.2 hL (hts _ (jw_mem k3)) ⟨k1.1, k1.2, k6⟩ hR
  rw [hret] at cB
  refine va_callv (a := ([.ref q] : List Value).toArray) (va_runIN (As := []) (rest := rest) ⟨hx, hb', hml, hown, hts⟩ (hM l H.size) ⟨cB, k5, hts _ (jw_mem k4)⟩ ⟨kPre_blind (fun w hw => (hns w hw).1), fun U hU hW => ⟨rfl, by rw [hU], by rw [hU]; exact hPc, va_K.moved hW.alike hK, hDc, fun w hw => kgood_warm (hns w hw).1 hW (hns w hw).2⟩⟩ rfl rfl hn rfl (lv_room hst) k8 hc) hS (fun x _ h => hF x h) hF (fun u t H1 locs1 ht hvm hw hB hz1 hk1 hS1 => ?_)
  obtain ⟨ad, hP1, hD1⟩ := hB
  rw [ht] at hP1
  exact kk ad H1 locs1 (k_join hH2 hA hk1 hP1 hD1 hS1)
theorem kr_init (C : kat S p s m args cd D cs A) (hn : ls.size = S.2.2.1) {N : jS} {rm : Room} {mc ms : Nat} {ns : List Cond} {e0 : va_E} {blk : (Nat → Nat) → va_W} {q i p1 p2 p3 p4 : Nat} (hH : kHp D A s (ws ++ [(q, e0)]) H locs) (hM : ∀ (l : Launch) (sz : Nat), Met l N.1 (jws N) rm (kPre D cs ns [(q, e0)] sz [.ref q]) (kPost D blk [(q, e0)] sz) mc ms (va_A [(q, e0)] sz)) (hk : (kmk N p1 p2 p3 && decide (decode S.2.1 pc = .ok (.invokespecial i, 3)) && decide (rm.cells = mc ∧ rm.slots = ms) && jw p4 (.methodLink S.1.cls i N.1)) = true) (hns : ∀ w ∈ ns, kgood w ∧ va_Nw w s) (hst : ((rest.map fun v => v.category).sum) ≤ 8) (hR : rm.frames + 1 ≤ R.frames ∧ 8 + (N.2.2.1 + 11) + rm.locals ≤ R.locals) (hc : cells + mc ≤ R.cells ∧ slots + ms ≤ R.slots)
    (kk : ∀ (ad : Nat → Nat) (H1 : Heap) (locs1 : List Loc), kHp D A s (ws ++ blk ad) H1 locs1 → W p l e R s m args below meth cd H1 locs1 (cells + mc) (slots + ms) Q (F0 m (pc + 3) ls rest)) : W p l e R s m args below meth cd H locs cells slots Q (F0 m pc ls (.ref q :: rest)) := by
  have hH2 := hH
  obtain ⟨hx, hb', hml, hown, hts, hK, hA⟩ := C
  obtain ⟨hP, hD, hS⟩ := hH
  simp only [kmk, Bool.and_eq_true, decide_eq_true_eq] at hk
  obtain ⟨⟨⟨⟨⟨⟨⟨⟨⟨k1, k2⟩, k3⟩, k4⟩, k5⟩, k6⟩, k7⟩, k8⟩, k9⟩, k10⟩ := hk
  have k7 := Nat.eq_of_beq_eq_true k7
  have hret : jrt N = none := jrt_0 k7
  have atq : (ws ++ [(q, e0)])[ws.length]? = some (q, e0) := by
    rw [List.getElem?_append_right (Nat.le_refl _), Nat.sub_self]
    rfl
  have hPc : va_P D jcl [(q, e0)] H := fun k x hx => by
    have hz : k < 1 := (List.getElem?_eq_some_iff.mp hx).1
    rw [show k = 0 by omega] at hx
    cases hx
    exact hP _ _ atq
  have hDc : va_D (fun _ => True) [(q, e0)] := ⟨fun i j x y hx hy _ => by
    have hz : i < 1 := (List.getElem?_eq_some_iff.mp hx).1
    have hz2 : j < 1 := (List.getElem?_eq_some_iff.mp hy).1
    omega, fun _ _ _ => trivial⟩
  have hF : ∀ x, va_A [(q, e0)] H.size x → A x := fun x h => by
    rcases h with ⟨k2, e2, h⟩ | h
    · have hz : k2 < 1 := (List.getElem?_eq_some_iff.mp h).1
      rw [show k2 = 0 by omega] at h
      have h9 : (q, e0) = (x, e2) := Option.some.inj h
      have := hD.2 _ _ atq
      rw [h9] at this
      exact this
    · exact hA x (Nat.le_trans hS.1 h)
  have hcode := jw_mem k2
  have cB : CallB R s args S.1.cls i N.1 N.2.1 N.2.2.1 (jrt N) (jws N) rm mc ms 0 := callB_of 0 hts (jws_good hcode) rfl k9.1 k9.2 (hts _ (jw_mem k3)) (hts _ (jw_mem k10)) ⟨k1.1, k1.2, k6⟩ hR
  rw [hret] at cB
  refine va_callv (a := ([.ref q] : List Value).toArray) (va_runI (As := []) (rest := rest) ⟨hx, hb', hml, hown, hts⟩ (hM l H.size) ⟨cB, k5, hts _ (jw_mem k4)⟩ ⟨kPre_blind (fun w hw => (hns w hw).1), fun U hU hW => ⟨rfl, by rw [hU], by rw [hU]; exact hPc, va_K.moved hW.alike hK, hDc, fun w hw => kgood_warm (hns w hw).1 hW (hns w hw).2⟩⟩ rfl rfl hn rfl (lv_room hst) k8 hc) hS (fun x _ h => hF x h) hF (fun u t H1 locs1 ht hvm hw hB hz1 hk1 hS1 => ?_)
  obtain ⟨ad, hP1, hD1⟩ := hB
  rw [ht] at hP1
  exact kk ad H1 locs1 (k_join hH2 hA hk1 hP1 hD1 hS1)
/-- a method of an object of the world, given the world whole -/
theorem kr_callV (C : kat S p s m args cd D cs A) (hn : ls.size = S.2.2.1) {N : jS} {rm : Room} {mc ms : Nat} {As : List Value} {blk : (Nat → Nat) → va_W} {q i cl pos : Nat} {fs : List Value} (q0 : Nat) (he : ws[q0]? = some (q, .inr (cl, fs))) (hH : kHp D A s ws H locs) (hM : ∀ (l : Launch) (sz : Nat), Met l N.1 (jws N) rm (kPre D cs [] ws sz (.ref q :: As)) (kPost D blk ws sz) mc ms (va_A ws sz)) (hm : jmk N = true) (hN : (Nat.beq N.2.2.2.2.2 0 && Nat.beq N.2.2.2.1 0) = true) (hcl : decide (jcl[cl]?.map (fun q => q.1) = some N.1.cls) = true) (hk : jck S N pc i pos = true) (hlen : Nat.beq (As.length + 1) N.2.2.2.2.1.length = true) (hst : ((rest.map fun v => v.category).sum) ≤ 8) (hrm : rm.cells = mc ∧ rm.slots = ms) (hR : rm.frames + 1 ≤ R.frames ∧ 8 + (N.2.2.1 + 11) + rm.locals ≤ R.locals) (hc : cells + mc ≤ R.cells ∧ slots + ms ≤ R.slots)
    (kk : ∀ (ad : Nat → Nat) (H1 : Heap) (locs1 : List Loc), kHp D A s (blk ad) H1 locs1 → W p l e R s m args below meth cd H1 locs1 (cells + mc) (slots + ms) Q (F0 m (pc + 3) ls rest)) : W p l e R s m args below meth cd H locs cells slots Q (F0 m pc ls (As.reverse ++ .ref q :: rest)) := by
  obtain ⟨hx, hb', hml, hown, hts, hK, hA⟩ := C
  obtain ⟨hP, hD, hS⟩ := hH
  simp only [Bool.and_eq_true] at hN
  have hN0 := Nat.eq_of_beq_eq_true hN.1
  have hN1 := Nat.eq_of_beq_eq_true hN.2
  have hlen := Nat.eq_of_beq_eq_true hlen
  have hret : jrt N = none := jrt_0 hN1
  simp only [jmk, hN0, Bool.and_eq_true, decide_eq_true_eq] at hm
  obtain ⟨⟨⟨⟨⟨⟨m1, m2⟩, m3⟩, m4⟩, m5, m6⟩, m7⟩, m8⟩ := hm
  simp only [jck, hN0, Bool.and_eq_true, decide_eq_true_eq] at hk
  have hcl := of_decide_eq_true hcl
  obtain ⟨r, hr1, hr2⟩ := Option.map_eq_some_iff.mp hcl
  have hrec := va_recv hK hP hr1 he
  rw [hr2] at hrec
  have hF : ∀ x, va_A ws H.size x → A x := fun x h => by
    rcases h with ⟨k2, e2, h⟩ | h
    · exact hD.2 k2 (x, e2) h
    · exact hA x (Nat.le_trans hS.1 h)
  have cB : CallB R s args S.1.cls i N.1 N.2.1 N.2.2.1 (jrt N) (jws N) rm mc ms As.length := callB_of As.length hts (jws_good m3) rfl hrm.1 hrm.2 (hts _ m4) (hts _ (jw_mem hk.2)) ⟨m2.1, m2.2, by rw [m7]; congr 1; omega⟩ hR
  refine va_callv (a := (Value.ref q :: As).toArray) (va_runV (As := As) (rest := rest) ⟨hx, hb', hml, hown, hts⟩ (hM l H.size) ⟨cB, hts _ m5, hts _ m6⟩ ⟨kPre_blind (fun w hw => by cases hw), hrec, fun U hU hW => ⟨rfl, by rw [hU], by rw [hU]; exact hP, va_K.moved hW.alike hK, hD.weaken (fun _ _ _ _ => trivial), fun w hw => by cases hw⟩⟩ rfl rfl hn rfl (lv_room hst) hk.1 hc) hS (fun x _ h => hF x h) hF (fun u t H1 locs1 ht hvm hw hB hz1 hk1 hS1 => ?_)
  obtain ⟨ad, hP1, hD1⟩ := hB
  rw [ht] at hP1
  exact kk ad H1 locs1 ⟨hP1, hD1.weaken (fun k x _ h => hF x.1 h), hS1⟩
end KC
