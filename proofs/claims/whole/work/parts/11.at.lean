/-! A METHOD's RUN: from a place of its code it comes to its end with that answer and those cells -/
def jrst (S : jS) (v : Int) : List Value := match S.2.2.2.1 with
  | 0 => []
  | 2 => [.long (Int64.ofInt v)]
  | _ => [.int (Int32.ofInt v)]
def jrin (S : jS) : Instr := match S.2.2.2.1 with
  | 0 => .return_
  | 2 => .lreturn
  | _ => .ireturn
def AT (S : jS) (d : Nat) (c : jC) (o : Int × jM) : Prop :=
  ∀ (p : Program) (l : Launch) (e : Env) (R : Room) (s : State) (m : MethodId) (args : Array Value) (below : List Frame) (meth : Method) (cd : Code) (cells slots : Nat) (Q : State → Prop) (G : jG),
    jat S (d + 1) p R s m args cd cells slots G →
    (∀ (pc : Nat) (ls : Array Slot) (H : Heap) (locs : List Loc), decode S.2.1 pc = .ok (jrin S, 1) → (3 ≤ S.2.2.2.1 → o.1 = 0 ∨ o.1 = 1) → jWd G o.2 H → va_S (gA G) s.heap H locs → W p l e R s m args below meth cd H locs cells slots Q (F0 m pc ls (jrst S o.1))) →
    jGo S p l e R s m args below meth cd cells slots Q G c
theorem AT.row {S : jS} {d : Nat} {c : jC} {o : Int × jM} (es : List jE) {g : List Prop} {c' : jC} (hk : jbk S es = true) (h : jrun es c = some (g, c')) (hg : jand g) (k : AT S d c' o) : AT S d c o :=
  fun p l e R s m args below meth cd cells slots Q G C kr => jruns C es c c' g hk h (jand_all hg) (k p l e R s m args below meth cd cells slots Q G C kr)
/-- a row of instructions, with what must hold of it asked by the pure text -/
theorem AT.blk {S : jS} {d : Nat} {c : jC} {o : Int × jM} (es : List jE) {g : Prop} {gs : List Prop} {c' : jC} [Decidable g] {X : Option (Int × jM)} (hk : jbk S es = true) (h : jrun es c = some (gs, c')) (hgs : g → jand gs) (H : (if g then X else none) = some o) (k : X = some o → AT S d c' o) : AT S d c o := by
  by_cases hg : g
  · rw [if_pos hg] at H
    exact AT.row es hk h (hgs hg) (k H)
  · rw [if_neg hg] at H
    cases H
theorem AT.seq {S : jS} {d : Nat} {c : jC} {o : Int × jM} (es : List jE) {c' : jC} (hk : jbk S es = true) (h : jrun es c = some ([], c')) (k : AT S d c' o) : AT S d c o := AT.row es hk h trivial k
theorem AT.ite {S : jS} {d : Nat} {pc : Nat} {L st : List jV} {σ : jM} {o : Int × jM} {ins : Instr} {x : jX} {q : Prop} [Decidable q] {cT cF : jC} {X Y : Option (Int × jM)} (hk : jbk S [(pc, ins, 3, x)] = true) (h : jbr ins (pc, L, st, σ) = some (q, cT, cF)) (H : (if q then X else Y) = some o) (kT : X = some o → AT S d cT o) (kF : Y = some o → AT S d cF o) : AT S d (pc, L, st, σ) o :=
  fun p l e R s m args below meth cd cells slots Q G C kr => jbrs C hk h (fun hq => by
    rw [if_pos hq] at H
    exact kT H p l e R s m args below meth cd cells slots Q G C kr) (fun hq => by
    rw [if_neg hq] at H
    exact kF H p l e R s m args below meth cd cells slots Q G C kr)
/-- fewer known locals -/
def jle : List jV → List jV → Prop
  | [], [] => True
  | a :: as, b :: bs => (a = b ∨ a.1 = 99) ∧ jle as bs
  | _, _ => False
theorem jle_at {L' L : List jV} (h : jle L' L) : L'.length = L.length ∧ ∀ (i : Nat) (v : jV), L'[i]? = some v → v.1 ≠ 99 → L[i]? = some v := by
  induction L' generalizing L with
  | nil =>
    cases L with
    | nil => exact ⟨rfl, fun i v h _ => h⟩
    | cons b bs => cases h
  | cons a as ih =>
    cases L with
    | nil => cases h
    | cons b bs =>
      obtain ⟨h1, h2⟩ := h
      obtain ⟨i1, i2⟩ := ih h2
      refine ⟨by simp [i1], fun i v hi hv => ?_⟩
      cases i with
      | zero =>
        simp only [List.getElem?_cons_zero, Option.some.injEq] at hi ⊢
        rcases h1 with h1 | h1
        · rw [← h1, hi]
        · rw [hi] at h1; exact absurd h1 hv
      | succ i =>
        simp only [List.getElem?_cons_succ] at hi ⊢
        exact i2 i v hi hv
theorem AT.weak {S : jS} {d : Nat} {pc : Nat} {L' L st : List jV} {σ : jM} {o : Int × jM} (h : jle L' L) (k : AT S d (pc, L', st, σ) o) : AT S d (pc, L, st, σ) o := by
  intro p l e R s m args below meth cd cells slots Q G C kr ls H locs h1 h2 h3 h4
  obtain ⟨i1, i2⟩ := jle_at h
  refine k p l e R s m args below meth cd cells slots Q G C kr ls H locs ⟨i1.trans h1.1, ⟨h1.2.1.1, h1.2.1.2.1, fun q hq => ?_⟩, fun i v hi hv => h1.2.2 i v (i2 i v hi hv) hv⟩ h2 h3 h4
  obtain ⟨⟨v, j⟩, hm, rfl⟩ := List.mem_map.mp hq
  obtain ⟨hm1, hm2⟩ := List.mem_filter.mp hm
  rw [List.mem_zipIdx_iff_getElem?] at hm1
  have hv : v.1 ≠ 99 := by simpa using hm2
  exact h1.2.1.2.2 _ (jlv_mem (i2 j v hm1 hv) hv)
theorem AT.retv {S : jS} {d : Nat} {pc : Nat} {L : List jV} {σ : jM} (hk : (decide (decode S.2.1 pc = .ok (.return_, 1)) && Nat.beq S.2.2.2.1 0) = true) : AT S d (pc, L, [], σ) (0, σ) := by
  simp only [Bool.and_eq_true, decide_eq_true_eq] at hk
  have he := Nat.eq_of_beq_eq_true hk.2
  intro p l e R s m args below meth cd cells slots Q G C kr ls H locs h1 h2 h3 h4
  have h9 := kr pc ls H locs (by rw [jrin, he]; exact hk.1) (fun z => by rw [he] at z; exact absurd z (by decide)) h3 h4
  rw [jrst, he] at h9
  exact h9
theorem AT.reti {S : jS} {d : Nat} {pc : Nat} {L : List jV} {v : Int} {σ : jM} (hk : (decide (decode S.2.1 pc = .ok (.ireturn, 1)) && Nat.beq S.2.2.2.1 1) = true) : AT S d (pc, L, [(0, v)], σ) (v, σ) := by
  simp only [Bool.and_eq_true, decide_eq_true_eq] at hk
  have he := Nat.eq_of_beq_eq_true hk.2
  intro p l e R s m args below meth cd cells slots Q G C kr ls H locs h1 h2 h3 h4
  have h9 := kr pc ls H locs (by rw [jrin, he]; exact hk.1) (fun z => by rw [he] at z; exact absurd z (by decide)) h3 h4
  rw [jrst, he] at h9
  exact h9
theorem AT.retl {S : jS} {d : Nat} {pc : Nat} {L : List jV} {v : Int} {σ : jM} (hk : (decide (decode S.2.1 pc = .ok (.lreturn, 1)) && Nat.beq S.2.2.2.1 2) = true) : AT S d (pc, L, [(1, v)], σ) (v, σ) := by
  simp only [Bool.and_eq_true, decide_eq_true_eq] at hk
  have he := Nat.eq_of_beq_eq_true hk.2
  intro p l e R s m args below meth cd cells slots Q G C kr ls H locs h1 h2 h3 h4
  have h9 := kr pc ls H locs (by rw [jrin, he]; exact hk.1) (fun z => by rw [he] at z; exact absurd z (by decide)) h3 h4
  rw [jrst, he] at h9
  exact h9
theorem AT.retz {S : jS} {d : Nat} {pc : Nat} {L : List jV} {v : Int} {σ : jM} (hk : (decide (decode S.2.1 pc = .ok (.ireturn, 1)) && Nat.beq S.2.2.2.1 3) = true) (hv : v = 0 ∨ v = 1) : AT S d (pc, L, [(0, v)], σ) (v, σ) := by
  simp only [Bool.and_eq_true, decide_eq_true_eq] at hk
  have he := Nat.eq_of_beq_eq_true hk.2
  intro p l e R s m args below meth cd cells slots Q G C kr ls H locs h1 h2 h3 h4
  have h9 := kr pc ls H locs (by rw [jrin, he]; exact hk.1) (fun _ => hv) h3 h4
  rw [jrst, he] at h9
  exact h9
/-- a table of jumps, the number known -/
theorem AT.sw {S : jS} {d : Nat} {pc : Nat} {L st : List jV} {x v : Int} {σ : jM} {o : Int × jM} {ins : Instr} {n t : Nat} (hk : (decide (decode S.2.1 pc = .ok (ins, n)) && decide (jtgt ins v = some ((t : Int) - (pc : Int))) && (match ins with
    | .lookupswitch _ ps => (ps.toList.zip (ps.toList.drop 1)).all (fun (a, next) => a.1 < next.1)
    | _ => true)) = true) (hx : w32 x = v) (k : AT S d (t, L, st, σ) o) : AT S d (pc, L, (0, x) :: st, σ) o := by
  simp only [Bool.and_eq_true, decide_eq_true_eq] at hk
  obtain ⟨⟨hd, ht⟩, hp⟩ := hk
  intro p l e R s m args below meth cd cells slots Q G C kr ls H locs h1 h2 h3 h4
  have k2 := k p l e R s m args below meth cd cells slots Q G C kr ls H locs h1 (fun w hw => h2 w (List.mem_cons_of_mem _ hw)) h3 h4
  have hv : (Int32.ofInt x).toInt = v := by rw [o32_i, hx]
  obtain ⟨q1, q2, -⟩ := C
  cases ins
  case tableswitch df lo hi offs =>
    simp only [jtgt] at ht
    by_cases hz : v < lo ∨ hi < v
    · rw [if_pos hz] at ht
      have ht := Option.some.inj ht
      exact lv_tableOut (x := Int32.ofInt x) q1 q2 hd (by rw [hv]; exact hz) (tgt := t) (by omega) k2
    · rw [if_neg hz] at ht
      exact lv_tableIn (x := Int32.ofInt x) q1 q2 hd (by rw [hv]; omega) (by rw [hv]; omega) (off := (t : Int) - (pc : Int)) (by rw [hv]; exact ht) (tgt := t) (by omega) k2
  case lookupswitch df ps =>
    simp only [jtgt, Option.some.injEq] at ht
    exact lv_lookup (x := Int32.ofInt x) q1 q2 hd hp (off := (t : Int) - (pc : Int)) (by rw [hv]; exact ht) (tgt := t) (by omega) k2
  all_goals cases ht
/-- a table of jumps, the number outside of it -/
theorem AT.swd {S : jS} {d : Nat} {pc : Nat} {L st : List jV} {x : Int} {σ : jM} {o : Int × jM} {df lo hi : Int} {offs : Array Int} {n t : Nat} (hk : (decide (decode S.2.1 pc = .ok (.tableswitch df lo hi offs, n)) && decide ((pc : Int) + df = (t : Int))) = true) (hx : w32 x < lo ∨ hi < w32 x) (k : AT S d (t, L, st, σ) o) : AT S d (pc, L, (0, x) :: st, σ) o := by
  simp only [Bool.and_eq_true, decide_eq_true_eq] at hk
  intro p l e R s m args below meth cd cells slots Q G C kr ls H locs h1 h2 h3 h4
  have k2 := k p l e R s m args below meth cd cells slots Q G C kr ls H locs h1 (fun w hw => h2 w (List.mem_cons_of_mem _ hw)) h3 h4
  obtain ⟨q1, q2, -⟩ := C
  exact lv_tableOut (x := Int32.ofInt x) q1 q2 hk.1 (by rw [o32_i]; exact hx) (tgt := t) hk.2 k2
theorem AT.retvH {S : jS} {d : Nat} {pc : Nat} {L : List jV} {σ : jM} {o : Int × jM} (hk : (decide (decode S.2.1 pc = .ok (.return_, 1)) && Nat.beq S.2.2.2.1 0) = true) (H : some (0, σ) = some o) : AT S d (pc, L, [], σ) o := by
  cases H
  exact AT.retv hk
theorem AT.retiH {S : jS} {d : Nat} {pc : Nat} {L : List jV} {v : Int} {σ : jM} {o : Int × jM} (hk : (decide (decode S.2.1 pc = .ok (.ireturn, 1)) && Nat.beq S.2.2.2.1 1) = true) (H : some (v, σ) = some o) : AT S d (pc, L, [(0, v)], σ) o := by
  cases H
  exact AT.reti hk
theorem AT.retlH {S : jS} {d : Nat} {pc : Nat} {L : List jV} {v : Int} {σ : jM} {o : Int × jM} (hk : (decide (decode S.2.1 pc = .ok (.lreturn, 1)) && Nat.beq S.2.2.2.1 2) = true) (H : some (v, σ) = some o) : AT S d (pc, L, [(1, v)], σ) o := by
  cases H
  exact AT.retl hk
theorem AT.retzC {S : jS} {d : Nat} {pc : Nat} {L : List jV} {v : Int} {σ : jM} {o : Int × jM} (hk : (decide (decode S.2.1 pc = .ok (.ireturn, 1)) && Nat.beq S.2.2.2.1 3) = true) (hv : v = 0 ∨ v = 1) (H : some (v, σ) = some o) : AT S d (pc, L, [(0, v)], σ) o := by
  cases H
  exact AT.retz hk hv
theorem AT.retzH {S : jS} {d : Nat} {pc : Nat} {L : List jV} {v : Int} {σ : jM} {o : Int × jM} (hk : (decide (decode S.2.1 pc = .ok (.ireturn, 1)) && Nat.beq S.2.2.2.1 3) = true) (H : (if v = 0 ∨ v = 1 then some (v, σ) else none) = some o) : AT S d (pc, L, [(0, v)], σ) o := by
  by_cases hv : v = 0 ∨ v = 1
  · rw [if_pos hv] at H
    exact AT.retzC hk hv H
  · rw [if_neg hv] at H
    cases H
/-- a table of jumps by pairs, the number none of them -/
theorem AT.swl {S : jS} {d : Nat} {pc : Nat} {L st : List jV} {x : Int} {σ : jM} {o : Int × jM} {df : Int} {ps : Array (Int × Int)} {n t : Nat} (hk : (decide (decode S.2.1 pc = .ok (.lookupswitch df ps, n)) && decide ((pc : Int) + df = (t : Int)) && (ps.toList.zip (ps.toList.drop 1)).all (fun (a, next) => a.1 < next.1)) = true) (hx : Op.lookupswitch.offset ps.toList df (w32 x) = df) (k : AT S d (t, L, st, σ) o) : AT S d (pc, L, (0, x) :: st, σ) o := by
  simp only [Bool.and_eq_true, decide_eq_true_eq] at hk
  intro p l e R s m args below meth cd cells slots Q G C kr ls H locs h1 h2 h3 h4
  have k2 := k p l e R s m args below meth cd cells slots Q G C kr ls H locs h1 (fun w hw => h2 w (List.mem_cons_of_mem _ hw)) h3 h4
  obtain ⟨q1, q2, -⟩ := C
  exact lv_lookup (x := Int32.ofInt x) q1 q2 hk.1.1 hk.2 (off := df) (by rw [o32_i]; exact hx) (tgt := t) hk.1.2 k2
