/-! small words of the printed rows -/
/-- the cells get a name -/
def jm (s : jM) (f : jM → Option (Int × jM)) : Option (Int × jM) := f s
theorem jm_some {s : jM} {f : jM → Option (Int × jM)} {o : Int × jM} (h : jm s f = some o) : ∃ t, t = s ∧ f t = some o := ⟨s, rfl, h⟩
theorem jle0 : jle [] [] := trivial
theorem jleK {a : jV} {as bs : List jV} (h : jle as bs) : jle (a :: as) (a :: bs) := ⟨Or.inl rfl, h⟩
theorem jleJ {b : jV} {as bs : List jV} (h : jle as bs) : jle ((99, 0) :: as) (b :: bs) := ⟨Or.inr rfl, h⟩
/-- what the tables say of a method, by the places of the words -/
theorem jmk_of {S : jS} (p1 p2 p3 p4 : Nat) (h : (plainName S.1.cls && decide (S.1.cls ≠ "java/lang/invoke/MethodHandle" ∧ S.1.cls ≠ "java/lang/invoke/VarHandle") && jw p1 (Cond.code S.1 S.2.1 S.2.2.1 (jrt S)) && jw p2 (Cond.initialized S.1.cls) && (match S.2.2.2.2.2 with
  | 0 => jw p3 (Cond.instanceMethod S.1) && jw p4 (Cond.selects S.1.cls S.1 S.1)
  | _ => jw p3 (Cond.static S.1)) && decide ((parseMethodDescriptor S.1.desc).map (fun d => d.parameters.length) = some (S.2.2.2.2.1.length - (1 - S.2.2.2.2.2))) && Nat.ble S.2.2.1 80) = true) : jmk S = true := by
  simp only [Bool.and_eq_true] at h
  obtain ⟨⟨⟨⟨⟨⟨h1, h2⟩, h3⟩, h4⟩, h5⟩, h6⟩, h7⟩ := h
  simp only [jmk, Bool.and_eq_true]
  refine ⟨⟨⟨⟨⟨⟨h1, h2⟩, decide_eq_true (jw_mem h3)⟩, decide_eq_true (jw_mem h4)⟩, ?_⟩, h6⟩, h7⟩
  obtain ⟨nm, bs, mL, rc, tags, kd⟩ := S
  match kd, h5 with
  | 0, h5 =>
    have h5 := Bool.and_eq_true_iff.mp h5
    exact Bool.and_eq_true_iff.mpr ⟨decide_eq_true (jw_mem h5.1), decide_eq_true (jw_mem h5.2)⟩
  | z + 1, h5 => exact decide_eq_true (jw_mem h5)
