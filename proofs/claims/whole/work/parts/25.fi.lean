/-! printed by wip/whole/gen_all.py: Jc_lasting, Fi_fillFrom, Fi_begin, Fi_sumBy, Fi_goOn, Fi_cheapest, Fi_countWays, Fi_greatestStrength, Fi_allWays, Fi_keepLasting, Fi_leastStrength, Fi_greatestGroup, Fi_bestHeat, Ga_seat, Ga_shift, Ga_bestFrom, Ga_play -/
def sJc_lasting : jS := (⟨"JellyCathedral", "lasting", "(III)I"⟩, prog_1_method_63_code, 3, 1, [0, 0, 0], 1)
theorem kJc_lasting : jmk sJc_lasting = true := jmk_of 4171 1001 4170 0 (by decide +kernel)
theorem Jc_lasting_ok {a0 a1 a2 : Int} {s : jM} {o : Int × jM} (H : Jc_lasting a0 a1 a2 s = some o) : MK sJc_lasting 0 [(0, a0), (0, a1), (0, a2)] s o := by
  refine MK.of kJc_lasting rfl ?_
  show AT sJc_lasting 0 (0, [(0, a0), (0, a1), (0, a2)], [], s) o
  unfold Jc_lasting at H
  refine AT.seq [(0, .iload_n 0, 1, (0, 0, 0)), (1, .iload_n 1, 1, (0, 0, 0))] (by decide +kernel) (show jrun _ (0, [(0, a0), (0, a1), (0, a2)], [], s) = some ([], (2, [(0, a0), (0, a1), (0, a2)], [(0, a1), (0, a0)], s)) from rfl) ?_
  refine AT.ite (x := (0, 0, 0)) (by decide +kernel) (show jbr (.if_icmp .ge 5) (2, [(0, a0), (0, a1), (0, a2)], [(0, a1), (0, a0)], s) = some ((w32 a0) < (w32 a1), (5, [(0, a0), (0, a1), (0, a2)], [], s), (7, [(0, a0), (0, a1), (0, a2)], [], s)) from rfl) H (fun H => ?_) (fun H => ?_)
  · refine AT.seq [(5, .iconst 0, 1, (0, 0, 0))] (by decide +kernel) (show jrun _ (5, [(0, a0), (0, a1), (0, a2)], [], s) = some ([], (6, [(0, a0), (0, a1), (0, a2)], [(0, 0)], s)) from rfl) ?_
    exact AT.retiH (by decide +kernel) H
  · refine AT.seq [(7, .iload_n 2, 1, (0, 0, 0))] (by decide +kernel) (show jrun _ (7, [(0, a0), (0, a1), (0, a2)], [], s) = some ([], (8, [(0, a0), (0, a1), (0, a2)], [(0, a2)], s)) from rfl) ?_
    refine AT.ite (x := (0, 0, 0)) (by decide +kernel) (show jbr (.ifCond .gt 9) (8, [(0, a0), (0, a1), (0, a2)], [(0, a2)], s) = some (0 < (w32 a2), (17, [(0, a0), (0, a1), (0, a2)], [], s), (11, [(0, a0), (0, a1), (0, a2)], [], s)) from rfl) H (fun H => ?_) (fun H => ?_)
    · refine AT.blk (g := ¬ w32 a2 = 0) [(17, .iload_n 0, 1, (0, 0, 0)), (18, .iload_n 1, 1, (0, 0, 0)), (19, .isub, 1, (0, 0, 0)), (20, .iload_n 2, 1, (0, 0, 0)), (21, .idiv, 1, (0, 0, 0)), (22, .iconst 1, 1, (0, 0, 0)), (23, .iadd, 1, (0, 0, 0))] (by decide +kernel) (show jrun _ (17, [(0, a0), (0, a1), (0, a2)], [], s) = some ([¬ w32 a2 = 0], (24, [(0, a0), (0, a1), (0, a2)], [(0, ((jdiv (a0 - a1) a2) + 1))], s)) from rfl) (fun h => h) H (fun H => ?_)
      exact AT.retiH (by decide +kernel) H
    · refine AT.seq [(11, .ldc_w 304, 3, (4172, 0, 1000000)), (14, .goto 10, 3, (0, 0, 0))] (by decide +kernel) (show jrun _ (11, [(0, a0), (0, a1), (0, a2)], [], s) = some ([], (24, [(0, a0), (0, a1), (0, a2)], [(0, 1000000)], s)) from rfl) ?_
      exact AT.retiH (by decide +kernel) H
def sFi_fillFrom : jS := (⟨"JellyCathedral$Fillings", "fillFrom", "(II)Z"⟩, prog_4_method_3_code, 5, 3, [12, 0, 0], 0)
theorem kFi_fillFrom : jmk sFi_fillFrom = true := jmk_of 4204 1009 4203 22 (by decide +kernel)
theorem Fi_fillFrom_5_ok {o : Int × jM} : ∀ (n : Nat) (x0 x3 x4 : Int) (s : jM), Fi_fillFrom_5  n x0 x3 x4 s = some o → AT sFi_fillFrom 0 (5, [(12, x0), (99, 0), (99, 0), (0, x3), (0, x4)], [], s) o := by
  intro n
  induction n with
  | zero =>
    intro x0 x3 x4 s H
    have H : (none : Option (Int × jM)) = some o := H
    cases H
  | succ n ih =>
    intro x0 x3 x4 s H
    rw [Fi_fillFrom_5] at H
    refine AT.seq [(5, .iload 4, 2, (0, 0, 0)), (7, .aload_n 0, 1, (0, 0, 0)), (8, .getfield 33, 3, (2119, 800, 0))] (by decide +kernel) (show jrun _ (5, [(12, x0), (99, 0), (99, 0), (0, x3), (0, x4)], [], s) = some ([], (11, [(12, x0), (99, 0), (99, 0), (0, x3), (0, x4)], [(0, (s x0 0)), (0, x4)], s)) from rfl) ?_
    refine AT.ite (x := (0, 0, 0)) (by decide +kernel) (show jbr (.if_icmp .ge 37) (11, [(12, x0), (99, 0), (99, 0), (0, x3), (0, x4)], [(0, (s x0 0)), (0, x4)], s) = some ((w32 x4) < (w32 (s x0 0)), (14, [(12, x0), (99, 0), (99, 0), (0, x3), (0, x4)], [], s), (48, [(12, x0), (99, 0), (99, 0), (0, x3), (0, x4)], [], s)) from rfl) H (fun H => ?_) (fun H => ?_)
    · refine AT.blk (g := (0 ≤ (w32 x4) ∧ (w32 x4) < 5) ∧ (0 ≤ (w32 x4) ∧ (w32 x4) < 5) ∧ (0 ≤ (w32 x4) ∧ (w32 x4) < 5)) [(14, .aload_n 0, 1, (0, 0, 0)), (15, .getfield 9, 3, (2122, 802, 0)), (18, .iload 4, 2, (0, 0, 0)), (20, .aload_n 0, 1, (0, 0, 0)), (21, .getfield 15, 3, (2123, 803, 0)), (24, .iload 4, 2, (0, 0, 0)), (26, .iaload, 1, (0, 0, 0)), (27, .iload_n 3, 1, (0, 0, 0)), (28, .invokestatic 37, 3, (4200, 2, 0)), (31, .iastore, 1, (0, 0, 0)), (32, .iload_n 3, 1, (0, 0, 0)), (33, .aload_n 0, 1, (0, 0, 0)), (34, .getfield 9, 3, (2122, 802, 0)), (37, .iload 4, 2, (0, 0, 0)), (39, .iaload, 1, (0, 0, 0)), (40, .isub, 1, (0, 0, 0)), (41, .istore_n 3, 1, (0, 0, 0)), (42, .iinc 4 1, 3, (0, 0, 0)), (45, .goto (-40), 3, (0, 0, 0))] (by decide +kernel) (show jrun _ (14, [(12, x0), (99, 0), (99, 0), (0, x3), (0, x4)], [], s) = some ([(0 ≤ (w32 x4) ∧ (w32 x4) < 5), (0 ≤ (w32 x4) ∧ (w32 x4) < 5), (0 ≤ (w32 x4) ∧ (w32 x4) < 5)], (5, [(12, x0), (99, 0), (99, 0), (0, (x3 - ((jup s (x0 + 1) (w32 x4) (jmin (s (x0 + 2) (w32 x4)) x3)) (x0 + 1) (w32 x4)))), (0, (x4 + 1))], [], (jup s (x0 + 1) (w32 x4) (jmin (s (x0 + 2) (w32 x4)) x3)))) from rfl) (fun h => ⟨h.1, h.2.1, h.2.2⟩) H (fun H => ?_)
      exact ih _ _ _ _ H
    · refine AT.seq [(48, .iload_n 3, 1, (0, 0, 0))] (by decide +kernel) (show jrun _ (48, [(12, x0), (99, 0), (99, 0), (0, x3), (0, x4)], [], s) = some ([], (49, [(12, x0), (99, 0), (99, 0), (0, x3), (0, x4)], [(0, x3)], s)) from rfl) ?_
      refine AT.ite (x := (0, 0, 0)) (by decide +kernel) (show jbr (.ifCond .ne 7) (49, [(12, x0), (99, 0), (99, 0), (0, x3), (0, x4)], [(0, x3)], s) = some ((w32 x3) = 0, (52, [(12, x0), (99, 0), (99, 0), (0, x3), (0, x4)], [], s), (56, [(12, x0), (99, 0), (99, 0), (0, x3), (0, x4)], [], s)) from rfl) H (fun H => ?_) (fun H => ?_)
      · refine AT.seq [(52, .iconst 1, 1, (0, 0, 0)), (53, .goto 4, 3, (0, 0, 0))] (by decide +kernel) (show jrun _ (52, [(12, x0), (99, 0), (99, 0), (0, x3), (0, x4)], [], s) = some ([], (57, [(12, x0), (99, 0), (99, 0), (0, x3), (0, x4)], [(0, 1)], s)) from rfl) ?_
        exact AT.retzC (by decide +kernel) (by decide) H
      · refine AT.seq [(56, .iconst 0, 1, (0, 0, 0))] (by decide +kernel) (show jrun _ (56, [(12, x0), (99, 0), (99, 0), (0, x3), (0, x4)], [], s) = some ([], (57, [(12, x0), (99, 0), (99, 0), (0, x3), (0, x4)], [(0, 0)], s)) from rfl) ?_
        exact AT.retzC (by decide +kernel) (by decide) H
theorem Fi_fillFrom_ok {a0 a1 a2 : Int} {s : jM} {o : Int × jM} (H : Fi_fillFrom a0 a1 a2 s = some o) : MK sFi_fillFrom 0 [(12, a0), (0, a1), (0, a2)] s o := by
  refine MK.of kFi_fillFrom rfl ?_
  show AT sFi_fillFrom 0 (0, [(12, a0), (0, a1), (0, a2), (99, 0), (99, 0)], [], s) o
  unfold Fi_fillFrom at H
  refine AT.seq [(0, .iload_n 2, 1, (0, 0, 0)), (1, .istore_n 3, 1, (0, 0, 0)), (2, .iload_n 1, 1, (0, 0, 0)), (3, .istore 4, 2, (0, 0, 0))] (by decide +kernel) (show jrun _ (0, [(12, a0), (0, a1), (0, a2), (99, 0), (99, 0)], [], s) = some ([], (5, [(12, a0), (0, a1), (0, a2), (0, a2), (0, a1)], [], s)) from rfl) ?_
  exact AT.weak (L' := [(12, a0), (99, 0), (99, 0), (0, a2), (0, a1)]) (jleK (jleJ (jleJ (jleK (jleK jle0))))) (Fi_fillFrom_5_ok  jFU _ _ _ _ H)
def sFi_begin : jS := (⟨"JellyCathedral$Fillings", "begin", "(LJellyCathedral$See;IZ)Z"⟩, prog_4_method_2_code, 5, 3, [12, 7, 0, 0], 0)
theorem kFi_begin : jmk sFi_begin = true := jmk_of 4199 1009 4198 21 (by decide +kernel)
theorem Fi_begin_11_ok {o : Int × jM} : ∀ (n : Nat) (x0 x1 x2 x3 x4 : Int) (s : jM), Fi_begin_11  n x0 x1 x2 x3 x4 s = some o → AT sFi_begin 1 (11, [(12, x0), (7, x1), (0, x2), (0, x3), (0, x4)], [], s) o := by
  intro n
  induction n with
  | zero =>
    intro x0 x1 x2 x3 x4 s H
    have H : (none : Option (Int × jM)) = some o := H
    cases H
  | succ n ih =>
    intro x0 x1 x2 x3 x4 s H
    rw [Fi_begin_11] at H
    refine AT.seq [(11, .iload 4, 2, (0, 0, 0)), (13, .aload_n 0, 1, (0, 0, 0)), (14, .getfield 33, 3, (2119, 800, 0))] (by decide +kernel) (show jrun _ (11, [(12, x0), (7, x1), (0, x2), (0, x3), (0, x4)], [], s) = some ([], (17, [(12, x0), (7, x1), (0, x2), (0, x3), (0, x4)], [(0, (s x0 0)), (0, x4)], s)) from rfl) ?_
    refine AT.ite (x := (0, 0, 0)) (by decide +kernel) (show jbr (.if_icmp .ge 35) (17, [(12, x0), (7, x1), (0, x2), (0, x3), (0, x4)], [(0, (s x0 0)), (0, x4)], s) = some ((w32 x4) < (w32 (s x0 0)), (20, [(12, x0), (7, x1), (0, x2), (0, x3), (0, x4)], [], s), (52, [(12, x0), (7, x1), (0, x2), (0, x3), (0, x4)], [], s)) from rfl) H (fun H => ?_) (fun H => ?_)
    · refine AT.seq [(20, .aload_n 0, 1, (0, 0, 0)), (21, .getfield 15, 3, (2123, 803, 0)), (24, .iload 4, 2, (0, 0, 0)), (26, .iload_n 3, 1, (0, 0, 0))] (by decide +kernel) (show jrun _ (20, [(12, x0), (7, x1), (0, x2), (0, x3), (0, x4)], [], s) = some ([], (27, [(12, x0), (7, x1), (0, x2), (0, x3), (0, x4)], [(0, x3), (0, x4), (26, (x0 + 2))], s)) from rfl) ?_
      refine AT.ite (x := (0, 0, 0)) (by decide +kernel) (show jbr (.ifCond .eq 17) (27, [(12, x0), (7, x1), (0, x2), (0, x3), (0, x4)], [(0, x3), (0, x4), (26, (x0 + 2))], s) = some ((w32 x3) = 0, (44, [(12, x0), (7, x1), (0, x2), (0, x3), (0, x4)], [(0, x4), (26, (x0 + 2))], s), (30, [(12, x0), (7, x1), (0, x2), (0, x3), (0, x4)], [(0, x4), (26, (x0 + 2))], s)) from rfl) H (fun H => ?_) (fun H => ?_)
      · refine AT.blk (g := (0 ≤ (w32 x4) ∧ (w32 x4) < 5)) [(44, .iload_n 2, 1, (0, 0, 0)), (45, .iastore, 1, (0, 0, 0)), (46, .iinc 4 1, 3, (0, 0, 0)), (49, .goto (-38), 3, (0, 0, 0))] (by decide +kernel) (show jrun _ (44, [(12, x0), (7, x1), (0, x2), (0, x3), (0, x4)], [(0, x4), (26, (x0 + 2))], s) = some ([(0 ≤ (w32 x4) ∧ (w32 x4) < 5)], (11, [(12, x0), (7, x1), (0, x2), (0, x3), (0, (x4 + 1))], [], (jup s (x0 + 2) (w32 x4) x2))) from rfl) (fun h => h) H (fun H => ?_)
        exact ih _ _ _ _ _ _ H
      · refine AT.blk (g := (0 ≤ (w32 x4) ∧ (w32 x4) < 5) ∧ (0 ≤ (w32 x4) ∧ (w32 x4) < 5)) [(30, .iload_n 2, 1, (0, 0, 0)), (31, .aload_n 1, 1, (0, 0, 0)), (32, .getfield 34, 3, (1210, 311, 0)), (35, .iload 4, 2, (0, 0, 0)), (37, .iaload, 1, (0, 0, 0)), (38, .invokestatic 37, 3, (4200, 2, 0)), (41, .goto 4, 3, (0, 0, 0)), (45, .iastore, 1, (0, 0, 0)), (46, .iinc 4 1, 3, (0, 0, 0)), (49, .goto (-38), 3, (0, 0, 0))] (by decide +kernel) (show jrun _ (30, [(12, x0), (7, x1), (0, x2), (0, x3), (0, x4)], [(0, x4), (26, (x0 + 2))], s) = some ([(0 ≤ (w32 x4) ∧ (w32 x4) < 5), (0 ≤ (w32 x4) ∧ (w32 x4) < 5)], (11, [(12, x0), (7, x1), (0, x2), (0, x3), (0, (x4 + 1))], [], (jup s (x0 + 2) (w32 x4) (jmin x2 (s (x1 + 3) (w32 x4)))))) from rfl) (fun h => ⟨h.1, h.2⟩) H (fun H => ?_)
        exact ih _ _ _ _ _ _ H
    · refine AT.seq [(52, .aload_n 0, 1, (0, 0, 0)), (53, .iconst 0, 1, (0, 0, 0)), (54, .iload_n 2, 1, (0, 0, 0))] (by decide +kernel) (show jrun _ (52, [(12, x0), (7, x1), (0, x2), (0, x3), (0, x4)], [], s) = some ([], (55, [(12, x0), (7, x1), (0, x2), (0, x3), (0, x4)], [(0, x2), (0, 0), (12, x0)], s)) from rfl) ?_
      obtain ⟨v1, s1, h1, H⟩ := jb_some H
      refine AT.callV (As := [(0, 0), (0, x2)]) (cl := 8) (b := x0) (st := []) (i := 43) (pos := 4201) kFi_fillFrom (by decide +kernel) rfl (by decide +kernel) rfl rfl (by omega) (Fi_fillFrom_ok h1) ?_
      show AT sFi_begin 1 (58, [(12, x0), (7, x1), (0, x2), (0, x3), (0, x4)], [(0, v1)], s1) o
      exact AT.retzH (by decide +kernel) H
theorem Fi_begin_ok {a0 a1 a2 a3 : Int} {s : jM} {o : Int × jM} (H : Fi_begin a0 a1 a2 a3 s = some o) : MK sFi_begin 1 [(12, a0), (7, a1), (0, a2), (0, a3)] s o := by
  refine MK.of kFi_begin rfl ?_
  show AT sFi_begin 1 (0, [(12, a0), (7, a1), (0, a2), (0, a3), (99, 0)], [], s) o
  unfold Fi_begin at H
  refine AT.seq [(0, .aload_n 0, 1, (0, 0, 0)), (1, .aload_n 1, 1, (0, 0, 0)), (2, .getfield 27, 3, (1184, 304, 0)), (5, .putfield 33, 3, (2119, 800, 0)), (8, .iconst 0, 1, (0, 0, 0)), (9, .istore 4, 2, (0, 0, 0))] (by decide +kernel) (show jrun _ (0, [(12, a0), (7, a1), (0, a2), (0, a3), (99, 0)], [], s) = some ([], (11, [(12, a0), (7, a1), (0, a2), (0, a3), (0, 0)], [], (jup s a0 0 (s a1 4)))) from rfl) ?_
  exact Fi_begin_11_ok  jFU _ _ _ _ _ _ H
def sFi_sumBy : jS := (⟨"JellyCathedral$Fillings", "sumBy", "([I)I"⟩, prog_4_method_5_code, 4, 1, [12, 26], 0)
theorem kFi_sumBy : jmk sFi_sumBy = true := jmk_of 4208 1009 4207 23 (by decide +kernel)
theorem Fi_sumBy_4_ok {o : Int × jM} : ∀ (n : Nat) (x0 x1 x2 x3 : Int) (s : jM), Fi_sumBy_4  n x0 x1 x2 x3 s = some o → AT sFi_sumBy 0 (4, [(12, x0), (26, x1), (0, x2), (0, x3)], [], s) o := by
  intro n
  induction n with
  | zero =>
    intro x0 x1 x2 x3 s H
    have H : (none : Option (Int × jM)) = some o := H
    cases H
  | succ n ih =>
    intro x0 x1 x2 x3 s H
    rw [Fi_sumBy_4] at H
    refine AT.seq [(4, .iload_n 3, 1, (0, 0, 0)), (5, .aload_n 0, 1, (0, 0, 0)), (6, .getfield 33, 3, (2119, 800, 0))] (by decide +kernel) (show jrun _ (4, [(12, x0), (26, x1), (0, x2), (0, x3)], [], s) = some ([], (9, [(12, x0), (26, x1), (0, x2), (0, x3)], [(0, (s x0 0)), (0, x3)], s)) from rfl) ?_
    refine AT.ite (x := (0, 0, 0)) (by decide +kernel) (show jbr (.if_icmp .ge 22) (9, [(12, x0), (26, x1), (0, x2), (0, x3)], [(0, (s x0 0)), (0, x3)], s) = some ((w32 x3) < (w32 (s x0 0)), (12, [(12, x0), (26, x1), (0, x2), (0, x3)], [], s), (31, [(12, x0), (26, x1), (0, x2), (0, x3)], [], s)) from rfl) H (fun H => ?_) (fun H => ?_)
    · refine AT.blk (g := (0 ≤ (w32 x3) ∧ (w32 x3) < 5) ∧ (0 ≤ (w32 x3) ∧ (w32 x3) < 5)) [(12, .iload_n 2, 1, (0, 0, 0)), (13, .aload_n 0, 1, (0, 0, 0)), (14, .getfield 9, 3, (2122, 802, 0)), (17, .iload_n 3, 1, (0, 0, 0)), (18, .iaload, 1, (0, 0, 0)), (19, .aload_n 1, 1, (0, 0, 0)), (20, .iload_n 3, 1, (0, 0, 0)), (21, .iaload, 1, (0, 0, 0)), (22, .imul, 1, (0, 0, 0)), (23, .iadd, 1, (0, 0, 0)), (24, .istore_n 2, 1, (0, 0, 0)), (25, .iinc 3 1, 3, (0, 0, 0)), (28, .goto (-24), 3, (0, 0, 0))] (by decide +kernel) (show jrun _ (12, [(12, x0), (26, x1), (0, x2), (0, x3)], [], s) = some ([(0 ≤ (w32 x3) ∧ (w32 x3) < 5), (0 ≤ (w32 x3) ∧ (w32 x3) < 5)], (4, [(12, x0), (26, x1), (0, (x2 + ((s (x0 + 1) (w32 x3)) * (s x1 (w32 x3))))), (0, (x3 + 1))], [], s)) from rfl) (fun h => ⟨h.1, h.2⟩) H (fun H => ?_)
      exact ih _ _ _ _ _ H
    · refine AT.seq [(31, .iload_n 2, 1, (0, 0, 0))] (by decide +kernel) (show jrun _ (31, [(12, x0), (26, x1), (0, x2), (0, x3)], [], s) = some ([], (32, [(12, x0), (26, x1), (0, x2), (0, x3)], [(0, x2)], s)) from rfl) ?_
      exact AT.retiH (by decide +kernel) H
theorem Fi_sumBy_ok {a0 a1 : Int} {s : jM} {o : Int × jM} (H : Fi_sumBy a0 a1 s = some o) : MK sFi_sumBy 0 [(12, a0), (26, a1)] s o := by
  refine MK.of kFi_sumBy rfl ?_
  show AT sFi_sumBy 0 (0, [(12, a0), (26, a1), (99, 0), (99, 0)], [], s) o
  unfold Fi_sumBy at H
  refine AT.seq [(0, .iconst 0, 1, (0, 0, 0)), (1, .istore_n 2, 1, (0, 0, 0)), (2, .iconst 0, 1, (0, 0, 0)), (3, .istore_n 3, 1, (0, 0, 0))] (by decide +kernel) (show jrun _ (0, [(12, a0), (26, a1), (99, 0), (99, 0)], [], s) = some ([], (4, [(12, a0), (26, a1), (0, 0), (0, 0)], [], s)) from rfl) ?_
  exact Fi_sumBy_4_ok  jFU _ _ _ _ _ H
def sFi_goOn : jS := (⟨"JellyCathedral$Fillings", "goOn", "()Z"⟩, prog_4_method_4_code, 4, 3, [12], 0)
theorem kFi_goOn : jmk sFi_goOn = true := jmk_of 4213 1009 4212 24 (by decide +kernel)
theorem Fi_goOn_50_ok {o : Int × jM} {k11 : Int → Int → Int → Int → jM → Option (Int × jM)} (hk11 : ∀ (x0 x1 x2 x3 : Int) (s : jM), k11 x0 x1 x2 x3 s = some o → AT sFi_goOn 1 (11, [(12, x0), (0, x1), (0, x2), (0, x3)], [], s) o) {x0 x1 x2 x3 : Int} {s : jM} (H : Fi_goOn_50 k11 x0 x1 x2 x3 s = some o) : AT sFi_goOn 1 (50, [(12, x0), (0, x1), (0, x2), (0, x3)], [], s) o := by
  unfold Fi_goOn_50 at H
  refine AT.blk (g := (0 ≤ (w32 x3) ∧ (w32 x3) < 5) ∧ (0 ≤ (w32 x3) ∧ (w32 x3) < 5)) [(50, .iload_n 1, 1, (0, 0, 0)), (51, .aload_n 0, 1, (0, 0, 0)), (52, .getfield 9, 3, (2122, 802, 0)), (55, .iload_n 3, 1, (0, 0, 0)), (56, .iaload, 1, (0, 0, 0)), (57, .iadd, 1, (0, 0, 0)), (58, .istore_n 1, 1, (0, 0, 0)), (59, .iload_n 2, 1, (0, 0, 0)), (60, .aload_n 0, 1, (0, 0, 0)), (61, .getfield 15, 3, (2123, 803, 0)), (64, .iload_n 3, 1, (0, 0, 0)), (65, .iaload, 1, (0, 0, 0)), (66, .iadd, 1, (0, 0, 0)), (67, .istore_n 2, 1, (0, 0, 0)), (68, .iinc 3 (-1), 3, (0, 0, 0)), (71, .goto (-60), 3, (0, 0, 0))] (by decide +kernel) (show jrun _ (50, [(12, x0), (0, x1), (0, x2), (0, x3)], [], s) = some ([(0 ≤ (w32 x3) ∧ (w32 x3) < 5), (0 ≤ (w32 x3) ∧ (w32 x3) < 5)], (11, [(12, x0), (0, (x1 + (s (x0 + 1) (w32 x3)))), (0, (x2 + (s (x0 + 2) (w32 x3)))), (0, (x3 + (-1)))], [], s)) from rfl) (fun h => ⟨h.1, h.2⟩) H (fun H => ?_)
  exact hk11 _ _ _ _ _ H
theorem Fi_goOn_11_ok {o : Int × jM} : ∀ (n : Nat) (x0 x1 x2 x3 : Int) (s : jM), Fi_goOn_11  n x0 x1 x2 x3 s = some o → AT sFi_goOn 1 (11, [(12, x0), (0, x1), (0, x2), (0, x3)], [], s) o := by
  intro n
  induction n with
  | zero =>
    intro x0 x1 x2 x3 s H
    have H : (none : Option (Int × jM)) = some o := H
    cases H
  | succ n ih =>
    intro x0 x1 x2 x3 s H
    rw [Fi_goOn_11] at H
    refine AT.seq [(11, .iload_n 3, 1, (0, 0, 0))] (by decide +kernel) (show jrun _ (11, [(12, x0), (0, x1), (0, x2), (0, x3)], [], s) = some ([], (12, [(12, x0), (0, x1), (0, x2), (0, x3)], [(0, x3)], s)) from rfl) ?_
    refine AT.ite (x := (0, 0, 0)) (by decide +kernel) (show jbr (.ifCond .lt 62) (12, [(12, x0), (0, x1), (0, x2), (0, x3)], [(0, x3)], s) = some ((w32 x3) < 0, (74, [(12, x0), (0, x1), (0, x2), (0, x3)], [], s), (15, [(12, x0), (0, x1), (0, x2), (0, x3)], [], s)) from rfl) H (fun H => ?_) (fun H => ?_)
    · refine AT.seq [(74, .iconst 0, 1, (0, 0, 0))] (by decide +kernel) (show jrun _ (74, [(12, x0), (0, x1), (0, x2), (0, x3)], [], s) = some ([], (75, [(12, x0), (0, x1), (0, x2), (0, x3)], [(0, 0)], s)) from rfl) ?_
      exact AT.retzC (by decide +kernel) (by decide) H
    · refine AT.blk (g := (0 ≤ (w32 x3) ∧ (w32 x3) < 5)) [(15, .aload_n 0, 1, (0, 0, 0)), (16, .getfield 9, 3, (2122, 802, 0)), (19, .iload_n 3, 1, (0, 0, 0)), (20, .iaload, 1, (0, 0, 0))] (by decide +kernel) (show jrun _ (15, [(12, x0), (0, x1), (0, x2), (0, x3)], [], s) = some ([(0 ≤ (w32 x3) ∧ (w32 x3) < 5)], (21, [(12, x0), (0, x1), (0, x2), (0, x3)], [(0, (s (x0 + 1) (w32 x3)))], s)) from rfl) (fun h => h) H (fun H => ?_)
      refine AT.ite (x := (0, 0, 0)) (by decide +kernel) (show jbr (.ifCond .le 29) (21, [(12, x0), (0, x1), (0, x2), (0, x3)], [(0, (s (x0 + 1) (w32 x3)))], s) = some (0 < (w32 (s (x0 + 1) (w32 x3))), (24, [(12, x0), (0, x1), (0, x2), (0, x3)], [], s), (50, [(12, x0), (0, x1), (0, x2), (0, x3)], [], s)) from rfl) H (fun H => ?_) (fun H => ?_)
      · refine AT.seq [(24, .iload_n 1, 1, (0, 0, 0)), (25, .iload_n 2, 1, (0, 0, 0))] (by decide +kernel) (show jrun _ (24, [(12, x0), (0, x1), (0, x2), (0, x3)], [], s) = some ([], (26, [(12, x0), (0, x1), (0, x2), (0, x3)], [(0, x2), (0, x1)], s)) from rfl) ?_
        refine AT.ite (x := (0, 0, 0)) (by decide +kernel) (show jbr (.if_icmp .ge 24) (26, [(12, x0), (0, x1), (0, x2), (0, x3)], [(0, x2), (0, x1)], s) = some ((w32 x1) < (w32 x2), (29, [(12, x0), (0, x1), (0, x2), (0, x3)], [], s), (50, [(12, x0), (0, x1), (0, x2), (0, x3)], [], s)) from rfl) H (fun H => ?_) (fun H => ?_)
        · refine AT.blk (g := (0 ≤ (w32 x3) ∧ (w32 x3) < 5) ∧ (0 ≤ (w32 x3) ∧ (w32 x3) < 5)) [(29, .aload_n 0, 1, (0, 0, 0)), (30, .getfield 9, 3, (2122, 802, 0)), (33, .iload_n 3, 1, (0, 0, 0)), (34, .dup2, 1, (0, 0, 0)), (35, .iaload, 1, (0, 0, 0)), (36, .iconst 1, 1, (0, 0, 0)), (37, .isub, 1, (0, 0, 0)), (38, .iastore, 1, (0, 0, 0)), (39, .aload_n 0, 1, (0, 0, 0)), (40, .iload_n 3, 1, (0, 0, 0)), (41, .iconst 1, 1, (0, 0, 0)), (42, .iadd, 1, (0, 0, 0)), (43, .iload_n 1, 1, (0, 0, 0)), (44, .iconst 1, 1, (0, 0, 0)), (45, .iadd, 1, (0, 0, 0))] (by decide +kernel) (show jrun _ (29, [(12, x0), (0, x1), (0, x2), (0, x3)], [], s) = some ([(0 ≤ (w32 x3) ∧ (w32 x3) < 5), (0 ≤ (w32 x3) ∧ (w32 x3) < 5)], (46, [(12, x0), (0, x1), (0, x2), (0, x3)], [(0, (x1 + 1)), (0, (x3 + 1)), (12, x0)], (jup s (x0 + 1) (w32 x3) ((s (x0 + 1) (w32 x3)) - 1)))) from rfl) (fun h => ⟨h.1, h.2⟩) H (fun H => ?_)
          obtain ⟨v1, s1, h1, H⟩ := jb_some H
          refine AT.callV (As := [(0, (x3 + 1)), (0, (x1 + 1))]) (cl := 8) (b := x0) (st := []) (i := 43) (pos := 4201) kFi_fillFrom (by decide +kernel) rfl (by decide +kernel) rfl rfl (by omega) (Fi_fillFrom_ok h1) ?_
          show AT sFi_goOn 1 (49, [(12, x0), (0, x1), (0, x2), (0, x3)], [(0, v1)], s1) o
          exact AT.retzH (by decide +kernel) H
        · exact Fi_goOn_50_ok ih H
      · exact Fi_goOn_50_ok ih H
theorem Fi_goOn_ok {a0 : Int} {s : jM} {o : Int × jM} (H : Fi_goOn a0 s = some o) : MK sFi_goOn 1 [(12, a0)] s o := by
  refine MK.of kFi_goOn rfl ?_
  show AT sFi_goOn 1 (0, [(12, a0), (99, 0), (99, 0), (99, 0)], [], s) o
  unfold Fi_goOn at H
  refine AT.seq [(0, .iconst 0, 1, (0, 0, 0)), (1, .istore_n 1, 1, (0, 0, 0)), (2, .iconst 0, 1, (0, 0, 0)), (3, .istore_n 2, 1, (0, 0, 0)), (4, .aload_n 0, 1, (0, 0, 0)), (5, .getfield 33, 3, (2119, 800, 0)), (8, .iconst 1, 1, (0, 0, 0)), (9, .isub, 1, (0, 0, 0)), (10, .istore_n 3, 1, (0, 0, 0))] (by decide +kernel) (show jrun _ (0, [(12, a0), (99, 0), (99, 0), (99, 0)], [], s) = some ([], (11, [(12, a0), (0, 0), (0, 0), (0, ((s a0 0) - 1))], [], s)) from rfl) ?_
  exact Fi_goOn_11_ok  jFU _ _ _ _ _ H
def sFi_cheapest : jS := (⟨"JellyCathedral$Fillings", "cheapest", "(LJellyCathedral$See;II)Z"⟩, prog_4_method_6_code, 7, 3, [12, 7, 0, 0], 0)
theorem kFi_cheapest : jmk sFi_cheapest = true := jmk_of 4195 1009 4193 4194 (by decide +kernel)
theorem Fi_cheapest_57_ok {o : Int × jM} {k17 : Int → Int → Int → Int → Int → jM → Option (Int × jM)} (hk17 : ∀ (x0 x1 x3 x4 x5 : Int) (s : jM), k17 x0 x1 x3 x4 x5 s = some o → AT sFi_cheapest 2 (17, [(12, x0), (7, x1), (99, 0), (0, x3), (0, x4), (0, x5), (99, 0)], [], s) o) {x0 x1 x3 x5 x6 : Int} {s : jM} (H : Fi_cheapest_57 k17 x0 x1 x3 x5 x6 s = some o) : AT sFi_cheapest 2 (57, [(12, x0), (7, x1), (99, 0), (0, x3), (99, 0), (0, x5), (0, x6)], [], s) o := by
  unfold Fi_cheapest_57 at H
  refine AT.seq [(57, .aload_n 0, 1, (0, 0, 0)), (58, .aload_n 1, 1, (0, 0, 0)), (59, .getfield 61, 3, (1202, 309, 0))] (by decide +kernel) (show jrun _ (57, [(12, x0), (7, x1), (99, 0), (0, x3), (99, 0), (0, x5), (0, x6)], [], s) = some ([], (62, [(12, x0), (7, x1), (99, 0), (0, x3), (99, 0), (0, x5), (0, x6)], [(26, (x1 + 1)), (12, x0)], s)) from rfl) ?_
  obtain ⟨v1, s1, h1, H⟩ := jb_some H
  refine AT.callV (As := [(26, (x1 + 1))]) (cl := 8) (b := x0) (st := []) (i := 57) (pos := 4205) kFi_sumBy (by decide +kernel) rfl (by decide +kernel) rfl rfl (by omega) (Fi_sumBy_ok h1) ?_
  show AT sFi_cheapest 2 (65, [(12, x0), (7, x1), (99, 0), (0, x3), (99, 0), (0, x5), (0, x6)], [(0, v1)], s1) o
  refine AT.seq [(65, .iload_n 3, 1, (0, 0, 0))] (by decide +kernel) (show jrun _ (65, [(12, x0), (7, x1), (99, 0), (0, x3), (99, 0), (0, x5), (0, x6)], [(0, v1)], s1) = some ([], (66, [(12, x0), (7, x1), (99, 0), (0, x3), (99, 0), (0, x5), (0, x6)], [(0, x3), (0, v1)], s1)) from rfl) ?_
  refine AT.ite (x := (0, 0, 0)) (by decide +kernel) (show jbr (.if_icmp .lt 26) (66, [(12, x0), (7, x1), (99, 0), (0, x3), (99, 0), (0, x5), (0, x6)], [(0, x3), (0, v1)], s1) = some ((w32 v1) < (w32 x3), (92, [(12, x0), (7, x1), (99, 0), (0, x3), (99, 0), (0, x5), (0, x6)], [], s1), (69, [(12, x0), (7, x1), (99, 0), (0, x3), (99, 0), (0, x5), (0, x6)], [], s1)) from rfl) H (fun H => ?_) (fun H => ?_)
  · refine AT.seq [(92, .aload_n 0, 1, (0, 0, 0))] (by decide +kernel) (show jrun _ (92, [(12, x0), (7, x1), (99, 0), (0, x3), (99, 0), (0, x5), (0, x6)], [], s1) = some ([], (93, [(12, x0), (7, x1), (99, 0), (0, x3), (99, 0), (0, x5), (0, x6)], [(12, x0)], s1)) from rfl) ?_
    obtain ⟨v2, s2, h2, H⟩ := jb_some H
    refine AT.callV (As := []) (cl := 8) (b := x0) (st := []) (i := 70) (pos := 4210) kFi_goOn (by decide +kernel) rfl (by decide +kernel) rfl rfl (by omega) (Fi_goOn_ok h2) ?_
    show AT sFi_cheapest 2 (96, [(12, x0), (7, x1), (99, 0), (0, x3), (99, 0), (0, x5), (0, x6)], [(0, v2)], s2) o
    refine AT.seq [(96, .istore 4, 2, (0, 0, 0)), (98, .iinc 5 1, 3, (0, 0, 0)), (101, .goto (-84), 3, (0, 0, 0))] (by decide +kernel) (show jrun _ (96, [(12, x0), (7, x1), (99, 0), (0, x3), (99, 0), (0, x5), (0, x6)], [(0, v2)], s2) = some ([], (17, [(12, x0), (7, x1), (99, 0), (0, x3), (0, v2), (0, (x5 + 1)), (0, x6)], [], s2)) from rfl) ?_
    exact AT.weak (L' := [(12, x0), (7, x1), (99, 0), (0, x3), (0, v2), (0, (x5 + 1)), (99, 0)]) (jleK (jleK (jleK (jleK (jleK (jleK (jleJ jle0))))))) (hk17 _ _ _ _ _ _ H)
  · refine AT.blk (g := (0 ≤ (0 : Int) ∧ 0 ≤ (0 : Int) ∧ 0 ≤ (w32 ((jup s1 x0 1 x6) x0 0)) ∧ (0 : Int) + (w32 ((jup s1 x0 1 x6) x0 0)) ≤ 5 ∧ (0 : Int) + (w32 ((jup s1 x0 1 x6) x0 0)) ≤ 5)) [(69, .aload_n 0, 1, (0, 0, 0)), (70, .iload 6, 2, (0, 0, 0)), (72, .putfield 47, 3, (2120, 801, 0)), (75, .aload_n 0, 1, (0, 0, 0)), (76, .getfield 9, 3, (2122, 802, 0)), (79, .iconst 0, 1, (0, 0, 0)), (80, .aload_n 0, 1, (0, 0, 0)), (81, .getfield 18, 3, (2124, 804, 0)), (84, .iconst 0, 1, (0, 0, 0)), (85, .aload_n 0, 1, (0, 0, 0)), (86, .getfield 33, 3, (2119, 800, 0)), (89, .invokestatic 64, 3, (4209, 4, 0)), (92, .aload_n 0, 1, (0, 0, 0))] (by decide +kernel) (show jrun _ (69, [(12, x0), (7, x1), (99, 0), (0, x3), (99, 0), (0, x5), (0, x6)], [], s1) = some ([(0 ≤ (0 : Int) ∧ 0 ≤ (0 : Int) ∧ 0 ≤ (w32 ((jup s1 x0 1 x6) x0 0)) ∧ (0 : Int) + (w32 ((jup s1 x0 1 x6) x0 0)) ≤ 5 ∧ (0 : Int) + (w32 ((jup s1 x0 1 x6) x0 0)) ≤ 5)], (93, [(12, x0), (7, x1), (99, 0), (0, x3), (99, 0), (0, x5), (0, x6)], [(12, x0)], (jcp (jup s1 x0 1 x6) (x0 + 1) 0 (x0 + 3) 0 (w32 ((jup s1 x0 1 x6) x0 0))))) from rfl) (fun h => h) H (fun H => ?_)
    obtain ⟨v3, s3, h3, H⟩ := jb_some H
    refine AT.callV (As := []) (cl := 8) (b := x0) (st := []) (i := 70) (pos := 4210) kFi_goOn (by decide +kernel) rfl (by decide +kernel) rfl rfl (by omega) (Fi_goOn_ok h3) ?_
    show AT sFi_cheapest 2 (96, [(12, x0), (7, x1), (99, 0), (0, x3), (99, 0), (0, x5), (0, x6)], [(0, v3)], s3) o
    refine AT.seq [(96, .istore 4, 2, (0, 0, 0)), (98, .iinc 5 1, 3, (0, 0, 0)), (101, .goto (-84), 3, (0, 0, 0))] (by decide +kernel) (show jrun _ (96, [(12, x0), (7, x1), (99, 0), (0, x3), (99, 0), (0, x5), (0, x6)], [(0, v3)], s3) = some ([], (17, [(12, x0), (7, x1), (99, 0), (0, x3), (0, v3), (0, (x5 + 1)), (0, x6)], [], s3)) from rfl) ?_
    exact AT.weak (L' := [(12, x0), (7, x1), (99, 0), (0, x3), (0, v3), (0, (x5 + 1)), (99, 0)]) (jleK (jleK (jleK (jleK (jleK (jleK (jleJ jle0))))))) (hk17 _ _ _ _ _ _ H)
theorem Fi_cheapest_17_ok {o : Int × jM} : ∀ (n : Nat) (x0 x1 x3 x4 x5 : Int) (s : jM), Fi_cheapest_17  n x0 x1 x3 x4 x5 s = some o → AT sFi_cheapest 2 (17, [(12, x0), (7, x1), (99, 0), (0, x3), (0, x4), (0, x5), (99, 0)], [], s) o := by
  intro n
  induction n with
  | zero =>
    intro x0 x1 x3 x4 x5 s H
    have H : (none : Option (Int × jM)) = some o := H
    cases H
  | succ n ih =>
    intro x0 x1 x3 x4 x5 s H
    rw [Fi_cheapest_17] at H
    refine AT.seq [(17, .iload 4, 2, (0, 0, 0))] (by decide +kernel) (show jrun _ (17, [(12, x0), (7, x1), (99, 0), (0, x3), (0, x4), (0, x5), (99, 0)], [], s) = some ([], (19, [(12, x0), (7, x1), (99, 0), (0, x3), (0, x4), (0, x5), (99, 0)], [(0, x4)], s)) from rfl) ?_
    refine AT.ite (x := (0, 0, 0)) (by decide +kernel) (show jbr (.ifCond .eq 85) (19, [(12, x0), (7, x1), (99, 0), (0, x3), (0, x4), (0, x5), (99, 0)], [(0, x4)], s) = some ((w32 x4) = 0, (104, [(12, x0), (7, x1), (99, 0), (0, x3), (0, x4), (0, x5), (99, 0)], [], s), (22, [(12, x0), (7, x1), (99, 0), (0, x3), (0, x4), (0, x5), (99, 0)], [], s)) from rfl) H (fun H => ?_) (fun H => ?_)
    · refine AT.seq [(104, .aload_n 0, 1, (0, 0, 0)), (105, .getfield 47, 3, (2120, 801, 0)), (108, .iconst (-1), 1, (0, 0, 0))] (by decide +kernel) (show jrun _ (104, [(12, x0), (7, x1), (99, 0), (0, x3), (0, x4), (0, x5), (99, 0)], [], s) = some ([], (109, [(12, x0), (7, x1), (99, 0), (0, x3), (0, x4), (0, x5), (99, 0)], [(0, (-1)), (0, (s x0 1))], s)) from rfl) ?_
      refine AT.ite (x := (0, 0, 0)) (by decide +kernel) (show jbr (.if_icmp .eq 7) (109, [(12, x0), (7, x1), (99, 0), (0, x3), (0, x4), (0, x5), (99, 0)], [(0, (-1)), (0, (s x0 1))], s) = some ((w32 (s x0 1)) = (-1), (116, [(12, x0), (7, x1), (99, 0), (0, x3), (0, x4), (0, x5), (99, 0)], [], s), (112, [(12, x0), (7, x1), (99, 0), (0, x3), (0, x4), (0, x5), (99, 0)], [], s)) from rfl) H (fun H => ?_) (fun H => ?_)
      · refine AT.seq [(116, .iconst 0, 1, (0, 0, 0))] (by decide +kernel) (show jrun _ (116, [(12, x0), (7, x1), (99, 0), (0, x3), (0, x4), (0, x5), (99, 0)], [], s) = some ([], (117, [(12, x0), (7, x1), (99, 0), (0, x3), (0, x4), (0, x5), (99, 0)], [(0, 0)], s)) from rfl) ?_
        exact AT.retzC (by decide +kernel) (by decide) H
      · refine AT.seq [(112, .iconst 1, 1, (0, 0, 0)), (113, .goto 4, 3, (0, 0, 0))] (by decide +kernel) (show jrun _ (112, [(12, x0), (7, x1), (99, 0), (0, x3), (0, x4), (0, x5), (99, 0)], [], s) = some ([], (117, [(12, x0), (7, x1), (99, 0), (0, x3), (0, x4), (0, x5), (99, 0)], [(0, 1)], s)) from rfl) ?_
        exact AT.retzC (by decide +kernel) (by decide) H
    · refine AT.seq [(22, .iload 5, 2, (0, 0, 0)), (24, .sipush 10000, 3, (0, 0, 0))] (by decide +kernel) (show jrun _ (22, [(12, x0), (7, x1), (99, 0), (0, x3), (0, x4), (0, x5), (99, 0)], [], s) = some ([], (27, [(12, x0), (7, x1), (99, 0), (0, x3), (0, x4), (0, x5), (99, 0)], [(0, 10000), (0, x5)], s)) from rfl) ?_
      refine AT.ite (x := (0, 0, 0)) (by decide +kernel) (show jbr (.if_icmp .ge 77) (27, [(12, x0), (7, x1), (99, 0), (0, x3), (0, x4), (0, x5), (99, 0)], [(0, 10000), (0, x5)], s) = some ((w32 x5) < 10000, (30, [(12, x0), (7, x1), (99, 0), (0, x3), (0, x4), (0, x5), (99, 0)], [], s), (104, [(12, x0), (7, x1), (99, 0), (0, x3), (0, x4), (0, x5), (99, 0)], [], s)) from rfl) H (fun H => ?_) (fun H => ?_)
      · refine AT.seq [(30, .aload_n 0, 1, (0, 0, 0)), (31, .aload_n 1, 1, (0, 0, 0)), (32, .getfield 54, 3, (1205, 310, 0))] (by decide +kernel) (show jrun _ (30, [(12, x0), (7, x1), (99, 0), (0, x3), (0, x4), (0, x5), (99, 0)], [], s) = some ([], (35, [(12, x0), (7, x1), (99, 0), (0, x3), (0, x4), (0, x5), (99, 0)], [(26, (x1 + 2)), (12, x0)], s)) from rfl) ?_
        obtain ⟨v4, s4, h4, H⟩ := jb_some H
        refine AT.callV (As := [(26, (x1 + 2))]) (cl := 8) (b := x0) (st := []) (i := 57) (pos := 4205) kFi_sumBy (by decide +kernel) rfl (by decide +kernel) rfl rfl (by omega) (Fi_sumBy_ok h4) ?_
        show AT sFi_cheapest 2 (38, [(12, x0), (7, x1), (99, 0), (0, x3), (0, x4), (0, x5), (99, 0)], [(0, v4)], s4) o
        refine AT.seq [(38, .istore 6, 2, (0, 0, 0)), (40, .aload_n 0, 1, (0, 0, 0)), (41, .getfield 47, 3, (2120, 801, 0)), (44, .iconst (-1), 1, (0, 0, 0))] (by decide +kernel) (show jrun _ (38, [(12, x0), (7, x1), (99, 0), (0, x3), (0, x4), (0, x5), (99, 0)], [(0, v4)], s4) = some ([], (45, [(12, x0), (7, x1), (99, 0), (0, x3), (0, x4), (0, x5), (0, v4)], [(0, (-1)), (0, (s4 x0 1))], s4)) from rfl) ?_
        refine AT.ite (x := (0, 0, 0)) (by decide +kernel) (show jbr (.if_icmp .eq 12) (45, [(12, x0), (7, x1), (99, 0), (0, x3), (0, x4), (0, x5), (0, v4)], [(0, (-1)), (0, (s4 x0 1))], s4) = some ((w32 (s4 x0 1)) = (-1), (57, [(12, x0), (7, x1), (99, 0), (0, x3), (0, x4), (0, x5), (0, v4)], [], s4), (48, [(12, x0), (7, x1), (99, 0), (0, x3), (0, x4), (0, x5), (0, v4)], [], s4)) from rfl) H (fun H => ?_) (fun H => ?_)
        · exact AT.weak (L' := [(12, x0), (7, x1), (99, 0), (0, x3), (99, 0), (0, x5), (0, v4)]) (jleK (jleK (jleK (jleK (jleJ (jleK (jleK jle0))))))) (Fi_cheapest_57_ok ih H)
        · refine AT.seq [(48, .iload 6, 2, (0, 0, 0)), (50, .aload_n 0, 1, (0, 0, 0)), (51, .getfield 47, 3, (2120, 801, 0))] (by decide +kernel) (show jrun _ (48, [(12, x0), (7, x1), (99, 0), (0, x3), (0, x4), (0, x5), (0, v4)], [], s4) = some ([], (54, [(12, x0), (7, x1), (99, 0), (0, x3), (0, x4), (0, x5), (0, v4)], [(0, (s4 x0 1)), (0, v4)], s4)) from rfl) ?_
          refine AT.ite (x := (0, 0, 0)) (by decide +kernel) (show jbr (.if_icmp .ge 38) (54, [(12, x0), (7, x1), (99, 0), (0, x3), (0, x4), (0, x5), (0, v4)], [(0, (s4 x0 1)), (0, v4)], s4) = some ((w32 v4) < (w32 (s4 x0 1)), (57, [(12, x0), (7, x1), (99, 0), (0, x3), (0, x4), (0, x5), (0, v4)], [], s4), (92, [(12, x0), (7, x1), (99, 0), (0, x3), (0, x4), (0, x5), (0, v4)], [], s4)) from rfl) H (fun H => ?_) (fun H => ?_)
          · exact AT.weak (L' := [(12, x0), (7, x1), (99, 0), (0, x3), (99, 0), (0, x5), (0, v4)]) (jleK (jleK (jleK (jleK (jleJ (jleK (jleK jle0))))))) (Fi_cheapest_57_ok ih H)
          · refine AT.seq [(92, .aload_n 0, 1, (0, 0, 0))] (by decide +kernel) (show jrun _ (92, [(12, x0), (7, x1), (99, 0), (0, x3), (0, x4), (0, x5), (0, v4)], [], s4) = some ([], (93, [(12, x0), (7, x1), (99, 0), (0, x3), (0, x4), (0, x5), (0, v4)], [(12, x0)], s4)) from rfl) ?_
            obtain ⟨v5, s5, h5, H⟩ := jb_some H
            refine AT.callV (As := []) (cl := 8) (b := x0) (st := []) (i := 70) (pos := 4210) kFi_goOn (by decide +kernel) rfl (by decide +kernel) rfl rfl (by omega) (Fi_goOn_ok h5) ?_
            show AT sFi_cheapest 2 (96, [(12, x0), (7, x1), (99, 0), (0, x3), (0, x4), (0, x5), (0, v4)], [(0, v5)], s5) o
            refine AT.seq [(96, .istore 4, 2, (0, 0, 0)), (98, .iinc 5 1, 3, (0, 0, 0)), (101, .goto (-84), 3, (0, 0, 0))] (by decide +kernel) (show jrun _ (96, [(12, x0), (7, x1), (99, 0), (0, x3), (0, x4), (0, x5), (0, v4)], [(0, v5)], s5) = some ([], (17, [(12, x0), (7, x1), (99, 0), (0, x3), (0, v5), (0, (x5 + 1)), (0, v4)], [], s5)) from rfl) ?_
            exact AT.weak (L' := [(12, x0), (7, x1), (99, 0), (0, x3), (0, v5), (0, (x5 + 1)), (99, 0)]) (jleK (jleK (jleK (jleK (jleK (jleK (jleJ jle0))))))) (ih _ _ _ _ _ _ H)
      · refine AT.seq [(104, .aload_n 0, 1, (0, 0, 0)), (105, .getfield 47, 3, (2120, 801, 0)), (108, .iconst (-1), 1, (0, 0, 0))] (by decide +kernel) (show jrun _ (104, [(12, x0), (7, x1), (99, 0), (0, x3), (0, x4), (0, x5), (99, 0)], [], s) = some ([], (109, [(12, x0), (7, x1), (99, 0), (0, x3), (0, x4), (0, x5), (99, 0)], [(0, (-1)), (0, (s x0 1))], s)) from rfl) ?_
        refine AT.ite (x := (0, 0, 0)) (by decide +kernel) (show jbr (.if_icmp .eq 7) (109, [(12, x0), (7, x1), (99, 0), (0, x3), (0, x4), (0, x5), (99, 0)], [(0, (-1)), (0, (s x0 1))], s) = some ((w32 (s x0 1)) = (-1), (116, [(12, x0), (7, x1), (99, 0), (0, x3), (0, x4), (0, x5), (99, 0)], [], s), (112, [(12, x0), (7, x1), (99, 0), (0, x3), (0, x4), (0, x5), (99, 0)], [], s)) from rfl) H (fun H => ?_) (fun H => ?_)
        · refine AT.seq [(116, .iconst 0, 1, (0, 0, 0))] (by decide +kernel) (show jrun _ (116, [(12, x0), (7, x1), (99, 0), (0, x3), (0, x4), (0, x5), (99, 0)], [], s) = some ([], (117, [(12, x0), (7, x1), (99, 0), (0, x3), (0, x4), (0, x5), (99, 0)], [(0, 0)], s)) from rfl) ?_
          exact AT.retzC (by decide +kernel) (by decide) H
        · refine AT.seq [(112, .iconst 1, 1, (0, 0, 0)), (113, .goto 4, 3, (0, 0, 0))] (by decide +kernel) (show jrun _ (112, [(12, x0), (7, x1), (99, 0), (0, x3), (0, x4), (0, x5), (99, 0)], [], s) = some ([], (117, [(12, x0), (7, x1), (99, 0), (0, x3), (0, x4), (0, x5), (99, 0)], [(0, 1)], s)) from rfl) ?_
          exact AT.retzC (by decide +kernel) (by decide) H
theorem Fi_cheapest_ok {a0 a1 a2 a3 : Int} {s : jM} {o : Int × jM} (H : Fi_cheapest a0 a1 a2 a3 s = some o) : MK sFi_cheapest 2 [(12, a0), (7, a1), (0, a2), (0, a3)] s o := by
  refine MK.of kFi_cheapest rfl ?_
  show AT sFi_cheapest 2 (0, [(12, a0), (7, a1), (0, a2), (0, a3), (99, 0), (99, 0), (99, 0)], [], s) o
  unfold Fi_cheapest at H
  refine AT.seq [(0, .aload_n 0, 1, (0, 0, 0)), (1, .iconst (-1), 1, (0, 0, 0)), (2, .putfield 47, 3, (2120, 801, 0)), (5, .aload_n 0, 1, (0, 0, 0)), (6, .aload_n 1, 1, (0, 0, 0)), (7, .iload_n 2, 1, (0, 0, 0)), (8, .iconst 1, 1, (0, 0, 0))] (by decide +kernel) (show jrun _ (0, [(12, a0), (7, a1), (0, a2), (0, a3), (99, 0), (99, 0), (99, 0)], [], s) = some ([], (9, [(12, a0), (7, a1), (0, a2), (0, a3), (99, 0), (99, 0), (99, 0)], [(0, 1), (0, a2), (7, a1), (12, a0)], (jup s a0 1 (-1)))) from rfl) ?_
  obtain ⟨v6, s6, h6, H⟩ := jb_some H
  refine AT.callV (As := [(7, a1), (0, a2), (0, 1)]) (cl := 8) (b := a0) (st := []) (i := 50) (pos := 4196) kFi_begin (by decide +kernel) rfl (by decide +kernel) rfl rfl (by omega) (Fi_begin_ok h6) ?_
  show AT sFi_cheapest 2 (12, [(12, a0), (7, a1), (0, a2), (0, a3), (99, 0), (99, 0), (99, 0)], [(0, v6)], s6) o
  refine AT.seq [(12, .istore 4, 2, (0, 0, 0)), (14, .iconst 0, 1, (0, 0, 0)), (15, .istore 5, 2, (0, 0, 0))] (by decide +kernel) (show jrun _ (12, [(12, a0), (7, a1), (0, a2), (0, a3), (99, 0), (99, 0), (99, 0)], [(0, v6)], s6) = some ([], (17, [(12, a0), (7, a1), (0, a2), (0, a3), (0, v6), (0, 0), (99, 0)], [], s6)) from rfl) ?_
  exact AT.weak (L' := [(12, a0), (7, a1), (99, 0), (0, a3), (0, v6), (0, 0), (99, 0)]) (jleK (jleK (jleJ (jleK (jleK (jleK (jleK jle0))))))) (Fi_cheapest_17_ok  jFU _ _ _ _ _ _ H)
def sFi_countWays : jS := (⟨"JellyCathedral$Fillings", "countWays", "(LJellyCathedral$See;IZ)V"⟩, prog_4_method_7_code, 7, 0, [12, 7, 0, 0], 0)
theorem kFi_countWays : jmk sFi_countWays = true := jmk_of 4225 1009 4223 4224 (by decide +kernel)
theorem Fi_countWays_36_ok {o : Int × jM} : ∀ (n : Nat) (x0 x1 x4 x5 : Int) (s : jM), Fi_countWays_36  n x0 x1 x4 x5 s = some o → AT sFi_countWays 2 (36, [(12, x0), (7, x1), (99, 0), (99, 0), (0, x4), (0, x5), (99, 0)], [], s) o := by
  intro n
  induction n with
  | zero =>
    intro x0 x1 x4 x5 s H
    have H : (none : Option (Int × jM)) = some o := H
    cases H
  | succ n ih =>
    intro x0 x1 x4 x5 s H
    rw [Fi_countWays_36] at H
    refine AT.seq [(36, .iload 4, 2, (0, 0, 0))] (by decide +kernel) (show jrun _ (36, [(12, x0), (7, x1), (99, 0), (99, 0), (0, x4), (0, x5), (99, 0)], [], s) = some ([], (38, [(12, x0), (7, x1), (99, 0), (99, 0), (0, x4), (0, x5), (99, 0)], [(0, x4)], s)) from rfl) ?_
    refine AT.ite (x := (0, 0, 0)) (by decide +kernel) (show jbr (.ifCond .eq 56) (38, [(12, x0), (7, x1), (99, 0), (99, 0), (0, x4), (0, x5), (99, 0)], [(0, x4)], s) = some ((w32 x4) = 0, (94, [(12, x0), (7, x1), (99, 0), (99, 0), (0, x4), (0, x5), (99, 0)], [], s), (41, [(12, x0), (7, x1), (99, 0), (99, 0), (0, x4), (0, x5), (99, 0)], [], s)) from rfl) H (fun H => ?_) (fun H => ?_)
    · exact AT.retvH (by decide +kernel) H
    · refine AT.seq [(41, .iload 5, 2, (0, 0, 0)), (43, .sipush 10000, 3, (0, 0, 0))] (by decide +kernel) (show jrun _ (41, [(12, x0), (7, x1), (99, 0), (99, 0), (0, x4), (0, x5), (99, 0)], [], s) = some ([], (46, [(12, x0), (7, x1), (99, 0), (99, 0), (0, x4), (0, x5), (99, 0)], [(0, 10000), (0, x5)], s)) from rfl) ?_
      refine AT.ite (x := (0, 0, 0)) (by decide +kernel) (show jbr (.if_icmp .ge 48) (46, [(12, x0), (7, x1), (99, 0), (99, 0), (0, x4), (0, x5), (99, 0)], [(0, 10000), (0, x5)], s) = some ((w32 x5) < 10000, (49, [(12, x0), (7, x1), (99, 0), (99, 0), (0, x4), (0, x5), (99, 0)], [], s), (94, [(12, x0), (7, x1), (99, 0), (99, 0), (0, x4), (0, x5), (99, 0)], [], s)) from rfl) H (fun H => ?_) (fun H => ?_)
      · refine AT.seq [(49, .aload_n 0, 1, (0, 0, 0)), (50, .aload_n 1, 1, (0, 0, 0)), (51, .getfield 61, 3, (1202, 309, 0))] (by decide +kernel) (show jrun _ (49, [(12, x0), (7, x1), (99, 0), (99, 0), (0, x4), (0, x5), (99, 0)], [], s) = some ([], (54, [(12, x0), (7, x1), (99, 0), (99, 0), (0, x4), (0, x5), (99, 0)], [(26, (x1 + 1)), (12, x0)], s)) from rfl) ?_
        obtain ⟨v1, s1, h1, H⟩ := jb_some H
        refine AT.callV (As := [(26, (x1 + 1))]) (cl := 8) (b := x0) (st := []) (i := 57) (pos := 4205) kFi_sumBy (by decide +kernel) rfl (by decide +kernel) rfl rfl (by omega) (Fi_sumBy_ok h1) ?_
        show AT sFi_countWays 2 (57, [(12, x0), (7, x1), (99, 0), (99, 0), (0, x4), (0, x5), (99, 0)], [(0, v1)], s1) o
        refine AT.seq [(57, .istore 6, 2, (0, 0, 0)), (59, .iload 6, 2, (0, 0, 0))] (by decide +kernel) (show jrun _ (57, [(12, x0), (7, x1), (99, 0), (99, 0), (0, x4), (0, x5), (99, 0)], [(0, v1)], s1) = some ([], (61, [(12, x0), (7, x1), (99, 0), (99, 0), (0, x4), (0, x5), (0, v1)], [(0, v1)], s1)) from rfl) ?_
        refine AT.ite (x := (0, 0, 0)) (by decide +kernel) (show jbr (.ifCond .lt 21) (61, [(12, x0), (7, x1), (99, 0), (99, 0), (0, x4), (0, x5), (0, v1)], [(0, v1)], s1) = some ((w32 v1) < 0, (82, [(12, x0), (7, x1), (99, 0), (99, 0), (0, x4), (0, x5), (0, v1)], [], s1), (64, [(12, x0), (7, x1), (99, 0), (99, 0), (0, x4), (0, x5), (0, v1)], [], s1)) from rfl) H (fun H => ?_) (fun H => ?_)
        · refine AT.seq [(82, .aload_n 0, 1, (0, 0, 0))] (by decide +kernel) (show jrun _ (82, [(12, x0), (7, x1), (99, 0), (99, 0), (0, x4), (0, x5), (0, v1)], [], s1) = some ([], (83, [(12, x0), (7, x1), (99, 0), (99, 0), (0, x4), (0, x5), (0, v1)], [(12, x0)], s1)) from rfl) ?_
          obtain ⟨v2, s2, h2, H⟩ := jb_some H
          refine AT.callV (As := []) (cl := 8) (b := x0) (st := []) (i := 70) (pos := 4210) kFi_goOn (by decide +kernel) rfl (by decide +kernel) rfl rfl (by omega) (Fi_goOn_ok h2) ?_
          show AT sFi_countWays 2 (86, [(12, x0), (7, x1), (99, 0), (99, 0), (0, x4), (0, x5), (0, v1)], [(0, v2)], s2) o
          refine AT.seq [(86, .istore 4, 2, (0, 0, 0)), (88, .iinc 5 1, 3, (0, 0, 0)), (91, .goto (-55), 3, (0, 0, 0))] (by decide +kernel) (show jrun _ (86, [(12, x0), (7, x1), (99, 0), (99, 0), (0, x4), (0, x5), (0, v1)], [(0, v2)], s2) = some ([], (36, [(12, x0), (7, x1), (99, 0), (99, 0), (0, v2), (0, (x5 + 1)), (0, v1)], [], s2)) from rfl) ?_
          exact AT.weak (L' := [(12, x0), (7, x1), (99, 0), (99, 0), (0, v2), (0, (x5 + 1)), (99, 0)]) (jleK (jleK (jleK (jleK (jleK (jleK (jleJ jle0))))))) (ih _ _ _ _ _ H)
        · refine AT.seq [(64, .iload 6, 2, (0, 0, 0)), (66, .bipush 81, 2, (0, 0, 0))] (by decide +kernel) (show jrun _ (64, [(12, x0), (7, x1), (99, 0), (99, 0), (0, x4), (0, x5), (0, v1)], [], s1) = some ([], (68, [(12, x0), (7, x1), (99, 0), (99, 0), (0, x4), (0, x5), (0, v1)], [(0, 81), (0, v1)], s1)) from rfl) ?_
          refine AT.ite (x := (0, 0, 0)) (by decide +kernel) (show jbr (.if_icmp .gt 14) (68, [(12, x0), (7, x1), (99, 0), (99, 0), (0, x4), (0, x5), (0, v1)], [(0, 81), (0, v1)], s1) = some (81 < (w32 v1), (82, [(12, x0), (7, x1), (99, 0), (99, 0), (0, x4), (0, x5), (0, v1)], [], s1), (71, [(12, x0), (7, x1), (99, 0), (99, 0), (0, x4), (0, x5), (0, v1)], [], s1)) from rfl) H (fun H => ?_) (fun H => ?_)
          · refine AT.seq [(82, .aload_n 0, 1, (0, 0, 0))] (by decide +kernel) (show jrun _ (82, [(12, x0), (7, x1), (99, 0), (99, 0), (0, x4), (0, x5), (0, v1)], [], s1) = some ([], (83, [(12, x0), (7, x1), (99, 0), (99, 0), (0, x4), (0, x5), (0, v1)], [(12, x0)], s1)) from rfl) ?_
            obtain ⟨v3, s3, h3, H⟩ := jb_some H
            refine AT.callV (As := []) (cl := 8) (b := x0) (st := []) (i := 70) (pos := 4210) kFi_goOn (by decide +kernel) rfl (by decide +kernel) rfl rfl (by omega) (Fi_goOn_ok h3) ?_
            show AT sFi_countWays 2 (86, [(12, x0), (7, x1), (99, 0), (99, 0), (0, x4), (0, x5), (0, v1)], [(0, v3)], s3) o
            refine AT.seq [(86, .istore 4, 2, (0, 0, 0)), (88, .iinc 5 1, 3, (0, 0, 0)), (91, .goto (-55), 3, (0, 0, 0))] (by decide +kernel) (show jrun _ (86, [(12, x0), (7, x1), (99, 0), (99, 0), (0, x4), (0, x5), (0, v1)], [(0, v3)], s3) = some ([], (36, [(12, x0), (7, x1), (99, 0), (99, 0), (0, v3), (0, (x5 + 1)), (0, v1)], [], s3)) from rfl) ?_
            exact AT.weak (L' := [(12, x0), (7, x1), (99, 0), (99, 0), (0, v3), (0, (x5 + 1)), (99, 0)]) (jleK (jleK (jleK (jleK (jleK (jleK (jleJ jle0))))))) (ih _ _ _ _ _ H)
          · refine AT.blk (g := (0 ≤ (w32 v1) ∧ (w32 v1) < 82) ∧ (0 ≤ (w32 v1) ∧ (w32 v1) < 82)) [(71, .aload_n 0, 1, (0, 0, 0)), (72, .getfield 21, 3, (2126, 805, 0)), (75, .iload 6, 2, (0, 0, 0)), (77, .dup2, 1, (0, 0, 0)), (78, .iaload, 1, (0, 0, 0)), (79, .iconst 1, 1, (0, 0, 0)), (80, .iadd, 1, (0, 0, 0)), (81, .iastore, 1, (0, 0, 0)), (82, .aload_n 0, 1, (0, 0, 0))] (by decide +kernel) (show jrun _ (71, [(12, x0), (7, x1), (99, 0), (99, 0), (0, x4), (0, x5), (0, v1)], [], s1) = some ([(0 ≤ (w32 v1) ∧ (w32 v1) < 82), (0 ≤ (w32 v1) ∧ (w32 v1) < 82)], (83, [(12, x0), (7, x1), (99, 0), (99, 0), (0, x4), (0, x5), (0, v1)], [(12, x0)], (jup s1 (x0 + 4) (w32 v1) ((s1 (x0 + 4) (w32 v1)) + 1)))) from rfl) (fun h => ⟨h.1, h.2⟩) H (fun H => ?_)
            obtain ⟨v4, s4, h4, H⟩ := jb_some H
            refine AT.callV (As := []) (cl := 8) (b := x0) (st := []) (i := 70) (pos := 4210) kFi_goOn (by decide +kernel) rfl (by decide +kernel) rfl rfl (by omega) (Fi_goOn_ok h4) ?_
            show AT sFi_countWays 2 (86, [(12, x0), (7, x1), (99, 0), (99, 0), (0, x4), (0, x5), (0, v1)], [(0, v4)], s4) o
            refine AT.seq [(86, .istore 4, 2, (0, 0, 0)), (88, .iinc 5 1, 3, (0, 0, 0)), (91, .goto (-55), 3, (0, 0, 0))] (by decide +kernel) (show jrun _ (86, [(12, x0), (7, x1), (99, 0), (99, 0), (0, x4), (0, x5), (0, v1)], [(0, v4)], s4) = some ([], (36, [(12, x0), (7, x1), (99, 0), (99, 0), (0, v4), (0, (x5 + 1)), (0, v1)], [], s4)) from rfl) ?_
            exact AT.weak (L' := [(12, x0), (7, x1), (99, 0), (99, 0), (0, v4), (0, (x5 + 1)), (99, 0)]) (jleK (jleK (jleK (jleK (jleK (jleK (jleJ jle0))))))) (ih _ _ _ _ _ H)
      · exact AT.retvH (by decide +kernel) H
theorem Fi_countWays_3_ok {o : Int × jM} : ∀ (n : Nat) (x0 x1 x2 x3 x4 : Int) (s : jM), Fi_countWays_3  n x0 x1 x2 x3 x4 s = some o → AT sFi_countWays 2 (3, [(12, x0), (7, x1), (0, x2), (0, x3), (0, x4), (99, 0), (99, 0)], [], s) o := by
  intro n
  induction n with
  | zero =>
    intro x0 x1 x2 x3 x4 s H
    have H : (none : Option (Int × jM)) = some o := H
    cases H
  | succ n ih =>
    intro x0 x1 x2 x3 x4 s H
    rw [Fi_countWays_3] at H
    refine AT.seq [(3, .iload 4, 2, (0, 0, 0)), (5, .bipush 81, 2, (0, 0, 0))] (by decide +kernel) (show jrun _ (3, [(12, x0), (7, x1), (0, x2), (0, x3), (0, x4), (99, 0), (99, 0)], [], s) = some ([], (7, [(12, x0), (7, x1), (0, x2), (0, x3), (0, x4), (99, 0), (99, 0)], [(0, 81), (0, x4)], s)) from rfl) ?_
    refine AT.ite (x := (0, 0, 0)) (by decide +kernel) (show jbr (.if_icmp .gt 17) (7, [(12, x0), (7, x1), (0, x2), (0, x3), (0, x4), (99, 0), (99, 0)], [(0, 81), (0, x4)], s) = some (81 < (w32 x4), (24, [(12, x0), (7, x1), (0, x2), (0, x3), (0, x4), (99, 0), (99, 0)], [], s), (10, [(12, x0), (7, x1), (0, x2), (0, x3), (0, x4), (99, 0), (99, 0)], [], s)) from rfl) H (fun H => ?_) (fun H => ?_)
    · refine AT.seq [(24, .aload_n 0, 1, (0, 0, 0)), (25, .aload_n 1, 1, (0, 0, 0)), (26, .iload_n 2, 1, (0, 0, 0)), (27, .iload_n 3, 1, (0, 0, 0))] (by decide +kernel) (show jrun _ (24, [(12, x0), (7, x1), (0, x2), (0, x3), (0, x4), (99, 0), (99, 0)], [], s) = some ([], (28, [(12, x0), (7, x1), (0, x2), (0, x3), (0, x4), (99, 0), (99, 0)], [(0, x3), (0, x2), (7, x1), (12, x0)], s)) from rfl) ?_
      obtain ⟨v5, s5, h5, H⟩ := jb_some H
      refine AT.callV (As := [(7, x1), (0, x2), (0, x3)]) (cl := 8) (b := x0) (st := []) (i := 50) (pos := 4196) kFi_begin (by decide +kernel) rfl (by decide +kernel) rfl rfl (by omega) (Fi_begin_ok h5) ?_
      show AT sFi_countWays 2 (31, [(12, x0), (7, x1), (0, x2), (0, x3), (0, x4), (99, 0), (99, 0)], [(0, v5)], s5) o
      refine AT.seq [(31, .istore 4, 2, (0, 0, 0)), (33, .iconst 0, 1, (0, 0, 0)), (34, .istore 5, 2, (0, 0, 0))] (by decide +kernel) (show jrun _ (31, [(12, x0), (7, x1), (0, x2), (0, x3), (0, x4), (99, 0), (99, 0)], [(0, v5)], s5) = some ([], (36, [(12, x0), (7, x1), (0, x2), (0, x3), (0, v5), (0, 0), (99, 0)], [], s5)) from rfl) ?_
      exact AT.weak (L' := [(12, x0), (7, x1), (99, 0), (99, 0), (0, v5), (0, 0), (99, 0)]) (jleK (jleK (jleJ (jleJ (jleK (jleK (jleK jle0))))))) (Fi_countWays_36_ok  jFU _ _ _ _ _ H)
    · refine AT.blk (g := (0 ≤ (w32 x4) ∧ (w32 x4) < 82)) [(10, .aload_n 0, 1, (0, 0, 0)), (11, .getfield 21, 3, (2126, 805, 0)), (14, .iload 4, 2, (0, 0, 0)), (16, .iconst 0, 1, (0, 0, 0)), (17, .iastore, 1, (0, 0, 0)), (18, .iinc 4 1, 3, (0, 0, 0)), (21, .goto (-18), 3, (0, 0, 0))] (by decide +kernel) (show jrun _ (10, [(12, x0), (7, x1), (0, x2), (0, x3), (0, x4), (99, 0), (99, 0)], [], s) = some ([(0 ≤ (w32 x4) ∧ (w32 x4) < 82)], (3, [(12, x0), (7, x1), (0, x2), (0, x3), (0, (x4 + 1)), (99, 0), (99, 0)], [], (jup s (x0 + 4) (w32 x4) 0))) from rfl) (fun h => h) H (fun H => ?_)
      exact ih _ _ _ _ _ _ H
theorem Fi_countWays_ok {a0 a1 a2 a3 : Int} {s : jM} {o : Int × jM} (H : Fi_countWays a0 a1 a2 a3 s = some o) : MK sFi_countWays 2 [(12, a0), (7, a1), (0, a2), (0, a3)] s o := by
  refine MK.of kFi_countWays rfl ?_
  show AT sFi_countWays 2 (0, [(12, a0), (7, a1), (0, a2), (0, a3), (99, 0), (99, 0), (99, 0)], [], s) o
  unfold Fi_countWays at H
  refine AT.seq [(0, .iconst 0, 1, (0, 0, 0)), (1, .istore 4, 2, (0, 0, 0))] (by decide +kernel) (show jrun _ (0, [(12, a0), (7, a1), (0, a2), (0, a3), (99, 0), (99, 0), (99, 0)], [], s) = some ([], (3, [(12, a0), (7, a1), (0, a2), (0, a3), (0, 0), (99, 0), (99, 0)], [], s)) from rfl) ?_
  exact Fi_countWays_3_ok  jFU _ _ _ _ _ _ H
def sFi_greatestStrength : jS := (⟨"JellyCathedral$Fillings", "greatestStrength", "()I"⟩, prog_4_method_11_code, 2, 1, [12], 0)
theorem kFi_greatestStrength : jmk sFi_greatestStrength = true := jmk_of 4229 1009 4227 4228 (by decide +kernel)
theorem Fi_greatestStrength_3_ok {o : Int × jM} : ∀ (n : Nat) (x0 x1 : Int) (s : jM), Fi_greatestStrength_3  n x0 x1 s = some o → AT sFi_greatestStrength 0 (3, [(12, x0), (0, x1)], [], s) o := by
  intro n
  induction n with
  | zero =>
    intro x0 x1 s H
    have H : (none : Option (Int × jM)) = some o := H
    cases H
  | succ n ih =>
    intro x0 x1 s H
    rw [Fi_greatestStrength_3] at H
    refine AT.seq [(3, .iload_n 1, 1, (0, 0, 0))] (by decide +kernel) (show jrun _ (3, [(12, x0), (0, x1)], [], s) = some ([], (4, [(12, x0), (0, x1)], [(0, x1)], s)) from rfl) ?_
    refine AT.ite (x := (0, 0, 0)) (by decide +kernel) (show jbr (.ifCond .lt 20) (4, [(12, x0), (0, x1)], [(0, x1)], s) = some ((w32 x1) < 0, (24, [(12, x0), (0, x1)], [], s), (7, [(12, x0), (0, x1)], [], s)) from rfl) H (fun H => ?_) (fun H => ?_)
    · refine AT.seq [(24, .iconst (-1), 1, (0, 0, 0))] (by decide +kernel) (show jrun _ (24, [(12, x0), (0, x1)], [], s) = some ([], (25, [(12, x0), (0, x1)], [(0, (-1))], s)) from rfl) ?_
      exact AT.retiH (by decide +kernel) H
    · refine AT.blk (g := (0 ≤ (w32 x1) ∧ (w32 x1) < 82)) [(7, .aload_n 0, 1, (0, 0, 0)), (8, .getfield 21, 3, (2126, 805, 0)), (11, .iload_n 1, 1, (0, 0, 0)), (12, .iaload, 1, (0, 0, 0))] (by decide +kernel) (show jrun _ (7, [(12, x0), (0, x1)], [], s) = some ([(0 ≤ (w32 x1) ∧ (w32 x1) < 82)], (13, [(12, x0), (0, x1)], [(0, (s (x0 + 4) (w32 x1)))], s)) from rfl) (fun h => h) H (fun H => ?_)
      refine AT.ite (x := (0, 0, 0)) (by decide +kernel) (show jbr (.ifCond .le 5) (13, [(12, x0), (0, x1)], [(0, (s (x0 + 4) (w32 x1)))], s) = some (0 < (w32 (s (x0 + 4) (w32 x1))), (16, [(12, x0), (0, x1)], [], s), (18, [(12, x0), (0, x1)], [], s)) from rfl) H (fun H => ?_) (fun H => ?_)
      · refine AT.seq [(16, .iload_n 1, 1, (0, 0, 0))] (by decide +kernel) (show jrun _ (16, [(12, x0), (0, x1)], [], s) = some ([], (17, [(12, x0), (0, x1)], [(0, x1)], s)) from rfl) ?_
        exact AT.retiH (by decide +kernel) H
      · refine AT.seq [(18, .iinc 1 (-1), 3, (0, 0, 0)), (21, .goto (-18), 3, (0, 0, 0))] (by decide +kernel) (show jrun _ (18, [(12, x0), (0, x1)], [], s) = some ([], (3, [(12, x0), (0, (x1 + (-1)))], [], s)) from rfl) ?_
        exact ih _ _ _ H
theorem Fi_greatestStrength_ok {a0 : Int} {s : jM} {o : Int × jM} (H : Fi_greatestStrength a0 s = some o) : MK sFi_greatestStrength 0 [(12, a0)] s o := by
  refine MK.of kFi_greatestStrength rfl ?_
  show AT sFi_greatestStrength 0 (0, [(12, a0), (99, 0)], [], s) o
  unfold Fi_greatestStrength at H
  refine AT.seq [(0, .bipush 81, 2, (0, 0, 0)), (2, .istore_n 1, 1, (0, 0, 0))] (by decide +kernel) (show jrun _ (0, [(12, a0), (99, 0)], [], s) = some ([], (3, [(12, a0), (0, 81)], [], s)) from rfl) ?_
  exact Fi_greatestStrength_3_ok  jFU _ _ _ H
def sFi_allWays : jS := (⟨"JellyCathedral$Fillings", "allWays", "()I"⟩, prog_4_method_9_code, 3, 1, [12], 0)
theorem kFi_allWays : jmk sFi_allWays = true := jmk_of 4237 1009 4235 4236 (by decide +kernel)
theorem Fi_allWays_4_ok {o : Int × jM} : ∀ (n : Nat) (x0 x1 x2 : Int) (s : jM), Fi_allWays_4  n x0 x1 x2 s = some o → AT sFi_allWays 0 (4, [(12, x0), (0, x1), (0, x2)], [], s) o := by
  intro n
  induction n with
  | zero =>
    intro x0 x1 x2 s H
    have H : (none : Option (Int × jM)) = some o := H
    cases H
  | succ n ih =>
    intro x0 x1 x2 s H
    rw [Fi_allWays_4] at H
    refine AT.seq [(4, .iload_n 2, 1, (0, 0, 0)), (5, .bipush 81, 2, (0, 0, 0))] (by decide +kernel) (show jrun _ (4, [(12, x0), (0, x1), (0, x2)], [], s) = some ([], (7, [(12, x0), (0, x1), (0, x2)], [(0, 81), (0, x2)], s)) from rfl) ?_
    refine AT.ite (x := (0, 0, 0)) (by decide +kernel) (show jbr (.if_icmp .gt 18) (7, [(12, x0), (0, x1), (0, x2)], [(0, 81), (0, x2)], s) = some (81 < (w32 x2), (25, [(12, x0), (0, x1), (0, x2)], [], s), (10, [(12, x0), (0, x1), (0, x2)], [], s)) from rfl) H (fun H => ?_) (fun H => ?_)
    · refine AT.seq [(25, .iload_n 1, 1, (0, 0, 0))] (by decide +kernel) (show jrun _ (25, [(12, x0), (0, x1), (0, x2)], [], s) = some ([], (26, [(12, x0), (0, x1), (0, x2)], [(0, x1)], s)) from rfl) ?_
      exact AT.retiH (by decide +kernel) H
    · refine AT.blk (g := (0 ≤ (w32 x2) ∧ (w32 x2) < 82)) [(10, .iload_n 1, 1, (0, 0, 0)), (11, .aload_n 0, 1, (0, 0, 0)), (12, .getfield 21, 3, (2126, 805, 0)), (15, .iload_n 2, 1, (0, 0, 0)), (16, .iaload, 1, (0, 0, 0)), (17, .iadd, 1, (0, 0, 0)), (18, .istore_n 1, 1, (0, 0, 0)), (19, .iinc 2 1, 3, (0, 0, 0)), (22, .goto (-18), 3, (0, 0, 0))] (by decide +kernel) (show jrun _ (10, [(12, x0), (0, x1), (0, x2)], [], s) = some ([(0 ≤ (w32 x2) ∧ (w32 x2) < 82)], (4, [(12, x0), (0, (x1 + (s (x0 + 4) (w32 x2)))), (0, (x2 + 1))], [], s)) from rfl) (fun h => h) H (fun H => ?_)
      exact ih _ _ _ _ H
theorem Fi_allWays_ok {a0 : Int} {s : jM} {o : Int × jM} (H : Fi_allWays a0 s = some o) : MK sFi_allWays 0 [(12, a0)] s o := by
  refine MK.of kFi_allWays rfl ?_
  show AT sFi_allWays 0 (0, [(12, a0), (99, 0), (99, 0)], [], s) o
  unfold Fi_allWays at H
  refine AT.seq [(0, .iconst 0, 1, (0, 0, 0)), (1, .istore_n 1, 1, (0, 0, 0)), (2, .iconst 0, 1, (0, 0, 0)), (3, .istore_n 2, 1, (0, 0, 0))] (by decide +kernel) (show jrun _ (0, [(12, a0), (99, 0), (99, 0)], [], s) = some ([], (4, [(12, a0), (0, 0), (0, 0)], [], s)) from rfl) ?_
  exact Fi_allWays_4_ok  jFU _ _ _ _ H
def sFi_keepLasting : jS := (⟨"JellyCathedral$Fillings", "keepLasting", "(III)V"⟩, prog_4_method_8_code, 5, 0, [12, 0, 0, 0], 0)
theorem kFi_keepLasting : jmk sFi_keepLasting = true := jmk_of 5035 1009 5033 5034 (by decide +kernel)
theorem Fi_keepLasting_3_ok {o : Int × jM} : ∀ (n : Nat) (x0 x1 x2 x3 x4 : Int) (s : jM), Fi_keepLasting_3  n x0 x1 x2 x3 x4 s = some o → AT sFi_keepLasting 1 (3, [(12, x0), (0, x1), (0, x2), (0, x3), (0, x4)], [], s) o := by
  intro n
  induction n with
  | zero =>
    intro x0 x1 x2 x3 x4 s H
    have H : (none : Option (Int × jM)) = some o := H
    cases H
  | succ n ih =>
    intro x0 x1 x2 x3 x4 s H
    rw [Fi_keepLasting_3] at H
    refine AT.seq [(3, .iload 4, 2, (0, 0, 0)), (5, .bipush 81, 2, (0, 0, 0))] (by decide +kernel) (show jrun _ (3, [(12, x0), (0, x1), (0, x2), (0, x3), (0, x4)], [], s) = some ([], (7, [(12, x0), (0, x1), (0, x2), (0, x3), (0, x4)], [(0, 81), (0, x4)], s)) from rfl) ?_
    refine AT.ite (x := (0, 0, 0)) (by decide +kernel) (show jbr (.if_icmp .gt 28) (7, [(12, x0), (0, x1), (0, x2), (0, x3), (0, x4)], [(0, 81), (0, x4)], s) = some (81 < (w32 x4), (35, [(12, x0), (0, x1), (0, x2), (0, x3), (0, x4)], [], s), (10, [(12, x0), (0, x1), (0, x2), (0, x3), (0, x4)], [], s)) from rfl) H (fun H => ?_) (fun H => ?_)
    · exact AT.retvH (by decide +kernel) H
    · refine AT.seq [(10, .iload 4, 2, (0, 0, 0)), (12, .iload_n 1, 1, (0, 0, 0)), (13, .iload_n 2, 1, (0, 0, 0))] (by decide +kernel) (show jrun _ (10, [(12, x0), (0, x1), (0, x2), (0, x3), (0, x4)], [], s) = some ([], (14, [(12, x0), (0, x1), (0, x2), (0, x3), (0, x4)], [(0, x2), (0, x1), (0, x4)], s)) from rfl) ?_
      obtain ⟨v1, s1, h1, H⟩ := jb_some H
      refine AT.callS (As := [(0, x4), (0, x1), (0, x2)]) (st := []) (i := 74) (pos := 5036) kJc_lasting (by decide +kernel) rfl rfl rfl (by omega) (Jc_lasting_ok h1) ?_
      show AT sFi_keepLasting 1 (17, [(12, x0), (0, x1), (0, x2), (0, x3), (0, x4)], [(0, v1)], s1) o
      refine AT.seq [(17, .iload_n 3, 1, (0, 0, 0))] (by decide +kernel) (show jrun _ (17, [(12, x0), (0, x1), (0, x2), (0, x3), (0, x4)], [(0, v1)], s1) = some ([], (18, [(12, x0), (0, x1), (0, x2), (0, x3), (0, x4)], [(0, x3), (0, v1)], s1)) from rfl) ?_
      refine AT.ite (x := (0, 0, 0)) (by decide +kernel) (show jbr (.if_icmp .eq 11) (18, [(12, x0), (0, x1), (0, x2), (0, x3), (0, x4)], [(0, x3), (0, v1)], s1) = some ((w32 v1) = (w32 x3), (29, [(12, x0), (0, x1), (0, x2), (0, x3), (0, x4)], [], s1), (21, [(12, x0), (0, x1), (0, x2), (0, x3), (0, x4)], [], s1)) from rfl) H (fun H => ?_) (fun H => ?_)
      · refine AT.seq [(29, .iinc 4 1, 3, (0, 0, 0)), (32, .goto (-29), 3, (0, 0, 0))] (by decide +kernel) (show jrun _ (29, [(12, x0), (0, x1), (0, x2), (0, x3), (0, x4)], [], s1) = some ([], (3, [(12, x0), (0, x1), (0, x2), (0, x3), (0, (x4 + 1))], [], s1)) from rfl) ?_
        exact ih _ _ _ _ _ _ H
      · refine AT.blk (g := (0 ≤ (w32 x4) ∧ (w32 x4) < 82)) [(21, .aload_n 0, 1, (0, 0, 0)), (22, .getfield 21, 3, (2126, 805, 0)), (25, .iload 4, 2, (0, 0, 0)), (27, .iconst 0, 1, (0, 0, 0)), (28, .iastore, 1, (0, 0, 0)), (29, .iinc 4 1, 3, (0, 0, 0)), (32, .goto (-29), 3, (0, 0, 0))] (by decide +kernel) (show jrun _ (21, [(12, x0), (0, x1), (0, x2), (0, x3), (0, x4)], [], s1) = some ([(0 ≤ (w32 x4) ∧ (w32 x4) < 82)], (3, [(12, x0), (0, x1), (0, x2), (0, x3), (0, (x4 + 1))], [], (jup s1 (x0 + 4) (w32 x4) 0))) from rfl) (fun h => h) H (fun H => ?_)
        exact ih _ _ _ _ _ _ H
theorem Fi_keepLasting_ok {a0 a1 a2 a3 : Int} {s : jM} {o : Int × jM} (H : Fi_keepLasting a0 a1 a2 a3 s = some o) : MK sFi_keepLasting 1 [(12, a0), (0, a1), (0, a2), (0, a3)] s o := by
  refine MK.of kFi_keepLasting rfl ?_
  show AT sFi_keepLasting 1 (0, [(12, a0), (0, a1), (0, a2), (0, a3), (99, 0)], [], s) o
  unfold Fi_keepLasting at H
  refine AT.seq [(0, .iconst 0, 1, (0, 0, 0)), (1, .istore 4, 2, (0, 0, 0))] (by decide +kernel) (show jrun _ (0, [(12, a0), (0, a1), (0, a2), (0, a3), (99, 0)], [], s) = some ([], (3, [(12, a0), (0, a1), (0, a2), (0, a3), (0, 0)], [], s)) from rfl) ?_
  exact Fi_keepLasting_3_ok  jFU _ _ _ _ _ _ H
def sFi_leastStrength : jS := (⟨"JellyCathedral$Fillings", "leastStrength", "()I"⟩, prog_4_method_10_code, 2, 1, [12], 0)
theorem kFi_leastStrength : jmk sFi_leastStrength = true := jmk_of 5044 1009 5042 5043 (by decide +kernel)
theorem Fi_leastStrength_2_ok {o : Int × jM} : ∀ (n : Nat) (x0 x1 : Int) (s : jM), Fi_leastStrength_2  n x0 x1 s = some o → AT sFi_leastStrength 0 (2, [(12, x0), (0, x1)], [], s) o := by
  intro n
  induction n with
  | zero =>
    intro x0 x1 s H
    have H : (none : Option (Int × jM)) = some o := H
    cases H
  | succ n ih =>
    intro x0 x1 s H
    rw [Fi_leastStrength_2] at H
    refine AT.seq [(2, .iload_n 1, 1, (0, 0, 0)), (3, .bipush 81, 2, (0, 0, 0))] (by decide +kernel) (show jrun _ (2, [(12, x0), (0, x1)], [], s) = some ([], (5, [(12, x0), (0, x1)], [(0, 81), (0, x1)], s)) from rfl) ?_
    refine AT.ite (x := (0, 0, 0)) (by decide +kernel) (show jbr (.if_icmp .gt 20) (5, [(12, x0), (0, x1)], [(0, 81), (0, x1)], s) = some (81 < (w32 x1), (25, [(12, x0), (0, x1)], [], s), (8, [(12, x0), (0, x1)], [], s)) from rfl) H (fun H => ?_) (fun H => ?_)
    · refine AT.seq [(25, .iconst (-1), 1, (0, 0, 0))] (by decide +kernel) (show jrun _ (25, [(12, x0), (0, x1)], [], s) = some ([], (26, [(12, x0), (0, x1)], [(0, (-1))], s)) from rfl) ?_
      exact AT.retiH (by decide +kernel) H
    · refine AT.blk (g := (0 ≤ (w32 x1) ∧ (w32 x1) < 82)) [(8, .aload_n 0, 1, (0, 0, 0)), (9, .getfield 21, 3, (2126, 805, 0)), (12, .iload_n 1, 1, (0, 0, 0)), (13, .iaload, 1, (0, 0, 0))] (by decide +kernel) (show jrun _ (8, [(12, x0), (0, x1)], [], s) = some ([(0 ≤ (w32 x1) ∧ (w32 x1) < 82)], (14, [(12, x0), (0, x1)], [(0, (s (x0 + 4) (w32 x1)))], s)) from rfl) (fun h => h) H (fun H => ?_)
      refine AT.ite (x := (0, 0, 0)) (by decide +kernel) (show jbr (.ifCond .le 5) (14, [(12, x0), (0, x1)], [(0, (s (x0 + 4) (w32 x1)))], s) = some (0 < (w32 (s (x0 + 4) (w32 x1))), (17, [(12, x0), (0, x1)], [], s), (19, [(12, x0), (0, x1)], [], s)) from rfl) H (fun H => ?_) (fun H => ?_)
      · refine AT.seq [(17, .iload_n 1, 1, (0, 0, 0))] (by decide +kernel) (show jrun _ (17, [(12, x0), (0, x1)], [], s) = some ([], (18, [(12, x0), (0, x1)], [(0, x1)], s)) from rfl) ?_
        exact AT.retiH (by decide +kernel) H
      · refine AT.seq [(19, .iinc 1 1, 3, (0, 0, 0)), (22, .goto (-20), 3, (0, 0, 0))] (by decide +kernel) (show jrun _ (19, [(12, x0), (0, x1)], [], s) = some ([], (2, [(12, x0), (0, (x1 + 1))], [], s)) from rfl) ?_
        exact ih _ _ _ H
theorem Fi_leastStrength_ok {a0 : Int} {s : jM} {o : Int × jM} (H : Fi_leastStrength a0 s = some o) : MK sFi_leastStrength 0 [(12, a0)] s o := by
  refine MK.of kFi_leastStrength rfl ?_
  show AT sFi_leastStrength 0 (0, [(12, a0), (99, 0)], [], s) o
  unfold Fi_leastStrength at H
  refine AT.seq [(0, .iconst 0, 1, (0, 0, 0)), (1, .istore_n 1, 1, (0, 0, 0))] (by decide +kernel) (show jrun _ (0, [(12, a0), (99, 0)], [], s) = some ([], (2, [(12, a0), (0, 0)], [], s)) from rfl) ?_
  exact Fi_leastStrength_2_ok  jFU _ _ _ H
def sFi_greatestGroup : jS := (⟨"JellyCathedral$Fillings", "greatestGroup", "(II)I"⟩, prog_4_method_13_code, 6, 1, [12, 0, 0], 0)
theorem kFi_greatestGroup : jmk sFi_greatestGroup = true := jmk_of 5056 1009 5055 27 (by decide +kernel)
theorem Fi_greatestGroup_29_ok {o : Int × jM} : ∀ (n : Nat) (x0 x1 x2 x3 x4 : Int) (s : jM), Fi_greatestGroup_29  n x0 x1 x2 x3 x4 s = some o → AT sFi_greatestGroup 1 (29, [(12, x0), (0, x1), (0, x2), (0, x3), (0, x4), (99, 0)], [], s) o := by
  intro n
  induction n with
  | zero =>
    intro x0 x1 x2 x3 x4 s H
    have H : (none : Option (Int × jM)) = some o := H
    cases H
  | succ n ih =>
    intro x0 x1 x2 x3 x4 s H
    rw [Fi_greatestGroup_29] at H
    refine AT.seq [(29, .iload 4, 2, (0, 0, 0)), (31, .bipush 81, 2, (0, 0, 0))] (by decide +kernel) (show jrun _ (29, [(12, x0), (0, x1), (0, x2), (0, x3), (0, x4), (99, 0)], [], s) = some ([], (33, [(12, x0), (0, x1), (0, x2), (0, x3), (0, x4), (99, 0)], [(0, 81), (0, x4)], s)) from rfl) ?_
    refine AT.ite (x := (0, 0, 0)) (by decide +kernel) (show jbr (.if_icmp .gt 57) (33, [(12, x0), (0, x1), (0, x2), (0, x3), (0, x4), (99, 0)], [(0, 81), (0, x4)], s) = some (81 < (w32 x4), (90, [(12, x0), (0, x1), (0, x2), (0, x3), (0, x4), (99, 0)], [], s), (36, [(12, x0), (0, x1), (0, x2), (0, x3), (0, x4), (99, 0)], [], s)) from rfl) H (fun H => ?_) (fun H => ?_)
    · refine AT.seq [(90, .iload_n 3, 1, (0, 0, 0))] (by decide +kernel) (show jrun _ (90, [(12, x0), (0, x1), (0, x2), (0, x3), (0, x4), (99, 0)], [], s) = some ([], (91, [(12, x0), (0, x1), (0, x2), (0, x3), (0, x4), (99, 0)], [(0, x3)], s)) from rfl) ?_
      exact AT.retiH (by decide +kernel) H
    · refine AT.seq [(36, .iload 4, 2, (0, 0, 0)), (38, .iload_n 1, 1, (0, 0, 0)), (39, .iload_n 2, 1, (0, 0, 0))] (by decide +kernel) (show jrun _ (36, [(12, x0), (0, x1), (0, x2), (0, x3), (0, x4), (99, 0)], [], s) = some ([], (40, [(12, x0), (0, x1), (0, x2), (0, x3), (0, x4), (99, 0)], [(0, x2), (0, x1), (0, x4)], s)) from rfl) ?_
      obtain ⟨v1, s1, h1, H⟩ := jb_some H
      refine AT.callS (As := [(0, x4), (0, x1), (0, x2)]) (st := []) (i := 74) (pos := 5036) kJc_lasting (by decide +kernel) rfl rfl rfl (by omega) (Jc_lasting_ok h1) ?_
      show AT sFi_greatestGroup 1 (43, [(12, x0), (0, x1), (0, x2), (0, x3), (0, x4), (99, 0)], [(0, v1)], s1) o
      refine AT.seq [(43, .istore 5, 2, (0, 0, 0)), (45, .iload 5, 2, (0, 0, 0)), (47, .aload_n 0, 1, (0, 0, 0)), (48, .getfield 24, 3, (2127, 806, 0)), (51, .arraylength, 1, (0, 0, 0))] (by decide +kernel) (show jrun _ (43, [(12, x0), (0, x1), (0, x2), (0, x3), (0, x4), (99, 0)], [(0, v1)], s1) = some ([], (52, [(12, x0), (0, x1), (0, x2), (0, x3), (0, x4), (0, v1)], [(0, 83), (0, v1)], s1)) from rfl) ?_
      refine AT.ite (x := (0, 0, 0)) (by decide +kernel) (show jbr (.if_icmp .ge 32) (52, [(12, x0), (0, x1), (0, x2), (0, x3), (0, x4), (0, v1)], [(0, 83), (0, v1)], s1) = some ((w32 v1) < 83, (55, [(12, x0), (0, x1), (0, x2), (0, x3), (0, x4), (0, v1)], [], s1), (84, [(12, x0), (0, x1), (0, x2), (0, x3), (0, x4), (0, v1)], [], s1)) from rfl) H (fun H => ?_) (fun H => ?_)
      · refine AT.blk (g := (0 ≤ (w32 v1) ∧ (w32 v1) < 83) ∧ (0 ≤ (w32 x4) ∧ (w32 x4) < 82) ∧ (0 ≤ (w32 v1) ∧ (w32 v1) < 83) ∧ (0 ≤ (w32 v1) ∧ (w32 v1) < 83)) [(55, .aload_n 0, 1, (0, 0, 0)), (56, .getfield 24, 3, (2127, 806, 0)), (59, .iload 5, 2, (0, 0, 0)), (61, .dup2, 1, (0, 0, 0)), (62, .iaload, 1, (0, 0, 0)), (63, .aload_n 0, 1, (0, 0, 0)), (64, .getfield 21, 3, (2126, 805, 0)), (67, .iload 4, 2, (0, 0, 0)), (69, .iaload, 1, (0, 0, 0)), (70, .iadd, 1, (0, 0, 0)), (71, .iastore, 1, (0, 0, 0)), (72, .iload_n 3, 1, (0, 0, 0)), (73, .aload_n 0, 1, (0, 0, 0)), (74, .getfield 24, 3, (2127, 806, 0)), (77, .iload 5, 2, (0, 0, 0)), (79, .iaload, 1, (0, 0, 0)), (80, .invokestatic 81, 3, (5057, 1, 0)), (83, .istore_n 3, 1, (0, 0, 0)), (84, .iinc 4 1, 3, (0, 0, 0)), (87, .goto (-58), 3, (0, 0, 0))] (by decide +kernel) (show jrun _ (55, [(12, x0), (0, x1), (0, x2), (0, x3), (0, x4), (0, v1)], [], s1) = some ([(0 ≤ (w32 v1) ∧ (w32 v1) < 83), (0 ≤ (w32 x4) ∧ (w32 x4) < 82), (0 ≤ (w32 v1) ∧ (w32 v1) < 83), (0 ≤ (w32 v1) ∧ (w32 v1) < 83)], (29, [(12, x0), (0, x1), (0, x2), (0, (jmax x3 ((jup s1 (x0 + 5) (w32 v1) ((s1 (x0 + 5) (w32 v1)) + (s1 (x0 + 4) (w32 x4)))) (x0 + 5) (w32 v1)))), (0, (x4 + 1)), (0, v1)], [], (jup s1 (x0 + 5) (w32 v1) ((s1 (x0 + 5) (w32 v1)) + (s1 (x0 + 4) (w32 x4)))))) from rfl) (fun h => ⟨h.1, h.2.1, h.2.2.1, h.2.2.2⟩) H (fun H => ?_)
        exact AT.weak (L' := [(12, x0), (0, x1), (0, x2), (0, (jmax x3 ((jup s1 (x0 + 5) (w32 v1) ((s1 (x0 + 5) (w32 v1)) + (s1 (x0 + 4) (w32 x4)))) (x0 + 5) (w32 v1)))), (0, (x4 + 1)), (99, 0)]) (jleK (jleK (jleK (jleK (jleK (jleJ jle0)))))) (ih _ _ _ _ _ _ H)
      · refine AT.seq [(84, .iinc 4 1, 3, (0, 0, 0)), (87, .goto (-58), 3, (0, 0, 0))] (by decide +kernel) (show jrun _ (84, [(12, x0), (0, x1), (0, x2), (0, x3), (0, x4), (0, v1)], [], s1) = some ([], (29, [(12, x0), (0, x1), (0, x2), (0, x3), (0, (x4 + 1)), (0, v1)], [], s1)) from rfl) ?_
        exact AT.weak (L' := [(12, x0), (0, x1), (0, x2), (0, x3), (0, (x4 + 1)), (99, 0)]) (jleK (jleK (jleK (jleK (jleK (jleJ jle0)))))) (ih _ _ _ _ _ _ H)
theorem Fi_greatestGroup_2_ok {o : Int × jM} : ∀ (n : Nat) (x0 x1 x2 x3 : Int) (s : jM), Fi_greatestGroup_2  n x0 x1 x2 x3 s = some o → AT sFi_greatestGroup 1 (2, [(12, x0), (0, x1), (0, x2), (0, x3), (99, 0), (99, 0)], [], s) o := by
  intro n
  induction n with
  | zero =>
    intro x0 x1 x2 x3 s H
    have H : (none : Option (Int × jM)) = some o := H
    cases H
  | succ n ih =>
    intro x0 x1 x2 x3 s H
    rw [Fi_greatestGroup_2] at H
    refine AT.seq [(2, .iload_n 3, 1, (0, 0, 0)), (3, .aload_n 0, 1, (0, 0, 0)), (4, .getfield 24, 3, (2127, 806, 0)), (7, .arraylength, 1, (0, 0, 0))] (by decide +kernel) (show jrun _ (2, [(12, x0), (0, x1), (0, x2), (0, x3), (99, 0), (99, 0)], [], s) = some ([], (8, [(12, x0), (0, x1), (0, x2), (0, x3), (99, 0), (99, 0)], [(0, 83), (0, x3)], s)) from rfl) ?_
    refine AT.ite (x := (0, 0, 0)) (by decide +kernel) (show jbr (.if_icmp .ge 16) (8, [(12, x0), (0, x1), (0, x2), (0, x3), (99, 0), (99, 0)], [(0, 83), (0, x3)], s) = some ((w32 x3) < 83, (11, [(12, x0), (0, x1), (0, x2), (0, x3), (99, 0), (99, 0)], [], s), (24, [(12, x0), (0, x1), (0, x2), (0, x3), (99, 0), (99, 0)], [], s)) from rfl) H (fun H => ?_) (fun H => ?_)
    · refine AT.blk (g := (0 ≤ (w32 x3) ∧ (w32 x3) < 83)) [(11, .aload_n 0, 1, (0, 0, 0)), (12, .getfield 24, 3, (2127, 806, 0)), (15, .iload_n 3, 1, (0, 0, 0)), (16, .iconst 0, 1, (0, 0, 0)), (17, .iastore, 1, (0, 0, 0)), (18, .iinc 3 1, 3, (0, 0, 0)), (21, .goto (-19), 3, (0, 0, 0))] (by decide +kernel) (show jrun _ (11, [(12, x0), (0, x1), (0, x2), (0, x3), (99, 0), (99, 0)], [], s) = some ([(0 ≤ (w32 x3) ∧ (w32 x3) < 83)], (2, [(12, x0), (0, x1), (0, x2), (0, (x3 + 1)), (99, 0), (99, 0)], [], (jup s (x0 + 5) (w32 x3) 0))) from rfl) (fun h => h) H (fun H => ?_)
      exact ih _ _ _ _ _ H
    · refine AT.seq [(24, .iconst 0, 1, (0, 0, 0)), (25, .istore_n 3, 1, (0, 0, 0)), (26, .iconst 0, 1, (0, 0, 0)), (27, .istore 4, 2, (0, 0, 0))] (by decide +kernel) (show jrun _ (24, [(12, x0), (0, x1), (0, x2), (0, x3), (99, 0), (99, 0)], [], s) = some ([], (29, [(12, x0), (0, x1), (0, x2), (0, 0), (0, 0), (99, 0)], [], s)) from rfl) ?_
      exact Fi_greatestGroup_29_ok  jFU _ _ _ _ _ _ H
theorem Fi_greatestGroup_ok {a0 a1 a2 : Int} {s : jM} {o : Int × jM} (H : Fi_greatestGroup a0 a1 a2 s = some o) : MK sFi_greatestGroup 1 [(12, a0), (0, a1), (0, a2)] s o := by
  refine MK.of kFi_greatestGroup rfl ?_
  show AT sFi_greatestGroup 1 (0, [(12, a0), (0, a1), (0, a2), (99, 0), (99, 0), (99, 0)], [], s) o
  unfold Fi_greatestGroup at H
  refine AT.seq [(0, .iconst 0, 1, (0, 0, 0)), (1, .istore_n 3, 1, (0, 0, 0))] (by decide +kernel) (show jrun _ (0, [(12, a0), (0, a1), (0, a2), (99, 0), (99, 0), (99, 0)], [], s) = some ([], (2, [(12, a0), (0, a1), (0, a2), (0, 0), (99, 0), (99, 0)], [], s)) from rfl) ?_
  exact Fi_greatestGroup_2_ok  jFU _ _ _ _ _ H
def sFi_bestHeat : jS := (⟨"JellyCathedral$Fillings", "bestHeat", "(I)I"⟩, prog_4_method_12_code, 6, 1, [12, 0], 0)
theorem kFi_bestHeat : jmk sFi_bestHeat = true := jmk_of 5052 1009 5050 5051 (by decide +kernel)
theorem Fi_bestHeat_12_ok {o : Int × jM} : ∀ (n : Nat) (x0 x1 x2 x3 x4 : Int) (s : jM), Fi_bestHeat_12  n x0 x1 x2 x3 x4 s = some o → AT sFi_bestHeat 2 (12, [(12, x0), (0, x1), (0, x2), (0, x3), (0, x4), (99, 0)], [], s) o := by
  intro n
  induction n with
  | zero =>
    intro x0 x1 x2 x3 x4 s H
    have H : (none : Option (Int × jM)) = some o := H
    cases H
  | succ n ih =>
    intro x0 x1 x2 x3 x4 s H
    rw [Fi_bestHeat_12] at H
    refine AT.seq [(12, .iload 4, 2, (0, 0, 0)), (14, .bipush 9, 2, (0, 0, 0))] (by decide +kernel) (show jrun _ (12, [(12, x0), (0, x1), (0, x2), (0, x3), (0, x4), (99, 0)], [], s) = some ([], (16, [(12, x0), (0, x1), (0, x2), (0, x3), (0, x4), (99, 0)], [(0, 9), (0, x4)], s)) from rfl) ?_
    refine AT.ite (x := (0, 0, 0)) (by decide +kernel) (show jbr (.if_icmp .gt 30) (16, [(12, x0), (0, x1), (0, x2), (0, x3), (0, x4), (99, 0)], [(0, 9), (0, x4)], s) = some (9 < (w32 x4), (46, [(12, x0), (0, x1), (0, x2), (0, x3), (0, x4), (99, 0)], [], s), (19, [(12, x0), (0, x1), (0, x2), (0, x3), (0, x4), (99, 0)], [], s)) from rfl) H (fun H => ?_) (fun H => ?_)
    · refine AT.seq [(46, .iload_n 2, 1, (0, 0, 0))] (by decide +kernel) (show jrun _ (46, [(12, x0), (0, x1), (0, x2), (0, x3), (0, x4), (99, 0)], [], s) = some ([], (47, [(12, x0), (0, x1), (0, x2), (0, x3), (0, x4), (99, 0)], [(0, x2)], s)) from rfl) ?_
      exact AT.retiH (by decide +kernel) H
    · refine AT.seq [(19, .aload_n 0, 1, (0, 0, 0)), (20, .iload_n 1, 1, (0, 0, 0)), (21, .iload 4, 2, (0, 0, 0))] (by decide +kernel) (show jrun _ (19, [(12, x0), (0, x1), (0, x2), (0, x3), (0, x4), (99, 0)], [], s) = some ([], (23, [(12, x0), (0, x1), (0, x2), (0, x3), (0, x4), (99, 0)], [(0, x4), (0, x1), (12, x0)], s)) from rfl) ?_
      obtain ⟨v1, s1, h1, H⟩ := jb_some H
      refine AT.callV (As := [(0, x1), (0, x4)]) (cl := 8) (b := x0) (st := []) (i := 78) (pos := 5053) kFi_greatestGroup (by decide +kernel) rfl (by decide +kernel) rfl rfl (by omega) (Fi_greatestGroup_ok h1) ?_
      show AT sFi_bestHeat 2 (26, [(12, x0), (0, x1), (0, x2), (0, x3), (0, x4), (99, 0)], [(0, v1)], s1) o
      refine AT.seq [(26, .istore 5, 2, (0, 0, 0)), (28, .iload 5, 2, (0, 0, 0)), (30, .iload_n 3, 1, (0, 0, 0))] (by decide +kernel) (show jrun _ (26, [(12, x0), (0, x1), (0, x2), (0, x3), (0, x4), (99, 0)], [(0, v1)], s1) = some ([], (31, [(12, x0), (0, x1), (0, x2), (0, x3), (0, x4), (0, v1)], [(0, x3), (0, v1)], s1)) from rfl) ?_
      refine AT.ite (x := (0, 0, 0)) (by decide +kernel) (show jbr (.if_icmp .ge 9) (31, [(12, x0), (0, x1), (0, x2), (0, x3), (0, x4), (0, v1)], [(0, x3), (0, v1)], s1) = some ((w32 v1) < (w32 x3), (34, [(12, x0), (0, x1), (0, x2), (0, x3), (0, x4), (0, v1)], [], s1), (40, [(12, x0), (0, x1), (0, x2), (0, x3), (0, x4), (0, v1)], [], s1)) from rfl) H (fun H => ?_) (fun H => ?_)
      · refine AT.seq [(34, .iload 5, 2, (0, 0, 0)), (36, .istore_n 3, 1, (0, 0, 0)), (37, .iload 4, 2, (0, 0, 0)), (39, .istore_n 2, 1, (0, 0, 0)), (40, .iinc 4 1, 3, (0, 0, 0)), (43, .goto (-31), 3, (0, 0, 0))] (by decide +kernel) (show jrun _ (34, [(12, x0), (0, x1), (0, x2), (0, x3), (0, x4), (0, v1)], [], s1) = some ([], (12, [(12, x0), (0, x1), (0, x4), (0, v1), (0, (x4 + 1)), (0, v1)], [], s1)) from rfl) ?_
        exact AT.weak (L' := [(12, x0), (0, x1), (0, x4), (0, v1), (0, (x4 + 1)), (99, 0)]) (jleK (jleK (jleK (jleK (jleK (jleJ jle0)))))) (ih _ _ _ _ _ _ H)
      · refine AT.seq [(40, .iinc 4 1, 3, (0, 0, 0)), (43, .goto (-31), 3, (0, 0, 0))] (by decide +kernel) (show jrun _ (40, [(12, x0), (0, x1), (0, x2), (0, x3), (0, x4), (0, v1)], [], s1) = some ([], (12, [(12, x0), (0, x1), (0, x2), (0, x3), (0, (x4 + 1)), (0, v1)], [], s1)) from rfl) ?_
        exact AT.weak (L' := [(12, x0), (0, x1), (0, x2), (0, x3), (0, (x4 + 1)), (99, 0)]) (jleK (jleK (jleK (jleK (jleK (jleJ jle0)))))) (ih _ _ _ _ _ _ H)
theorem Fi_bestHeat_ok {a0 a1 : Int} {s : jM} {o : Int × jM} (H : Fi_bestHeat a0 a1 s = some o) : MK sFi_bestHeat 2 [(12, a0), (0, a1)] s o := by
  refine MK.of kFi_bestHeat rfl ?_
  show AT sFi_bestHeat 2 (0, [(12, a0), (0, a1), (99, 0), (99, 0), (99, 0), (99, 0)], [], s) o
  unfold Fi_bestHeat at H
  refine AT.seq [(0, .iconst 1, 1, (0, 0, 0)), (1, .istore_n 2, 1, (0, 0, 0)), (2, .aload_n 0, 1, (0, 0, 0)), (3, .iload_n 1, 1, (0, 0, 0)), (4, .iconst 1, 1, (0, 0, 0))] (by decide +kernel) (show jrun _ (0, [(12, a0), (0, a1), (99, 0), (99, 0), (99, 0), (99, 0)], [], s) = some ([], (5, [(12, a0), (0, a1), (0, 1), (99, 0), (99, 0), (99, 0)], [(0, 1), (0, a1), (12, a0)], s)) from rfl) ?_
  obtain ⟨v2, s2, h2, H⟩ := jb_some H
  refine AT.callV (As := [(0, a1), (0, 1)]) (cl := 8) (b := a0) (st := []) (i := 78) (pos := 5053) kFi_greatestGroup (by decide +kernel) rfl (by decide +kernel) rfl rfl (by omega) (Fi_greatestGroup_ok h2) ?_
  show AT sFi_bestHeat 2 (8, [(12, a0), (0, a1), (0, 1), (99, 0), (99, 0), (99, 0)], [(0, v2)], s2) o
  refine AT.seq [(8, .istore_n 3, 1, (0, 0, 0)), (9, .iconst 2, 1, (0, 0, 0)), (10, .istore 4, 2, (0, 0, 0))] (by decide +kernel) (show jrun _ (8, [(12, a0), (0, a1), (0, 1), (99, 0), (99, 0), (99, 0)], [(0, v2)], s2) = some ([], (12, [(12, a0), (0, a1), (0, 1), (0, v2), (0, 2), (99, 0)], [], s2)) from rfl) ?_
  exact Fi_bestHeat_12_ok  jFU _ _ _ _ _ _ H
def sGa_seat : jS := (⟨"JellyCathedral$Game", "seat", "(ILJellyCathedral$Mould;)V"⟩, prog_5_method_3_code, 3, 0, [13, 0, 6], 0)
theorem kGa_seat : jmk sGa_seat = true := jmk_of 5074 1010 5073 29 (by decide +kernel)
theorem Ga_seat_ok {a0 a1 a2 : Int} {s : jM} {o : Int × jM} (H : Ga_seat a0 a1 a2 s = some o) : MK sGa_seat 0 [(13, a0), (0, a1), (6, a2)] s o := by
  refine MK.of kGa_seat rfl ?_
  show AT sGa_seat 0 (0, [(13, a0), (0, a1), (6, a2)], [], s) o
  unfold Ga_seat at H
  refine AT.seq [(0, .aload_n 0, 1, (0, 0, 0)), (1, .getfield 18, 3, (2154, 904, 0)), (4, .iload_n 1, 1, (0, 0, 0)), (5, .aload_n 2, 1, (0, 0, 0)), (6, .getfield 54, 3, (1124, 203, 0)), (9, .iconst 2, 1, (0, 0, 0))] (by decide +kernel) (show jrun _ (0, [(13, a0), (0, a1), (6, a2)], [], s) = some ([], (10, [(13, a0), (0, a1), (6, a2)], [(0, 2), (0, (s a2 3)), (0, a1), (37, (a0 + 3))], s)) from rfl) ?_
  refine AT.ite (x := (0, 0, 0)) (by decide +kernel) (show jbr (.if_icmp .ne 7) (10, [(13, a0), (0, a1), (6, a2)], [(0, 2), (0, (s a2 3)), (0, a1), (37, (a0 + 3))], s) = some ((w32 (s a2 3)) = 2, (13, [(13, a0), (0, a1), (6, a2)], [(0, a1), (37, (a0 + 3))], s), (17, [(13, a0), (0, a1), (6, a2)], [(0, a1), (37, (a0 + 3))], s)) from rfl) H (fun H => ?_) (fun H => ?_)
  · refine AT.blk (g := (0 ≤ (w32 a1) ∧ (w32 a1) < 2) ∧ (0 ≤ (w32 a1) ∧ (w32 a1) < 2)) [(13, .iconst 0, 1, (0, 0, 0)), (14, .goto 12, 3, (0, 0, 0)), (26, .iastore, 1, (0, 0, 0)), (27, .aload_n 0, 1, (0, 0, 0)), (28, .getfield 21, 3, (2155, 905, 0)), (31, .iload_n 1, 1, (0, 0, 0)), (32, .aload_n 2, 1, (0, 0, 0)), (33, .getfield 65, 3, (1133, 205, 0)), (36, .iastore, 1, (0, 0, 0))] (by decide +kernel) (show jrun _ (13, [(13, a0), (0, a1), (6, a2)], [(0, a1), (37, (a0 + 3))], s) = some ([(0 ≤ (w32 a1) ∧ (w32 a1) < 2), (0 ≤ (w32 a1) ∧ (w32 a1) < 2)], (37, [(13, a0), (0, a1), (6, a2)], [], (jup (jup s (a0 + 3) (w32 a1) 0) (a0 + 4) (w32 a1) ((jup s (a0 + 3) (w32 a1) 0) a2 5)))) from rfl) (fun h => ⟨h.1, h.2⟩) H (fun H => ?_)
    exact AT.retvH (by decide +kernel) H
  · refine AT.blk (g := (0 ≤ (w32 a1) ∧ (w32 a1) < 2) ∧ (0 ≤ (w32 a1) ∧ (w32 a1) < 2)) [(17, .aload_n 2, 1, (0, 0, 0)), (18, .getfield 59, 3, (1114, 201, 0)), (21, .aload_n 2, 1, (0, 0, 0)), (22, .getfield 62, 3, (1136, 206, 0)), (25, .isub, 1, (0, 0, 0)), (26, .iastore, 1, (0, 0, 0)), (27, .aload_n 0, 1, (0, 0, 0)), (28, .getfield 21, 3, (2155, 905, 0)), (31, .iload_n 1, 1, (0, 0, 0)), (32, .aload_n 2, 1, (0, 0, 0)), (33, .getfield 65, 3, (1133, 205, 0)), (36, .iastore, 1, (0, 0, 0))] (by decide +kernel) (show jrun _ (17, [(13, a0), (0, a1), (6, a2)], [(0, a1), (37, (a0 + 3))], s) = some ([(0 ≤ (w32 a1) ∧ (w32 a1) < 2), (0 ≤ (w32 a1) ∧ (w32 a1) < 2)], (37, [(13, a0), (0, a1), (6, a2)], [], (jup (jup s (a0 + 3) (w32 a1) ((s a2 1) - (s a2 6))) (a0 + 4) (w32 a1) ((jup s (a0 + 3) (w32 a1) ((s a2 1) - (s a2 6))) a2 5)))) from rfl) (fun h => ⟨h.1, h.2⟩) H (fun H => ?_)
    exact AT.retvH (by decide +kernel) H
def sGa_shift : jS := (⟨"JellyCathedral$Game", "shift", "(III)V"⟩, prog_5_method_5_code, 4, 0, [13, 0, 0, 0], 0)
theorem kGa_shift : jmk sGa_shift = true := jmk_of 5082 1010 5081 31 (by decide +kernel)
theorem Ga_shift_ok {a0 a1 a2 a3 : Int} {s : jM} {o : Int × jM} (H : Ga_shift a0 a1 a2 a3 s = some o) : MK sGa_shift 0 [(13, a0), (0, a1), (0, a2), (0, a3)] s o := by
  refine MK.of kGa_shift rfl ?_
  show AT sGa_shift 0 (0, [(13, a0), (0, a1), (0, a2), (0, a3)], [], s) o
  unfold Ga_shift at H
  refine AT.blk (g := (0 ≤ (w32 a2) ∧ (w32 a2) < 5) ∧ (0 ≤ (w32 a2) ∧ (w32 a2) < 5) ∧ (0 ≤ (w32 a1) ∧ (w32 a1) < 2) ∧ (0 ≤ (w32 a1) ∧ (w32 a1) < 2)) [(0, .aload_n 0, 1, (0, 0, 0)), (1, .getfield 15, 3, (2153, 903, 0)), (4, .iload_n 2, 1, (0, 0, 0)), (5, .dup2, 1, (0, 0, 0)), (6, .iaload, 1, (0, 0, 0)), (7, .iload_n 3, 1, (0, 0, 0)), (8, .isub, 1, (0, 0, 0)), (9, .iastore, 1, (0, 0, 0)), (10, .aload_n 0, 1, (0, 0, 0)), (11, .getfield 18, 3, (2154, 904, 0)), (14, .iload_n 1, 1, (0, 0, 0)), (15, .dup2, 1, (0, 0, 0)), (16, .iaload, 1, (0, 0, 0)), (17, .iload_n 3, 1, (0, 0, 0)), (18, .isub, 1, (0, 0, 0)), (19, .iastore, 1, (0, 0, 0)), (20, .aload_n 0, 1, (0, 0, 0)), (21, .getfield 21, 3, (2155, 905, 0)), (24, .iload_n 1, 1, (0, 0, 0)), (25, .dup2, 1, (0, 0, 0))] (by decide +kernel) (show jrun _ (0, [(13, a0), (0, a1), (0, a2), (0, a3)], [], s) = some ([(0 ≤ (w32 a2) ∧ (w32 a2) < 5), (0 ≤ (w32 a2) ∧ (w32 a2) < 5), (0 ≤ (w32 a1) ∧ (w32 a1) < 2), (0 ≤ (w32 a1) ∧ (w32 a1) < 2)], (26, [(13, a0), (0, a1), (0, a2), (0, a3)], [(0, a1), (37, (a0 + 4)), (0, a1), (37, (a0 + 4))], (jup (jup s (a0 + 2) (w32 a2) ((s (a0 + 2) (w32 a2)) - a3)) (a0 + 3) (w32 a1) (((jup s (a0 + 2) (w32 a2) ((s (a0 + 2) (w32 a2)) - a3)) (a0 + 3) (w32 a1)) - a3)))) from rfl) (fun h => ⟨h.1, h.2.1, h.2.2.1, h.2.2.2⟩) H (fun H => ?_)
  obtain ⟨s1, e1, H⟩ := jm_some H
  rw [← e1]
  refine AT.blk (g := (0 ≤ (w32 a1) ∧ (w32 a1) < 2) ∧ (0 ≤ (w32 a2) ∧ (w32 a2) < 5) ∧ (0 ≤ (w32 a1) ∧ (w32 a1) < 2)) [(26, .iaload, 1, (0, 0, 0)), (27, .iload_n 3, 1, (0, 0, 0)), (28, .aload_n 0, 1, (0, 0, 0)), (29, .getfield 9, 3, (2152, 902, 0)), (32, .iload_n 2, 1, (0, 0, 0)), (33, .iaload, 1, (0, 0, 0)), (34, .imul, 1, (0, 0, 0)), (35, .iadd, 1, (0, 0, 0)), (36, .iastore, 1, (0, 0, 0))] (by decide +kernel) (show jrun _ (26, [(13, a0), (0, a1), (0, a2), (0, a3)], [(0, a1), (37, (a0 + 4)), (0, a1), (37, (a0 + 4))], s1) = some ([(0 ≤ (w32 a1) ∧ (w32 a1) < 2), (0 ≤ (w32 a2) ∧ (w32 a2) < 5), (0 ≤ (w32 a1) ∧ (w32 a1) < 2)], (37, [(13, a0), (0, a1), (0, a2), (0, a3)], [], (jup s1 (a0 + 4) (w32 a1) ((s1 (a0 + 4) (w32 a1)) + (a3 * (s1 (a0 + 1) (w32 a2))))))) from rfl) (fun h => ⟨h.1, h.2.1, h.2.2⟩) H (fun H => ?_)
  exact AT.retvH (by decide +kernel) H
def sGa_bestFrom : jS := (⟨"JellyCathedral$Game", "bestFrom", "(II)I"⟩, prog_5_method_4_code, 7, 1, [13, 0, 0], 0)
theorem kGa_bestFrom : jmk sGa_bestFrom = true := jmk_of 5078 1010 5077 30 (by decide +kernel)
theorem Ga_bestFrom_40_ok {o : Int × jM} {n0 : Nat} {rec : Int → Int → Int → jM → Option (Int × jM)} (hrec : ∀ (y0 y1 y2 : Int) (s : jM) (o : Int × jM), rec y0 y1 y2 s = some o → MK sGa_bestFrom (1 + n0) [(13, y0), (0, y1), (0, y2)] s o) : ∀ (n : Nat) (x0 x1 x2 x3 x4 x5 : Int) (s : jM), Ga_bestFrom_40 rec n x0 x1 x2 x3 x4 x5 s = some o → AT sGa_bestFrom (1 + n0 + 1) (40, [(13, x0), (0, x1), (0, x2), (0, x3), (0, x4), (0, x5), (99, 0)], [], s) o := by
  intro n
  induction n with
  | zero =>
    intro x0 x1 x2 x3 x4 x5 s H
    have H : (none : Option (Int × jM)) = some o := H
    cases H
  | succ n ih =>
    intro x0 x1 x2 x3 x4 x5 s H
    rw [Ga_bestFrom_40] at H
    refine AT.seq [(40, .iload 5, 2, (0, 0, 0))] (by decide +kernel) (show jrun _ (40, [(13, x0), (0, x1), (0, x2), (0, x3), (0, x4), (0, x5), (99, 0)], [], s) = some ([], (42, [(13, x0), (0, x1), (0, x2), (0, x3), (0, x4), (0, x5), (99, 0)], [(0, x5)], s)) from rfl) ?_
    refine AT.ite (x := (0, 0, 0)) (by decide +kernel) (show jbr (.ifCond .lt 84) (42, [(13, x0), (0, x1), (0, x2), (0, x3), (0, x4), (0, x5), (99, 0)], [(0, x5)], s) = some ((w32 x5) < 0, (126, [(13, x0), (0, x1), (0, x2), (0, x3), (0, x4), (0, x5), (99, 0)], [], s), (45, [(13, x0), (0, x1), (0, x2), (0, x3), (0, x4), (0, x5), (99, 0)], [], s)) from rfl) H (fun H => ?_) (fun H => ?_)
    · refine AT.seq [(126, .aload_n 0, 1, (0, 0, 0)), (127, .iload_n 3, 1, (0, 0, 0)), (128, .putfield 47, 3, (2150, 901, 0)), (131, .iload 4, 2, (0, 0, 0))] (by decide +kernel) (show jrun _ (126, [(13, x0), (0, x1), (0, x2), (0, x3), (0, x4), (0, x5), (99, 0)], [], s) = some ([], (133, [(13, x0), (0, x1), (0, x2), (0, x3), (0, x4), (0, x5), (99, 0)], [(0, x4)], (jup s x0 1 x3))) from rfl) ?_
      exact AT.retiH (by decide +kernel) H
    · refine AT.blk (g := (0 ≤ (w32 x5) ∧ (w32 x5) < 5)) [(45, .aload_n 0, 1, (0, 0, 0)), (46, .getfield 15, 3, (2153, 903, 0)), (49, .iload 5, 2, (0, 0, 0)), (51, .iaload, 1, (0, 0, 0))] (by decide +kernel) (show jrun _ (45, [(13, x0), (0, x1), (0, x2), (0, x3), (0, x4), (0, x5), (99, 0)], [], s) = some ([(0 ≤ (w32 x5) ∧ (w32 x5) < 5)], (52, [(13, x0), (0, x1), (0, x2), (0, x3), (0, x4), (0, x5), (99, 0)], [(0, (s (x0 + 2) (w32 x5)))], s)) from rfl) (fun h => h) H (fun H => ?_)
      refine AT.ite (x := (0, 0, 0)) (by decide +kernel) (show jbr (.ifCond .le 68) (52, [(13, x0), (0, x1), (0, x2), (0, x3), (0, x4), (0, x5), (99, 0)], [(0, (s (x0 + 2) (w32 x5)))], s) = some (0 < (w32 (s (x0 + 2) (w32 x5))), (55, [(13, x0), (0, x1), (0, x2), (0, x3), (0, x4), (0, x5), (99, 0)], [], s), (120, [(13, x0), (0, x1), (0, x2), (0, x3), (0, x4), (0, x5), (99, 0)], [], s)) from rfl) H (fun H => ?_) (fun H => ?_)
      · refine AT.blk (g := (0 ≤ (w32 x2) ∧ (w32 x2) < 2)) [(55, .aload_n 0, 1, (0, 0, 0)), (56, .getfield 18, 3, (2154, 904, 0)), (59, .iload_n 2, 1, (0, 0, 0)), (60, .iaload, 1, (0, 0, 0))] (by decide +kernel) (show jrun _ (55, [(13, x0), (0, x1), (0, x2), (0, x3), (0, x4), (0, x5), (99, 0)], [], s) = some ([(0 ≤ (w32 x2) ∧ (w32 x2) < 2)], (61, [(13, x0), (0, x1), (0, x2), (0, x3), (0, x4), (0, x5), (99, 0)], [(0, (s (x0 + 3) (w32 x2)))], s)) from rfl) (fun h => h) H (fun H => ?_)
        refine AT.ite (x := (0, 0, 0)) (by decide +kernel) (show jbr (.ifCond .le 59) (61, [(13, x0), (0, x1), (0, x2), (0, x3), (0, x4), (0, x5), (99, 0)], [(0, (s (x0 + 3) (w32 x2)))], s) = some (0 < (w32 (s (x0 + 3) (w32 x2))), (64, [(13, x0), (0, x1), (0, x2), (0, x3), (0, x4), (0, x5), (99, 0)], [], s), (120, [(13, x0), (0, x1), (0, x2), (0, x3), (0, x4), (0, x5), (99, 0)], [], s)) from rfl) H (fun H => ?_) (fun H => ?_)
        · refine AT.seq [(64, .aload_n 0, 1, (0, 0, 0)), (65, .iload_n 2, 1, (0, 0, 0)), (66, .iload 5, 2, (0, 0, 0)), (68, .iconst 1, 1, (0, 0, 0))] (by decide +kernel) (show jrun _ (64, [(13, x0), (0, x1), (0, x2), (0, x3), (0, x4), (0, x5), (99, 0)], [], s) = some ([], (69, [(13, x0), (0, x1), (0, x2), (0, x3), (0, x4), (0, x5), (99, 0)], [(0, 1), (0, x5), (0, x2), (13, x0)], s)) from rfl) ?_
          obtain ⟨v1, s1, h1, H⟩ := jb_some H
          refine AT.callV (As := [(0, x2), (0, x5), (0, 1)]) (cl := 9) (b := x0) (st := []) (i := 67) (pos := 5079) kGa_shift (by decide +kernel) rfl (by decide +kernel) rfl rfl (by omega) (Ga_shift_ok h1) ?_
          show AT sGa_bestFrom (1 + n0 + 1) (72, [(13, x0), (0, x1), (0, x2), (0, x3), (0, x4), (0, x5), (99, 0)], [], s1) o
          refine AT.seq [(72, .aload_n 0, 1, (0, 0, 0)), (73, .iload_n 1, 1, (0, 0, 0)), (74, .iconst 1, 1, (0, 0, 0)), (75, .isub, 1, (0, 0, 0)), (76, .iconst 1, 1, (0, 0, 0)), (77, .iload_n 2, 1, (0, 0, 0)), (78, .isub, 1, (0, 0, 0))] (by decide +kernel) (show jrun _ (72, [(13, x0), (0, x1), (0, x2), (0, x3), (0, x4), (0, x5), (99, 0)], [], s1) = some ([], (79, [(13, x0), (0, x1), (0, x2), (0, x3), (0, x4), (0, x5), (99, 0)], [(0, (1 - x2)), (0, (x1 - 1)), (13, x0)], s1)) from rfl) ?_
          obtain ⟨v2, s2, h2, H⟩ := jb_some H
          refine AT.callV (As := [(0, (x1 - 1)), (0, (1 - x2))]) (cl := 9) (b := x0) (st := []) (i := 50) (pos := 5075) kGa_bestFrom (by decide +kernel) rfl (by decide +kernel) rfl rfl (by omega) (hrec _ _ _ _ _ h2) ?_
          show AT sGa_bestFrom (1 + n0 + 1) (82, [(13, x0), (0, x1), (0, x2), (0, x3), (0, x4), (0, x5), (99, 0)], [(0, v2)], s2) o
          refine AT.seq [(82, .istore 6, 2, (0, 0, 0)), (84, .aload_n 0, 1, (0, 0, 0)), (85, .iload_n 2, 1, (0, 0, 0)), (86, .iload 5, 2, (0, 0, 0)), (88, .iconst (-1), 1, (0, 0, 0))] (by decide +kernel) (show jrun _ (82, [(13, x0), (0, x1), (0, x2), (0, x3), (0, x4), (0, x5), (99, 0)], [(0, v2)], s2) = some ([], (89, [(13, x0), (0, x1), (0, x2), (0, x3), (0, x4), (0, x5), (0, v2)], [(0, (-1)), (0, x5), (0, x2), (13, x0)], s2)) from rfl) ?_
          obtain ⟨v3, s3, h3, H⟩ := jb_some H
          refine AT.callV (As := [(0, x2), (0, x5), (0, (-1))]) (cl := 9) (b := x0) (st := []) (i := 67) (pos := 5079) kGa_shift (by decide +kernel) rfl (by decide +kernel) rfl rfl (by omega) (Ga_shift_ok h3) ?_
          show AT sGa_bestFrom (1 + n0 + 1) (92, [(13, x0), (0, x1), (0, x2), (0, x3), (0, x4), (0, x5), (0, v2)], [], s3) o
          refine AT.seq [(92, .iload_n 2, 1, (0, 0, 0))] (by decide +kernel) (show jrun _ (92, [(13, x0), (0, x1), (0, x2), (0, x3), (0, x4), (0, x5), (0, v2)], [], s3) = some ([], (93, [(13, x0), (0, x1), (0, x2), (0, x3), (0, x4), (0, x5), (0, v2)], [(0, x2)], s3)) from rfl) ?_
          refine AT.ite (x := (0, 0, 0)) (by decide +kernel) (show jbr (.ifCond .ne 13) (93, [(13, x0), (0, x1), (0, x2), (0, x3), (0, x4), (0, x5), (0, v2)], [(0, x2)], s3) = some ((w32 x2) = 0, (96, [(13, x0), (0, x1), (0, x2), (0, x3), (0, x4), (0, x5), (0, v2)], [], s3), (106, [(13, x0), (0, x1), (0, x2), (0, x3), (0, x4), (0, x5), (0, v2)], [], s3)) from rfl) H (fun H => ?_) (fun H => ?_)
          · refine AT.seq [(96, .iload 6, 2, (0, 0, 0)), (98, .iload 4, 2, (0, 0, 0))] (by decide +kernel) (show jrun _ (96, [(13, x0), (0, x1), (0, x2), (0, x3), (0, x4), (0, x5), (0, v2)], [], s3) = some ([], (100, [(13, x0), (0, x1), (0, x2), (0, x3), (0, x4), (0, x5), (0, v2)], [(0, x4), (0, v2)], s3)) from rfl) ?_
            refine AT.ite (x := (0, 0, 0)) (by decide +kernel) (show jbr (.if_icmp .lt 20) (100, [(13, x0), (0, x1), (0, x2), (0, x3), (0, x4), (0, x5), (0, v2)], [(0, x4), (0, v2)], s3) = some ((w32 v2) < (w32 x4), (120, [(13, x0), (0, x1), (0, x2), (0, x3), (0, x4), (0, x5), (0, v2)], [], s3), (103, [(13, x0), (0, x1), (0, x2), (0, x3), (0, x4), (0, x5), (0, v2)], [], s3)) from rfl) H (fun H => ?_) (fun H => ?_)
            · refine AT.seq [(120, .iinc 5 (-1), 3, (0, 0, 0)), (123, .goto (-83), 3, (0, 0, 0))] (by decide +kernel) (show jrun _ (120, [(13, x0), (0, x1), (0, x2), (0, x3), (0, x4), (0, x5), (0, v2)], [], s3) = some ([], (40, [(13, x0), (0, x1), (0, x2), (0, x3), (0, x4), (0, (x5 + (-1))), (0, v2)], [], s3)) from rfl) ?_
              exact AT.weak (L' := [(13, x0), (0, x1), (0, x2), (0, x3), (0, x4), (0, (x5 + (-1))), (99, 0)]) (jleK (jleK (jleK (jleK (jleK (jleK (jleJ jle0))))))) (ih _ _ _ _ _ _ _ H)
            · refine AT.seq [(103, .goto 10, 3, (0, 0, 0)), (113, .iload 6, 2, (0, 0, 0)), (115, .istore 4, 2, (0, 0, 0)), (117, .iload 5, 2, (0, 0, 0)), (119, .istore_n 3, 1, (0, 0, 0)), (120, .iinc 5 (-1), 3, (0, 0, 0)), (123, .goto (-83), 3, (0, 0, 0))] (by decide +kernel) (show jrun _ (103, [(13, x0), (0, x1), (0, x2), (0, x3), (0, x4), (0, x5), (0, v2)], [], s3) = some ([], (40, [(13, x0), (0, x1), (0, x2), (0, x5), (0, v2), (0, (x5 + (-1))), (0, v2)], [], s3)) from rfl) ?_
              exact AT.weak (L' := [(13, x0), (0, x1), (0, x2), (0, x5), (0, v2), (0, (x5 + (-1))), (99, 0)]) (jleK (jleK (jleK (jleK (jleK (jleK (jleJ jle0))))))) (ih _ _ _ _ _ _ _ H)
          · refine AT.seq [(106, .iload 6, 2, (0, 0, 0)), (108, .iload 4, 2, (0, 0, 0))] (by decide +kernel) (show jrun _ (106, [(13, x0), (0, x1), (0, x2), (0, x3), (0, x4), (0, x5), (0, v2)], [], s3) = some ([], (110, [(13, x0), (0, x1), (0, x2), (0, x3), (0, x4), (0, x5), (0, v2)], [(0, x4), (0, v2)], s3)) from rfl) ?_
            refine AT.ite (x := (0, 0, 0)) (by decide +kernel) (show jbr (.if_icmp .gt 10) (110, [(13, x0), (0, x1), (0, x2), (0, x3), (0, x4), (0, x5), (0, v2)], [(0, x4), (0, v2)], s3) = some ((w32 x4) < (w32 v2), (120, [(13, x0), (0, x1), (0, x2), (0, x3), (0, x4), (0, x5), (0, v2)], [], s3), (113, [(13, x0), (0, x1), (0, x2), (0, x3), (0, x4), (0, x5), (0, v2)], [], s3)) from rfl) H (fun H => ?_) (fun H => ?_)
            · refine AT.seq [(120, .iinc 5 (-1), 3, (0, 0, 0)), (123, .goto (-83), 3, (0, 0, 0))] (by decide +kernel) (show jrun _ (120, [(13, x0), (0, x1), (0, x2), (0, x3), (0, x4), (0, x5), (0, v2)], [], s3) = some ([], (40, [(13, x0), (0, x1), (0, x2), (0, x3), (0, x4), (0, (x5 + (-1))), (0, v2)], [], s3)) from rfl) ?_
              exact AT.weak (L' := [(13, x0), (0, x1), (0, x2), (0, x3), (0, x4), (0, (x5 + (-1))), (99, 0)]) (jleK (jleK (jleK (jleK (jleK (jleK (jleJ jle0))))))) (ih _ _ _ _ _ _ _ H)
            · refine AT.seq [(113, .iload 6, 2, (0, 0, 0)), (115, .istore 4, 2, (0, 0, 0)), (117, .iload 5, 2, (0, 0, 0)), (119, .istore_n 3, 1, (0, 0, 0)), (120, .iinc 5 (-1), 3, (0, 0, 0)), (123, .goto (-83), 3, (0, 0, 0))] (by decide +kernel) (show jrun _ (113, [(13, x0), (0, x1), (0, x2), (0, x3), (0, x4), (0, x5), (0, v2)], [], s3) = some ([], (40, [(13, x0), (0, x1), (0, x2), (0, x5), (0, v2), (0, (x5 + (-1))), (0, v2)], [], s3)) from rfl) ?_
              exact AT.weak (L' := [(13, x0), (0, x1), (0, x2), (0, x5), (0, v2), (0, (x5 + (-1))), (99, 0)]) (jleK (jleK (jleK (jleK (jleK (jleK (jleJ jle0))))))) (ih _ _ _ _ _ _ _ H)
        · refine AT.seq [(120, .iinc 5 (-1), 3, (0, 0, 0)), (123, .goto (-83), 3, (0, 0, 0))] (by decide +kernel) (show jrun _ (120, [(13, x0), (0, x1), (0, x2), (0, x3), (0, x4), (0, x5), (99, 0)], [], s) = some ([], (40, [(13, x0), (0, x1), (0, x2), (0, x3), (0, x4), (0, (x5 + (-1))), (99, 0)], [], s)) from rfl) ?_
          exact ih _ _ _ _ _ _ _ H
      · refine AT.seq [(120, .iinc 5 (-1), 3, (0, 0, 0)), (123, .goto (-83), 3, (0, 0, 0))] (by decide +kernel) (show jrun _ (120, [(13, x0), (0, x1), (0, x2), (0, x3), (0, x4), (0, x5), (99, 0)], [], s) = some ([], (40, [(13, x0), (0, x1), (0, x2), (0, x3), (0, x4), (0, (x5 + (-1))), (99, 0)], [], s)) from rfl) ?_
        exact ih _ _ _ _ _ _ _ H
theorem Ga_bestFrom_b_ok {n0 : Nat} {rec : Int → Int → Int → jM → Option (Int × jM)} (hrec : ∀ (y0 y1 y2 : Int) (s : jM) (o : Int × jM), rec y0 y1 y2 s = some o → MK sGa_bestFrom (1 + n0) [(13, y0), (0, y1), (0, y2)] s o) {a0 a1 a2 : Int} {s : jM} {o : Int × jM} (H : Ga_bestFrom_b rec a0 a1 a2 s = some o) : MK sGa_bestFrom (1 + n0 + 1) [(13, a0), (0, a1), (0, a2)] s o := by
  refine MK.of kGa_bestFrom rfl ?_
  show AT sGa_bestFrom (1 + n0 + 1) (0, [(13, a0), (0, a1), (0, a2), (99, 0), (99, 0), (99, 0), (99, 0)], [], s) o
  unfold Ga_bestFrom_b at H
  refine AT.seq [(0, .iload_n 1, 1, (0, 0, 0))] (by decide +kernel) (show jrun _ (0, [(13, a0), (0, a1), (0, a2), (99, 0), (99, 0), (99, 0), (99, 0)], [], s) = some ([], (1, [(13, a0), (0, a1), (0, a2), (99, 0), (99, 0), (99, 0), (99, 0)], [(0, a1)], s)) from rfl) ?_
  refine AT.ite (x := (0, 0, 0)) (by decide +kernel) (show jbr (.ifCond .gt 17) (1, [(13, a0), (0, a1), (0, a2), (99, 0), (99, 0), (99, 0), (99, 0)], [(0, a1)], s) = some (0 < (w32 a1), (18, [(13, a0), (0, a1), (0, a2), (99, 0), (99, 0), (99, 0), (99, 0)], [], s), (4, [(13, a0), (0, a1), (0, a2), (99, 0), (99, 0), (99, 0), (99, 0)], [], s)) from rfl) H (fun H => ?_) (fun H => ?_)
  · refine AT.seq [(18, .iconst (-1), 1, (0, 0, 0)), (19, .istore_n 3, 1, (0, 0, 0)), (20, .aload_n 0, 1, (0, 0, 0)), (21, .iload_n 1, 1, (0, 0, 0)), (22, .iconst 1, 1, (0, 0, 0)), (23, .isub, 1, (0, 0, 0)), (24, .iconst 1, 1, (0, 0, 0)), (25, .iload_n 2, 1, (0, 0, 0)), (26, .isub, 1, (0, 0, 0))] (by decide +kernel) (show jrun _ (18, [(13, a0), (0, a1), (0, a2), (99, 0), (99, 0), (99, 0), (99, 0)], [], s) = some ([], (27, [(13, a0), (0, a1), (0, a2), (0, (-1)), (99, 0), (99, 0), (99, 0)], [(0, (1 - a2)), (0, (a1 - 1)), (13, a0)], s)) from rfl) ?_
    obtain ⟨v4, s4, h4, H⟩ := jb_some H
    refine AT.callV (As := [(0, (a1 - 1)), (0, (1 - a2))]) (cl := 9) (b := a0) (st := []) (i := 50) (pos := 5075) kGa_bestFrom (by decide +kernel) rfl (by decide +kernel) rfl rfl (by omega) (hrec _ _ _ _ _ h4) ?_
    show AT sGa_bestFrom (1 + n0 + 1) (30, [(13, a0), (0, a1), (0, a2), (0, (-1)), (99, 0), (99, 0), (99, 0)], [(0, v4)], s4) o
    refine AT.seq [(30, .istore 4, 2, (0, 0, 0)), (32, .aload_n 0, 1, (0, 0, 0)), (33, .getfield 30, 3, (2149, 900, 0)), (36, .iconst 1, 1, (0, 0, 0)), (37, .isub, 1, (0, 0, 0)), (38, .istore 5, 2, (0, 0, 0))] (by decide +kernel) (show jrun _ (30, [(13, a0), (0, a1), (0, a2), (0, (-1)), (99, 0), (99, 0), (99, 0)], [(0, v4)], s4) = some ([], (40, [(13, a0), (0, a1), (0, a2), (0, (-1)), (0, v4), (0, ((s4 a0 0) - 1)), (99, 0)], [], s4)) from rfl) ?_
    exact Ga_bestFrom_40_ok hrec jFU _ _ _ _ _ _ _ H
  · refine AT.row [(4, .aload_n 0, 1, (0, 0, 0)), (5, .getfield 21, 3, (2155, 905, 0)), (8, .iconst 0, 1, (0, 0, 0)), (9, .iaload, 1, (0, 0, 0)), (10, .aload_n 0, 1, (0, 0, 0)), (11, .getfield 21, 3, (2155, 905, 0)), (14, .iconst 1, 1, (0, 0, 0)), (15, .iaload, 1, (0, 0, 0)), (16, .isub, 1, (0, 0, 0))] (by decide +kernel) (show jrun _ (4, [(13, a0), (0, a1), (0, a2), (99, 0), (99, 0), (99, 0), (99, 0)], [], s) = some ([(0 ≤ (0 : Int) ∧ (0 : Int) < 2), (0 ≤ (1 : Int) ∧ (1 : Int) < 2)], (17, [(13, a0), (0, a1), (0, a2), (99, 0), (99, 0), (99, 0), (99, 0)], [(0, ((s (a0 + 4) 0) - (s (a0 + 4) 1)))], s)) from rfl) (show (0 ≤ (0 : Int) ∧ (0 : Int) < 2) ∧ (0 ≤ (1 : Int) ∧ (1 : Int) < 2) from by decide) ?_
    exact AT.retiH (by decide +kernel) H
theorem Ga_bestFrom_ok : ∀ (n : Nat) (a0 a1 a2 : Int) (s : jM) (o : Int × jM), Ga_bestFrom n a0 a1 a2 s = some o → MK sGa_bestFrom (1 + n) [(13, a0), (0, a1), (0, a2)] s o := by
  intro n
  induction n with
  | zero =>
    intro a0 a1 a2 s o H
    have H : (none : Option (Int × jM)) = some o := H
    cases H
  | succ n ih =>
    intro a0 a1 a2 s o H
    exact Ga_bestFrom_b_ok (n0 := n) ih H
def sGa_play : jS := (⟨"JellyCathedral$Game", "play", "(LJellyCathedral$See;III)I"⟩, prog_5_method_2_code, 5, 1, [13, 7, 0, 0, 0], 0)
theorem kGa_play : jmk sGa_play = true := jmk_of 5069 1010 5067 5068 (by decide +kernel)
theorem Ga_play_ok {a0 a1 a2 a3 a4 : Int} {s : jM} {o : Int × jM} (H : Ga_play a0 a1 a2 a3 a4 s = some o) : MK sGa_play 14 [(13, a0), (7, a1), (0, a2), (0, a3), (0, a4)] s o := by
  refine MK.of kGa_play rfl ?_
  show AT sGa_play 14 (0, [(13, a0), (7, a1), (0, a2), (0, a3), (0, a4)], [], s) o
  unfold Ga_play at H
  refine AT.blk (g := (0 ≤ (w32 a2) ∧ (w32 a2) < 5)) [(0, .aload_n 0, 1, (0, 0, 0)), (1, .aload_n 1, 1, (0, 0, 0)), (2, .getfield 24, 3, (1185, 304, 0)), (5, .putfield 30, 3, (2149, 900, 0)), (8, .aload_n 1, 1, (0, 0, 0)), (9, .getfield 31, 3, (1200, 309, 0)), (12, .iconst 0, 1, (0, 0, 0)), (13, .aload_n 0, 1, (0, 0, 0)), (14, .getfield 9, 3, (2152, 902, 0)), (17, .iconst 0, 1, (0, 0, 0)), (18, .iconst 5, 1, (0, 0, 0)), (19, .invokestatic 32, 3, (5070, 4, 0)), (22, .aload_n 1, 1, (0, 0, 0)), (23, .getfield 38, 3, (1209, 311, 0)), (26, .iconst 0, 1, (0, 0, 0)), (27, .aload_n 0, 1, (0, 0, 0)), (28, .getfield 15, 3, (2153, 903, 0)), (31, .iconst 0, 1, (0, 0, 0)), (32, .iconst 5, 1, (0, 0, 0)), (33, .invokestatic 32, 3, (5070, 4, 0)), (36, .aload_n 0, 1, (0, 0, 0)), (37, .iconst 0, 1, (0, 0, 0)), (38, .aload_n 1, 1, (0, 0, 0)), (39, .getfield 39, 3, (1214, 312, 0)), (42, .iload_n 2, 1, (0, 0, 0)), (43, .aaload, 1, (0, 0, 0))] (by decide +kernel) (show jrun _ (0, [(13, a0), (7, a1), (0, a2), (0, a3), (0, a4)], [], s) = some ([(0 ≤ (0 : Int) ∧ 0 ≤ (0 : Int) ∧ 0 ≤ (5 : Int) ∧ (0 : Int) + 5 ≤ 5 ∧ (0 : Int) + 5 ≤ 5), (0 ≤ (0 : Int) ∧ 0 ≤ (0 : Int) ∧ 0 ≤ (5 : Int) ∧ (0 : Int) + 5 ≤ 5 ∧ (0 : Int) + 5 ≤ 5), (0 ≤ (w32 a2) ∧ (w32 a2) < 5)], (44, [(13, a0), (7, a1), (0, a2), (0, a3), (0, a4)], [(6, ((a1 + 4) + 11 + 2 * (w32 a2))), (0, 0), (13, a0)], (jcp (jcp (jup s a0 0 (s a1 4)) (a1 + 1) 0 (a0 + 1) 0 5) (a1 + 3) 0 (a0 + 2) 0 5))) from rfl) (fun h => ⟨(show (0 ≤ (0 : Int) ∧ 0 ≤ (0 : Int) ∧ 0 ≤ (5 : Int) ∧ (0 : Int) + 5 ≤ 5 ∧ (0 : Int) + 5 ≤ 5) from by decide), (show (0 ≤ (0 : Int) ∧ 0 ≤ (0 : Int) ∧ 0 ≤ (5 : Int) ∧ (0 : Int) + 5 ≤ 5 ∧ (0 : Int) + 5 ≤ 5) from by decide), h⟩) H (fun H => ?_)
  obtain ⟨v1, s1, h1, H⟩ := jb_some H
  refine AT.callV (As := [(0, 0), (6, ((a1 + 4) + 11 + 2 * (w32 a2)))]) (cl := 9) (b := a0) (st := []) (i := 43) (pos := 5071) kGa_seat (by decide +kernel) rfl (by decide +kernel) rfl rfl (by omega) (Ga_seat_ok h1) ?_
  show AT sGa_play 14 (47, [(13, a0), (7, a1), (0, a2), (0, a3), (0, a4)], [], s1) o
  refine AT.blk (g := (0 ≤ (w32 a3) ∧ (w32 a3) < 5)) [(47, .aload_n 0, 1, (0, 0, 0)), (48, .iconst 1, 1, (0, 0, 0)), (49, .aload_n 1, 1, (0, 0, 0)), (50, .getfield 39, 3, (1214, 312, 0)), (53, .iload_n 3, 1, (0, 0, 0)), (54, .aaload, 1, (0, 0, 0))] (by decide +kernel) (show jrun _ (47, [(13, a0), (7, a1), (0, a2), (0, a3), (0, a4)], [], s1) = some ([(0 ≤ (w32 a3) ∧ (w32 a3) < 5)], (55, [(13, a0), (7, a1), (0, a2), (0, a3), (0, a4)], [(6, ((a1 + 4) + 11 + 2 * (w32 a3))), (0, 1), (13, a0)], s1)) from rfl) (fun h => h) H (fun H => ?_)
  obtain ⟨v2, s2, h2, H⟩ := jb_some H
  refine AT.callV (As := [(0, 1), (6, ((a1 + 4) + 11 + 2 * (w32 a3)))]) (cl := 9) (b := a0) (st := []) (i := 43) (pos := 5071) kGa_seat (by decide +kernel) rfl (by decide +kernel) rfl rfl (by omega) (Ga_seat_ok h2) ?_
  show AT sGa_play 14 (58, [(13, a0), (7, a1), (0, a2), (0, a3), (0, a4)], [], s2) o
  refine AT.seq [(58, .aload_n 0, 1, (0, 0, 0)), (59, .iconst (-1), 1, (0, 0, 0)), (60, .putfield 47, 3, (2150, 901, 0)), (63, .aload_n 0, 1, (0, 0, 0)), (64, .iload 4, 2, (0, 0, 0)), (66, .iconst 0, 1, (0, 0, 0))] (by decide +kernel) (show jrun _ (58, [(13, a0), (7, a1), (0, a2), (0, a3), (0, a4)], [], s2) = some ([], (67, [(13, a0), (7, a1), (0, a2), (0, a3), (0, a4)], [(0, 0), (0, a4), (13, a0)], (jup s2 a0 1 (-1)))) from rfl) ?_
  obtain ⟨v3, s3, h3, H⟩ := jb_some H
  refine AT.callV (As := [(0, a4), (0, 0)]) (cl := 9) (b := a0) (st := []) (i := 50) (pos := 5075) kGa_bestFrom (by decide +kernel) rfl (by decide +kernel) rfl rfl (by omega) (Ga_bestFrom_ok 12 _ _ _ _ _ h3) ?_
  show AT sGa_play 14 (70, [(13, a0), (7, a1), (0, a2), (0, a3), (0, a4)], [(0, v3)], s3) o
  exact AT.retiH (by decide +kernel) H
