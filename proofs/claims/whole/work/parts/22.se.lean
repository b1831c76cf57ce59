/-! printed by wip/whole/gen_all.py: Se_clear, Se_isTaken, Se_addName, Se_find, Se_addWalk, Se_wayLength, Se_joinWalks, Se_fallen, Se_setOf, Se_isStuff, Se_isMould, Se_pourInto, Se_voidOut, Se_turnOut, Se_press, Se_isPlace, Se_shakesBetween, Se_bring, Se_passMinutes, Se_heatTo, Se_stepTowards, Se_placeOnWay, Se_copyOf, Se_allFirm -/
def sSe_clear : jS := (⟨"JellyCathedral$See", "clear", "()V"⟩, prog_8_method_2_code, 2, 0, [7], 0)
theorem kSe_clear : jmk sSe_clear = true := jmk_of 1167 1003 1165 1166 (by decide +kernel)
theorem Se_clear_47_ok {o : Int × jM} : ∀ (n : Nat) (x0 x1 : Int) (s : jM), Se_clear_47  n x0 x1 s = some o → AT sSe_clear 1 (47, [(7, x0), (0, x1)], [], s) o := by
  intro n
  induction n with
  | zero =>
    intro x0 x1 s H
    have H : (none : Option (Int × jM)) = some o := H
    cases H
  | succ n ih =>
    intro x0 x1 s H
    rw [Se_clear_47] at H
    refine AT.seq [(47, .iload_n 1, 1, (0, 0, 0)), (48, .aload_n 0, 1, (0, 0, 0)), (49, .getfield 27, 3, (1218, 313, 0)), (52, .arraylength, 1, (0, 0, 0))] (by decide +kernel) (show jrun _ (47, [(7, x0), (0, x1)], [], s) = some ([], (53, [(7, x0), (0, x1)], [(0, 36), (0, x1)], s)) from rfl) ?_
    refine AT.ite (x := (0, 0, 0)) (by decide +kernel) (show jbr (.if_icmp .ge 28) (53, [(7, x0), (0, x1)], [(0, 36), (0, x1)], s) = some ((w32 x1) < 36, (56, [(7, x0), (0, x1)], [], s), (81, [(7, x0), (0, x1)], [], s)) from rfl) H (fun H => ?_) (fun H => ?_)
    · refine AT.row [(56, .aload_n 0, 1, (0, 0, 0)), (57, .getfield 27, 3, (1218, 313, 0)), (60, .iload_n 1, 1, (0, 0, 0)), (61, .iload_n 1, 1, (0, 0, 0)), (62, .bipush 7, 2, (0, 0, 0)), (64, .irem, 1, (0, 0, 0))] (by decide +kernel) (show jrun _ (56, [(7, x0), (0, x1)], [], s) = some ([¬ (7 : Int) = 0], (65, [(7, x0), (0, x1)], [(0, (jrem x1 7)), (0, x1), (29, (x0 + 5))], s)) from rfl) (show ¬ (7 : Int) = 0 from by decide) ?_
      refine AT.ite (x := (0, 0, 0)) (by decide +kernel) (show jbr (.ifCond .ne 7) (65, [(7, x0), (0, x1)], [(0, (jrem x1 7)), (0, x1), (29, (x0 + 5))], s) = some ((w32 (jrem x1 7)) = 0, (68, [(7, x0), (0, x1)], [(0, x1), (29, (x0 + 5))], s), (72, [(7, x0), (0, x1)], [(0, x1), (29, (x0 + 5))], s)) from rfl) H (fun H => ?_) (fun H => ?_)
      · refine AT.blk (g := (0 ≤ (w32 x1) ∧ (w32 x1) < 36)) [(68, .iconst 0, 1, (0, 0, 0)), (69, .goto 5, 3, (0, 0, 0)), (74, .iastore, 1, (0, 0, 0)), (75, .iinc 1 1, 3, (0, 0, 0)), (78, .goto (-31), 3, (0, 0, 0))] (by decide +kernel) (show jrun _ (68, [(7, x0), (0, x1)], [(0, x1), (29, (x0 + 5))], s) = some ([(0 ≤ (w32 x1) ∧ (w32 x1) < 36)], (47, [(7, x0), (0, (x1 + 1))], [], (jup s (x0 + 5) (w32 x1) 0))) from rfl) (fun h => h) H (fun H => ?_)
        exact ih _ _ _ H
      · refine AT.blk (g := (0 ≤ (w32 x1) ∧ (w32 x1) < 36)) [(72, .ldc 79, 2, (1168, 0, 1000000)), (74, .iastore, 1, (0, 0, 0)), (75, .iinc 1 1, 3, (0, 0, 0)), (78, .goto (-31), 3, (0, 0, 0))] (by decide +kernel) (show jrun _ (72, [(7, x0), (0, x1)], [(0, x1), (29, (x0 + 5))], s) = some ([(0 ≤ (w32 x1) ∧ (w32 x1) < 36)], (47, [(7, x0), (0, (x1 + 1))], [], (jup s (x0 + 5) (w32 x1) 1000000))) from rfl) (fun h => h) H (fun H => ?_)
        exact ih _ _ _ H
    · refine AT.seq [(81, .aload_n 0, 1, (0, 0, 0)), (82, .getfield 43, 3, (1222, 317, 0))] (by decide +kernel) (show jrun _ (81, [(7, x0), (0, x1)], [], s) = some ([], (85, [(7, x0), (0, x1)], [(8, (x0 + 9))], s)) from rfl) ?_
      obtain ⟨v1, s1, h1, H⟩ := jb_some H
      refine AT.callV (As := []) (cl := 4) (b := (x0 + 9)) (st := []) (i := 80) (pos := 1169) kFe_clear (by decide +kernel) rfl (by decide +kernel) rfl rfl (by omega) (Fe_clear_ok h1) ?_
      show AT sSe_clear 1 (88, [(7, x0), (0, x1)], [], s1) o
      exact AT.retvH (by decide +kernel) H
theorem Se_clear_ok {a0 : Int} {s : jM} {o : Int × jM} (H : Se_clear a0 s = some o) : MK sSe_clear 1 [(7, a0)] s o := by
  refine MK.of kSe_clear rfl ?_
  show AT sSe_clear 1 (0, [(7, a0), (99, 0)], [], s) o
  unfold Se_clear at H
  refine AT.seq [(0, .aload_n 0, 1, (0, 0, 0)), (1, .iconst 3, 1, (0, 0, 0)), (2, .putfield 51, 3, (1173, 300, 0)), (5, .aload_n 0, 1, (0, 0, 0)), (6, .iconst 2, 1, (0, 0, 0)), (7, .putfield 55, 3, (1176, 301, 0)), (10, .aload_n 0, 1, (0, 0, 0)), (11, .iconst 0, 1, (0, 0, 0)), (12, .putfield 58, 3, (1180, 302, 0)), (15, .aload_n 0, 1, (0, 0, 0)), (16, .iconst 0, 1, (0, 0, 0)), (17, .putfield 61, 3, (1182, 303, 0)), (20, .aload_n 0, 1, (0, 0, 0)), (21, .iconst 0, 1, (0, 0, 0)), (22, .putfield 64, 3, (1186, 304, 0)), (25, .aload_n 0, 1, (0, 0, 0)), (26, .iconst 0, 1, (0, 0, 0)), (27, .putfield 67, 3, (1189, 305, 0)), (30, .aload_n 0, 1, (0, 0, 0)), (31, .iconst 0, 1, (0, 0, 0)), (32, .putfield 70, 3, (1192, 306, 0)), (35, .aload_n 0, 1, (0, 0, 0)), (36, .iconst 0, 1, (0, 0, 0)), (37, .putfield 73, 3, (1196, 307, 0)), (40, .aload_n 0, 1, (0, 0, 0)), (41, .iconst 0, 1, (0, 0, 0)), (42, .putfield 76, 3, (1198, 308, 0)), (45, .iconst 0, 1, (0, 0, 0)), (46, .istore_n 1, 1, (0, 0, 0))] (by decide +kernel) (show jrun _ (0, [(7, a0), (99, 0)], [], s) = some ([], (47, [(7, a0), (0, 0)], [], (jup (jup (jup (jup (jup (jup (jup (jup (jup s a0 0 3) a0 1 2) a0 2 0) a0 3 0) a0 4 0) a0 5 0) a0 6 0) a0 7 0) a0 8 0))) from rfl) ?_
  exact Se_clear_47_ok  jFU _ _ _ H
def sSe_isTaken : jS := (⟨"JellyCathedral$See", "isTaken", "(J)Z"⟩, prog_8_method_7_code, 4, 3, [7, 1], 0)
theorem kSe_isTaken : jmk sSe_isTaken = true := jmk_of 3157 1003 3155 3156 (by decide +kernel)
theorem Se_isTaken_2_ok {o : Int × jM} : ∀ (n : Nat) (x0 x1 x3 : Int) (s : jM), Se_isTaken_2  n x0 x1 x3 s = some o → AT sSe_isTaken 0 (2, [(7, x0), (1, x1), (99, 0), (0, x3)], [], s) o := by
  intro n
  induction n with
  | zero =>
    intro x0 x1 x3 s H
    have H : (none : Option (Int × jM)) = some o := H
    cases H
  | succ n ih =>
    intro x0 x1 x3 s H
    rw [Se_isTaken_2] at H
    refine AT.seq [(2, .iload_n 3, 1, (0, 0, 0)), (3, .aload_n 0, 1, (0, 0, 0)), (4, .getfield 76, 3, (1198, 308, 0))] (by decide +kernel) (show jrun _ (2, [(7, x0), (1, x1), (99, 0), (0, x3)], [], s) = some ([], (7, [(7, x0), (1, x1), (99, 0), (0, x3)], [(0, (s x0 8)), (0, x3)], s)) from rfl) ?_
    refine AT.ite (x := (0, 0, 0)) (by decide +kernel) (show jbr (.if_icmp .ge 22) (7, [(7, x0), (1, x1), (99, 0), (0, x3)], [(0, (s x0 8)), (0, x3)], s) = some ((w32 x3) < (w32 (s x0 8)), (10, [(7, x0), (1, x1), (99, 0), (0, x3)], [], s), (29, [(7, x0), (1, x1), (99, 0), (0, x3)], [], s)) from rfl) H (fun H => ?_) (fun H => ?_)
    · refine AT.blk (g := (0 ≤ (w32 x3) ∧ (w32 x3) < 16)) [(10, .aload_n 0, 1, (0, 0, 0)), (11, .getfield 30, 3, (1219, 314, 0)), (14, .iload_n 3, 1, (0, 0, 0)), (15, .laload, 1, (0, 0, 0)), (16, .lload_n 1, 1, (0, 0, 0)), (17, .lcmp, 1, (0, 0, 0))] (by decide +kernel) (show jrun _ (10, [(7, x0), (1, x1), (99, 0), (0, x3)], [], s) = some ([(0 ≤ (w32 x3) ∧ (w32 x3) < 16)], (18, [(7, x0), (1, x1), (99, 0), (0, x3)], [(0, (jlcmp (s (x0 + 6) (w32 x3)) x1))], s)) from rfl) (fun h => h) H (fun H => ?_)
      refine AT.ite (x := (0, 0, 0)) (by decide +kernel) (show jbr (.ifCond .ne 5) (18, [(7, x0), (1, x1), (99, 0), (0, x3)], [(0, (jlcmp (s (x0 + 6) (w32 x3)) x1))], s) = some ((w32 (jlcmp (s (x0 + 6) (w32 x3)) x1)) = 0, (21, [(7, x0), (1, x1), (99, 0), (0, x3)], [], s), (23, [(7, x0), (1, x1), (99, 0), (0, x3)], [], s)) from rfl) H (fun H => ?_) (fun H => ?_)
      · refine AT.seq [(21, .iconst 1, 1, (0, 0, 0))] (by decide +kernel) (show jrun _ (21, [(7, x0), (1, x1), (99, 0), (0, x3)], [], s) = some ([], (22, [(7, x0), (1, x1), (99, 0), (0, x3)], [(0, 1)], s)) from rfl) ?_
        exact AT.retzC (by decide +kernel) (by decide) H
      · refine AT.seq [(23, .iinc 3 1, 3, (0, 0, 0)), (26, .goto (-24), 3, (0, 0, 0))] (by decide +kernel) (show jrun _ (23, [(7, x0), (1, x1), (99, 0), (0, x3)], [], s) = some ([], (2, [(7, x0), (1, x1), (99, 0), (0, (x3 + 1))], [], s)) from rfl) ?_
        exact ih _ _ _ _ H
    · refine AT.seq [(29, .iconst 0, 1, (0, 0, 0))] (by decide +kernel) (show jrun _ (29, [(7, x0), (1, x1), (99, 0), (0, x3)], [], s) = some ([], (30, [(7, x0), (1, x1), (99, 0), (0, x3)], [(0, 0)], s)) from rfl) ?_
      exact AT.retzC (by decide +kernel) (by decide) H
theorem Se_isTaken_ok {a0 a1 : Int} {s : jM} {o : Int × jM} (H : Se_isTaken a0 a1 s = some o) : MK sSe_isTaken 0 [(7, a0), (1, a1)] s o := by
  refine MK.of kSe_isTaken rfl ?_
  show AT sSe_isTaken 0 (0, [(7, a0), (1, a1), (99, 0), (99, 0)], [], s) o
  unfold Se_isTaken at H
  refine AT.seq [(0, .iconst 0, 1, (0, 0, 0)), (1, .istore_n 3, 1, (0, 0, 0))] (by decide +kernel) (show jrun _ (0, [(7, a0), (1, a1), (99, 0), (99, 0)], [], s) = some ([], (2, [(7, a0), (1, a1), (99, 0), (0, 0)], [], s)) from rfl) ?_
  exact Se_isTaken_2_ok  jFU _ _ _ _ H
def sSe_addName : jS := (⟨"JellyCathedral$See", "addName", "(JII)V"⟩, prog_8_method_9_code, 5, 0, [7, 1, 0, 0], 0)
theorem kSe_addName : jmk sSe_addName = true := jmk_of 3161 1003 3159 3160 (by decide +kernel)
theorem Se_addName_ok {a0 a1 a2 a3 : Int} {s : jM} {o : Int × jM} (H : Se_addName a0 a1 a2 a3 s = some o) : MK sSe_addName 0 [(7, a0), (1, a1), (0, a2), (0, a3)] s o := by
  refine MK.of kSe_addName rfl ?_
  show AT sSe_addName 0 (0, [(7, a0), (1, a1), (99, 0), (0, a2), (0, a3)], [], s) o
  unfold Se_addName at H
  refine AT.seq [(0, .aload_n 0, 1, (0, 0, 0)), (1, .getfield 76, 3, (1198, 308, 0)), (4, .bipush 16, 2, (0, 0, 0))] (by decide +kernel) (show jrun _ (0, [(7, a0), (1, a1), (99, 0), (0, a2), (0, a3)], [], s) = some ([], (6, [(7, a0), (1, a1), (99, 0), (0, a2), (0, a3)], [(0, 16), (0, (s a0 8))], s)) from rfl) ?_
  refine AT.ite (x := (0, 0, 0)) (by decide +kernel) (show jbr (.if_icmp .ge 44) (6, [(7, a0), (1, a1), (99, 0), (0, a2), (0, a3)], [(0, 16), (0, (s a0 8))], s) = some ((w32 (s a0 8)) < 16, (9, [(7, a0), (1, a1), (99, 0), (0, a2), (0, a3)], [], s), (50, [(7, a0), (1, a1), (99, 0), (0, a2), (0, a3)], [], s)) from rfl) H (fun H => ?_) (fun H => ?_)
  · refine AT.blk (g := (0 ≤ (w32 (s a0 8)) ∧ (w32 (s a0 8)) < 16) ∧ (0 ≤ (w32 ((jup s (a0 + 6) (w32 (s a0 8)) a1) a0 8)) ∧ (w32 ((jup s (a0 + 6) (w32 (s a0 8)) a1) a0 8)) < 16) ∧ (0 ≤ (w32 ((jup (jup s (a0 + 6) (w32 (s a0 8)) a1) (a0 + 7) (w32 ((jup s (a0 + 6) (w32 (s a0 8)) a1) a0 8)) a2) a0 8)) ∧ (w32 ((jup (jup s (a0 + 6) (w32 (s a0 8)) a1) (a0 + 7) (w32 ((jup s (a0 + 6) (w32 (s a0 8)) a1) a0 8)) a2) a0 8)) < 16)) [(9, .aload_n 0, 1, (0, 0, 0)), (10, .getfield 30, 3, (1219, 314, 0)), (13, .aload_n 0, 1, (0, 0, 0)), (14, .getfield 76, 3, (1198, 308, 0)), (17, .lload_n 1, 1, (0, 0, 0)), (18, .lastore, 1, (0, 0, 0)), (19, .aload_n 0, 1, (0, 0, 0)), (20, .getfield 34, 3, (1220, 315, 0)), (23, .aload_n 0, 1, (0, 0, 0)), (24, .getfield 76, 3, (1198, 308, 0)), (27, .iload_n 3, 1, (0, 0, 0)), (28, .iastore, 1, (0, 0, 0)), (29, .aload_n 0, 1, (0, 0, 0)), (30, .getfield 37, 3, (1221, 316, 0)), (33, .aload_n 0, 1, (0, 0, 0)), (34, .getfield 76, 3, (1198, 308, 0)), (37, .iload 4, 2, (0, 0, 0)), (39, .iastore, 1, (0, 0, 0)), (40, .aload_n 0, 1, (0, 0, 0)), (41, .dup, 1, (0, 0, 0))] (by decide +kernel) (show jrun _ (9, [(7, a0), (1, a1), (99, 0), (0, a2), (0, a3)], [], s) = some ([(0 ≤ (w32 (s a0 8)) ∧ (w32 (s a0 8)) < 16), (0 ≤ (w32 ((jup s (a0 + 6) (w32 (s a0 8)) a1) a0 8)) ∧ (w32 ((jup s (a0 + 6) (w32 (s a0 8)) a1) a0 8)) < 16), (0 ≤ (w32 ((jup (jup s (a0 + 6) (w32 (s a0 8)) a1) (a0 + 7) (w32 ((jup s (a0 + 6) (w32 (s a0 8)) a1) a0 8)) a2) a0 8)) ∧ (w32 ((jup (jup s (a0 + 6) (w32 (s a0 8)) a1) (a0 + 7) (w32 ((jup s (a0 + 6) (w32 (s a0 8)) a1) a0 8)) a2) a0 8)) < 16)], (42, [(7, a0), (1, a1), (99, 0), (0, a2), (0, a3)], [(7, a0), (7, a0)], (jup (jup (jup s (a0 + 6) (w32 (s a0 8)) a1) (a0 + 7) (w32 ((jup s (a0 + 6) (w32 (s a0 8)) a1) a0 8)) a2) (a0 + 8) (w32 ((jup (jup s (a0 + 6) (w32 (s a0 8)) a1) (a0 + 7) (w32 ((jup s (a0 + 6) (w32 (s a0 8)) a1) a0 8)) a2) a0 8)) a3))) from rfl) (fun h => ⟨h.1, h.2.1, h.2.2⟩) H (fun H => ?_)
    obtain ⟨s1, e1, H⟩ := jm_some H
    rw [← e1]
    refine AT.seq [(42, .getfield 76, 3, (1198, 308, 0)), (45, .iconst 1, 1, (0, 0, 0)), (46, .iadd, 1, (0, 0, 0)), (47, .putfield 76, 3, (1198, 308, 0))] (by decide +kernel) (show jrun _ (42, [(7, a0), (1, a1), (99, 0), (0, a2), (0, a3)], [(7, a0), (7, a0)], s1) = some ([], (50, [(7, a0), (1, a1), (99, 0), (0, a2), (0, a3)], [], (jup s1 a0 8 ((s1 a0 8) + 1)))) from rfl) ?_
    exact AT.retvH (by decide +kernel) H
  · exact AT.retvH (by decide +kernel) H
def sSe_find : jS := (⟨"JellyCathedral$See", "find", "(JI)I"⟩, prog_8_method_8_code, 5, 1, [7, 1, 0], 0)
theorem kSe_find : jmk sSe_find = true := jmk_of 3181 1003 3179 3180 (by decide +kernel)
theorem Se_find_3_ok {o : Int × jM} : ∀ (n : Nat) (x0 x1 x3 x4 : Int) (s : jM), Se_find_3  n x0 x1 x3 x4 s = some o → AT sSe_find 0 (3, [(7, x0), (1, x1), (99, 0), (0, x3), (0, x4)], [], s) o := by
  intro n
  induction n with
  | zero =>
    intro x0 x1 x3 x4 s H
    have H : (none : Option (Int × jM)) = some o := H
    cases H
  | succ n ih =>
    intro x0 x1 x3 x4 s H
    rw [Se_find_3] at H
    refine AT.seq [(3, .iload 4, 2, (0, 0, 0)), (5, .aload_n 0, 1, (0, 0, 0)), (6, .getfield 76, 3, (1198, 308, 0))] (by decide +kernel) (show jrun _ (3, [(7, x0), (1, x1), (99, 0), (0, x3), (0, x4)], [], s) = some ([], (9, [(7, x0), (1, x1), (99, 0), (0, x3), (0, x4)], [(0, (s x0 8)), (0, x4)], s)) from rfl) ?_
    refine AT.ite (x := (0, 0, 0)) (by decide +kernel) (show jbr (.if_icmp .ge 40) (9, [(7, x0), (1, x1), (99, 0), (0, x3), (0, x4)], [(0, (s x0 8)), (0, x4)], s) = some ((w32 x4) < (w32 (s x0 8)), (12, [(7, x0), (1, x1), (99, 0), (0, x3), (0, x4)], [], s), (49, [(7, x0), (1, x1), (99, 0), (0, x3), (0, x4)], [], s)) from rfl) H (fun H => ?_) (fun H => ?_)
    · refine AT.blk (g := (0 ≤ (w32 x4) ∧ (w32 x4) < 16)) [(12, .aload_n 0, 1, (0, 0, 0)), (13, .getfield 30, 3, (1219, 314, 0)), (16, .iload 4, 2, (0, 0, 0)), (18, .laload, 1, (0, 0, 0)), (19, .lload_n 1, 1, (0, 0, 0)), (20, .lcmp, 1, (0, 0, 0))] (by decide +kernel) (show jrun _ (12, [(7, x0), (1, x1), (99, 0), (0, x3), (0, x4)], [], s) = some ([(0 ≤ (w32 x4) ∧ (w32 x4) < 16)], (21, [(7, x0), (1, x1), (99, 0), (0, x3), (0, x4)], [(0, (jlcmp (s (x0 + 6) (w32 x4)) x1))], s)) from rfl) (fun h => h) H (fun H => ?_)
      refine AT.ite (x := (0, 0, 0)) (by decide +kernel) (show jbr (.ifCond .ne 22) (21, [(7, x0), (1, x1), (99, 0), (0, x3), (0, x4)], [(0, (jlcmp (s (x0 + 6) (w32 x4)) x1))], s) = some ((w32 (jlcmp (s (x0 + 6) (w32 x4)) x1)) = 0, (24, [(7, x0), (1, x1), (99, 0), (0, x3), (0, x4)], [], s), (43, [(7, x0), (1, x1), (99, 0), (0, x3), (0, x4)], [], s)) from rfl) H (fun H => ?_) (fun H => ?_)
      · refine AT.blk (g := (0 ≤ (w32 x4) ∧ (w32 x4) < 16)) [(24, .aload_n 0, 1, (0, 0, 0)), (25, .getfield 34, 3, (1220, 315, 0)), (28, .iload 4, 2, (0, 0, 0)), (30, .iaload, 1, (0, 0, 0)), (31, .iload_n 3, 1, (0, 0, 0))] (by decide +kernel) (show jrun _ (24, [(7, x0), (1, x1), (99, 0), (0, x3), (0, x4)], [], s) = some ([(0 ≤ (w32 x4) ∧ (w32 x4) < 16)], (32, [(7, x0), (1, x1), (99, 0), (0, x3), (0, x4)], [(0, x3), (0, (s (x0 + 7) (w32 x4)))], s)) from rfl) (fun h => h) H (fun H => ?_)
        refine AT.ite (x := (0, 0, 0)) (by decide +kernel) (show jbr (.if_icmp .ne 11) (32, [(7, x0), (1, x1), (99, 0), (0, x3), (0, x4)], [(0, x3), (0, (s (x0 + 7) (w32 x4)))], s) = some ((w32 (s (x0 + 7) (w32 x4))) = (w32 x3), (35, [(7, x0), (1, x1), (99, 0), (0, x3), (0, x4)], [], s), (43, [(7, x0), (1, x1), (99, 0), (0, x3), (0, x4)], [], s)) from rfl) H (fun H => ?_) (fun H => ?_)
        · refine AT.blk (g := (0 ≤ (w32 x4) ∧ (w32 x4) < 16)) [(35, .aload_n 0, 1, (0, 0, 0)), (36, .getfield 37, 3, (1221, 316, 0)), (39, .iload 4, 2, (0, 0, 0)), (41, .iaload, 1, (0, 0, 0))] (by decide +kernel) (show jrun _ (35, [(7, x0), (1, x1), (99, 0), (0, x3), (0, x4)], [], s) = some ([(0 ≤ (w32 x4) ∧ (w32 x4) < 16)], (42, [(7, x0), (1, x1), (99, 0), (0, x3), (0, x4)], [(0, (s (x0 + 8) (w32 x4)))], s)) from rfl) (fun h => h) H (fun H => ?_)
          exact AT.retiH (by decide +kernel) H
        · refine AT.seq [(43, .iinc 4 1, 3, (0, 0, 0)), (46, .goto (-43), 3, (0, 0, 0))] (by decide +kernel) (show jrun _ (43, [(7, x0), (1, x1), (99, 0), (0, x3), (0, x4)], [], s) = some ([], (3, [(7, x0), (1, x1), (99, 0), (0, x3), (0, (x4 + 1))], [], s)) from rfl) ?_
          exact ih _ _ _ _ _ H
      · refine AT.seq [(43, .iinc 4 1, 3, (0, 0, 0)), (46, .goto (-43), 3, (0, 0, 0))] (by decide +kernel) (show jrun _ (43, [(7, x0), (1, x1), (99, 0), (0, x3), (0, x4)], [], s) = some ([], (3, [(7, x0), (1, x1), (99, 0), (0, x3), (0, (x4 + 1))], [], s)) from rfl) ?_
        exact ih _ _ _ _ _ H
    · refine AT.seq [(49, .iconst (-1), 1, (0, 0, 0))] (by decide +kernel) (show jrun _ (49, [(7, x0), (1, x1), (99, 0), (0, x3), (0, x4)], [], s) = some ([], (50, [(7, x0), (1, x1), (99, 0), (0, x3), (0, x4)], [(0, (-1))], s)) from rfl) ?_
      exact AT.retiH (by decide +kernel) H
theorem Se_find_ok {a0 a1 a2 : Int} {s : jM} {o : Int × jM} (H : Se_find a0 a1 a2 s = some o) : MK sSe_find 0 [(7, a0), (1, a1), (0, a2)] s o := by
  refine MK.of kSe_find rfl ?_
  show AT sSe_find 0 (0, [(7, a0), (1, a1), (99, 0), (0, a2), (99, 0)], [], s) o
  unfold Se_find at H
  refine AT.seq [(0, .iconst 0, 1, (0, 0, 0)), (1, .istore 4, 2, (0, 0, 0))] (by decide +kernel) (show jrun _ (0, [(7, a0), (1, a1), (99, 0), (0, a2), (99, 0)], [], s) = some ([], (3, [(7, a0), (1, a1), (99, 0), (0, a2), (0, 0)], [], s)) from rfl) ?_
  exact Se_find_3_ok  jFU _ _ _ _ _ H
def sSe_addWalk : jS := (⟨"JellyCathedral$See", "addWalk", "(III)V"⟩, prog_8_method_10_code, 5, 0, [7, 0, 0, 0], 0)
theorem kSe_addWalk : jmk sSe_addWalk = true := jmk_of 3187 1003 3185 3186 (by decide +kernel)
theorem Se_addWalk_ok {a0 a1 a2 a3 : Int} {s : jM} {o : Int × jM} (H : Se_addWalk a0 a1 a2 a3 s = some o) : MK sSe_addWalk 0 [(7, a0), (0, a1), (0, a2), (0, a3)] s o := by
  refine MK.of kSe_addWalk rfl ?_
  show AT sSe_addWalk 0 (0, [(7, a0), (0, a1), (0, a2), (0, a3), (99, 0)], [], s) o
  unfold Se_addWalk at H
  refine AT.blk (g := (0 ≤ (w32 ((a1 * 6) + a2)) ∧ (w32 ((a1 * 6) + a2)) < 36) ∧ (0 ≤ (w32 ((a1 * 6) + a2)) ∧ (w32 ((a1 * 6) + a2)) < 36) ∧ (0 ≤ (w32 ((a1 * 6) + a2)) ∧ (w32 ((a1 * 6) + a2)) < 36) ∧ (0 ≤ (w32 ((a2 * 6) + a1)) ∧ (w32 ((a2 * 6) + a1)) < 36)) [(0, .iload_n 3, 1, (0, 0, 0)), (1, .bipush 64, 2, (0, 0, 0)), (3, .imul, 1, (0, 0, 0)), (4, .iconst 1, 1, (0, 0, 0)), (5, .iadd, 1, (0, 0, 0)), (6, .istore 4, 2, (0, 0, 0)), (8, .aload_n 0, 1, (0, 0, 0)), (9, .getfield 27, 3, (1218, 313, 0)), (12, .iload_n 1, 1, (0, 0, 0)), (13, .bipush 6, 2, (0, 0, 0)), (15, .imul, 1, (0, 0, 0)), (16, .iload_n 2, 1, (0, 0, 0)), (17, .iadd, 1, (0, 0, 0)), (18, .aload_n 0, 1, (0, 0, 0)), (19, .getfield 27, 3, (1218, 313, 0)), (22, .iload_n 1, 1, (0, 0, 0)), (23, .bipush 6, 2, (0, 0, 0)), (25, .imul, 1, (0, 0, 0)), (26, .iload_n 2, 1, (0, 0, 0)), (27, .iadd, 1, (0, 0, 0)), (28, .iaload, 1, (0, 0, 0)), (29, .iload 4, 2, (0, 0, 0)), (31, .invokestatic 94, 3, (3188, 2, 0)), (34, .iastore, 1, (0, 0, 0)), (35, .aload_n 0, 1, (0, 0, 0)), (36, .getfield 27, 3, (1218, 313, 0)), (39, .iload_n 2, 1, (0, 0, 0)), (40, .bipush 6, 2, (0, 0, 0)), (42, .imul, 1, (0, 0, 0)), (43, .iload_n 1, 1, (0, 0, 0)), (44, .iadd, 1, (0, 0, 0)), (45, .aload_n 0, 1, (0, 0, 0)), (46, .getfield 27, 3, (1218, 313, 0)), (49, .iload_n 1, 1, (0, 0, 0)), (50, .bipush 6, 2, (0, 0, 0)), (52, .imul, 1, (0, 0, 0)), (53, .iload_n 2, 1, (0, 0, 0)), (54, .iadd, 1, (0, 0, 0)), (55, .iaload, 1, (0, 0, 0)), (56, .iastore, 1, (0, 0, 0)), (57, .aload_n 0, 1, (0, 0, 0)), (58, .dup, 1, (0, 0, 0))] (by decide +kernel) (show jrun _ (0, [(7, a0), (0, a1), (0, a2), (0, a3), (99, 0)], [], s) = some ([(0 ≤ (w32 ((a1 * 6) + a2)) ∧ (w32 ((a1 * 6) + a2)) < 36), (0 ≤ (w32 ((a1 * 6) + a2)) ∧ (w32 ((a1 * 6) + a2)) < 36), (0 ≤ (w32 ((a1 * 6) + a2)) ∧ (w32 ((a1 * 6) + a2)) < 36), (0 ≤ (w32 ((a2 * 6) + a1)) ∧ (w32 ((a2 * 6) + a1)) < 36)], (59, [(7, a0), (0, a1), (0, a2), (0, a3), (0, ((a3 * 64) + 1))], [(7, a0), (7, a0)], (jup (jup s (a0 + 5) (w32 ((a1 * 6) + a2)) (jmin (s (a0 + 5) (w32 ((a1 * 6) + a2))) ((a3 * 64) + 1))) (a0 + 5) (w32 ((a2 * 6) + a1)) ((jup s (a0 + 5) (w32 ((a1 * 6) + a2)) (jmin (s (a0 + 5) (w32 ((a1 * 6) + a2))) ((a3 * 64) + 1))) (a0 + 5) (w32 ((a1 * 6) + a2)))))) from rfl) (fun h => ⟨h.1, h.2.1, h.2.2.1, h.2.2.2⟩) H (fun H => ?_)
  obtain ⟨s1, e1, H⟩ := jm_some H
  rw [← e1]
  refine AT.seq [(59, .getfield 73, 3, (1196, 307, 0)), (62, .iconst 1, 1, (0, 0, 0)), (63, .iadd, 1, (0, 0, 0)), (64, .putfield 73, 3, (1196, 307, 0))] (by decide +kernel) (show jrun _ (59, [(7, a0), (0, a1), (0, a2), (0, a3), (0, ((a3 * 64) + 1))], [(7, a0), (7, a0)], s1) = some ([], (67, [(7, a0), (0, a1), (0, a2), (0, a3), (0, ((a3 * 64) + 1))], [], (jup s1 a0 7 ((s1 a0 7) + 1)))) from rfl) ?_
  exact AT.retvH (by decide +kernel) H
def sSe_wayLength : jS := (⟨"JellyCathedral$See", "wayLength", "(II)I"⟩, prog_8_method_11_code, 3, 1, [7, 0, 0], 0)
theorem kSe_wayLength : jmk sSe_wayLength = true := jmk_of 3210 1003 3208 3209 (by decide +kernel)
theorem Se_wayLength_ok {a0 a1 a2 : Int} {s : jM} {o : Int × jM} (H : Se_wayLength a0 a1 a2 s = some o) : MK sSe_wayLength 0 [(7, a0), (0, a1), (0, a2)] s o := by
  refine MK.of kSe_wayLength rfl ?_
  show AT sSe_wayLength 0 (0, [(7, a0), (0, a1), (0, a2)], [], s) o
  unfold Se_wayLength at H
  refine AT.blk (g := (0 ≤ (w32 ((a1 * 6) + a2)) ∧ (w32 ((a1 * 6) + a2)) < 36)) [(0, .aload_n 0, 1, (0, 0, 0)), (1, .getfield 27, 3, (1218, 313, 0)), (4, .iload_n 1, 1, (0, 0, 0)), (5, .bipush 6, 2, (0, 0, 0)), (7, .imul, 1, (0, 0, 0)), (8, .iload_n 2, 1, (0, 0, 0)), (9, .iadd, 1, (0, 0, 0)), (10, .iaload, 1, (0, 0, 0))] (by decide +kernel) (show jrun _ (0, [(7, a0), (0, a1), (0, a2)], [], s) = some ([(0 ≤ (w32 ((a1 * 6) + a2)) ∧ (w32 ((a1 * 6) + a2)) < 36)], (11, [(7, a0), (0, a1), (0, a2)], [(0, (s (a0 + 5) (w32 ((a1 * 6) + a2))))], s)) from rfl) (fun h => h) H (fun H => ?_)
  exact AT.retiH (by decide +kernel) H
def sSe_joinWalks : jS := (⟨"JellyCathedral$See", "joinWalks", "()V"⟩, prog_8_method_13_code, 5, 0, [7], 0)
theorem kSe_joinWalks : jmk sSe_joinWalks = true := jmk_of 3206 1003 3204 3205 (by decide +kernel)
theorem Se_joinWalks_22_ok {o : Int × jM} {k12 : Int → Int → Int → jM → Option (Int × jM)} (hk12 : ∀ (x0 x1 x2 : Int) (s : jM), k12 x0 x1 x2 s = some o → AT sSe_joinWalks 1 (12, [(7, x0), (0, x1), (0, x2), (99, 0), (99, 0)], [], s) o) : ∀ (n : Nat) (x0 x1 x2 x3 : Int) (s : jM), Se_joinWalks_22 k12 n x0 x1 x2 x3 s = some o → AT sSe_joinWalks 1 (22, [(7, x0), (0, x1), (0, x2), (0, x3), (99, 0)], [], s) o := by
  intro n
  induction n with
  | zero =>
    intro x0 x1 x2 x3 s H
    have H : (none : Option (Int × jM)) = some o := H
    cases H
  | succ n ih =>
    intro x0 x1 x2 x3 s H
    rw [Se_joinWalks_22] at H
    refine AT.seq [(22, .iload_n 3, 1, (0, 0, 0)), (23, .aload_n 0, 1, (0, 0, 0)), (24, .getfield 67, 3, (1189, 305, 0))] (by decide +kernel) (show jrun _ (22, [(7, x0), (0, x1), (0, x2), (0, x3), (99, 0)], [], s) = some ([], (27, [(7, x0), (0, x1), (0, x2), (0, x3), (99, 0)], [(0, (s x0 5)), (0, x3)], s)) from rfl) ?_
    refine AT.ite (x := (0, 0, 0)) (by decide +kernel) (show jbr (.if_icmp .ge 46) (27, [(7, x0), (0, x1), (0, x2), (0, x3), (99, 0)], [(0, (s x0 5)), (0, x3)], s) = some ((w32 x3) < (w32 (s x0 5)), (30, [(7, x0), (0, x1), (0, x2), (0, x3), (99, 0)], [], s), (73, [(7, x0), (0, x1), (0, x2), (0, x3), (99, 0)], [], s)) from rfl) H (fun H => ?_) (fun H => ?_)
    · refine AT.seq [(30, .aload_n 0, 1, (0, 0, 0)), (31, .iload_n 2, 1, (0, 0, 0)), (32, .iload_n 1, 1, (0, 0, 0))] (by decide +kernel) (show jrun _ (30, [(7, x0), (0, x1), (0, x2), (0, x3), (99, 0)], [], s) = some ([], (33, [(7, x0), (0, x1), (0, x2), (0, x3), (99, 0)], [(0, x1), (0, x2), (7, x0)], s)) from rfl) ?_
      obtain ⟨v1, s1, h1, H⟩ := jb_some H
      refine AT.callV (As := [(0, x2), (0, x1)]) (cl := 3) (b := x0) (st := []) (i := 100) (pos := 3207) kSe_wayLength (by decide +kernel) rfl (by decide +kernel) rfl rfl (by omega) (Se_wayLength_ok h1) ?_
      show AT sSe_joinWalks 1 (36, [(7, x0), (0, x1), (0, x2), (0, x3), (99, 0)], [(0, v1)], s1) o
      refine AT.seq [(36, .aload_n 0, 1, (0, 0, 0)), (37, .iload_n 1, 1, (0, 0, 0)), (38, .iload_n 3, 1, (0, 0, 0))] (by decide +kernel) (show jrun _ (36, [(7, x0), (0, x1), (0, x2), (0, x3), (99, 0)], [(0, v1)], s1) = some ([], (39, [(7, x0), (0, x1), (0, x2), (0, x3), (99, 0)], [(0, x3), (0, x1), (7, x0), (0, v1)], s1)) from rfl) ?_
      obtain ⟨v2, s2, h2, H⟩ := jb_some H
      refine AT.callV (As := [(0, x1), (0, x3)]) (cl := 3) (b := x0) (st := [(0, v1)]) (i := 100) (pos := 3207) kSe_wayLength (by decide +kernel) rfl (by decide +kernel) rfl rfl (by omega) (Se_wayLength_ok h2) ?_
      show AT sSe_joinWalks 1 (42, [(7, x0), (0, x1), (0, x2), (0, x3), (99, 0)], [(0, v2), (0, v1)], s2) o
      refine AT.seq [(42, .iadd, 1, (0, 0, 0)), (43, .istore 4, 2, (0, 0, 0)), (45, .aload_n 0, 1, (0, 0, 0)), (46, .getfield 27, 3, (1218, 313, 0)), (49, .iload_n 2, 1, (0, 0, 0)), (50, .bipush 6, 2, (0, 0, 0)), (52, .imul, 1, (0, 0, 0)), (53, .iload_n 3, 1, (0, 0, 0)), (54, .iadd, 1, (0, 0, 0)), (55, .aload_n 0, 1, (0, 0, 0)), (56, .iload_n 2, 1, (0, 0, 0)), (57, .iload_n 3, 1, (0, 0, 0))] (by decide +kernel) (show jrun _ (42, [(7, x0), (0, x1), (0, x2), (0, x3), (99, 0)], [(0, v2), (0, v1)], s2) = some ([], (58, [(7, x0), (0, x1), (0, x2), (0, x3), (0, (v1 + v2))], [(0, x3), (0, x2), (7, x0), (0, ((x2 * 6) + x3)), (29, (x0 + 5))], s2)) from rfl) ?_
      obtain ⟨v3, s3, h3, H⟩ := jb_some H
      refine AT.callV (As := [(0, x2), (0, x3)]) (cl := 3) (b := x0) (st := [(0, ((x2 * 6) + x3)), (29, (x0 + 5))]) (i := 100) (pos := 3207) kSe_wayLength (by decide +kernel) rfl (by decide +kernel) rfl rfl (by omega) (Se_wayLength_ok h3) ?_
      show AT sSe_joinWalks 1 (61, [(7, x0), (0, x1), (0, x2), (0, x3), (0, (v1 + v2))], [(0, v3), (0, ((x2 * 6) + x3)), (29, (x0 + 5))], s3) o
      refine AT.blk (g := (0 ≤ (w32 ((x2 * 6) + x3)) ∧ (w32 ((x2 * 6) + x3)) < 36)) [(61, .iload 4, 2, (0, 0, 0)), (63, .invokestatic 94, 3, (3188, 2, 0)), (66, .iastore, 1, (0, 0, 0)), (67, .iinc 3 1, 3, (0, 0, 0)), (70, .goto (-48), 3, (0, 0, 0))] (by decide +kernel) (show jrun _ (61, [(7, x0), (0, x1), (0, x2), (0, x3), (0, (v1 + v2))], [(0, v3), (0, ((x2 * 6) + x3)), (29, (x0 + 5))], s3) = some ([(0 ≤ (w32 ((x2 * 6) + x3)) ∧ (w32 ((x2 * 6) + x3)) < 36)], (22, [(7, x0), (0, x1), (0, x2), (0, (x3 + 1)), (0, (v1 + v2))], [], (jup s3 (x0 + 5) (w32 ((x2 * 6) + x3)) (jmin v3 (v1 + v2))))) from rfl) (fun h => h) H (fun H => ?_)
      exact AT.weak (L' := [(7, x0), (0, x1), (0, x2), (0, (x3 + 1)), (99, 0)]) (jleK (jleK (jleK (jleK (jleJ jle0))))) (ih _ _ _ _ _ H)
    · refine AT.seq [(73, .iinc 2 1, 3, (0, 0, 0)), (76, .goto (-64), 3, (0, 0, 0))] (by decide +kernel) (show jrun _ (73, [(7, x0), (0, x1), (0, x2), (0, x3), (99, 0)], [], s) = some ([], (12, [(7, x0), (0, x1), (0, (x2 + 1)), (0, x3), (99, 0)], [], s)) from rfl) ?_
      exact AT.weak (L' := [(7, x0), (0, x1), (0, (x2 + 1)), (99, 0), (99, 0)]) (jleK (jleK (jleK (jleJ (jleK jle0))))) (hk12 _ _ _ _ H)
theorem Se_joinWalks_12_ok {o : Int × jM} {k2 : Int → Int → jM → Option (Int × jM)} (hk2 : ∀ (x0 x1 : Int) (s : jM), k2 x0 x1 s = some o → AT sSe_joinWalks 1 (2, [(7, x0), (0, x1), (99, 0), (99, 0), (99, 0)], [], s) o) : ∀ (n : Nat) (x0 x1 x2 : Int) (s : jM), Se_joinWalks_12 k2 n x0 x1 x2 s = some o → AT sSe_joinWalks 1 (12, [(7, x0), (0, x1), (0, x2), (99, 0), (99, 0)], [], s) o := by
  intro n
  induction n with
  | zero =>
    intro x0 x1 x2 s H
    have H : (none : Option (Int × jM)) = some o := H
    cases H
  | succ n ih =>
    intro x0 x1 x2 s H
    rw [Se_joinWalks_12] at H
    refine AT.seq [(12, .iload_n 2, 1, (0, 0, 0)), (13, .aload_n 0, 1, (0, 0, 0)), (14, .getfield 67, 3, (1189, 305, 0))] (by decide +kernel) (show jrun _ (12, [(7, x0), (0, x1), (0, x2), (99, 0), (99, 0)], [], s) = some ([], (17, [(7, x0), (0, x1), (0, x2), (99, 0), (99, 0)], [(0, (s x0 5)), (0, x2)], s)) from rfl) ?_
    refine AT.ite (x := (0, 0, 0)) (by decide +kernel) (show jbr (.if_icmp .ge 62) (17, [(7, x0), (0, x1), (0, x2), (99, 0), (99, 0)], [(0, (s x0 5)), (0, x2)], s) = some ((w32 x2) < (w32 (s x0 5)), (20, [(7, x0), (0, x1), (0, x2), (99, 0), (99, 0)], [], s), (79, [(7, x0), (0, x1), (0, x2), (99, 0), (99, 0)], [], s)) from rfl) H (fun H => ?_) (fun H => ?_)
    · refine AT.seq [(20, .iconst 0, 1, (0, 0, 0)), (21, .istore_n 3, 1, (0, 0, 0))] (by decide +kernel) (show jrun _ (20, [(7, x0), (0, x1), (0, x2), (99, 0), (99, 0)], [], s) = some ([], (22, [(7, x0), (0, x1), (0, x2), (0, 0), (99, 0)], [], s)) from rfl) ?_
      exact Se_joinWalks_22_ok ih jFU _ _ _ _ _ H
    · refine AT.seq [(79, .iinc 1 1, 3, (0, 0, 0)), (82, .goto (-80), 3, (0, 0, 0))] (by decide +kernel) (show jrun _ (79, [(7, x0), (0, x1), (0, x2), (99, 0), (99, 0)], [], s) = some ([], (2, [(7, x0), (0, (x1 + 1)), (0, x2), (99, 0), (99, 0)], [], s)) from rfl) ?_
      exact AT.weak (L' := [(7, x0), (0, (x1 + 1)), (99, 0), (99, 0), (99, 0)]) (jleK (jleK (jleJ (jleK (jleK jle0))))) (hk2 _ _ _ H)
theorem Se_joinWalks_2_ok {o : Int × jM} : ∀ (n : Nat) (x0 x1 : Int) (s : jM), Se_joinWalks_2  n x0 x1 s = some o → AT sSe_joinWalks 1 (2, [(7, x0), (0, x1), (99, 0), (99, 0), (99, 0)], [], s) o := by
  intro n
  induction n with
  | zero =>
    intro x0 x1 s H
    have H : (none : Option (Int × jM)) = some o := H
    cases H
  | succ n ih =>
    intro x0 x1 s H
    rw [Se_joinWalks_2] at H
    refine AT.seq [(2, .iload_n 1, 1, (0, 0, 0)), (3, .aload_n 0, 1, (0, 0, 0)), (4, .getfield 67, 3, (1189, 305, 0))] (by decide +kernel) (show jrun _ (2, [(7, x0), (0, x1), (99, 0), (99, 0), (99, 0)], [], s) = some ([], (7, [(7, x0), (0, x1), (99, 0), (99, 0), (99, 0)], [(0, (s x0 5)), (0, x1)], s)) from rfl) ?_
    refine AT.ite (x := (0, 0, 0)) (by decide +kernel) (show jbr (.if_icmp .ge 78) (7, [(7, x0), (0, x1), (99, 0), (99, 0), (99, 0)], [(0, (s x0 5)), (0, x1)], s) = some ((w32 x1) < (w32 (s x0 5)), (10, [(7, x0), (0, x1), (99, 0), (99, 0), (99, 0)], [], s), (85, [(7, x0), (0, x1), (99, 0), (99, 0), (99, 0)], [], s)) from rfl) H (fun H => ?_) (fun H => ?_)
    · refine AT.seq [(10, .iconst 0, 1, (0, 0, 0)), (11, .istore_n 2, 1, (0, 0, 0))] (by decide +kernel) (show jrun _ (10, [(7, x0), (0, x1), (99, 0), (99, 0), (99, 0)], [], s) = some ([], (12, [(7, x0), (0, x1), (0, 0), (99, 0), (99, 0)], [], s)) from rfl) ?_
      exact Se_joinWalks_12_ok ih jFU _ _ _ _ H
    · exact AT.retvH (by decide +kernel) H
theorem Se_joinWalks_ok {a0 : Int} {s : jM} {o : Int × jM} (H : Se_joinWalks a0 s = some o) : MK sSe_joinWalks 1 [(7, a0)] s o := by
  refine MK.of kSe_joinWalks rfl ?_
  show AT sSe_joinWalks 1 (0, [(7, a0), (99, 0), (99, 0), (99, 0), (99, 0)], [], s) o
  unfold Se_joinWalks at H
  refine AT.seq [(0, .iconst 0, 1, (0, 0, 0)), (1, .istore_n 1, 1, (0, 0, 0))] (by decide +kernel) (show jrun _ (0, [(7, a0), (99, 0), (99, 0), (99, 0), (99, 0)], [], s) = some ([], (2, [(7, a0), (0, 0), (99, 0), (99, 0), (99, 0)], [], s)) from rfl) ?_
  exact Se_joinWalks_2_ok  jFU _ _ _ H
def sSe_fallen : jS := (⟨"JellyCathedral$See", "fallen", "()I"⟩, prog_8_method_23_code, 3, 1, [7], 0)
theorem kSe_fallen : jmk sSe_fallen = true := jmk_of 4033 1003 4031 4032 (by decide +kernel)
theorem Se_fallen_4_ok {o : Int × jM} : ∀ (n : Nat) (x0 x1 x2 : Int) (s : jM), Se_fallen_4  n x0 x1 x2 s = some o → AT sSe_fallen 0 (4, [(7, x0), (0, x1), (0, x2)], [], s) o := by
  intro n
  induction n with
  | zero =>
    intro x0 x1 x2 s H
    have H : (none : Option (Int × jM)) = some o := H
    cases H
  | succ n ih =>
    intro x0 x1 x2 s H
    rw [Se_fallen_4] at H
    refine AT.seq [(4, .iload_n 2, 1, (0, 0, 0)), (5, .aload_n 0, 1, (0, 0, 0)), (6, .getfield 70, 3, (1192, 306, 0))] (by decide +kernel) (show jrun _ (4, [(7, x0), (0, x1), (0, x2)], [], s) = some ([], (9, [(7, x0), (0, x1), (0, x2)], [(0, (s x0 6)), (0, x2)], s)) from rfl) ?_
    refine AT.ite (x := (0, 0, 0)) (by decide +kernel) (show jbr (.if_icmp .ge 21) (9, [(7, x0), (0, x1), (0, x2)], [(0, (s x0 6)), (0, x2)], s) = some ((w32 x2) < (w32 (s x0 6)), (12, [(7, x0), (0, x1), (0, x2)], [], s), (30, [(7, x0), (0, x1), (0, x2)], [], s)) from rfl) H (fun H => ?_) (fun H => ?_)
    · refine AT.blk (g := (0 ≤ (w32 x2) ∧ (w32 x2) < 5)) [(12, .iload_n 1, 1, (0, 0, 0)), (13, .aload_n 0, 1, (0, 0, 0)), (14, .getfield 23, 3, (1213, 312, 0)), (17, .iload_n 2, 1, (0, 0, 0)), (18, .aaload, 1, (0, 0, 0)), (19, .getfield 143, 3, (1142, 207, 0)), (22, .iadd, 1, (0, 0, 0)), (23, .istore_n 1, 1, (0, 0, 0)), (24, .iinc 2 1, 3, (0, 0, 0)), (27, .goto (-23), 3, (0, 0, 0))] (by decide +kernel) (show jrun _ (12, [(7, x0), (0, x1), (0, x2)], [], s) = some ([(0 ≤ (w32 x2) ∧ (w32 x2) < 5)], (4, [(7, x0), (0, (x1 + (s ((x0 + 4) + 11 + 2 * (w32 x2)) 7))), (0, (x2 + 1))], [], s)) from rfl) (fun h => h) H (fun H => ?_)
      exact ih _ _ _ _ H
    · refine AT.seq [(30, .iload_n 1, 1, (0, 0, 0))] (by decide +kernel) (show jrun _ (30, [(7, x0), (0, x1), (0, x2)], [], s) = some ([], (31, [(7, x0), (0, x1), (0, x2)], [(0, x1)], s)) from rfl) ?_
      exact AT.retiH (by decide +kernel) H
theorem Se_fallen_ok {a0 : Int} {s : jM} {o : Int × jM} (H : Se_fallen a0 s = some o) : MK sSe_fallen 0 [(7, a0)] s o := by
  refine MK.of kSe_fallen rfl ?_
  show AT sSe_fallen 0 (0, [(7, a0), (99, 0), (99, 0)], [], s) o
  unfold Se_fallen at H
  refine AT.seq [(0, .iconst 0, 1, (0, 0, 0)), (1, .istore_n 1, 1, (0, 0, 0)), (2, .iconst 0, 1, (0, 0, 0)), (3, .istore_n 2, 1, (0, 0, 0))] (by decide +kernel) (show jrun _ (0, [(7, a0), (99, 0), (99, 0)], [], s) = some ([], (4, [(7, a0), (0, 0), (0, 0)], [], s)) from rfl) ?_
  exact Se_fallen_4_ok  jFU _ _ _ _ H
def sSe_setOf : jS := (⟨"JellyCathedral$See", "setOf", "(I)I"⟩, prog_8_method_25_code, 4, 1, [7, 0], 0)
theorem kSe_setOf : jmk sSe_setOf = true := jmk_of 4037 1003 4035 4036 (by decide +kernel)
theorem Se_setOf_4_ok {o : Int × jM} : ∀ (n : Nat) (x0 x1 x2 x3 : Int) (s : jM), Se_setOf_4  n x0 x1 x2 x3 s = some o → AT sSe_setOf 0 (4, [(7, x0), (0, x1), (0, x2), (0, x3)], [], s) o := by
  intro n
  induction n with
  | zero =>
    intro x0 x1 x2 x3 s H
    have H : (none : Option (Int × jM)) = some o := H
    cases H
  | succ n ih =>
    intro x0 x1 x2 x3 s H
    rw [Se_setOf_4] at H
    refine AT.seq [(4, .iload_n 3, 1, (0, 0, 0)), (5, .aload_n 0, 1, (0, 0, 0)), (6, .getfield 70, 3, (1192, 306, 0))] (by decide +kernel) (show jrun _ (4, [(7, x0), (0, x1), (0, x2), (0, x3)], [], s) = some ([], (9, [(7, x0), (0, x1), (0, x2), (0, x3)], [(0, (s x0 6)), (0, x3)], s)) from rfl) ?_
    refine AT.ite (x := (0, 0, 0)) (by decide +kernel) (show jbr (.if_icmp .ge 28) (9, [(7, x0), (0, x1), (0, x2), (0, x3)], [(0, (s x0 6)), (0, x3)], s) = some ((w32 x3) < (w32 (s x0 6)), (12, [(7, x0), (0, x1), (0, x2), (0, x3)], [], s), (37, [(7, x0), (0, x1), (0, x2), (0, x3)], [], s)) from rfl) H (fun H => ?_) (fun H => ?_)
    · refine AT.blk (g := (0 ≤ (w32 x3) ∧ (w32 x3) < 5)) [(12, .aload_n 0, 1, (0, 0, 0)), (13, .getfield 23, 3, (1213, 312, 0)), (16, .iload_n 3, 1, (0, 0, 0)), (17, .aaload, 1, (0, 0, 0)), (18, .getfield 106, 3, (1127, 203, 0)), (21, .iload_n 1, 1, (0, 0, 0))] (by decide +kernel) (show jrun _ (12, [(7, x0), (0, x1), (0, x2), (0, x3)], [], s) = some ([(0 ≤ (w32 x3) ∧ (w32 x3) < 5)], (22, [(7, x0), (0, x1), (0, x2), (0, x3)], [(0, x1), (0, (s ((x0 + 4) + 11 + 2 * (w32 x3)) 3))], s)) from rfl) (fun h => h) H (fun H => ?_)
      refine AT.ite (x := (0, 0, 0)) (by decide +kernel) (show jbr (.if_icmp .ne 9) (22, [(7, x0), (0, x1), (0, x2), (0, x3)], [(0, x1), (0, (s ((x0 + 4) + 11 + 2 * (w32 x3)) 3))], s) = some ((w32 (s ((x0 + 4) + 11 + 2 * (w32 x3)) 3)) = (w32 x1), (25, [(7, x0), (0, x1), (0, x2), (0, x3)], [], s), (31, [(7, x0), (0, x1), (0, x2), (0, x3)], [], s)) from rfl) H (fun H => ?_) (fun H => ?_)
      · refine AT.seq [(25, .iload_n 2, 1, (0, 0, 0)), (26, .iconst 1, 1, (0, 0, 0)), (27, .iload_n 3, 1, (0, 0, 0)), (28, .ishl, 1, (0, 0, 0)), (29, .ior, 1, (0, 0, 0)), (30, .istore_n 2, 1, (0, 0, 0)), (31, .iinc 3 1, 3, (0, 0, 0)), (34, .goto (-30), 3, (0, 0, 0))] (by decide +kernel) (show jrun _ (25, [(7, x0), (0, x1), (0, x2), (0, x3)], [], s) = some ([], (4, [(7, x0), (0, x1), (0, (jior x2 (jishl 1 x3))), (0, (x3 + 1))], [], s)) from rfl) ?_
        exact ih _ _ _ _ _ H
      · refine AT.seq [(31, .iinc 3 1, 3, (0, 0, 0)), (34, .goto (-30), 3, (0, 0, 0))] (by decide +kernel) (show jrun _ (31, [(7, x0), (0, x1), (0, x2), (0, x3)], [], s) = some ([], (4, [(7, x0), (0, x1), (0, x2), (0, (x3 + 1))], [], s)) from rfl) ?_
        exact ih _ _ _ _ _ H
    · refine AT.seq [(37, .iload_n 2, 1, (0, 0, 0))] (by decide +kernel) (show jrun _ (37, [(7, x0), (0, x1), (0, x2), (0, x3)], [], s) = some ([], (38, [(7, x0), (0, x1), (0, x2), (0, x3)], [(0, x2)], s)) from rfl) ?_
      exact AT.retiH (by decide +kernel) H
theorem Se_setOf_ok {a0 a1 : Int} {s : jM} {o : Int × jM} (H : Se_setOf a0 a1 s = some o) : MK sSe_setOf 0 [(7, a0), (0, a1)] s o := by
  refine MK.of kSe_setOf rfl ?_
  show AT sSe_setOf 0 (0, [(7, a0), (0, a1), (99, 0), (99, 0)], [], s) o
  unfold Se_setOf at H
  refine AT.seq [(0, .iconst 0, 1, (0, 0, 0)), (1, .istore_n 2, 1, (0, 0, 0)), (2, .iconst 0, 1, (0, 0, 0)), (3, .istore_n 3, 1, (0, 0, 0))] (by decide +kernel) (show jrun _ (0, [(7, a0), (0, a1), (99, 0), (99, 0)], [], s) = some ([], (4, [(7, a0), (0, a1), (0, 0), (0, 0)], [], s)) from rfl) ?_
  exact Se_setOf_4_ok  jFU _ _ _ _ _ H
def sSe_isStuff : jS := (⟨"JellyCathedral$See", "isStuff", "(I)Z"⟩, prog_8_method_4_code, 2, 3, [7, 0], 0)
theorem kSe_isStuff : jmk sSe_isStuff = true := jmk_of 4045 1003 4043 4044 (by decide +kernel)
theorem Se_isStuff_ok {a0 a1 : Int} {s : jM} {o : Int × jM} (H : Se_isStuff a0 a1 s = some o) : MK sSe_isStuff 0 [(7, a0), (0, a1)] s o := by
  refine MK.of kSe_isStuff rfl ?_
  show AT sSe_isStuff 0 (0, [(7, a0), (0, a1)], [], s) o
  unfold Se_isStuff at H
  refine AT.seq [(0, .iload_n 1, 1, (0, 0, 0))] (by decide +kernel) (show jrun _ (0, [(7, a0), (0, a1)], [], s) = some ([], (1, [(7, a0), (0, a1)], [(0, a1)], s)) from rfl) ?_
  refine AT.ite (x := (0, 0, 0)) (by decide +kernel) (show jbr (.ifCond .lt 15) (1, [(7, a0), (0, a1)], [(0, a1)], s) = some ((w32 a1) < 0, (16, [(7, a0), (0, a1)], [], s), (4, [(7, a0), (0, a1)], [], s)) from rfl) H (fun H => ?_) (fun H => ?_)
  · refine AT.seq [(16, .iconst 0, 1, (0, 0, 0))] (by decide +kernel) (show jrun _ (16, [(7, a0), (0, a1)], [], s) = some ([], (17, [(7, a0), (0, a1)], [(0, 0)], s)) from rfl) ?_
    exact AT.retzC (by decide +kernel) (by decide) H
  · refine AT.seq [(4, .iload_n 1, 1, (0, 0, 0)), (5, .aload_n 0, 1, (0, 0, 0)), (6, .getfield 64, 3, (1186, 304, 0))] (by decide +kernel) (show jrun _ (4, [(7, a0), (0, a1)], [], s) = some ([], (9, [(7, a0), (0, a1)], [(0, (s a0 4)), (0, a1)], s)) from rfl) ?_
    refine AT.ite (x := (0, 0, 0)) (by decide +kernel) (show jbr (.if_icmp .ge 7) (9, [(7, a0), (0, a1)], [(0, (s a0 4)), (0, a1)], s) = some ((w32 a1) < (w32 (s a0 4)), (12, [(7, a0), (0, a1)], [], s), (16, [(7, a0), (0, a1)], [], s)) from rfl) H (fun H => ?_) (fun H => ?_)
    · refine AT.seq [(12, .iconst 1, 1, (0, 0, 0)), (13, .goto 4, 3, (0, 0, 0))] (by decide +kernel) (show jrun _ (12, [(7, a0), (0, a1)], [], s) = some ([], (17, [(7, a0), (0, a1)], [(0, 1)], s)) from rfl) ?_
      exact AT.retzC (by decide +kernel) (by decide) H
    · refine AT.seq [(16, .iconst 0, 1, (0, 0, 0))] (by decide +kernel) (show jrun _ (16, [(7, a0), (0, a1)], [], s) = some ([], (17, [(7, a0), (0, a1)], [(0, 0)], s)) from rfl) ?_
      exact AT.retzC (by decide +kernel) (by decide) H
def sSe_isMould : jS := (⟨"JellyCathedral$See", "isMould", "(I)Z"⟩, prog_8_method_6_code, 2, 3, [7, 0], 0)
theorem kSe_isMould : jmk sSe_isMould = true := jmk_of 4053 1003 4051 4052 (by decide +kernel)
theorem Se_isMould_ok {a0 a1 : Int} {s : jM} {o : Int × jM} (H : Se_isMould a0 a1 s = some o) : MK sSe_isMould 0 [(7, a0), (0, a1)] s o := by
  refine MK.of kSe_isMould rfl ?_
  show AT sSe_isMould 0 (0, [(7, a0), (0, a1)], [], s) o
  unfold Se_isMould at H
  refine AT.seq [(0, .iload_n 1, 1, (0, 0, 0))] (by decide +kernel) (show jrun _ (0, [(7, a0), (0, a1)], [], s) = some ([], (1, [(7, a0), (0, a1)], [(0, a1)], s)) from rfl) ?_
  refine AT.ite (x := (0, 0, 0)) (by decide +kernel) (show jbr (.ifCond .lt 15) (1, [(7, a0), (0, a1)], [(0, a1)], s) = some ((w32 a1) < 0, (16, [(7, a0), (0, a1)], [], s), (4, [(7, a0), (0, a1)], [], s)) from rfl) H (fun H => ?_) (fun H => ?_)
  · refine AT.seq [(16, .iconst 0, 1, (0, 0, 0))] (by decide +kernel) (show jrun _ (16, [(7, a0), (0, a1)], [], s) = some ([], (17, [(7, a0), (0, a1)], [(0, 0)], s)) from rfl) ?_
    exact AT.retzC (by decide +kernel) (by decide) H
  · refine AT.seq [(4, .iload_n 1, 1, (0, 0, 0)), (5, .aload_n 0, 1, (0, 0, 0)), (6, .getfield 70, 3, (1192, 306, 0))] (by decide +kernel) (show jrun _ (4, [(7, a0), (0, a1)], [], s) = some ([], (9, [(7, a0), (0, a1)], [(0, (s a0 6)), (0, a1)], s)) from rfl) ?_
    refine AT.ite (x := (0, 0, 0)) (by decide +kernel) (show jbr (.if_icmp .ge 7) (9, [(7, a0), (0, a1)], [(0, (s a0 6)), (0, a1)], s) = some ((w32 a1) < (w32 (s a0 6)), (12, [(7, a0), (0, a1)], [], s), (16, [(7, a0), (0, a1)], [], s)) from rfl) H (fun H => ?_) (fun H => ?_)
    · refine AT.seq [(12, .iconst 1, 1, (0, 0, 0)), (13, .goto 4, 3, (0, 0, 0))] (by decide +kernel) (show jrun _ (12, [(7, a0), (0, a1)], [], s) = some ([], (17, [(7, a0), (0, a1)], [(0, 1)], s)) from rfl) ?_
      exact AT.retzC (by decide +kernel) (by decide) H
    · refine AT.seq [(16, .iconst 0, 1, (0, 0, 0))] (by decide +kernel) (show jrun _ (16, [(7, a0), (0, a1)], [], s) = some ([], (17, [(7, a0), (0, a1)], [(0, 0)], s)) from rfl) ?_
      exact AT.retzC (by decide +kernel) (by decide) H
def sSe_pourInto : jS := (⟨"JellyCathedral$See", "pourInto", "(III)Z"⟩, prog_8_method_16_code, 5, 3, [7, 0, 0, 0], 0)
theorem kSe_pourInto : jmk sSe_pourInto = true := jmk_of 4069 1003 4067 4068 (by decide +kernel)
theorem Se_pourInto_ok {a0 a1 a2 a3 : Int} {s : jM} {o : Int × jM} (H : Se_pourInto a0 a1 a2 a3 s = some o) : MK sSe_pourInto 1 [(7, a0), (0, a1), (0, a2), (0, a3)] s o := by
  refine MK.of kSe_pourInto rfl ?_
  show AT sSe_pourInto 1 (0, [(7, a0), (0, a1), (0, a2), (0, a3), (99, 0)], [], s) o
  unfold Se_pourInto at H
  refine AT.blk (g := (0 ≤ (w32 a1) ∧ (w32 a1) < 5)) [(0, .aload_n 0, 1, (0, 0, 0)), (1, .getfield 23, 3, (1213, 312, 0)), (4, .iload_n 1, 1, (0, 0, 0)), (5, .aaload, 1, (0, 0, 0)), (6, .astore 4, 2, (0, 0, 0)), (8, .aload 4, 2, (0, 0, 0)), (10, .getfield 106, 3, (1127, 203, 0)), (13, .iconst 2, 1, (0, 0, 0))] (by decide +kernel) (show jrun _ (0, [(7, a0), (0, a1), (0, a2), (0, a3), (99, 0)], [], s) = some ([(0 ≤ (w32 a1) ∧ (w32 a1) < 5)], (14, [(7, a0), (0, a1), (0, a2), (0, a3), (6, ((a0 + 4) + 11 + 2 * (w32 a1)))], [(0, 2), (0, (s ((a0 + 4) + 11 + 2 * (w32 a1)) 3))], s)) from rfl) (fun h => h) H (fun H => ?_)
  refine AT.ite (x := (0, 0, 0)) (by decide +kernel) (show jbr (.if_icmp .eq 28) (14, [(7, a0), (0, a1), (0, a2), (0, a3), (6, ((a0 + 4) + 11 + 2 * (w32 a1)))], [(0, 2), (0, (s ((a0 + 4) + 11 + 2 * (w32 a1)) 3))], s) = some ((w32 (s ((a0 + 4) + 11 + 2 * (w32 a1)) 3)) = 2, (42, [(7, a0), (0, a1), (0, a2), (0, a3), (6, ((a0 + 4) + 11 + 2 * (w32 a1)))], [], s), (17, [(7, a0), (0, a1), (0, a2), (0, a3), (6, ((a0 + 4) + 11 + 2 * (w32 a1)))], [], s)) from rfl) H (fun H => ?_) (fun H => ?_)
  · refine AT.seq [(42, .iconst 0, 1, (0, 0, 0))] (by decide +kernel) (show jrun _ (42, [(7, a0), (0, a1), (0, a2), (0, a3), (6, ((a0 + 4) + 11 + 2 * (w32 a1)))], [], s) = some ([], (43, [(7, a0), (0, a1), (0, a2), (0, a3), (6, ((a0 + 4) + 11 + 2 * (w32 a1)))], [(0, 0)], s)) from rfl) ?_
    exact AT.retzC (by decide +kernel) (by decide) H
  · refine AT.blk (g := (0 ≤ (w32 a2) ∧ (w32 a2) < 5)) [(17, .aload_n 0, 1, (0, 0, 0)), (18, .getfield 18, 3, (1208, 311, 0)), (21, .iload_n 2, 1, (0, 0, 0)), (22, .iaload, 1, (0, 0, 0)), (23, .iload_n 3, 1, (0, 0, 0))] (by decide +kernel) (show jrun _ (17, [(7, a0), (0, a1), (0, a2), (0, a3), (6, ((a0 + 4) + 11 + 2 * (w32 a1)))], [], s) = some ([(0 ≤ (w32 a2) ∧ (w32 a2) < 5)], (24, [(7, a0), (0, a1), (0, a2), (0, a3), (6, ((a0 + 4) + 11 + 2 * (w32 a1)))], [(0, a3), (0, (s (a0 + 3) (w32 a2)))], s)) from rfl) (fun h => h) H (fun H => ?_)
    refine AT.ite (x := (0, 0, 0)) (by decide +kernel) (show jbr (.if_icmp .lt 18) (24, [(7, a0), (0, a1), (0, a2), (0, a3), (6, ((a0 + 4) + 11 + 2 * (w32 a1)))], [(0, a3), (0, (s (a0 + 3) (w32 a2)))], s) = some ((w32 (s (a0 + 3) (w32 a2))) < (w32 a3), (42, [(7, a0), (0, a1), (0, a2), (0, a3), (6, ((a0 + 4) + 11 + 2 * (w32 a1)))], [], s), (27, [(7, a0), (0, a1), (0, a2), (0, a3), (6, ((a0 + 4) + 11 + 2 * (w32 a1)))], [], s)) from rfl) H (fun H => ?_) (fun H => ?_)
    · refine AT.seq [(42, .iconst 0, 1, (0, 0, 0))] (by decide +kernel) (show jrun _ (42, [(7, a0), (0, a1), (0, a2), (0, a3), (6, ((a0 + 4) + 11 + 2 * (w32 a1)))], [], s) = some ([], (43, [(7, a0), (0, a1), (0, a2), (0, a3), (6, ((a0 + 4) + 11 + 2 * (w32 a1)))], [(0, 0)], s)) from rfl) ?_
      exact AT.retzC (by decide +kernel) (by decide) H
    · refine AT.seq [(27, .aload 4, 2, (0, 0, 0)), (29, .getfield 109, 3, (1138, 206, 0)), (32, .iload_n 3, 1, (0, 0, 0)), (33, .iadd, 1, (0, 0, 0)), (34, .aload 4, 2, (0, 0, 0)), (36, .getfield 112, 3, (1117, 201, 0))] (by decide +kernel) (show jrun _ (27, [(7, a0), (0, a1), (0, a2), (0, a3), (6, ((a0 + 4) + 11 + 2 * (w32 a1)))], [], s) = some ([], (39, [(7, a0), (0, a1), (0, a2), (0, a3), (6, ((a0 + 4) + 11 + 2 * (w32 a1)))], [(0, (s ((a0 + 4) + 11 + 2 * (w32 a1)) 1)), (0, ((s ((a0 + 4) + 11 + 2 * (w32 a1)) 6) + a3))], s)) from rfl) ?_
      refine AT.ite (x := (0, 0, 0)) (by decide +kernel) (show jbr (.if_icmp .le 5) (39, [(7, a0), (0, a1), (0, a2), (0, a3), (6, ((a0 + 4) + 11 + 2 * (w32 a1)))], [(0, (s ((a0 + 4) + 11 + 2 * (w32 a1)) 1)), (0, ((s ((a0 + 4) + 11 + 2 * (w32 a1)) 6) + a3))], s) = some ((w32 (s ((a0 + 4) + 11 + 2 * (w32 a1)) 1)) < (w32 ((s ((a0 + 4) + 11 + 2 * (w32 a1)) 6) + a3)), (42, [(7, a0), (0, a1), (0, a2), (0, a3), (6, ((a0 + 4) + 11 + 2 * (w32 a1)))], [], s), (44, [(7, a0), (0, a1), (0, a2), (0, a3), (6, ((a0 + 4) + 11 + 2 * (w32 a1)))], [], s)) from rfl) H (fun H => ?_) (fun H => ?_)
      · refine AT.seq [(42, .iconst 0, 1, (0, 0, 0))] (by decide +kernel) (show jrun _ (42, [(7, a0), (0, a1), (0, a2), (0, a3), (6, ((a0 + 4) + 11 + 2 * (w32 a1)))], [], s) = some ([], (43, [(7, a0), (0, a1), (0, a2), (0, a3), (6, ((a0 + 4) + 11 + 2 * (w32 a1)))], [(0, 0)], s)) from rfl) ?_
        exact AT.retzC (by decide +kernel) (by decide) H
      · refine AT.blk (g := (0 ≤ (w32 a2) ∧ (w32 a2) < 5) ∧ (0 ≤ (w32 a2) ∧ (w32 a2) < 5) ∧ (0 ≤ (w32 a2) ∧ (w32 a2) < 5)) [(44, .aload_n 0, 1, (0, 0, 0)), (45, .getfield 18, 3, (1208, 311, 0)), (48, .iload_n 2, 1, (0, 0, 0)), (49, .dup2, 1, (0, 0, 0)), (50, .iaload, 1, (0, 0, 0)), (51, .iload_n 3, 1, (0, 0, 0)), (52, .isub, 1, (0, 0, 0)), (53, .iastore, 1, (0, 0, 0)), (54, .aload_n 0, 1, (0, 0, 0)), (55, .dup, 1, (0, 0, 0)), (56, .getfield 61, 3, (1182, 303, 0)), (59, .iload_n 3, 1, (0, 0, 0)), (60, .aload_n 0, 1, (0, 0, 0)), (61, .getfield 15, 3, (1204, 310, 0)), (64, .iload_n 2, 1, (0, 0, 0)), (65, .iaload, 1, (0, 0, 0)), (66, .imul, 1, (0, 0, 0)), (67, .iadd, 1, (0, 0, 0)), (68, .putfield 61, 3, (1182, 303, 0)), (71, .aload 4, 2, (0, 0, 0)), (73, .iload_n 2, 1, (0, 0, 0)), (74, .iload_n 3, 1, (0, 0, 0)), (75, .aload_n 0, 1, (0, 0, 0)), (76, .getfield 9, 3, (1199, 309, 0)), (79, .iload_n 2, 1, (0, 0, 0))] (by decide +kernel) (show jrun _ (44, [(7, a0), (0, a1), (0, a2), (0, a3), (6, ((a0 + 4) + 11 + 2 * (w32 a1)))], [], s) = some ([(0 ≤ (w32 a2) ∧ (w32 a2) < 5), (0 ≤ (w32 a2) ∧ (w32 a2) < 5), (0 ≤ (w32 a2) ∧ (w32 a2) < 5)], (80, [(7, a0), (0, a1), (0, a2), (0, a3), (6, ((a0 + 4) + 11 + 2 * (w32 a1)))], [(0, a2), (26, (a0 + 1)), (0, a3), (0, a2), (6, ((a0 + 4) + 11 + 2 * (w32 a1)))], (jup (jup s (a0 + 3) (w32 a2) ((s (a0 + 3) (w32 a2)) - a3)) a0 3 (((jup s (a0 + 3) (w32 a2) ((s (a0 + 3) (w32 a2)) - a3)) a0 3) + (a3 * ((jup s (a0 + 3) (w32 a2) ((s (a0 + 3) (w32 a2)) - a3)) (a0 + 2) (w32 a2))))))) from rfl) (fun h => ⟨h.1, h.2.1, h.2.2⟩) H (fun H => ?_)
        obtain ⟨s1, e1, H⟩ := jm_some H
        rw [← e1]
        refine AT.blk (g := (0 ≤ (w32 a2) ∧ (w32 a2) < 5)) [(80, .iaload, 1, (0, 0, 0))] (by decide +kernel) (show jrun _ (80, [(7, a0), (0, a1), (0, a2), (0, a3), (6, ((a0 + 4) + 11 + 2 * (w32 a1)))], [(0, a2), (26, (a0 + 1)), (0, a3), (0, a2), (6, ((a0 + 4) + 11 + 2 * (w32 a1)))], s1) = some ([(0 ≤ (w32 a2) ∧ (w32 a2) < 5)], (81, [(7, a0), (0, a1), (0, a2), (0, a3), (6, ((a0 + 4) + 11 + 2 * (w32 a1)))], [(0, (s1 (a0 + 1) (w32 a2))), (0, a3), (0, a2), (6, ((a0 + 4) + 11 + 2 * (w32 a1)))], s1)) from rfl) (fun h => h) H (fun H => ?_)
        obtain ⟨v2, s2, h2, H⟩ := jb_some H
        refine AT.callV (As := [(0, a2), (0, a3), (0, (s1 (a0 + 1) (w32 a2)))]) (cl := 2) (b := ((a0 + 4) + 11 + 2 * (w32 a1))) (st := []) (i := 115) (pos := 4070) kMo_add (by decide +kernel) rfl (by decide +kernel) rfl rfl (by omega) (Mo_add_ok h2) ?_
        show AT sSe_pourInto 1 (84, [(7, a0), (0, a1), (0, a2), (0, a3), (6, ((a0 + 4) + 11 + 2 * (w32 a1)))], [], s2) o
        refine AT.seq [(84, .iconst 1, 1, (0, 0, 0))] (by decide +kernel) (show jrun _ (84, [(7, a0), (0, a1), (0, a2), (0, a3), (6, ((a0 + 4) + 11 + 2 * (w32 a1)))], [], s2) = some ([], (85, [(7, a0), (0, a1), (0, a2), (0, a3), (6, ((a0 + 4) + 11 + 2 * (w32 a1)))], [(0, 1)], s2)) from rfl) ?_
        exact AT.retzC (by decide +kernel) (by decide) H
def sSe_voidOut : jS := (⟨"JellyCathedral$See", "voidOut", "(I)Z"⟩, prog_8_method_17_code, 2, 3, [7, 0], 0)
theorem kSe_voidOut : jmk sSe_voidOut = true := jmk_of 4081 1003 4079 4080 (by decide +kernel)
theorem Se_voidOut_ok {a0 a1 : Int} {s : jM} {o : Int × jM} (H : Se_voidOut a0 a1 s = some o) : MK sSe_voidOut 1 [(7, a0), (0, a1)] s o := by
  refine MK.of kSe_voidOut rfl ?_
  show AT sSe_voidOut 1 (0, [(7, a0), (0, a1)], [], s) o
  unfold Se_voidOut at H
  refine AT.blk (g := (0 ≤ (w32 a1) ∧ (w32 a1) < 5)) [(0, .aload_n 0, 1, (0, 0, 0)), (1, .getfield 23, 3, (1213, 312, 0)), (4, .iload_n 1, 1, (0, 0, 0)), (5, .aaload, 1, (0, 0, 0)), (6, .getfield 106, 3, (1127, 203, 0))] (by decide +kernel) (show jrun _ (0, [(7, a0), (0, a1)], [], s) = some ([(0 ≤ (w32 a1) ∧ (w32 a1) < 5)], (9, [(7, a0), (0, a1)], [(0, (s ((a0 + 4) + 11 + 2 * (w32 a1)) 3))], s)) from rfl) (fun h => h) H (fun H => ?_)
  refine AT.ite (x := (0, 0, 0)) (by decide +kernel) (show jbr (.ifCond .ne 5) (9, [(7, a0), (0, a1)], [(0, (s ((a0 + 4) + 11 + 2 * (w32 a1)) 3))], s) = some ((w32 (s ((a0 + 4) + 11 + 2 * (w32 a1)) 3)) = 0, (12, [(7, a0), (0, a1)], [], s), (14, [(7, a0), (0, a1)], [], s)) from rfl) H (fun H => ?_) (fun H => ?_)
  · refine AT.seq [(12, .iconst 0, 1, (0, 0, 0))] (by decide +kernel) (show jrun _ (12, [(7, a0), (0, a1)], [], s) = some ([], (13, [(7, a0), (0, a1)], [(0, 0)], s)) from rfl) ?_
    exact AT.retzC (by decide +kernel) (by decide) H
  · refine AT.blk (g := (0 ≤ (w32 a1) ∧ (w32 a1) < 5)) [(14, .aload_n 0, 1, (0, 0, 0)), (15, .getfield 23, 3, (1213, 312, 0)), (18, .iload_n 1, 1, (0, 0, 0)), (19, .aaload, 1, (0, 0, 0))] (by decide +kernel) (show jrun _ (14, [(7, a0), (0, a1)], [], s) = some ([(0 ≤ (w32 a1) ∧ (w32 a1) < 5)], (20, [(7, a0), (0, a1)], [(6, ((a0 + 4) + 11 + 2 * (w32 a1)))], s)) from rfl) (fun h => h) H (fun H => ?_)
    obtain ⟨v1, s1, h1, H⟩ := jb_some H
    refine AT.callV (As := []) (cl := 2) (b := ((a0 + 4) + 11 + 2 * (w32 a1))) (st := []) (i := 119) (pos := 4082) kMo_makeVoid (by decide +kernel) rfl (by decide +kernel) rfl rfl (by omega) (Mo_makeVoid_ok h1) ?_
    show AT sSe_voidOut 1 (23, [(7, a0), (0, a1)], [], s1) o
    refine AT.seq [(23, .iconst 1, 1, (0, 0, 0))] (by decide +kernel) (show jrun _ (23, [(7, a0), (0, a1)], [], s1) = some ([], (24, [(7, a0), (0, a1)], [(0, 1)], s1)) from rfl) ?_
    exact AT.retzC (by decide +kernel) (by decide) H
def sSe_turnOut : jS := (⟨"JellyCathedral$See", "turnOut", "(I)Z"⟩, prog_8_method_18_code, 3, 3, [7, 0], 0)
theorem kSe_turnOut : jmk sSe_turnOut = true := jmk_of 4090 1003 4088 4089 (by decide +kernel)
theorem Se_turnOut_ok {a0 a1 : Int} {s : jM} {o : Int × jM} (H : Se_turnOut a0 a1 s = some o) : MK sSe_turnOut 2 [(7, a0), (0, a1)] s o := by
  refine MK.of kSe_turnOut rfl ?_
  show AT sSe_turnOut 2 (0, [(7, a0), (0, a1), (99, 0)], [], s) o
  unfold Se_turnOut at H
  refine AT.blk (g := (0 ≤ (w32 a1) ∧ (w32 a1) < 5)) [(0, .aload_n 0, 1, (0, 0, 0)), (1, .getfield 23, 3, (1213, 312, 0)), (4, .iload_n 1, 1, (0, 0, 0)), (5, .aaload, 1, (0, 0, 0)), (6, .astore_n 2, 1, (0, 0, 0)), (7, .aload_n 2, 1, (0, 0, 0))] (by decide +kernel) (show jrun _ (0, [(7, a0), (0, a1), (99, 0)], [], s) = some ([(0 ≤ (w32 a1) ∧ (w32 a1) < 5)], (8, [(7, a0), (0, a1), (6, ((a0 + 4) + 11 + 2 * (w32 a1)))], [(6, ((a0 + 4) + 11 + 2 * (w32 a1)))], s)) from rfl) (fun h => h) H (fun H => ?_)
  obtain ⟨v1, s1, h1, H⟩ := jb_some H
  refine AT.callV (As := []) (cl := 2) (b := ((a0 + 4) + 11 + 2 * (w32 a1))) (st := []) (i := 122) (pos := 4091) kMo_canBeTurnedOut (by decide +kernel) rfl (by decide +kernel) rfl rfl (by omega) (Mo_canBeTurnedOut_ok h1) ?_
  show AT sSe_turnOut 2 (11, [(7, a0), (0, a1), (6, ((a0 + 4) + 11 + 2 * (w32 a1)))], [(0, v1)], s1) o
  refine AT.ite (x := (0, 0, 0)) (by decide +kernel) (show jbr (.ifCond .ne 5) (11, [(7, a0), (0, a1), (6, ((a0 + 4) + 11 + 2 * (w32 a1)))], [(0, v1)], s1) = some ((w32 v1) = 0, (14, [(7, a0), (0, a1), (6, ((a0 + 4) + 11 + 2 * (w32 a1)))], [], s1), (16, [(7, a0), (0, a1), (6, ((a0 + 4) + 11 + 2 * (w32 a1)))], [], s1)) from rfl) H (fun H => ?_) (fun H => ?_)
  · refine AT.seq [(14, .iconst 0, 1, (0, 0, 0))] (by decide +kernel) (show jrun _ (14, [(7, a0), (0, a1), (6, ((a0 + 4) + 11 + 2 * (w32 a1)))], [], s1) = some ([], (15, [(7, a0), (0, a1), (6, ((a0 + 4) + 11 + 2 * (w32 a1)))], [(0, 0)], s1)) from rfl) ?_
    exact AT.retzC (by decide +kernel) (by decide) H
  · refine AT.seq [(16, .aload_n 2, 1, (0, 0, 0)), (17, .iconst 2, 1, (0, 0, 0)), (18, .putfield 106, 3, (1127, 203, 0)), (21, .aload_n 2, 1, (0, 0, 0)), (22, .iconst 0, 1, (0, 0, 0))] (by decide +kernel) (show jrun _ (16, [(7, a0), (0, a1), (6, ((a0 + 4) + 11 + 2 * (w32 a1)))], [], s1) = some ([], (23, [(7, a0), (0, a1), (6, ((a0 + 4) + 11 + 2 * (w32 a1)))], [(0, 0), (6, ((a0 + 4) + 11 + 2 * (w32 a1)))], (jup s1 ((a0 + 4) + 11 + 2 * (w32 a1)) 3 2))) from rfl) ?_
    obtain ⟨v2, s2, h2, H⟩ := jb_some H
    refine AT.callV (As := [(0, 0)]) (cl := 2) (b := ((a0 + 4) + 11 + 2 * (w32 a1))) (st := []) (i := 126) (pos := 4095) kMo_weaken (by decide +kernel) rfl (by decide +kernel) rfl rfl (by omega) (Mo_weaken_ok h2) ?_
    show AT sSe_turnOut 2 (26, [(7, a0), (0, a1), (6, ((a0 + 4) + 11 + 2 * (w32 a1)))], [], s2) o
    refine AT.seq [(26, .iconst 1, 1, (0, 0, 0))] (by decide +kernel) (show jrun _ (26, [(7, a0), (0, a1), (6, ((a0 + 4) + 11 + 2 * (w32 a1)))], [], s2) = some ([], (27, [(7, a0), (0, a1), (6, ((a0 + 4) + 11 + 2 * (w32 a1)))], [(0, 1)], s2)) from rfl) ?_
    exact AT.retzC (by decide +kernel) (by decide) H
def sSe_press : jS := (⟨"JellyCathedral$See", "press", "(I)Z"⟩, prog_8_method_19_code, 3, 3, [7, 0], 0)
theorem kSe_press : jmk sSe_press = true := jmk_of 4107 1003 4105 4106 (by decide +kernel)
theorem Se_press_ok {a0 a1 : Int} {s : jM} {o : Int × jM} (H : Se_press a0 a1 s = some o) : MK sSe_press 2 [(7, a0), (0, a1)] s o := by
  refine MK.of kSe_press rfl ?_
  show AT sSe_press 2 (0, [(7, a0), (0, a1), (99, 0)], [], s) o
  unfold Se_press at H
  refine AT.blk (g := (0 ≤ (w32 a1) ∧ (w32 a1) < 5)) [(0, .aload_n 0, 1, (0, 0, 0)), (1, .getfield 23, 3, (1213, 312, 0)), (4, .iload_n 1, 1, (0, 0, 0)), (5, .aaload, 1, (0, 0, 0)), (6, .astore_n 2, 1, (0, 0, 0)), (7, .aload_n 2, 1, (0, 0, 0)), (8, .getfield 106, 3, (1127, 203, 0)), (11, .iconst 2, 1, (0, 0, 0))] (by decide +kernel) (show jrun _ (0, [(7, a0), (0, a1), (99, 0)], [], s) = some ([(0 ≤ (w32 a1) ∧ (w32 a1) < 5)], (12, [(7, a0), (0, a1), (6, ((a0 + 4) + 11 + 2 * (w32 a1)))], [(0, 2), (0, (s ((a0 + 4) + 11 + 2 * (w32 a1)) 3))], s)) from rfl) (fun h => h) H (fun H => ?_)
  refine AT.ite (x := (0, 0, 0)) (by decide +kernel) (show jbr (.if_icmp .eq 5) (12, [(7, a0), (0, a1), (6, ((a0 + 4) + 11 + 2 * (w32 a1)))], [(0, 2), (0, (s ((a0 + 4) + 11 + 2 * (w32 a1)) 3))], s) = some ((w32 (s ((a0 + 4) + 11 + 2 * (w32 a1)) 3)) = 2, (17, [(7, a0), (0, a1), (6, ((a0 + 4) + 11 + 2 * (w32 a1)))], [], s), (15, [(7, a0), (0, a1), (6, ((a0 + 4) + 11 + 2 * (w32 a1)))], [], s)) from rfl) H (fun H => ?_) (fun H => ?_)
  · refine AT.seq [(17, .aload_n 2, 1, (0, 0, 0)), (18, .aload_n 2, 1, (0, 0, 0)), (19, .getfield 130, 3, (1112, 200, 0)), (22, .bipush 9, 2, (0, 0, 0))] (by decide +kernel) (show jrun _ (17, [(7, a0), (0, a1), (6, ((a0 + 4) + 11 + 2 * (w32 a1)))], [], s) = some ([], (24, [(7, a0), (0, a1), (6, ((a0 + 4) + 11 + 2 * (w32 a1)))], [(0, 9), (0, (s ((a0 + 4) + 11 + 2 * (w32 a1)) 0)), (6, ((a0 + 4) + 11 + 2 * (w32 a1)))], s)) from rfl) ?_
    refine AT.ite (x := (0, 0, 0)) (by decide +kernel) (show jbr (.if_icmp .le 7) (24, [(7, a0), (0, a1), (6, ((a0 + 4) + 11 + 2 * (w32 a1)))], [(0, 9), (0, (s ((a0 + 4) + 11 + 2 * (w32 a1)) 0)), (6, ((a0 + 4) + 11 + 2 * (w32 a1)))], s) = some (9 < (w32 (s ((a0 + 4) + 11 + 2 * (w32 a1)) 0)), (27, [(7, a0), (0, a1), (6, ((a0 + 4) + 11 + 2 * (w32 a1)))], [(6, ((a0 + 4) + 11 + 2 * (w32 a1)))], s), (31, [(7, a0), (0, a1), (6, ((a0 + 4) + 11 + 2 * (w32 a1)))], [(6, ((a0 + 4) + 11 + 2 * (w32 a1)))], s)) from rfl) H (fun H => ?_) (fun H => ?_)
    · refine AT.seq [(27, .iconst 2, 1, (0, 0, 0)), (28, .goto 4, 3, (0, 0, 0))] (by decide +kernel) (show jrun _ (27, [(7, a0), (0, a1), (6, ((a0 + 4) + 11 + 2 * (w32 a1)))], [(6, ((a0 + 4) + 11 + 2 * (w32 a1)))], s) = some ([], (32, [(7, a0), (0, a1), (6, ((a0 + 4) + 11 + 2 * (w32 a1)))], [(0, 2), (6, ((a0 + 4) + 11 + 2 * (w32 a1)))], s)) from rfl) ?_
      obtain ⟨v1, s1, h1, H⟩ := jb_some H
      refine AT.callV (As := [(0, 2)]) (cl := 2) (b := ((a0 + 4) + 11 + 2 * (w32 a1))) (st := []) (i := 126) (pos := 4095) kMo_weaken (by decide +kernel) rfl (by decide +kernel) rfl rfl (by omega) (Mo_weaken_ok h1) ?_
      show AT sSe_press 2 (35, [(7, a0), (0, a1), (6, ((a0 + 4) + 11 + 2 * (w32 a1)))], [], s1) o
      refine AT.seq [(35, .iconst 1, 1, (0, 0, 0))] (by decide +kernel) (show jrun _ (35, [(7, a0), (0, a1), (6, ((a0 + 4) + 11 + 2 * (w32 a1)))], [], s1) = some ([], (36, [(7, a0), (0, a1), (6, ((a0 + 4) + 11 + 2 * (w32 a1)))], [(0, 1)], s1)) from rfl) ?_
      exact AT.retzC (by decide +kernel) (by decide) H
    · refine AT.seq [(31, .iconst 1, 1, (0, 0, 0))] (by decide +kernel) (show jrun _ (31, [(7, a0), (0, a1), (6, ((a0 + 4) + 11 + 2 * (w32 a1)))], [(6, ((a0 + 4) + 11 + 2 * (w32 a1)))], s) = some ([], (32, [(7, a0), (0, a1), (6, ((a0 + 4) + 11 + 2 * (w32 a1)))], [(0, 1), (6, ((a0 + 4) + 11 + 2 * (w32 a1)))], s)) from rfl) ?_
      obtain ⟨v2, s2, h2, H⟩ := jb_some H
      refine AT.callV (As := [(0, 1)]) (cl := 2) (b := ((a0 + 4) + 11 + 2 * (w32 a1))) (st := []) (i := 126) (pos := 4095) kMo_weaken (by decide +kernel) rfl (by decide +kernel) rfl rfl (by omega) (Mo_weaken_ok h2) ?_
      show AT sSe_press 2 (35, [(7, a0), (0, a1), (6, ((a0 + 4) + 11 + 2 * (w32 a1)))], [], s2) o
      refine AT.seq [(35, .iconst 1, 1, (0, 0, 0))] (by decide +kernel) (show jrun _ (35, [(7, a0), (0, a1), (6, ((a0 + 4) + 11 + 2 * (w32 a1)))], [], s2) = some ([], (36, [(7, a0), (0, a1), (6, ((a0 + 4) + 11 + 2 * (w32 a1)))], [(0, 1)], s2)) from rfl) ?_
      exact AT.retzC (by decide +kernel) (by decide) H
  · refine AT.seq [(15, .iconst 0, 1, (0, 0, 0))] (by decide +kernel) (show jrun _ (15, [(7, a0), (0, a1), (6, ((a0 + 4) + 11 + 2 * (w32 a1)))], [], s) = some ([], (16, [(7, a0), (0, a1), (6, ((a0 + 4) + 11 + 2 * (w32 a1)))], [(0, 0)], s)) from rfl) ?_
    exact AT.retzC (by decide +kernel) (by decide) H
def sSe_isPlace : jS := (⟨"JellyCathedral$See", "isPlace", "(I)Z"⟩, prog_8_method_5_code, 2, 3, [7, 0], 0)
theorem kSe_isPlace : jmk sSe_isPlace = true := jmk_of 4115 1003 4113 4114 (by decide +kernel)
theorem Se_isPlace_ok {a0 a1 : Int} {s : jM} {o : Int × jM} (H : Se_isPlace a0 a1 s = some o) : MK sSe_isPlace 0 [(7, a0), (0, a1)] s o := by
  refine MK.of kSe_isPlace rfl ?_
  show AT sSe_isPlace 0 (0, [(7, a0), (0, a1)], [], s) o
  unfold Se_isPlace at H
  refine AT.seq [(0, .iload_n 1, 1, (0, 0, 0))] (by decide +kernel) (show jrun _ (0, [(7, a0), (0, a1)], [], s) = some ([], (1, [(7, a0), (0, a1)], [(0, a1)], s)) from rfl) ?_
  refine AT.ite (x := (0, 0, 0)) (by decide +kernel) (show jbr (.ifCond .lt 15) (1, [(7, a0), (0, a1)], [(0, a1)], s) = some ((w32 a1) < 0, (16, [(7, a0), (0, a1)], [], s), (4, [(7, a0), (0, a1)], [], s)) from rfl) H (fun H => ?_) (fun H => ?_)
  · refine AT.seq [(16, .iconst 0, 1, (0, 0, 0))] (by decide +kernel) (show jrun _ (16, [(7, a0), (0, a1)], [], s) = some ([], (17, [(7, a0), (0, a1)], [(0, 0)], s)) from rfl) ?_
    exact AT.retzC (by decide +kernel) (by decide) H
  · refine AT.seq [(4, .iload_n 1, 1, (0, 0, 0)), (5, .aload_n 0, 1, (0, 0, 0)), (6, .getfield 67, 3, (1189, 305, 0))] (by decide +kernel) (show jrun _ (4, [(7, a0), (0, a1)], [], s) = some ([], (9, [(7, a0), (0, a1)], [(0, (s a0 5)), (0, a1)], s)) from rfl) ?_
    refine AT.ite (x := (0, 0, 0)) (by decide +kernel) (show jbr (.if_icmp .ge 7) (9, [(7, a0), (0, a1)], [(0, (s a0 5)), (0, a1)], s) = some ((w32 a1) < (w32 (s a0 5)), (12, [(7, a0), (0, a1)], [], s), (16, [(7, a0), (0, a1)], [], s)) from rfl) H (fun H => ?_) (fun H => ?_)
    · refine AT.seq [(12, .iconst 1, 1, (0, 0, 0)), (13, .goto 4, 3, (0, 0, 0))] (by decide +kernel) (show jrun _ (12, [(7, a0), (0, a1)], [], s) = some ([], (17, [(7, a0), (0, a1)], [(0, 1)], s)) from rfl) ?_
      exact AT.retzC (by decide +kernel) (by decide) H
    · refine AT.seq [(16, .iconst 0, 1, (0, 0, 0))] (by decide +kernel) (show jrun _ (16, [(7, a0), (0, a1)], [], s) = some ([], (17, [(7, a0), (0, a1)], [(0, 0)], s)) from rfl) ?_
      exact AT.retzC (by decide +kernel) (by decide) H
def sSe_shakesBetween : jS := (⟨"JellyCathedral$See", "shakesBetween", "(II)I"⟩, prog_8_method_12_code, 4, 1, [7, 0, 0], 0)
theorem kSe_shakesBetween : jmk sSe_shakesBetween = true := jmk_of 4119 1003 4117 4118 (by decide +kernel)
theorem Se_shakesBetween_ok {a0 a1 a2 : Int} {s : jM} {o : Int × jM} (H : Se_shakesBetween a0 a1 a2 s = some o) : MK sSe_shakesBetween 1 [(7, a0), (0, a1), (0, a2)] s o := by
  refine MK.of kSe_shakesBetween rfl ?_
  show AT sSe_shakesBetween 1 (0, [(7, a0), (0, a1), (0, a2), (99, 0)], [], s) o
  unfold Se_shakesBetween at H
  refine AT.seq [(0, .aload_n 0, 1, (0, 0, 0)), (1, .iload_n 1, 1, (0, 0, 0)), (2, .iload_n 2, 1, (0, 0, 0))] (by decide +kernel) (show jrun _ (0, [(7, a0), (0, a1), (0, a2), (99, 0)], [], s) = some ([], (3, [(7, a0), (0, a1), (0, a2), (99, 0)], [(0, a2), (0, a1), (7, a0)], s)) from rfl) ?_
  obtain ⟨v1, s1, h1, H⟩ := jb_some H
  refine AT.callV (As := [(0, a1), (0, a2)]) (cl := 3) (b := a0) (st := []) (i := 100) (pos := 3207) kSe_wayLength (by decide +kernel) rfl (by decide +kernel) rfl rfl (by omega) (Se_wayLength_ok h1) ?_
  show AT sSe_shakesBetween 1 (6, [(7, a0), (0, a1), (0, a2), (99, 0)], [(0, v1)], s1) o
  refine AT.seq [(6, .istore_n 3, 1, (0, 0, 0)), (7, .iload_n 3, 1, (0, 0, 0)), (8, .ldc 79, 2, (1168, 0, 1000000))] (by decide +kernel) (show jrun _ (6, [(7, a0), (0, a1), (0, a2), (99, 0)], [(0, v1)], s1) = some ([], (10, [(7, a0), (0, a1), (0, a2), (0, v1)], [(0, 1000000), (0, v1)], s1)) from rfl) ?_
  refine AT.ite (x := (0, 0, 0)) (by decide +kernel) (show jbr (.if_icmp .lt 7) (10, [(7, a0), (0, a1), (0, a2), (0, v1)], [(0, 1000000), (0, v1)], s1) = some ((w32 v1) < 1000000, (17, [(7, a0), (0, a1), (0, a2), (0, v1)], [], s1), (13, [(7, a0), (0, a1), (0, a2), (0, v1)], [], s1)) from rfl) H (fun H => ?_) (fun H => ?_)
  · refine AT.row [(17, .iload_n 3, 1, (0, 0, 0)), (18, .bipush 64, 2, (0, 0, 0)), (20, .idiv, 1, (0, 0, 0))] (by decide +kernel) (show jrun _ (17, [(7, a0), (0, a1), (0, a2), (0, v1)], [], s1) = some ([¬ (64 : Int) = 0], (21, [(7, a0), (0, a1), (0, a2), (0, v1)], [(0, (jdiv v1 64))], s1)) from rfl) (show ¬ (64 : Int) = 0 from by decide) ?_
    exact AT.retiH (by decide +kernel) H
  · refine AT.seq [(13, .iconst (-1), 1, (0, 0, 0)), (14, .goto 7, 3, (0, 0, 0))] (by decide +kernel) (show jrun _ (13, [(7, a0), (0, a1), (0, a2), (0, v1)], [], s1) = some ([], (21, [(7, a0), (0, a1), (0, a2), (0, v1)], [(0, (-1))], s1)) from rfl) ?_
    exact AT.retiH (by decide +kernel) H
def sSe_bring : jS := (⟨"JellyCathedral$See", "bring", "(II)Z"⟩, prog_8_method_20_code, 5, 3, [7, 0, 0], 0)
theorem kSe_bring : jmk sSe_bring = true := jmk_of 4123 1003 4121 4122 (by decide +kernel)
theorem Se_bring_ok {a0 a1 a2 : Int} {s : jM} {o : Int × jM} (H : Se_bring a0 a1 a2 s = some o) : MK sSe_bring 2 [(7, a0), (0, a1), (0, a2)] s o := by
  refine MK.of kSe_bring rfl ?_
  show AT sSe_bring 2 (0, [(7, a0), (0, a1), (0, a2), (99, 0), (99, 0)], [], s) o
  unfold Se_bring at H
  refine AT.blk (g := (0 ≤ (w32 a1) ∧ (w32 a1) < 5)) [(0, .aload_n 0, 1, (0, 0, 0)), (1, .getfield 23, 3, (1213, 312, 0)), (4, .iload_n 1, 1, (0, 0, 0)), (5, .aaload, 1, (0, 0, 0)), (6, .astore_n 3, 1, (0, 0, 0)), (7, .aload_n 0, 1, (0, 0, 0)), (8, .aload_n 3, 1, (0, 0, 0)), (9, .getfield 133, 3, (1122, 202, 0)), (12, .iload_n 2, 1, (0, 0, 0))] (by decide +kernel) (show jrun _ (0, [(7, a0), (0, a1), (0, a2), (99, 0), (99, 0)], [], s) = some ([(0 ≤ (w32 a1) ∧ (w32 a1) < 5)], (13, [(7, a0), (0, a1), (0, a2), (6, ((a0 + 4) + 11 + 2 * (w32 a1))), (99, 0)], [(0, a2), (0, (s ((a0 + 4) + 11 + 2 * (w32 a1)) 2)), (7, a0)], s)) from rfl) (fun h => h) H (fun H => ?_)
  obtain ⟨v1, s1, h1, H⟩ := jb_some H
  refine AT.callV (As := [(0, (s ((a0 + 4) + 11 + 2 * (w32 a1)) 2)), (0, a2)]) (cl := 3) (b := a0) (st := []) (i := 136) (pos := 4124) kSe_shakesBetween (by decide +kernel) rfl (by decide +kernel) rfl rfl (by omega) (Se_shakesBetween_ok h1) ?_
  show AT sSe_bring 2 (16, [(7, a0), (0, a1), (0, a2), (6, ((a0 + 4) + 11 + 2 * (w32 a1))), (99, 0)], [(0, v1)], s1) o
  refine AT.seq [(16, .istore 4, 2, (0, 0, 0)), (18, .aload_n 3, 1, (0, 0, 0)), (19, .getfield 133, 3, (1122, 202, 0)), (22, .iload_n 2, 1, (0, 0, 0))] (by decide +kernel) (show jrun _ (16, [(7, a0), (0, a1), (0, a2), (6, ((a0 + 4) + 11 + 2 * (w32 a1))), (99, 0)], [(0, v1)], s1) = some ([], (23, [(7, a0), (0, a1), (0, a2), (6, ((a0 + 4) + 11 + 2 * (w32 a1))), (0, v1)], [(0, a2), (0, (s1 ((a0 + 4) + 11 + 2 * (w32 a1)) 2))], s1)) from rfl) ?_
  refine AT.ite (x := (0, 0, 0)) (by decide +kernel) (show jbr (.if_icmp .eq 9) (23, [(7, a0), (0, a1), (0, a2), (6, ((a0 + 4) + 11 + 2 * (w32 a1))), (0, v1)], [(0, a2), (0, (s1 ((a0 + 4) + 11 + 2 * (w32 a1)) 2))], s1) = some ((w32 (s1 ((a0 + 4) + 11 + 2 * (w32 a1)) 2)) = (w32 a2), (32, [(7, a0), (0, a1), (0, a2), (6, ((a0 + 4) + 11 + 2 * (w32 a1))), (0, v1)], [], s1), (26, [(7, a0), (0, a1), (0, a2), (6, ((a0 + 4) + 11 + 2 * (w32 a1))), (0, v1)], [], s1)) from rfl) H (fun H => ?_) (fun H => ?_)
  · refine AT.seq [(32, .iconst 0, 1, (0, 0, 0))] (by decide +kernel) (show jrun _ (32, [(7, a0), (0, a1), (0, a2), (6, ((a0 + 4) + 11 + 2 * (w32 a1))), (0, v1)], [], s1) = some ([], (33, [(7, a0), (0, a1), (0, a2), (6, ((a0 + 4) + 11 + 2 * (w32 a1))), (0, v1)], [(0, 0)], s1)) from rfl) ?_
    exact AT.retzC (by decide +kernel) (by decide) H
  · refine AT.seq [(26, .iload 4, 2, (0, 0, 0)), (28, .iconst (-1), 1, (0, 0, 0))] (by decide +kernel) (show jrun _ (26, [(7, a0), (0, a1), (0, a2), (6, ((a0 + 4) + 11 + 2 * (w32 a1))), (0, v1)], [], s1) = some ([], (29, [(7, a0), (0, a1), (0, a2), (6, ((a0 + 4) + 11 + 2 * (w32 a1))), (0, v1)], [(0, (-1)), (0, v1)], s1)) from rfl) ?_
    refine AT.ite (x := (0, 0, 0)) (by decide +kernel) (show jbr (.if_icmp .ne 5) (29, [(7, a0), (0, a1), (0, a2), (6, ((a0 + 4) + 11 + 2 * (w32 a1))), (0, v1)], [(0, (-1)), (0, v1)], s1) = some ((w32 v1) = (-1), (32, [(7, a0), (0, a1), (0, a2), (6, ((a0 + 4) + 11 + 2 * (w32 a1))), (0, v1)], [], s1), (34, [(7, a0), (0, a1), (0, a2), (6, ((a0 + 4) + 11 + 2 * (w32 a1))), (0, v1)], [], s1)) from rfl) H (fun H => ?_) (fun H => ?_)
    · refine AT.seq [(32, .iconst 0, 1, (0, 0, 0))] (by decide +kernel) (show jrun _ (32, [(7, a0), (0, a1), (0, a2), (6, ((a0 + 4) + 11 + 2 * (w32 a1))), (0, v1)], [], s1) = some ([], (33, [(7, a0), (0, a1), (0, a2), (6, ((a0 + 4) + 11 + 2 * (w32 a1))), (0, v1)], [(0, 0)], s1)) from rfl) ?_
      exact AT.retzC (by decide +kernel) (by decide) H
    · refine AT.seq [(34, .aload_n 3, 1, (0, 0, 0)), (35, .iload_n 2, 1, (0, 0, 0)), (36, .putfield 133, 3, (1122, 202, 0)), (39, .aload_n 3, 1, (0, 0, 0)), (40, .iload 4, 2, (0, 0, 0))] (by decide +kernel) (show jrun _ (34, [(7, a0), (0, a1), (0, a2), (6, ((a0 + 4) + 11 + 2 * (w32 a1))), (0, v1)], [], s1) = some ([], (42, [(7, a0), (0, a1), (0, a2), (6, ((a0 + 4) + 11 + 2 * (w32 a1))), (0, v1)], [(0, v1), (6, ((a0 + 4) + 11 + 2 * (w32 a1)))], (jup s1 ((a0 + 4) + 11 + 2 * (w32 a1)) 2 a2))) from rfl) ?_
      obtain ⟨v2, s2, h2, H⟩ := jb_some H
      refine AT.callV (As := [(0, v1)]) (cl := 2) (b := ((a0 + 4) + 11 + 2 * (w32 a1))) (st := []) (i := 126) (pos := 4095) kMo_weaken (by decide +kernel) rfl (by decide +kernel) rfl rfl (by omega) (Mo_weaken_ok h2) ?_
      show AT sSe_bring 2 (45, [(7, a0), (0, a1), (0, a2), (6, ((a0 + 4) + 11 + 2 * (w32 a1))), (0, v1)], [], s2) o
      refine AT.seq [(45, .iconst 1, 1, (0, 0, 0))] (by decide +kernel) (show jrun _ (45, [(7, a0), (0, a1), (0, a2), (6, ((a0 + 4) + 11 + 2 * (w32 a1))), (0, v1)], [], s2) = some ([], (46, [(7, a0), (0, a1), (0, a2), (6, ((a0 + 4) + 11 + 2 * (w32 a1))), (0, v1)], [(0, 1)], s2)) from rfl) ?_
      exact AT.retzC (by decide +kernel) (by decide) H
def sSe_passMinutes : jS := (⟨"JellyCathedral$See", "passMinutes", "(I)Z"⟩, prog_8_method_21_code, 3, 3, [7, 0], 0)
theorem kSe_passMinutes : jmk sSe_passMinutes = true := jmk_of 4132 1003 4130 4131 (by decide +kernel)
theorem Se_passMinutes_16_ok {o : Int × jM} : ∀ (n : Nat) (x0 x1 x2 : Int) (s : jM), Se_passMinutes_16  n x0 x1 x2 s = some o → AT sSe_passMinutes 3 (16, [(7, x0), (0, x1), (0, x2)], [], s) o := by
  intro n
  induction n with
  | zero =>
    intro x0 x1 x2 s H
    have H : (none : Option (Int × jM)) = some o := H
    cases H
  | succ n ih =>
    intro x0 x1 x2 s H
    rw [Se_passMinutes_16] at H
    refine AT.seq [(16, .iload_n 2, 1, (0, 0, 0)), (17, .aload_n 0, 1, (0, 0, 0)), (18, .getfield 70, 3, (1192, 306, 0))] (by decide +kernel) (show jrun _ (16, [(7, x0), (0, x1), (0, x2)], [], s) = some ([], (21, [(7, x0), (0, x1), (0, x2)], [(0, (s x0 6)), (0, x2)], s)) from rfl) ?_
    refine AT.ite (x := (0, 0, 0)) (by decide +kernel) (show jbr (.if_icmp .ge 23) (21, [(7, x0), (0, x1), (0, x2)], [(0, (s x0 6)), (0, x2)], s) = some ((w32 x2) < (w32 (s x0 6)), (24, [(7, x0), (0, x1), (0, x2)], [], s), (44, [(7, x0), (0, x1), (0, x2)], [], s)) from rfl) H (fun H => ?_) (fun H => ?_)
    · refine AT.blk (g := (0 ≤ (w32 x2) ∧ (w32 x2) < 5)) [(24, .aload_n 0, 1, (0, 0, 0)), (25, .getfield 23, 3, (1213, 312, 0)), (28, .iload_n 2, 1, (0, 0, 0)), (29, .aaload, 1, (0, 0, 0)), (30, .aload_n 0, 1, (0, 0, 0)), (31, .getfield 51, 3, (1173, 300, 0)), (34, .iload_n 1, 1, (0, 0, 0))] (by decide +kernel) (show jrun _ (24, [(7, x0), (0, x1), (0, x2)], [], s) = some ([(0 ≤ (w32 x2) ∧ (w32 x2) < 5)], (35, [(7, x0), (0, x1), (0, x2)], [(0, x1), (0, (s x0 0)), (6, ((x0 + 4) + 11 + 2 * (w32 x2)))], s)) from rfl) (fun h => h) H (fun H => ?_)
      obtain ⟨v1, s1, h1, H⟩ := jb_some H
      refine AT.callV (As := [(0, (s x0 0)), (0, x1)]) (cl := 2) (b := ((x0 + 4) + 11 + 2 * (w32 x2))) (st := []) (i := 139) (pos := 4133) kMo_rest (by decide +kernel) rfl (by decide +kernel) rfl rfl (by omega) (Mo_rest_ok h1) ?_
      show AT sSe_passMinutes 3 (38, [(7, x0), (0, x1), (0, x2)], [], s1) o
      refine AT.seq [(38, .iinc 2 1, 3, (0, 0, 0)), (41, .goto (-25), 3, (0, 0, 0))] (by decide +kernel) (show jrun _ (38, [(7, x0), (0, x1), (0, x2)], [], s1) = some ([], (16, [(7, x0), (0, x1), (0, (x2 + 1))], [], s1)) from rfl) ?_
      exact ih _ _ _ _ H
    · refine AT.seq [(44, .aload_n 0, 1, (0, 0, 0)), (45, .dup, 1, (0, 0, 0)), (46, .getfield 58, 3, (1180, 302, 0)), (49, .iload_n 1, 1, (0, 0, 0)), (50, .iadd, 1, (0, 0, 0)), (51, .putfield 58, 3, (1180, 302, 0)), (54, .iconst 1, 1, (0, 0, 0))] (by decide +kernel) (show jrun _ (44, [(7, x0), (0, x1), (0, x2)], [], s) = some ([], (55, [(7, x0), (0, x1), (0, x2)], [(0, 1)], (jup s x0 2 ((s x0 2) + x1)))) from rfl) ?_
      exact AT.retzC (by decide +kernel) (by decide) H
theorem Se_passMinutes_ok {a0 a1 : Int} {s : jM} {o : Int × jM} (H : Se_passMinutes a0 a1 s = some o) : MK sSe_passMinutes 3 [(7, a0), (0, a1)] s o := by
  refine MK.of kSe_passMinutes rfl ?_
  show AT sSe_passMinutes 3 (0, [(7, a0), (0, a1), (99, 0)], [], s) o
  unfold Se_passMinutes at H
  refine AT.seq [(0, .aload_n 0, 1, (0, 0, 0)), (1, .getfield 58, 3, (1180, 302, 0)), (4, .iload_n 1, 1, (0, 0, 0)), (5, .iadd, 1, (0, 0, 0)), (6, .sipush 9999, 3, (0, 0, 0))] (by decide +kernel) (show jrun _ (0, [(7, a0), (0, a1), (99, 0)], [], s) = some ([], (9, [(7, a0), (0, a1), (99, 0)], [(0, 9999), (0, ((s a0 2) + a1))], s)) from rfl) ?_
  refine AT.ite (x := (0, 0, 0)) (by decide +kernel) (show jbr (.if_icmp .le 5) (9, [(7, a0), (0, a1), (99, 0)], [(0, 9999), (0, ((s a0 2) + a1))], s) = some (9999 < (w32 ((s a0 2) + a1)), (12, [(7, a0), (0, a1), (99, 0)], [], s), (14, [(7, a0), (0, a1), (99, 0)], [], s)) from rfl) H (fun H => ?_) (fun H => ?_)
  · refine AT.seq [(12, .iconst 0, 1, (0, 0, 0))] (by decide +kernel) (show jrun _ (12, [(7, a0), (0, a1), (99, 0)], [], s) = some ([], (13, [(7, a0), (0, a1), (99, 0)], [(0, 0)], s)) from rfl) ?_
    exact AT.retzC (by decide +kernel) (by decide) H
  · refine AT.seq [(14, .iconst 0, 1, (0, 0, 0)), (15, .istore_n 2, 1, (0, 0, 0))] (by decide +kernel) (show jrun _ (14, [(7, a0), (0, a1), (99, 0)], [], s) = some ([], (16, [(7, a0), (0, a1), (0, 0)], [], s)) from rfl) ?_
    exact Se_passMinutes_16_ok  jFU _ _ _ _ H
def sSe_heatTo : jS := (⟨"JellyCathedral$See", "heatTo", "(I)Z"⟩, prog_8_method_22_code, 2, 3, [7, 0], 0)
theorem kSe_heatTo : jmk sSe_heatTo = true := jmk_of 4150 1003 4148 4149 (by decide +kernel)
theorem Se_heatTo_ok {a0 a1 : Int} {s : jM} {o : Int × jM} (H : Se_heatTo a0 a1 s = some o) : MK sSe_heatTo 0 [(7, a0), (0, a1)] s o := by
  refine MK.of kSe_heatTo rfl ?_
  show AT sSe_heatTo 0 (0, [(7, a0), (0, a1)], [], s) o
  unfold Se_heatTo at H
  refine AT.seq [(0, .aload_n 0, 1, (0, 0, 0)), (1, .getfield 51, 3, (1173, 300, 0)), (4, .iload_n 1, 1, (0, 0, 0))] (by decide +kernel) (show jrun _ (0, [(7, a0), (0, a1)], [], s) = some ([], (5, [(7, a0), (0, a1)], [(0, a1), (0, (s a0 0))], s)) from rfl) ?_
  refine AT.ite (x := (0, 0, 0)) (by decide +kernel) (show jbr (.if_icmp .ne 5) (5, [(7, a0), (0, a1)], [(0, a1), (0, (s a0 0))], s) = some ((w32 (s a0 0)) = (w32 a1), (8, [(7, a0), (0, a1)], [], s), (10, [(7, a0), (0, a1)], [], s)) from rfl) H (fun H => ?_) (fun H => ?_)
  · refine AT.seq [(8, .iconst 0, 1, (0, 0, 0))] (by decide +kernel) (show jrun _ (8, [(7, a0), (0, a1)], [], s) = some ([], (9, [(7, a0), (0, a1)], [(0, 0)], s)) from rfl) ?_
    exact AT.retzC (by decide +kernel) (by decide) H
  · refine AT.seq [(10, .aload_n 0, 1, (0, 0, 0)), (11, .iload_n 1, 1, (0, 0, 0)), (12, .putfield 51, 3, (1173, 300, 0)), (15, .iconst 1, 1, (0, 0, 0))] (by decide +kernel) (show jrun _ (10, [(7, a0), (0, a1)], [], s) = some ([], (16, [(7, a0), (0, a1)], [(0, 1)], (jup s a0 0 a1))) from rfl) ?_
    exact AT.retzC (by decide +kernel) (by decide) H
def sSe_stepTowards : jS := (⟨"JellyCathedral$See", "stepTowards", "(II)I"⟩, prog_8_method_15_code, 6, 1, [7, 0, 0], 0)
theorem kSe_stepTowards : jmk sSe_stepTowards = true := jmk_of 5013 1003 5011 5012 (by decide +kernel)
theorem Se_stepTowards_10_ok {o : Int × jM} : ∀ (n : Nat) (x0 x1 x2 x3 x4 : Int) (s : jM), Se_stepTowards_10  n x0 x1 x2 x3 x4 s = some o → AT sSe_stepTowards 1 (10, [(7, x0), (0, x1), (0, x2), (0, x3), (0, x4), (99, 0)], [], s) o := by
  intro n
  induction n with
  | zero =>
    intro x0 x1 x2 x3 x4 s H
    have H : (none : Option (Int × jM)) = some o := H
    cases H
  | succ n ih =>
    intro x0 x1 x2 x3 x4 s H
    rw [Se_stepTowards_10] at H
    refine AT.seq [(10, .iload 4, 2, (0, 0, 0)), (12, .aload_n 0, 1, (0, 0, 0)), (13, .getfield 67, 3, (1189, 305, 0))] (by decide +kernel) (show jrun _ (10, [(7, x0), (0, x1), (0, x2), (0, x3), (0, x4), (99, 0)], [], s) = some ([], (16, [(7, x0), (0, x1), (0, x2), (0, x3), (0, x4), (99, 0)], [(0, (s x0 5)), (0, x4)], s)) from rfl) ?_
    refine AT.ite (x := (0, 0, 0)) (by decide +kernel) (show jbr (.if_icmp .ge 51) (16, [(7, x0), (0, x1), (0, x2), (0, x3), (0, x4), (99, 0)], [(0, (s x0 5)), (0, x4)], s) = some ((w32 x4) < (w32 (s x0 5)), (19, [(7, x0), (0, x1), (0, x2), (0, x3), (0, x4), (99, 0)], [], s), (67, [(7, x0), (0, x1), (0, x2), (0, x3), (0, x4), (99, 0)], [], s)) from rfl) H (fun H => ?_) (fun H => ?_)
    · refine AT.seq [(19, .aload_n 0, 1, (0, 0, 0)), (20, .iload_n 1, 1, (0, 0, 0)), (21, .iload 4, 2, (0, 0, 0))] (by decide +kernel) (show jrun _ (19, [(7, x0), (0, x1), (0, x2), (0, x3), (0, x4), (99, 0)], [], s) = some ([], (23, [(7, x0), (0, x1), (0, x2), (0, x3), (0, x4), (99, 0)], [(0, x4), (0, x1), (7, x0)], s)) from rfl) ?_
      obtain ⟨v1, s1, h1, H⟩ := jb_some H
      refine AT.callV (As := [(0, x1), (0, x4)]) (cl := 3) (b := x0) (st := []) (i := 100) (pos := 3207) kSe_wayLength (by decide +kernel) rfl (by decide +kernel) rfl rfl (by omega) (Se_wayLength_ok h1) ?_
      show AT sSe_stepTowards 1 (26, [(7, x0), (0, x1), (0, x2), (0, x3), (0, x4), (99, 0)], [(0, v1)], s1) o
      refine AT.row [(26, .istore 5, 2, (0, 0, 0)), (28, .iload 5, 2, (0, 0, 0)), (30, .bipush 64, 2, (0, 0, 0)), (32, .irem, 1, (0, 0, 0)), (33, .iconst 1, 1, (0, 0, 0))] (by decide +kernel) (show jrun _ (26, [(7, x0), (0, x1), (0, x2), (0, x3), (0, x4), (99, 0)], [(0, v1)], s1) = some ([¬ (64 : Int) = 0], (34, [(7, x0), (0, x1), (0, x2), (0, x3), (0, x4), (0, v1)], [(0, 1), (0, (jrem v1 64))], s1)) from rfl) (show ¬ (64 : Int) = 0 from by decide) ?_
      refine AT.ite (x := (0, 0, 0)) (by decide +kernel) (show jbr (.if_icmp .ne 27) (34, [(7, x0), (0, x1), (0, x2), (0, x3), (0, x4), (0, v1)], [(0, 1), (0, (jrem v1 64))], s1) = some ((w32 (jrem v1 64)) = 1, (37, [(7, x0), (0, x1), (0, x2), (0, x3), (0, x4), (0, v1)], [], s1), (61, [(7, x0), (0, x1), (0, x2), (0, x3), (0, x4), (0, v1)], [], s1)) from rfl) H (fun H => ?_) (fun H => ?_)
      · refine AT.seq [(37, .iload 5, 2, (0, 0, 0)), (39, .ldc 79, 2, (1168, 0, 1000000))] (by decide +kernel) (show jrun _ (37, [(7, x0), (0, x1), (0, x2), (0, x3), (0, x4), (0, v1)], [], s1) = some ([], (41, [(7, x0), (0, x1), (0, x2), (0, x3), (0, x4), (0, v1)], [(0, 1000000), (0, v1)], s1)) from rfl) ?_
        refine AT.ite (x := (0, 0, 0)) (by decide +kernel) (show jbr (.if_icmp .ge 20) (41, [(7, x0), (0, x1), (0, x2), (0, x3), (0, x4), (0, v1)], [(0, 1000000), (0, v1)], s1) = some ((w32 v1) < 1000000, (44, [(7, x0), (0, x1), (0, x2), (0, x3), (0, x4), (0, v1)], [], s1), (61, [(7, x0), (0, x1), (0, x2), (0, x3), (0, x4), (0, v1)], [], s1)) from rfl) H (fun H => ?_) (fun H => ?_)
        · refine AT.seq [(44, .iload 5, 2, (0, 0, 0)), (46, .aload_n 0, 1, (0, 0, 0)), (47, .iload 4, 2, (0, 0, 0)), (49, .iload_n 2, 1, (0, 0, 0))] (by decide +kernel) (show jrun _ (44, [(7, x0), (0, x1), (0, x2), (0, x3), (0, x4), (0, v1)], [], s1) = some ([], (50, [(7, x0), (0, x1), (0, x2), (0, x3), (0, x4), (0, v1)], [(0, x2), (0, x4), (7, x0), (0, v1)], s1)) from rfl) ?_
          obtain ⟨v2, s2, h2, H⟩ := jb_some H
          refine AT.callV (As := [(0, x4), (0, x2)]) (cl := 3) (b := x0) (st := [(0, v1)]) (i := 100) (pos := 3207) kSe_wayLength (by decide +kernel) rfl (by decide +kernel) rfl rfl (by omega) (Se_wayLength_ok h2) ?_
          show AT sSe_stepTowards 1 (53, [(7, x0), (0, x1), (0, x2), (0, x3), (0, x4), (0, v1)], [(0, v2), (0, v1)], s2) o
          refine AT.seq [(53, .iadd, 1, (0, 0, 0)), (54, .iload_n 3, 1, (0, 0, 0))] (by decide +kernel) (show jrun _ (53, [(7, x0), (0, x1), (0, x2), (0, x3), (0, x4), (0, v1)], [(0, v2), (0, v1)], s2) = some ([], (55, [(7, x0), (0, x1), (0, x2), (0, x3), (0, x4), (0, v1)], [(0, x3), (0, (v1 + v2))], s2)) from rfl) ?_
          refine AT.ite (x := (0, 0, 0)) (by decide +kernel) (show jbr (.if_icmp .ne 6) (55, [(7, x0), (0, x1), (0, x2), (0, x3), (0, x4), (0, v1)], [(0, x3), (0, (v1 + v2))], s2) = some ((w32 (v1 + v2)) = (w32 x3), (58, [(7, x0), (0, x1), (0, x2), (0, x3), (0, x4), (0, v1)], [], s2), (61, [(7, x0), (0, x1), (0, x2), (0, x3), (0, x4), (0, v1)], [], s2)) from rfl) H (fun H => ?_) (fun H => ?_)
          · refine AT.seq [(58, .iload 4, 2, (0, 0, 0))] (by decide +kernel) (show jrun _ (58, [(7, x0), (0, x1), (0, x2), (0, x3), (0, x4), (0, v1)], [], s2) = some ([], (60, [(7, x0), (0, x1), (0, x2), (0, x3), (0, x4), (0, v1)], [(0, x4)], s2)) from rfl) ?_
            exact AT.retiH (by decide +kernel) H
          · refine AT.seq [(61, .iinc 4 1, 3, (0, 0, 0)), (64, .goto (-54), 3, (0, 0, 0))] (by decide +kernel) (show jrun _ (61, [(7, x0), (0, x1), (0, x2), (0, x3), (0, x4), (0, v1)], [], s2) = some ([], (10, [(7, x0), (0, x1), (0, x2), (0, x3), (0, (x4 + 1)), (0, v1)], [], s2)) from rfl) ?_
            exact AT.weak (L' := [(7, x0), (0, x1), (0, x2), (0, x3), (0, (x4 + 1)), (99, 0)]) (jleK (jleK (jleK (jleK (jleK (jleJ jle0)))))) (ih _ _ _ _ _ _ H)
        · refine AT.seq [(61, .iinc 4 1, 3, (0, 0, 0)), (64, .goto (-54), 3, (0, 0, 0))] (by decide +kernel) (show jrun _ (61, [(7, x0), (0, x1), (0, x2), (0, x3), (0, x4), (0, v1)], [], s1) = some ([], (10, [(7, x0), (0, x1), (0, x2), (0, x3), (0, (x4 + 1)), (0, v1)], [], s1)) from rfl) ?_
          exact AT.weak (L' := [(7, x0), (0, x1), (0, x2), (0, x3), (0, (x4 + 1)), (99, 0)]) (jleK (jleK (jleK (jleK (jleK (jleJ jle0)))))) (ih _ _ _ _ _ _ H)
      · refine AT.seq [(61, .iinc 4 1, 3, (0, 0, 0)), (64, .goto (-54), 3, (0, 0, 0))] (by decide +kernel) (show jrun _ (61, [(7, x0), (0, x1), (0, x2), (0, x3), (0, x4), (0, v1)], [], s1) = some ([], (10, [(7, x0), (0, x1), (0, x2), (0, x3), (0, (x4 + 1)), (0, v1)], [], s1)) from rfl) ?_
        exact AT.weak (L' := [(7, x0), (0, x1), (0, x2), (0, x3), (0, (x4 + 1)), (99, 0)]) (jleK (jleK (jleK (jleK (jleK (jleJ jle0)))))) (ih _ _ _ _ _ _ H)
    · refine AT.seq [(67, .iload_n 1, 1, (0, 0, 0))] (by decide +kernel) (show jrun _ (67, [(7, x0), (0, x1), (0, x2), (0, x3), (0, x4), (99, 0)], [], s) = some ([], (68, [(7, x0), (0, x1), (0, x2), (0, x3), (0, x4), (99, 0)], [(0, x1)], s)) from rfl) ?_
      exact AT.retiH (by decide +kernel) H
theorem Se_stepTowards_ok {a0 a1 a2 : Int} {s : jM} {o : Int × jM} (H : Se_stepTowards a0 a1 a2 s = some o) : MK sSe_stepTowards 1 [(7, a0), (0, a1), (0, a2)] s o := by
  refine MK.of kSe_stepTowards rfl ?_
  show AT sSe_stepTowards 1 (0, [(7, a0), (0, a1), (0, a2), (99, 0), (99, 0), (99, 0)], [], s) o
  unfold Se_stepTowards at H
  refine AT.seq [(0, .aload_n 0, 1, (0, 0, 0)), (1, .iload_n 1, 1, (0, 0, 0)), (2, .iload_n 2, 1, (0, 0, 0))] (by decide +kernel) (show jrun _ (0, [(7, a0), (0, a1), (0, a2), (99, 0), (99, 0), (99, 0)], [], s) = some ([], (3, [(7, a0), (0, a1), (0, a2), (99, 0), (99, 0), (99, 0)], [(0, a2), (0, a1), (7, a0)], s)) from rfl) ?_
  obtain ⟨v3, s3, h3, H⟩ := jb_some H
  refine AT.callV (As := [(0, a1), (0, a2)]) (cl := 3) (b := a0) (st := []) (i := 100) (pos := 3207) kSe_wayLength (by decide +kernel) rfl (by decide +kernel) rfl rfl (by omega) (Se_wayLength_ok h3) ?_
  show AT sSe_stepTowards 1 (6, [(7, a0), (0, a1), (0, a2), (99, 0), (99, 0), (99, 0)], [(0, v3)], s3) o
  refine AT.seq [(6, .istore_n 3, 1, (0, 0, 0)), (7, .iconst 0, 1, (0, 0, 0)), (8, .istore 4, 2, (0, 0, 0))] (by decide +kernel) (show jrun _ (6, [(7, a0), (0, a1), (0, a2), (99, 0), (99, 0), (99, 0)], [(0, v3)], s3) = some ([], (10, [(7, a0), (0, a1), (0, a2), (0, v3), (0, 0), (99, 0)], [], s3)) from rfl) ?_
  exact Se_stepTowards_10_ok  jFU _ _ _ _ _ _ H
def sSe_placeOnWay : jS := (⟨"JellyCathedral$See", "placeOnWay", "(III)I"⟩, prog_8_method_14_code, 7, 1, [7, 0, 0, 0], 0)
theorem kSe_placeOnWay : jmk sSe_placeOnWay = true := jmk_of 5009 1003 5007 5008 (by decide +kernel)
theorem Se_placeOnWay_36_ok {o : Int × jM} : ∀ (n : Nat) (x0 x2 x3 x5 x6 : Int) (s : jM), Se_placeOnWay_36  n x0 x2 x3 x5 x6 s = some o → AT sSe_placeOnWay 2 (36, [(7, x0), (99, 0), (0, x2), (0, x3), (99, 0), (0, x5), (0, x6)], [], s) o := by
  intro n
  induction n with
  | zero =>
    intro x0 x2 x3 x5 x6 s H
    have H : (none : Option (Int × jM)) = some o := H
    cases H
  | succ n ih =>
    intro x0 x2 x3 x5 x6 s H
    rw [Se_placeOnWay_36] at H
    refine AT.seq [(36, .iload 6, 2, (0, 0, 0)), (38, .iload_n 3, 1, (0, 0, 0))] (by decide +kernel) (show jrun _ (36, [(7, x0), (99, 0), (0, x2), (0, x3), (99, 0), (0, x5), (0, x6)], [], s) = some ([], (39, [(7, x0), (99, 0), (0, x2), (0, x3), (99, 0), (0, x5), (0, x6)], [(0, x3), (0, x6)], s)) from rfl) ?_
    refine AT.ite (x := (0, 0, 0)) (by decide +kernel) (show jbr (.if_icmp .ge 18) (39, [(7, x0), (99, 0), (0, x2), (0, x3), (99, 0), (0, x5), (0, x6)], [(0, x3), (0, x6)], s) = some ((w32 x6) < (w32 x3), (42, [(7, x0), (99, 0), (0, x2), (0, x3), (99, 0), (0, x5), (0, x6)], [], s), (57, [(7, x0), (99, 0), (0, x2), (0, x3), (99, 0), (0, x5), (0, x6)], [], s)) from rfl) H (fun H => ?_) (fun H => ?_)
    · refine AT.seq [(42, .aload_n 0, 1, (0, 0, 0)), (43, .iload 5, 2, (0, 0, 0)), (45, .iload_n 2, 1, (0, 0, 0))] (by decide +kernel) (show jrun _ (42, [(7, x0), (99, 0), (0, x2), (0, x3), (99, 0), (0, x5), (0, x6)], [], s) = some ([], (46, [(7, x0), (99, 0), (0, x2), (0, x3), (99, 0), (0, x5), (0, x6)], [(0, x2), (0, x5), (7, x0)], s)) from rfl) ?_
      obtain ⟨v1, s1, h1, H⟩ := jb_some H
      refine AT.callV (As := [(0, x5), (0, x2)]) (cl := 3) (b := x0) (st := []) (i := 103) (pos := 5010) kSe_stepTowards (by decide +kernel) rfl (by decide +kernel) rfl rfl (by omega) (Se_stepTowards_ok h1) ?_
      show AT sSe_placeOnWay 2 (49, [(7, x0), (99, 0), (0, x2), (0, x3), (99, 0), (0, x5), (0, x6)], [(0, v1)], s1) o
      refine AT.seq [(49, .istore 5, 2, (0, 0, 0)), (51, .iinc 6 1, 3, (0, 0, 0)), (54, .goto (-18), 3, (0, 0, 0))] (by decide +kernel) (show jrun _ (49, [(7, x0), (99, 0), (0, x2), (0, x3), (99, 0), (0, x5), (0, x6)], [(0, v1)], s1) = some ([], (36, [(7, x0), (99, 0), (0, x2), (0, x3), (99, 0), (0, v1), (0, (x6 + 1))], [], s1)) from rfl) ?_
      exact ih _ _ _ _ _ _ H
    · refine AT.seq [(57, .iload 5, 2, (0, 0, 0))] (by decide +kernel) (show jrun _ (57, [(7, x0), (99, 0), (0, x2), (0, x3), (99, 0), (0, x5), (0, x6)], [], s) = some ([], (59, [(7, x0), (99, 0), (0, x2), (0, x3), (99, 0), (0, x5), (0, x6)], [(0, x5)], s)) from rfl) ?_
      exact AT.retiH (by decide +kernel) H
theorem Se_placeOnWay_ok {a0 a1 a2 a3 : Int} {s : jM} {o : Int × jM} (H : Se_placeOnWay a0 a1 a2 a3 s = some o) : MK sSe_placeOnWay 2 [(7, a0), (0, a1), (0, a2), (0, a3)] s o := by
  refine MK.of kSe_placeOnWay rfl ?_
  show AT sSe_placeOnWay 2 (0, [(7, a0), (0, a1), (0, a2), (0, a3), (99, 0), (99, 0), (99, 0)], [], s) o
  unfold Se_placeOnWay at H
  refine AT.seq [(0, .aload_n 0, 1, (0, 0, 0)), (1, .iload_n 1, 1, (0, 0, 0)), (2, .iload_n 2, 1, (0, 0, 0))] (by decide +kernel) (show jrun _ (0, [(7, a0), (0, a1), (0, a2), (0, a3), (99, 0), (99, 0), (99, 0)], [], s) = some ([], (3, [(7, a0), (0, a1), (0, a2), (0, a3), (99, 0), (99, 0), (99, 0)], [(0, a2), (0, a1), (7, a0)], s)) from rfl) ?_
  obtain ⟨v2, s2, h2, H⟩ := jb_some H
  refine AT.callV (As := [(0, a1), (0, a2)]) (cl := 3) (b := a0) (st := []) (i := 100) (pos := 3207) kSe_wayLength (by decide +kernel) rfl (by decide +kernel) rfl rfl (by omega) (Se_wayLength_ok h2) ?_
  show AT sSe_placeOnWay 2 (6, [(7, a0), (0, a1), (0, a2), (0, a3), (99, 0), (99, 0), (99, 0)], [(0, v2)], s2) o
  refine AT.seq [(6, .istore 4, 2, (0, 0, 0)), (8, .iload 4, 2, (0, 0, 0)), (10, .ldc 79, 2, (1168, 0, 1000000))] (by decide +kernel) (show jrun _ (6, [(7, a0), (0, a1), (0, a2), (0, a3), (99, 0), (99, 0), (99, 0)], [(0, v2)], s2) = some ([], (12, [(7, a0), (0, a1), (0, a2), (0, a3), (0, v2), (99, 0), (99, 0)], [(0, 1000000), (0, v2)], s2)) from rfl) ?_
  refine AT.ite (x := (0, 0, 0)) (by decide +kernel) (show jbr (.if_icmp .ge 16) (12, [(7, a0), (0, a1), (0, a2), (0, a3), (0, v2), (99, 0), (99, 0)], [(0, 1000000), (0, v2)], s2) = some ((w32 v2) < 1000000, (15, [(7, a0), (0, a1), (0, a2), (0, a3), (0, v2), (99, 0), (99, 0)], [], s2), (28, [(7, a0), (0, a1), (0, a2), (0, a3), (0, v2), (99, 0), (99, 0)], [], s2)) from rfl) H (fun H => ?_) (fun H => ?_)
  · refine AT.seq [(15, .iload_n 3, 1, (0, 0, 0))] (by decide +kernel) (show jrun _ (15, [(7, a0), (0, a1), (0, a2), (0, a3), (0, v2), (99, 0), (99, 0)], [], s2) = some ([], (16, [(7, a0), (0, a1), (0, a2), (0, a3), (0, v2), (99, 0), (99, 0)], [(0, a3)], s2)) from rfl) ?_
    refine AT.ite (x := (0, 0, 0)) (by decide +kernel) (show jbr (.ifCond .lt 12) (16, [(7, a0), (0, a1), (0, a2), (0, a3), (0, v2), (99, 0), (99, 0)], [(0, a3)], s2) = some ((w32 a3) < 0, (28, [(7, a0), (0, a1), (0, a2), (0, a3), (0, v2), (99, 0), (99, 0)], [], s2), (19, [(7, a0), (0, a1), (0, a2), (0, a3), (0, v2), (99, 0), (99, 0)], [], s2)) from rfl) H (fun H => ?_) (fun H => ?_)
    · refine AT.seq [(28, .iconst (-1), 1, (0, 0, 0))] (by decide +kernel) (show jrun _ (28, [(7, a0), (0, a1), (0, a2), (0, a3), (0, v2), (99, 0), (99, 0)], [], s2) = some ([], (29, [(7, a0), (0, a1), (0, a2), (0, a3), (0, v2), (99, 0), (99, 0)], [(0, (-1))], s2)) from rfl) ?_
      exact AT.retiH (by decide +kernel) H
    · refine AT.row [(19, .iload_n 3, 1, (0, 0, 0)), (20, .iload 4, 2, (0, 0, 0)), (22, .bipush 64, 2, (0, 0, 0)), (24, .irem, 1, (0, 0, 0))] (by decide +kernel) (show jrun _ (19, [(7, a0), (0, a1), (0, a2), (0, a3), (0, v2), (99, 0), (99, 0)], [], s2) = some ([¬ (64 : Int) = 0], (25, [(7, a0), (0, a1), (0, a2), (0, a3), (0, v2), (99, 0), (99, 0)], [(0, (jrem v2 64)), (0, a3)], s2)) from rfl) (show ¬ (64 : Int) = 0 from by decide) ?_
      refine AT.ite (x := (0, 0, 0)) (by decide +kernel) (show jbr (.if_icmp .le 5) (25, [(7, a0), (0, a1), (0, a2), (0, a3), (0, v2), (99, 0), (99, 0)], [(0, (jrem v2 64)), (0, a3)], s2) = some ((w32 (jrem v2 64)) < (w32 a3), (28, [(7, a0), (0, a1), (0, a2), (0, a3), (0, v2), (99, 0), (99, 0)], [], s2), (30, [(7, a0), (0, a1), (0, a2), (0, a3), (0, v2), (99, 0), (99, 0)], [], s2)) from rfl) H (fun H => ?_) (fun H => ?_)
      · refine AT.seq [(28, .iconst (-1), 1, (0, 0, 0))] (by decide +kernel) (show jrun _ (28, [(7, a0), (0, a1), (0, a2), (0, a3), (0, v2), (99, 0), (99, 0)], [], s2) = some ([], (29, [(7, a0), (0, a1), (0, a2), (0, a3), (0, v2), (99, 0), (99, 0)], [(0, (-1))], s2)) from rfl) ?_
        exact AT.retiH (by decide +kernel) H
      · refine AT.seq [(30, .iload_n 1, 1, (0, 0, 0)), (31, .istore 5, 2, (0, 0, 0)), (33, .iconst 0, 1, (0, 0, 0)), (34, .istore 6, 2, (0, 0, 0))] (by decide +kernel) (show jrun _ (30, [(7, a0), (0, a1), (0, a2), (0, a3), (0, v2), (99, 0), (99, 0)], [], s2) = some ([], (36, [(7, a0), (0, a1), (0, a2), (0, a3), (0, v2), (0, a1), (0, 0)], [], s2)) from rfl) ?_
        exact AT.weak (L' := [(7, a0), (99, 0), (0, a2), (0, a3), (99, 0), (0, a1), (0, 0)]) (jleK (jleJ (jleK (jleK (jleJ (jleK (jleK jle0))))))) (Se_placeOnWay_36_ok  jFU _ _ _ _ _ _ H)
  · refine AT.seq [(28, .iconst (-1), 1, (0, 0, 0))] (by decide +kernel) (show jrun _ (28, [(7, a0), (0, a1), (0, a2), (0, a3), (0, v2), (99, 0), (99, 0)], [], s2) = some ([], (29, [(7, a0), (0, a1), (0, a2), (0, a3), (0, v2), (99, 0), (99, 0)], [(0, (-1))], s2)) from rfl) ?_
    exact AT.retiH (by decide +kernel) H
def sSe_copyOf : jS := (⟨"JellyCathedral$See", "copyOf", "(LJellyCathedral$See;)V"⟩, prog_8_method_3_code, 3, 0, [7, 7], 0)
theorem kSe_copyOf : jmk sSe_copyOf = true := jmk_of 5157 1003 5155 5156 (by decide +kernel)
theorem Se_copyOf_179_ok {o : Int × jM} : ∀ (n : Nat) (x0 x1 x2 : Int) (s : jM), Se_copyOf_179  n x0 x1 x2 s = some o → AT sSe_copyOf 1 (179, [(7, x0), (7, x1), (0, x2)], [], s) o := by
  intro n
  induction n with
  | zero =>
    intro x0 x1 x2 s H
    have H : (none : Option (Int × jM)) = some o := H
    cases H
  | succ n ih =>
    intro x0 x1 x2 s H
    rw [Se_copyOf_179] at H
    refine AT.seq [(179, .iload_n 2, 1, (0, 0, 0)), (180, .aload_n 0, 1, (0, 0, 0)), (181, .getfield 70, 3, (1192, 306, 0))] (by decide +kernel) (show jrun _ (179, [(7, x0), (7, x1), (0, x2)], [], s) = some ([], (184, [(7, x0), (7, x1), (0, x2)], [(0, (s x0 6)), (0, x2)], s)) from rfl) ?_
    refine AT.ite (x := (0, 0, 0)) (by decide +kernel) (show jbr (.if_icmp .ge 24) (184, [(7, x0), (7, x1), (0, x2)], [(0, (s x0 6)), (0, x2)], s) = some ((w32 x2) < (w32 (s x0 6)), (187, [(7, x0), (7, x1), (0, x2)], [], s), (208, [(7, x0), (7, x1), (0, x2)], [], s)) from rfl) H (fun H => ?_) (fun H => ?_)
    · refine AT.blk (g := (0 ≤ (w32 x2) ∧ (w32 x2) < 5) ∧ (0 ≤ (w32 x2) ∧ (w32 x2) < 5)) [(187, .aload_n 0, 1, (0, 0, 0)), (188, .getfield 23, 3, (1213, 312, 0)), (191, .iload_n 2, 1, (0, 0, 0)), (192, .aaload, 1, (0, 0, 0)), (193, .aload_n 1, 1, (0, 0, 0)), (194, .getfield 23, 3, (1213, 312, 0)), (197, .iload_n 2, 1, (0, 0, 0)), (198, .aaload, 1, (0, 0, 0))] (by decide +kernel) (show jrun _ (187, [(7, x0), (7, x1), (0, x2)], [], s) = some ([(0 ≤ (w32 x2) ∧ (w32 x2) < 5), (0 ≤ (w32 x2) ∧ (w32 x2) < 5)], (199, [(7, x0), (7, x1), (0, x2)], [(6, ((x1 + 4) + 11 + 2 * (w32 x2))), (6, ((x0 + 4) + 11 + 2 * (w32 x2)))], s)) from rfl) (fun h => ⟨h.1, h.2⟩) H (fun H => ?_)
      obtain ⟨v1, s1, h1, H⟩ := jb_some H
      refine AT.callV (As := [(6, ((x1 + 4) + 11 + 2 * (w32 x2)))]) (cl := 2) (b := ((x0 + 4) + 11 + 2 * (w32 x2))) (st := []) (i := 87) (pos := 5159) kMo_copyOf (by decide +kernel) rfl (by decide +kernel) rfl rfl (by omega) (Mo_copyOf_ok h1) ?_
      show AT sSe_copyOf 1 (202, [(7, x0), (7, x1), (0, x2)], [], s1) o
      refine AT.seq [(202, .iinc 2 1, 3, (0, 0, 0)), (205, .goto (-26), 3, (0, 0, 0))] (by decide +kernel) (show jrun _ (202, [(7, x0), (7, x1), (0, x2)], [], s1) = some ([], (179, [(7, x0), (7, x1), (0, (x2 + 1))], [], s1)) from rfl) ?_
      exact ih _ _ _ _ H
    · refine AT.seq [(208, .aload_n 0, 1, (0, 0, 0)), (209, .getfield 43, 3, (1222, 317, 0)), (212, .aload_n 1, 1, (0, 0, 0)), (213, .getfield 43, 3, (1222, 317, 0))] (by decide +kernel) (show jrun _ (208, [(7, x0), (7, x1), (0, x2)], [], s) = some ([], (216, [(7, x0), (7, x1), (0, x2)], [(8, (x1 + 9)), (8, (x0 + 9))], s)) from rfl) ?_
      obtain ⟨v2, s2, h2, H⟩ := jb_some H
      refine AT.callV (As := [(8, (x1 + 9))]) (cl := 4) (b := (x0 + 9)) (st := []) (i := 91) (pos := 5164) kFe_copyOf (by decide +kernel) rfl (by decide +kernel) rfl rfl (by omega) (Fe_copyOf_ok h2) ?_
      show AT sSe_copyOf 1 (219, [(7, x0), (7, x1), (0, x2)], [], s2) o
      exact AT.retvH (by decide +kernel) H
theorem Se_copyOf_ok {a0 a1 : Int} {s : jM} {o : Int × jM} (H : Se_copyOf a0 a1 s = some o) : MK sSe_copyOf 1 [(7, a0), (7, a1)] s o := by
  refine MK.of kSe_copyOf rfl ?_
  show AT sSe_copyOf 1 (0, [(7, a0), (7, a1), (99, 0)], [], s) o
  unfold Se_copyOf at H
  refine AT.seq [(0, .aload_n 0, 1, (0, 0, 0)), (1, .aload_n 1, 1, (0, 0, 0)), (2, .getfield 51, 3, (1173, 300, 0)), (5, .putfield 51, 3, (1173, 300, 0)), (8, .aload_n 0, 1, (0, 0, 0)), (9, .aload_n 1, 1, (0, 0, 0)), (10, .getfield 55, 3, (1176, 301, 0)), (13, .putfield 55, 3, (1176, 301, 0)), (16, .aload_n 0, 1, (0, 0, 0)), (17, .aload_n 1, 1, (0, 0, 0)), (18, .getfield 58, 3, (1180, 302, 0)), (21, .putfield 58, 3, (1180, 302, 0)), (24, .aload_n 0, 1, (0, 0, 0)), (25, .aload_n 1, 1, (0, 0, 0))] (by decide +kernel) (show jrun _ (0, [(7, a0), (7, a1), (99, 0)], [], s) = some ([], (26, [(7, a0), (7, a1), (99, 0)], [(7, a1), (7, a0)], (jup (jup (jup s a0 0 (s a1 0)) a0 1 ((jup s a0 0 (s a1 0)) a1 1)) a0 2 ((jup (jup s a0 0 (s a1 0)) a0 1 ((jup s a0 0 (s a1 0)) a1 1)) a1 2)))) from rfl) ?_
  obtain ⟨s3, e3, H⟩ := jm_some H
  rw [← e3]
  refine AT.seq [(26, .getfield 61, 3, (1182, 303, 0)), (29, .putfield 61, 3, (1182, 303, 0)), (32, .aload_n 0, 1, (0, 0, 0)), (33, .aload_n 1, 1, (0, 0, 0)), (34, .getfield 64, 3, (1186, 304, 0)), (37, .putfield 64, 3, (1186, 304, 0)), (40, .aload_n 0, 1, (0, 0, 0)), (41, .aload_n 1, 1, (0, 0, 0)), (42, .getfield 67, 3, (1189, 305, 0)), (45, .putfield 67, 3, (1189, 305, 0)), (48, .aload_n 0, 1, (0, 0, 0)), (49, .aload_n 1, 1, (0, 0, 0))] (by decide +kernel) (show jrun _ (26, [(7, a0), (7, a1), (99, 0)], [(7, a1), (7, a0)], s3) = some ([], (50, [(7, a0), (7, a1), (99, 0)], [(7, a1), (7, a0)], (jup (jup (jup s3 a0 3 (s3 a1 3)) a0 4 ((jup s3 a0 3 (s3 a1 3)) a1 4)) a0 5 ((jup (jup s3 a0 3 (s3 a1 3)) a0 4 ((jup s3 a0 3 (s3 a1 3)) a1 4)) a1 5)))) from rfl) ?_
  obtain ⟨s4, e4, H⟩ := jm_some H
  rw [← e4]
  refine AT.seq [(50, .getfield 70, 3, (1192, 306, 0)), (53, .putfield 70, 3, (1192, 306, 0)), (56, .aload_n 0, 1, (0, 0, 0)), (57, .aload_n 1, 1, (0, 0, 0)), (58, .getfield 73, 3, (1196, 307, 0)), (61, .putfield 73, 3, (1196, 307, 0)), (64, .aload_n 0, 1, (0, 0, 0)), (65, .aload_n 1, 1, (0, 0, 0)), (66, .getfield 76, 3, (1198, 308, 0)), (69, .putfield 76, 3, (1198, 308, 0)), (72, .aload_n 1, 1, (0, 0, 0)), (73, .getfield 9, 3, (1199, 309, 0)), (76, .iconst 0, 1, (0, 0, 0)), (77, .aload_n 0, 1, (0, 0, 0)), (78, .getfield 9, 3, (1199, 309, 0)), (81, .iconst 0, 1, (0, 0, 0)), (82, .iconst 5, 1, (0, 0, 0))] (by decide +kernel) (show jrun _ (50, [(7, a0), (7, a1), (99, 0)], [(7, a1), (7, a0)], s4) = some ([], (83, [(7, a0), (7, a1), (99, 0)], [(0, 5), (0, 0), (26, (a0 + 1)), (0, 0), (26, (a1 + 1))], (jup (jup (jup s4 a0 6 (s4 a1 6)) a0 7 ((jup s4 a0 6 (s4 a1 6)) a1 7)) a0 8 ((jup (jup s4 a0 6 (s4 a1 6)) a0 7 ((jup s4 a0 6 (s4 a1 6)) a1 7)) a1 8)))) from rfl) ?_
  obtain ⟨s5, e5, H⟩ := jm_some H
  rw [← e5]
  refine AT.row [(83, .invokestatic 81, 3, (5158, 4, 0)), (86, .aload_n 1, 1, (0, 0, 0)), (87, .getfield 15, 3, (1204, 310, 0)), (90, .iconst 0, 1, (0, 0, 0)), (91, .aload_n 0, 1, (0, 0, 0)), (92, .getfield 15, 3, (1204, 310, 0)), (95, .iconst 0, 1, (0, 0, 0)), (96, .iconst 5, 1, (0, 0, 0)), (97, .invokestatic 81, 3, (5158, 4, 0)), (100, .aload_n 1, 1, (0, 0, 0)), (101, .getfield 18, 3, (1208, 311, 0)), (104, .iconst 0, 1, (0, 0, 0)), (105, .aload_n 0, 1, (0, 0, 0)), (106, .getfield 18, 3, (1208, 311, 0)), (109, .iconst 0, 1, (0, 0, 0)), (110, .iconst 5, 1, (0, 0, 0)), (111, .invokestatic 81, 3, (5158, 4, 0)), (114, .aload_n 1, 1, (0, 0, 0)), (115, .getfield 27, 3, (1218, 313, 0)), (118, .iconst 0, 1, (0, 0, 0)), (119, .aload_n 0, 1, (0, 0, 0)), (120, .getfield 27, 3, (1218, 313, 0)), (123, .iconst 0, 1, (0, 0, 0)), (124, .aload_n 0, 1, (0, 0, 0)), (125, .getfield 27, 3, (1218, 313, 0)), (128, .arraylength, 1, (0, 0, 0)), (129, .invokestatic 81, 3, (5158, 4, 0)), (132, .aload_n 1, 1, (0, 0, 0)), (133, .getfield 30, 3, (1219, 314, 0)), (136, .iconst 0, 1, (0, 0, 0)), (137, .aload_n 0, 1, (0, 0, 0)), (138, .getfield 30, 3, (1219, 314, 0)), (141, .iconst 0, 1, (0, 0, 0)), (142, .bipush 16, 2, (0, 0, 0))] (by decide +kernel) (show jrun _ (83, [(7, a0), (7, a1), (99, 0)], [(0, 5), (0, 0), (26, (a0 + 1)), (0, 0), (26, (a1 + 1))], s5) = some ([(0 ≤ (0 : Int) ∧ 0 ≤ (0 : Int) ∧ 0 ≤ (5 : Int) ∧ (0 : Int) + 5 ≤ 5 ∧ (0 : Int) + 5 ≤ 5), (0 ≤ (0 : Int) ∧ 0 ≤ (0 : Int) ∧ 0 ≤ (5 : Int) ∧ (0 : Int) + 5 ≤ 5 ∧ (0 : Int) + 5 ≤ 5), (0 ≤ (0 : Int) ∧ 0 ≤ (0 : Int) ∧ 0 ≤ (5 : Int) ∧ (0 : Int) + 5 ≤ 5 ∧ (0 : Int) + 5 ≤ 5), (0 ≤ (0 : Int) ∧ 0 ≤ (0 : Int) ∧ 0 ≤ (36 : Int) ∧ (0 : Int) + 36 ≤ 36 ∧ (0 : Int) + 36 ≤ 36)], (144, [(7, a0), (7, a1), (99, 0)], [(0, 16), (0, 0), (30, (a0 + 6)), (0, 0), (30, (a1 + 6))], (jcp (jcp (jcp (jcp s5 (a1 + 1) 0 (a0 + 1) 0 5) (a1 + 2) 0 (a0 + 2) 0 5) (a1 + 3) 0 (a0 + 3) 0 5) (a1 + 5) 0 (a0 + 5) 0 36))) from rfl) (show (0 ≤ (0 : Int) ∧ 0 ≤ (0 : Int) ∧ 0 ≤ (5 : Int) ∧ (0 : Int) + 5 ≤ 5 ∧ (0 : Int) + 5 ≤ 5) ∧ (0 ≤ (0 : Int) ∧ 0 ≤ (0 : Int) ∧ 0 ≤ (5 : Int) ∧ (0 : Int) + 5 ≤ 5 ∧ (0 : Int) + 5 ≤ 5) ∧ (0 ≤ (0 : Int) ∧ 0 ≤ (0 : Int) ∧ 0 ≤ (5 : Int) ∧ (0 : Int) + 5 ≤ 5 ∧ (0 : Int) + 5 ≤ 5) ∧ (0 ≤ (0 : Int) ∧ 0 ≤ (0 : Int) ∧ 0 ≤ (36 : Int) ∧ (0 : Int) + 36 ≤ 36 ∧ (0 : Int) + 36 ≤ 36) from by decide) ?_
  obtain ⟨s6, e6, H⟩ := jm_some H
  rw [← e6]
  refine AT.row [(144, .invokestatic 81, 3, (5158, 4, 0)), (147, .aload_n 1, 1, (0, 0, 0)), (148, .getfield 34, 3, (1220, 315, 0)), (151, .iconst 0, 1, (0, 0, 0)), (152, .aload_n 0, 1, (0, 0, 0)), (153, .getfield 34, 3, (1220, 315, 0)), (156, .iconst 0, 1, (0, 0, 0)), (157, .bipush 16, 2, (0, 0, 0)), (159, .invokestatic 81, 3, (5158, 4, 0)), (162, .aload_n 1, 1, (0, 0, 0)), (163, .getfield 37, 3, (1221, 316, 0)), (166, .iconst 0, 1, (0, 0, 0)), (167, .aload_n 0, 1, (0, 0, 0)), (168, .getfield 37, 3, (1221, 316, 0)), (171, .iconst 0, 1, (0, 0, 0)), (172, .bipush 16, 2, (0, 0, 0)), (174, .invokestatic 81, 3, (5158, 4, 0)), (177, .iconst 0, 1, (0, 0, 0)), (178, .istore_n 2, 1, (0, 0, 0))] (by decide +kernel) (show jrun _ (144, [(7, a0), (7, a1), (99, 0)], [(0, 16), (0, 0), (30, (a0 + 6)), (0, 0), (30, (a1 + 6))], s6) = some ([(0 ≤ (0 : Int) ∧ 0 ≤ (0 : Int) ∧ 0 ≤ (16 : Int) ∧ (0 : Int) + 16 ≤ 16 ∧ (0 : Int) + 16 ≤ 16), (0 ≤ (0 : Int) ∧ 0 ≤ (0 : Int) ∧ 0 ≤ (16 : Int) ∧ (0 : Int) + 16 ≤ 16 ∧ (0 : Int) + 16 ≤ 16), (0 ≤ (0 : Int) ∧ 0 ≤ (0 : Int) ∧ 0 ≤ (16 : Int) ∧ (0 : Int) + 16 ≤ 16 ∧ (0 : Int) + 16 ≤ 16)], (179, [(7, a0), (7, a1), (0, 0)], [], (jcp (jcp (jcp s6 (a1 + 6) 0 (a0 + 6) 0 16) (a1 + 7) 0 (a0 + 7) 0 16) (a1 + 8) 0 (a0 + 8) 0 16))) from rfl) (show (0 ≤ (0 : Int) ∧ 0 ≤ (0 : Int) ∧ 0 ≤ (16 : Int) ∧ (0 : Int) + 16 ≤ 16 ∧ (0 : Int) + 16 ≤ 16) ∧ (0 ≤ (0 : Int) ∧ 0 ≤ (0 : Int) ∧ 0 ≤ (16 : Int) ∧ (0 : Int) + 16 ≤ 16 ∧ (0 : Int) + 16 ≤ 16) ∧ (0 ≤ (0 : Int) ∧ 0 ≤ (0 : Int) ∧ 0 ≤ (16 : Int) ∧ (0 : Int) + 16 ≤ 16 ∧ (0 : Int) + 16 ≤ 16) from by decide) ?_
  exact Se_copyOf_179_ok  jFU _ _ _ _ H
def sSe_allFirm : jS := (⟨"JellyCathedral$See", "allFirm", "()I"⟩, prog_8_method_24_code, 3, 1, [7], 0)
theorem kSe_allFirm : jmk sSe_allFirm = true := jmk_of 5168 1003 5166 5167 (by decide +kernel)
theorem Se_allFirm_4_ok {o : Int × jM} : ∀ (n : Nat) (x0 x1 x2 : Int) (s : jM), Se_allFirm_4  n x0 x1 x2 s = some o → AT sSe_allFirm 0 (4, [(7, x0), (0, x1), (0, x2)], [], s) o := by
  intro n
  induction n with
  | zero =>
    intro x0 x1 x2 s H
    have H : (none : Option (Int × jM)) = some o := H
    cases H
  | succ n ih =>
    intro x0 x1 x2 s H
    rw [Se_allFirm_4] at H
    refine AT.seq [(4, .iload_n 2, 1, (0, 0, 0)), (5, .aload_n 0, 1, (0, 0, 0)), (6, .getfield 70, 3, (1192, 306, 0))] (by decide +kernel) (show jrun _ (4, [(7, x0), (0, x1), (0, x2)], [], s) = some ([], (9, [(7, x0), (0, x1), (0, x2)], [(0, (s x0 6)), (0, x2)], s)) from rfl) ?_
    refine AT.ite (x := (0, 0, 0)) (by decide +kernel) (show jbr (.if_icmp .ge 21) (9, [(7, x0), (0, x1), (0, x2)], [(0, (s x0 6)), (0, x2)], s) = some ((w32 x2) < (w32 (s x0 6)), (12, [(7, x0), (0, x1), (0, x2)], [], s), (30, [(7, x0), (0, x1), (0, x2)], [], s)) from rfl) H (fun H => ?_) (fun H => ?_)
    · refine AT.blk (g := (0 ≤ (w32 x2) ∧ (w32 x2) < 5)) [(12, .iload_n 1, 1, (0, 0, 0)), (13, .aload_n 0, 1, (0, 0, 0)), (14, .getfield 23, 3, (1213, 312, 0)), (17, .iload_n 2, 1, (0, 0, 0)), (18, .aaload, 1, (0, 0, 0)), (19, .getfield 146, 3, (1131, 204, 0)), (22, .iadd, 1, (0, 0, 0)), (23, .istore_n 1, 1, (0, 0, 0)), (24, .iinc 2 1, 3, (0, 0, 0)), (27, .goto (-23), 3, (0, 0, 0))] (by decide +kernel) (show jrun _ (12, [(7, x0), (0, x1), (0, x2)], [], s) = some ([(0 ≤ (w32 x2) ∧ (w32 x2) < 5)], (4, [(7, x0), (0, (x1 + (s ((x0 + 4) + 11 + 2 * (w32 x2)) 4))), (0, (x2 + 1))], [], s)) from rfl) (fun h => h) H (fun H => ?_)
      exact ih _ _ _ _ H
    · refine AT.seq [(30, .iload_n 1, 1, (0, 0, 0))] (by decide +kernel) (show jrun _ (30, [(7, x0), (0, x1), (0, x2)], [], s) = some ([], (31, [(7, x0), (0, x1), (0, x2)], [(0, x1)], s)) from rfl) ?_
      exact AT.retiH (by decide +kernel) H
theorem Se_allFirm_ok {a0 : Int} {s : jM} {o : Int × jM} (H : Se_allFirm a0 s = some o) : MK sSe_allFirm 0 [(7, a0)] s o := by
  refine MK.of kSe_allFirm rfl ?_
  show AT sSe_allFirm 0 (0, [(7, a0), (99, 0), (99, 0)], [], s) o
  unfold Se_allFirm at H
  refine AT.seq [(0, .iconst 0, 1, (0, 0, 0)), (1, .istore_n 1, 1, (0, 0, 0)), (2, .iconst 0, 1, (0, 0, 0)), (3, .istore_n 2, 1, (0, 0, 0))] (by decide +kernel) (show jrun _ (0, [(7, a0), (99, 0), (99, 0)], [], s) = some ([], (4, [(7, a0), (0, 0), (0, 0)], [], s)) from rfl) ?_
  exact Se_allFirm_4_ok  jFU _ _ _ _ H
