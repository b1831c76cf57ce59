/-! printed by wip/whole/gen_all.py: Te_hasRoomForFive, Te_addFour, Te_scanWord, Te_scanNumber, Te_advance, Te_open, Te_isWell, Te_fail, Te_takeNumber, Te_isName, Te_takeNewName, Te_takeWord, Te_takeThing, Te_takeStop, Te_takeCompare -/
def sTe_hasRoomForFive : jS := (⟨"JellyCathedral$Text", "hasRoomForFive", "()Z"⟩, prog_10_method_2_code, 1, 3, [9], 0)
theorem kTe_hasRoomForFive : jmk sTe_hasRoomForFive = true := jmk_of 3084 1006 3082 3083 (by decide +kernel)
theorem Te_hasRoomForFive_ok {a0 : Int} {s : jM} {o : Int × jM} (H : Te_hasRoomForFive a0 s = some o) : MK sTe_hasRoomForFive 0 [(9, a0)] s o := by
  refine MK.of kTe_hasRoomForFive rfl ?_
  show AT sTe_hasRoomForFive 0 (0, [(9, a0)], [], s) o
  unfold Te_hasRoomForFive at H
  refine AT.seq [(0, .aload_n 0, 1, (0, 0, 0)), (1, .getfield 15, 3, (2029, 500, 0)), (4, .bipush 20, 2, (0, 0, 0)), (6, .iadd, 1, (0, 0, 0)), (7, .sipush 900, 3, (0, 0, 0))] (by decide +kernel) (show jrun _ (0, [(9, a0)], [], s) = some ([], (10, [(9, a0)], [(0, 900), (0, ((s a0 0) + 20))], s)) from rfl) ?_
  refine AT.ite (x := (0, 0, 0)) (by decide +kernel) (show jbr (.if_icmp .gt 7) (10, [(9, a0)], [(0, 900), (0, ((s a0 0) + 20))], s) = some (900 < (w32 ((s a0 0) + 20)), (17, [(9, a0)], [], s), (13, [(9, a0)], [], s)) from rfl) H (fun H => ?_) (fun H => ?_)
  · refine AT.seq [(17, .iconst 0, 1, (0, 0, 0))] (by decide +kernel) (show jrun _ (17, [(9, a0)], [], s) = some ([], (18, [(9, a0)], [(0, 0)], s)) from rfl) ?_
    exact AT.retzC (by decide +kernel) (by decide) H
  · refine AT.seq [(13, .iconst 1, 1, (0, 0, 0)), (14, .goto 4, 3, (0, 0, 0))] (by decide +kernel) (show jrun _ (13, [(9, a0)], [], s) = some ([], (18, [(9, a0)], [(0, 1)], s)) from rfl) ?_
    exact AT.retzC (by decide +kernel) (by decide) H
def sTe_addFour : jS := (⟨"JellyCathedral$Text", "addFour", "(I)V"⟩, prog_10_method_3_code, 3, 0, [9, 0], 0)
theorem kTe_addFour : jmk sTe_addFour = true := jmk_of 3088 1006 3086 3087 (by decide +kernel)
theorem Te_addFour_3_ok {o : Int × jM} : ∀ (n : Nat) (x0 x1 x2 : Int) (s : jM), Te_addFour_3  n x0 x1 x2 s = some o → AT sTe_addFour 0 (3, [(9, x0), (0, x1), (0, x2)], [], s) o := by
  intro n
  induction n with
  | zero =>
    intro x0 x1 x2 s H
    have H : (none : Option (Int × jM)) = some o := H
    cases H
  | succ n ih =>
    intro x0 x1 x2 s H
    rw [Te_addFour_3] at H
    refine AT.seq [(3, .iload_n 2, 1, (0, 0, 0))] (by decide +kernel) (show jrun _ (3, [(9, x0), (0, x1), (0, x2)], [], s) = some ([], (4, [(9, x0), (0, x1), (0, x2)], [(0, x2)], s)) from rfl) ?_
    refine AT.ite (x := (0, 0, 0)) (by decide +kernel) (show jbr (.ifCond .lt 42) (4, [(9, x0), (0, x1), (0, x2)], [(0, x2)], s) = some ((w32 x2) < 0, (46, [(9, x0), (0, x1), (0, x2)], [], s), (7, [(9, x0), (0, x1), (0, x2)], [], s)) from rfl) H (fun H => ?_) (fun H => ?_)
    · exact AT.retvH (by decide +kernel) H
    · refine AT.seq [(7, .aload_n 0, 1, (0, 0, 0)), (8, .getfield 15, 3, (2029, 500, 0)), (11, .sipush 900, 3, (0, 0, 0))] (by decide +kernel) (show jrun _ (7, [(9, x0), (0, x1), (0, x2)], [], s) = some ([], (14, [(9, x0), (0, x1), (0, x2)], [(0, 900), (0, (s x0 0))], s)) from rfl) ?_
      refine AT.ite (x := (0, 0, 0)) (by decide +kernel) (show jbr (.if_icmp .ge 26) (14, [(9, x0), (0, x1), (0, x2)], [(0, 900), (0, (s x0 0))], s) = some ((w32 (s x0 0)) < 900, (17, [(9, x0), (0, x1), (0, x2)], [], s), (40, [(9, x0), (0, x1), (0, x2)], [], s)) from rfl) H (fun H => ?_) (fun H => ?_)
      · refine AT.blk (g := (0 ≤ (w32 (s x0 0)) ∧ (w32 (s x0 0)) < 900)) [(17, .aload_n 0, 1, (0, 0, 0)), (18, .getfield 9, 3, (2047, 510, 0)), (21, .aload_n 0, 1, (0, 0, 0)), (22, .getfield 15, 3, (2029, 500, 0)), (25, .iload_n 1, 1, (0, 0, 0)), (26, .iload_n 2, 1, (0, 0, 0)), (27, .ishr, 1, (0, 0, 0)), (28, .i2b, 1, (0, 0, 0)), (29, .bastore, 1, (0, 0, 0)), (30, .aload_n 0, 1, (0, 0, 0)), (31, .dup, 1, (0, 0, 0)), (32, .getfield 15, 3, (2029, 500, 0)), (35, .iconst 1, 1, (0, 0, 0)), (36, .iadd, 1, (0, 0, 0)), (37, .putfield 15, 3, (2029, 500, 0)), (40, .iinc 2 (-8), 3, (0, 0, 0)), (43, .goto (-40), 3, (0, 0, 0))] (by decide +kernel) (show jrun _ (17, [(9, x0), (0, x1), (0, x2)], [], s) = some ([(0 ≤ (w32 (s x0 0)) ∧ (w32 (s x0 0)) < 900)], (3, [(9, x0), (0, x1), (0, (x2 + (-8)))], [], (jup (jup s (x0 + 1) (w32 (s x0 0)) (w8 (w8 (jishr x1 x2)))) x0 0 (((jup s (x0 + 1) (w32 (s x0 0)) (w8 (w8 (jishr x1 x2)))) x0 0) + 1)))) from rfl) (fun h => h) H (fun H => ?_)
        exact ih _ _ _ _ H
      · refine AT.seq [(40, .iinc 2 (-8), 3, (0, 0, 0)), (43, .goto (-40), 3, (0, 0, 0))] (by decide +kernel) (show jrun _ (40, [(9, x0), (0, x1), (0, x2)], [], s) = some ([], (3, [(9, x0), (0, x1), (0, (x2 + (-8)))], [], s)) from rfl) ?_
        exact ih _ _ _ _ H
theorem Te_addFour_ok {a0 a1 : Int} {s : jM} {o : Int × jM} (H : Te_addFour a0 a1 s = some o) : MK sTe_addFour 0 [(9, a0), (0, a1)] s o := by
  refine MK.of kTe_addFour rfl ?_
  show AT sTe_addFour 0 (0, [(9, a0), (0, a1), (99, 0)], [], s) o
  unfold Te_addFour at H
  refine AT.seq [(0, .bipush 24, 2, (0, 0, 0)), (2, .istore_n 2, 1, (0, 0, 0))] (by decide +kernel) (show jrun _ (0, [(9, a0), (0, a1), (99, 0)], [], s) = some ([], (3, [(9, a0), (0, a1), (0, 24)], [], s)) from rfl) ?_
  exact Te_addFour_3_ok  jFU _ _ _ _ H
def sTe_scanWord : jS := (⟨"JellyCathedral$Text", "scanWord", "()V"⟩, prog_10_method_6_code, 3, 0, [9], 0)
theorem kTe_scanWord : jmk sTe_scanWord = true := jmk_of 3104 1006 3103 5 (by decide +kernel)
theorem Te_scanWord_88_ok {o : Int × jM} : ∀ (n : Nat) (x0 x2 : Int) (s : jM), Te_scanWord_88  n x0 x2 s = some o → AT sTe_scanWord 0 (88, [(9, x0), (99, 0), (0, x2)], [], s) o := by
  intro n
  induction n with
  | zero =>
    intro x0 x2 s H
    have H : (none : Option (Int × jM)) = some o := H
    cases H
  | succ n ih =>
    intro x0 x2 s H
    rw [Te_scanWord_88] at H
    refine AT.seq [(88, .iload_n 2, 1, (0, 0, 0)), (89, .getstatic 56, 3, (3105, 0, 0)), (92, .arraylength, 1, (0, 0, 0))] (by decide +kernel) (show jrun _ (88, [(9, x0), (99, 0), (0, x2)], [], s) = some ([], (93, [(9, x0), (99, 0), (0, x2)], [(0, 26), (0, x2)], s)) from rfl) ?_
    refine AT.ite (x := (0, 0, 0)) (by decide +kernel) (show jbr (.if_icmp .ge 27) (93, [(9, x0), (99, 0), (0, x2)], [(0, 26), (0, x2)], s) = some ((w32 x2) < 26, (96, [(9, x0), (99, 0), (0, x2)], [], s), (120, [(9, x0), (99, 0), (0, x2)], [], s)) from rfl) H (fun H => ?_) (fun H => ?_)
    · refine AT.blk (g := (0 ≤ (w32 x2) ∧ (w32 x2) < 26)) [(96, .getstatic 56, 3, (3105, 0, 0)), (99, .iload_n 2, 1, (0, 0, 0)), (100, .laload, 1, (0, 0, 0)), (101, .aload_n 0, 1, (0, 0, 0)), (102, .getfield 40, 3, (2041, 507, 0)), (105, .lcmp, 1, (0, 0, 0))] (by decide +kernel) (show jrun _ (96, [(9, x0), (99, 0), (0, x2)], [], s) = some ([(0 ≤ (w32 x2) ∧ (w32 x2) < 26)], (106, [(9, x0), (99, 0), (0, x2)], [(0, (jlcmp (jkw (w32 x2)) (s x0 7)))], s)) from rfl) (fun h => h) H (fun H => ?_)
      refine AT.ite (x := (0, 0, 0)) (by decide +kernel) (show jbr (.ifCond .ne 8) (106, [(9, x0), (99, 0), (0, x2)], [(0, (jlcmp (jkw (w32 x2)) (s x0 7)))], s) = some ((w32 (jlcmp (jkw (w32 x2)) (s x0 7))) = 0, (109, [(9, x0), (99, 0), (0, x2)], [], s), (114, [(9, x0), (99, 0), (0, x2)], [], s)) from rfl) H (fun H => ?_) (fun H => ?_)
      · refine AT.seq [(109, .aload_n 0, 1, (0, 0, 0)), (110, .iload_n 2, 1, (0, 0, 0)), (111, .putfield 37, 3, (2039, 505, 0)), (114, .iinc 2 1, 3, (0, 0, 0)), (117, .goto (-29), 3, (0, 0, 0))] (by decide +kernel) (show jrun _ (109, [(9, x0), (99, 0), (0, x2)], [], s) = some ([], (88, [(9, x0), (99, 0), (0, (x2 + 1))], [], (jup s x0 5 x2))) from rfl) ?_
        exact ih _ _ _ H
      · refine AT.seq [(114, .iinc 2 1, 3, (0, 0, 0)), (117, .goto (-29), 3, (0, 0, 0))] (by decide +kernel) (show jrun _ (114, [(9, x0), (99, 0), (0, x2)], [], s) = some ([], (88, [(9, x0), (99, 0), (0, (x2 + 1))], [], s)) from rfl) ?_
        exact ih _ _ _ H
    · exact AT.retvH (by decide +kernel) H
theorem Te_scanWord_60_ok {o : Int × jM} {x0 x1 : Int} {s : jM} (H : Te_scanWord_60  x0 x1 s = some o) : AT sTe_scanWord 0 (60, [(9, x0), (0, x1), (99, 0)], [], s) o := by
  unfold Te_scanWord_60 at H
  refine AT.seq [(60, .aload_n 0, 1, (0, 0, 0)), (61, .iconst 1, 1, (0, 0, 0)), (62, .putfield 47, 3, (2036, 504, 0)), (65, .aload_n 0, 1, (0, 0, 0)), (66, .iload_n 1, 1, (0, 0, 0)), (67, .putfield 22, 3, (2032, 502, 0)), (70, .iload_n 1, 1, (0, 0, 0)), (71, .aload_n 0, 1, (0, 0, 0)), (72, .getfield 34, 3, (2033, 503, 0)), (75, .isub, 1, (0, 0, 0)), (76, .bipush 8, 2, (0, 0, 0))] (by decide +kernel) (show jrun _ (60, [(9, x0), (0, x1), (99, 0)], [], s) = some ([], (78, [(9, x0), (0, x1), (99, 0)], [(0, 8), (0, (x1 - ((jup (jup s x0 4 1) x0 2 x1) x0 3)))], (jup (jup s x0 4 1) x0 2 x1))) from rfl) ?_
  refine AT.ite (x := (0, 0, 0)) (by decide +kernel) (show jbr (.if_icmp .le 8) (78, [(9, x0), (0, x1), (99, 0)], [(0, 8), (0, (x1 - ((jup (jup s x0 4 1) x0 2 x1) x0 3)))], (jup (jup s x0 4 1) x0 2 x1)) = some (8 < (w32 (x1 - ((jup (jup s x0 4 1) x0 2 x1) x0 3))), (81, [(9, x0), (0, x1), (99, 0)], [], (jup (jup s x0 4 1) x0 2 x1)), (86, [(9, x0), (0, x1), (99, 0)], [], (jup (jup s x0 4 1) x0 2 x1))) from rfl) H (fun H => ?_) (fun H => ?_)
  · refine AT.seq [(81, .aload_n 0, 1, (0, 0, 0)), (82, .lconst 0, 1, (0, 0, 0)), (83, .putfield 40, 3, (2041, 507, 0)), (86, .iconst 0, 1, (0, 0, 0)), (87, .istore_n 2, 1, (0, 0, 0))] (by decide +kernel) (show jrun _ (81, [(9, x0), (0, x1), (99, 0)], [], (jup (jup s x0 4 1) x0 2 x1)) = some ([], (88, [(9, x0), (0, x1), (0, 0)], [], (jup (jup (jup s x0 4 1) x0 2 x1) x0 7 0))) from rfl) ?_
    exact AT.weak (L' := [(9, x0), (99, 0), (0, 0)]) (jleK (jleJ (jleK jle0))) (Te_scanWord_88_ok  jFU _ _ _ H)
  · refine AT.seq [(86, .iconst 0, 1, (0, 0, 0)), (87, .istore_n 2, 1, (0, 0, 0))] (by decide +kernel) (show jrun _ (86, [(9, x0), (0, x1), (99, 0)], [], (jup (jup s x0 4 1) x0 2 x1)) = some ([], (88, [(9, x0), (0, x1), (0, 0)], [], (jup (jup s x0 4 1) x0 2 x1))) from rfl) ?_
    exact AT.weak (L' := [(9, x0), (99, 0), (0, 0)]) (jleK (jleJ (jleK jle0))) (Te_scanWord_88_ok  jFU _ _ _ H)
theorem Te_scanWord_5_ok {o : Int × jM} : ∀ (n : Nat) (x0 x1 : Int) (s : jM), Te_scanWord_5  n x0 x1 s = some o → AT sTe_scanWord 0 (5, [(9, x0), (0, x1), (99, 0)], [], s) o := by
  intro n
  induction n with
  | zero =>
    intro x0 x1 s H
    have H : (none : Option (Int × jM)) = some o := H
    cases H
  | succ n ih =>
    intro x0 x1 s H
    rw [Te_scanWord_5] at H
    refine AT.seq [(5, .iload_n 1, 1, (0, 0, 0)), (6, .aload_n 0, 1, (0, 0, 0)), (7, .getfield 19, 3, (2031, 501, 0))] (by decide +kernel) (show jrun _ (5, [(9, x0), (0, x1), (99, 0)], [], s) = some ([], (10, [(9, x0), (0, x1), (99, 0)], [(0, (s x0 1)), (0, x1)], s)) from rfl) ?_
    refine AT.ite (x := (0, 0, 0)) (by decide +kernel) (show jbr (.if_icmp .ge 50) (10, [(9, x0), (0, x1), (99, 0)], [(0, (s x0 1)), (0, x1)], s) = some ((w32 x1) < (w32 (s x0 1)), (13, [(9, x0), (0, x1), (99, 0)], [], s), (60, [(9, x0), (0, x1), (99, 0)], [], s)) from rfl) H (fun H => ?_) (fun H => ?_)
    · refine AT.blk (g := (0 ≤ (w32 x1) ∧ (w32 x1) < 900)) [(13, .aload_n 0, 1, (0, 0, 0)), (14, .getfield 9, 3, (2047, 510, 0)), (17, .iload_n 1, 1, (0, 0, 0)), (18, .baload, 1, (0, 0, 0)), (19, .bipush 97, 2, (0, 0, 0))] (by decide +kernel) (show jrun _ (13, [(9, x0), (0, x1), (99, 0)], [], s) = some ([(0 ≤ (w32 x1) ∧ (w32 x1) < 900)], (21, [(9, x0), (0, x1), (99, 0)], [(0, 97), (0, (s (x0 + 1) (w32 x1)))], s)) from rfl) (fun h => h) H (fun H => ?_)
      refine AT.ite (x := (0, 0, 0)) (by decide +kernel) (show jbr (.if_icmp .lt 39) (21, [(9, x0), (0, x1), (99, 0)], [(0, 97), (0, (s (x0 + 1) (w32 x1)))], s) = some ((w32 (s (x0 + 1) (w32 x1))) < 97, (60, [(9, x0), (0, x1), (99, 0)], [], s), (24, [(9, x0), (0, x1), (99, 0)], [], s)) from rfl) H (fun H => ?_) (fun H => ?_)
      · exact Te_scanWord_60_ok  H
      · refine AT.blk (g := (0 ≤ (w32 x1) ∧ (w32 x1) < 900)) [(24, .aload_n 0, 1, (0, 0, 0)), (25, .getfield 9, 3, (2047, 510, 0)), (28, .iload_n 1, 1, (0, 0, 0)), (29, .baload, 1, (0, 0, 0)), (30, .bipush 122, 2, (0, 0, 0))] (by decide +kernel) (show jrun _ (24, [(9, x0), (0, x1), (99, 0)], [], s) = some ([(0 ≤ (w32 x1) ∧ (w32 x1) < 900)], (32, [(9, x0), (0, x1), (99, 0)], [(0, 122), (0, (s (x0 + 1) (w32 x1)))], s)) from rfl) (fun h => h) H (fun H => ?_)
        refine AT.ite (x := (0, 0, 0)) (by decide +kernel) (show jbr (.if_icmp .gt 28) (32, [(9, x0), (0, x1), (99, 0)], [(0, 122), (0, (s (x0 + 1) (w32 x1)))], s) = some (122 < (w32 (s (x0 + 1) (w32 x1))), (60, [(9, x0), (0, x1), (99, 0)], [], s), (35, [(9, x0), (0, x1), (99, 0)], [], s)) from rfl) H (fun H => ?_) (fun H => ?_)
        · exact Te_scanWord_60_ok  H
        · refine AT.blk (g := (0 ≤ (w32 x1) ∧ (w32 x1) < 900)) [(35, .aload_n 0, 1, (0, 0, 0)), (36, .aload_n 0, 1, (0, 0, 0)), (37, .getfield 40, 3, (2041, 507, 0)), (40, .bipush 8, 2, (0, 0, 0)), (42, .lshl, 1, (0, 0, 0)), (43, .aload_n 0, 1, (0, 0, 0)), (44, .getfield 9, 3, (2047, 510, 0)), (47, .iload_n 1, 1, (0, 0, 0)), (48, .baload, 1, (0, 0, 0)), (49, .i2l, 1, (0, 0, 0)), (50, .lor, 1, (0, 0, 0)), (51, .putfield 40, 3, (2041, 507, 0)), (54, .iinc 1 1, 3, (0, 0, 0)), (57, .goto (-52), 3, (0, 0, 0))] (by decide +kernel) (show jrun _ (35, [(9, x0), (0, x1), (99, 0)], [], s) = some ([(0 ≤ (w32 x1) ∧ (w32 x1) < 900)], (5, [(9, x0), (0, (x1 + 1)), (99, 0)], [], (jup s x0 7 (jlor (jlshl (s x0 7) 8) (w32 (s (x0 + 1) (w32 x1))))))) from rfl) (fun h => h) H (fun H => ?_)
          exact ih _ _ _ H
    · exact Te_scanWord_60_ok  H
theorem Te_scanWord_ok {a0 : Int} {s : jM} {o : Int × jM} (H : Te_scanWord a0 s = some o) : MK sTe_scanWord 0 [(9, a0)] s o := by
  refine MK.of kTe_scanWord rfl ?_
  show AT sTe_scanWord 0 (0, [(9, a0), (99, 0), (99, 0)], [], s) o
  unfold Te_scanWord at H
  refine AT.seq [(0, .aload_n 0, 1, (0, 0, 0)), (1, .getfield 34, 3, (2033, 503, 0)), (4, .istore_n 1, 1, (0, 0, 0))] (by decide +kernel) (show jrun _ (0, [(9, a0), (99, 0), (99, 0)], [], s) = some ([], (5, [(9, a0), (0, (s a0 3)), (99, 0)], [], s)) from rfl) ?_
  exact Te_scanWord_5_ok  jFU _ _ _ H
def sTe_scanNumber : jS := (⟨"JellyCathedral$Text", "scanNumber", "()V"⟩, prog_10_method_7_code, 2, 0, [9], 0)
theorem kTe_scanNumber : jmk sTe_scanNumber = true := jmk_of 3110 1006 3109 6 (by decide +kernel)
theorem Te_scanNumber_77_ok {o : Int × jM} {x0 x1 : Int} {s : jM} (H : Te_scanNumber_77  x0 x1 s = some o) : AT sTe_scanNumber 0 (77, [(9, x0), (0, x1)], [], s) o := by
  unfold Te_scanNumber_77 at H
  refine AT.seq [(77, .aload_n 0, 1, (0, 0, 0)), (78, .iload_n 1, 1, (0, 0, 0)), (79, .aload_n 0, 1, (0, 0, 0)), (80, .getfield 34, 3, (2033, 503, 0)), (83, .isub, 1, (0, 0, 0)), (84, .iconst 4, 1, (0, 0, 0))] (by decide +kernel) (show jrun _ (77, [(9, x0), (0, x1)], [], s) = some ([], (85, [(9, x0), (0, x1)], [(0, 4), (0, (x1 - (s x0 3))), (9, x0)], s)) from rfl) ?_
  refine AT.ite (x := (0, 0, 0)) (by decide +kernel) (show jbr (.if_icmp .le 7) (85, [(9, x0), (0, x1)], [(0, 4), (0, (x1 - (s x0 3))), (9, x0)], s) = some (4 < (w32 (x1 - (s x0 3))), (88, [(9, x0), (0, x1)], [(9, x0)], s), (92, [(9, x0), (0, x1)], [(9, x0)], s)) from rfl) H (fun H => ?_) (fun H => ?_)
  · refine AT.seq [(88, .iconst 4, 1, (0, 0, 0)), (89, .goto 4, 3, (0, 0, 0)), (93, .putfield 47, 3, (2036, 504, 0)), (96, .aload_n 0, 1, (0, 0, 0)), (97, .iload_n 1, 1, (0, 0, 0)), (98, .putfield 22, 3, (2032, 502, 0))] (by decide +kernel) (show jrun _ (88, [(9, x0), (0, x1)], [(9, x0)], s) = some ([], (101, [(9, x0), (0, x1)], [], (jup (jup s x0 4 4) x0 2 x1))) from rfl) ?_
    exact AT.retvH (by decide +kernel) H
  · refine AT.seq [(92, .iconst 2, 1, (0, 0, 0)), (93, .putfield 47, 3, (2036, 504, 0)), (96, .aload_n 0, 1, (0, 0, 0)), (97, .iload_n 1, 1, (0, 0, 0)), (98, .putfield 22, 3, (2032, 502, 0))] (by decide +kernel) (show jrun _ (92, [(9, x0), (0, x1)], [(9, x0)], s) = some ([], (101, [(9, x0), (0, x1)], [], (jup (jup s x0 4 2) x0 2 x1))) from rfl) ?_
    exact AT.retvH (by decide +kernel) H
theorem Te_scanNumber_10_ok {o : Int × jM} : ∀ (n : Nat) (x0 x1 : Int) (s : jM), Te_scanNumber_10  n x0 x1 s = some o → AT sTe_scanNumber 0 (10, [(9, x0), (0, x1)], [], s) o := by
  intro n
  induction n with
  | zero =>
    intro x0 x1 s H
    have H : (none : Option (Int × jM)) = some o := H
    cases H
  | succ n ih =>
    intro x0 x1 s H
    rw [Te_scanNumber_10] at H
    refine AT.seq [(10, .iload_n 1, 1, (0, 0, 0)), (11, .aload_n 0, 1, (0, 0, 0)), (12, .getfield 19, 3, (2031, 501, 0))] (by decide +kernel) (show jrun _ (10, [(9, x0), (0, x1)], [], s) = some ([], (15, [(9, x0), (0, x1)], [(0, (s x0 1)), (0, x1)], s)) from rfl) ?_
    refine AT.ite (x := (0, 0, 0)) (by decide +kernel) (show jbr (.if_icmp .ge 62) (15, [(9, x0), (0, x1)], [(0, (s x0 1)), (0, x1)], s) = some ((w32 x1) < (w32 (s x0 1)), (18, [(9, x0), (0, x1)], [], s), (77, [(9, x0), (0, x1)], [], s)) from rfl) H (fun H => ?_) (fun H => ?_)
    · refine AT.blk (g := (0 ≤ (w32 x1) ∧ (w32 x1) < 900)) [(18, .aload_n 0, 1, (0, 0, 0)), (19, .getfield 9, 3, (2047, 510, 0)), (22, .iload_n 1, 1, (0, 0, 0)), (23, .baload, 1, (0, 0, 0)), (24, .bipush 48, 2, (0, 0, 0))] (by decide +kernel) (show jrun _ (18, [(9, x0), (0, x1)], [], s) = some ([(0 ≤ (w32 x1) ∧ (w32 x1) < 900)], (26, [(9, x0), (0, x1)], [(0, 48), (0, (s (x0 + 1) (w32 x1)))], s)) from rfl) (fun h => h) H (fun H => ?_)
      refine AT.ite (x := (0, 0, 0)) (by decide +kernel) (show jbr (.if_icmp .lt 51) (26, [(9, x0), (0, x1)], [(0, 48), (0, (s (x0 + 1) (w32 x1)))], s) = some ((w32 (s (x0 + 1) (w32 x1))) < 48, (77, [(9, x0), (0, x1)], [], s), (29, [(9, x0), (0, x1)], [], s)) from rfl) H (fun H => ?_) (fun H => ?_)
      · exact Te_scanNumber_77_ok  H
      · refine AT.blk (g := (0 ≤ (w32 x1) ∧ (w32 x1) < 900)) [(29, .aload_n 0, 1, (0, 0, 0)), (30, .getfield 9, 3, (2047, 510, 0)), (33, .iload_n 1, 1, (0, 0, 0)), (34, .baload, 1, (0, 0, 0)), (35, .bipush 57, 2, (0, 0, 0))] (by decide +kernel) (show jrun _ (29, [(9, x0), (0, x1)], [], s) = some ([(0 ≤ (w32 x1) ∧ (w32 x1) < 900)], (37, [(9, x0), (0, x1)], [(0, 57), (0, (s (x0 + 1) (w32 x1)))], s)) from rfl) (fun h => h) H (fun H => ?_)
        refine AT.ite (x := (0, 0, 0)) (by decide +kernel) (show jbr (.if_icmp .gt 40) (37, [(9, x0), (0, x1)], [(0, 57), (0, (s (x0 + 1) (w32 x1)))], s) = some (57 < (w32 (s (x0 + 1) (w32 x1))), (77, [(9, x0), (0, x1)], [], s), (40, [(9, x0), (0, x1)], [], s)) from rfl) H (fun H => ?_) (fun H => ?_)
        · exact Te_scanNumber_77_ok  H
        · refine AT.seq [(40, .iload_n 1, 1, (0, 0, 0)), (41, .aload_n 0, 1, (0, 0, 0)), (42, .getfield 34, 3, (2033, 503, 0)), (45, .isub, 1, (0, 0, 0)), (46, .iconst 4, 1, (0, 0, 0))] (by decide +kernel) (show jrun _ (40, [(9, x0), (0, x1)], [], s) = some ([], (47, [(9, x0), (0, x1)], [(0, 4), (0, (x1 - (s x0 3)))], s)) from rfl) ?_
          refine AT.ite (x := (0, 0, 0)) (by decide +kernel) (show jbr (.if_icmp .ge 24) (47, [(9, x0), (0, x1)], [(0, 4), (0, (x1 - (s x0 3)))], s) = some ((w32 (x1 - (s x0 3))) < 4, (50, [(9, x0), (0, x1)], [], s), (71, [(9, x0), (0, x1)], [], s)) from rfl) H (fun H => ?_) (fun H => ?_)
          · refine AT.blk (g := (0 ≤ (w32 x1) ∧ (w32 x1) < 900)) [(50, .aload_n 0, 1, (0, 0, 0)), (51, .aload_n 0, 1, (0, 0, 0)), (52, .getfield 44, 3, (2040, 506, 0)), (55, .bipush 10, 2, (0, 0, 0)), (57, .imul, 1, (0, 0, 0)), (58, .aload_n 0, 1, (0, 0, 0)), (59, .getfield 9, 3, (2047, 510, 0)), (62, .iload_n 1, 1, (0, 0, 0)), (63, .baload, 1, (0, 0, 0)), (64, .iadd, 1, (0, 0, 0)), (65, .bipush 48, 2, (0, 0, 0)), (67, .isub, 1, (0, 0, 0)), (68, .putfield 44, 3, (2040, 506, 0)), (71, .iinc 1 1, 3, (0, 0, 0)), (74, .goto (-64), 3, (0, 0, 0))] (by decide +kernel) (show jrun _ (50, [(9, x0), (0, x1)], [], s) = some ([(0 ≤ (w32 x1) ∧ (w32 x1) < 900)], (10, [(9, x0), (0, (x1 + 1))], [], (jup s x0 6 ((((s x0 6) * 10) + (s (x0 + 1) (w32 x1))) - 48)))) from rfl) (fun h => h) H (fun H => ?_)
            exact ih _ _ _ H
          · refine AT.seq [(71, .iinc 1 1, 3, (0, 0, 0)), (74, .goto (-64), 3, (0, 0, 0))] (by decide +kernel) (show jrun _ (71, [(9, x0), (0, x1)], [], s) = some ([], (10, [(9, x0), (0, (x1 + 1))], [], s)) from rfl) ?_
            exact ih _ _ _ H
    · exact Te_scanNumber_77_ok  H
theorem Te_scanNumber_ok {a0 : Int} {s : jM} {o : Int × jM} (H : Te_scanNumber a0 s = some o) : MK sTe_scanNumber 0 [(9, a0)] s o := by
  refine MK.of kTe_scanNumber rfl ?_
  show AT sTe_scanNumber 0 (0, [(9, a0), (99, 0)], [], s) o
  unfold Te_scanNumber at H
  refine AT.seq [(0, .aload_n 0, 1, (0, 0, 0)), (1, .getfield 34, 3, (2033, 503, 0)), (4, .istore_n 1, 1, (0, 0, 0)), (5, .aload_n 0, 1, (0, 0, 0)), (6, .iconst 0, 1, (0, 0, 0)), (7, .putfield 44, 3, (2040, 506, 0))] (by decide +kernel) (show jrun _ (0, [(9, a0), (99, 0)], [], s) = some ([], (10, [(9, a0), (0, (s a0 3))], [], (jup s a0 6 0))) from rfl) ?_
  exact Te_scanNumber_10_ok  jFU _ _ _ H
def sTe_advance : jS := (⟨"JellyCathedral$Text", "advance", "()V"⟩, prog_10_method_5_code, 2, 0, [9], 0)
theorem kTe_advance : jmk sTe_advance = true := jmk_of 3100 1006 3098 3099 (by decide +kernel)
theorem Te_advance_149_ok {o : Int × jM} {x0 x1 : Int} {s : jM} (H : Te_advance_149  x0 x1 s = some o) : AT sTe_advance 1 (149, [(9, x0), (0, x1)], [], s) o := by
  unfold Te_advance_149 at H
  refine AT.seq [(149, .aload_n 0, 1, (0, 0, 0)), (150, .aload_n 0, 1, (0, 0, 0)), (151, .getfield 44, 3, (2040, 506, 0)), (154, .bipush 59, 2, (0, 0, 0))] (by decide +kernel) (show jrun _ (149, [(9, x0), (0, x1)], [], s) = some ([], (156, [(9, x0), (0, x1)], [(0, 59), (0, (s x0 6)), (9, x0)], s)) from rfl) ?_
  refine AT.ite (x := (0, 0, 0)) (by decide +kernel) (show jbr (.if_icmp .eq 30) (156, [(9, x0), (0, x1)], [(0, 59), (0, (s x0 6)), (9, x0)], s) = some ((w32 (s x0 6)) = 59, (186, [(9, x0), (0, x1)], [(9, x0)], s), (159, [(9, x0), (0, x1)], [(9, x0)], s)) from rfl) H (fun H => ?_) (fun H => ?_)
  · refine AT.seq [(186, .iconst 3, 1, (0, 0, 0)), (187, .goto 4, 3, (0, 0, 0)), (191, .putfield 47, 3, (2036, 504, 0)), (194, .aload_n 0, 1, (0, 0, 0)), (195, .iload_n 1, 1, (0, 0, 0)), (196, .iconst 1, 1, (0, 0, 0)), (197, .iadd, 1, (0, 0, 0)), (198, .putfield 22, 3, (2032, 502, 0))] (by decide +kernel) (show jrun _ (186, [(9, x0), (0, x1)], [(9, x0)], s) = some ([], (201, [(9, x0), (0, x1)], [], (jup (jup s x0 4 3) x0 2 (x1 + 1)))) from rfl) ?_
    exact AT.retvH (by decide +kernel) H
  · refine AT.seq [(159, .aload_n 0, 1, (0, 0, 0)), (160, .getfield 44, 3, (2040, 506, 0)), (163, .bipush 60, 2, (0, 0, 0))] (by decide +kernel) (show jrun _ (159, [(9, x0), (0, x1)], [(9, x0)], s) = some ([], (165, [(9, x0), (0, x1)], [(0, 60), (0, (s x0 6)), (9, x0)], s)) from rfl) ?_
    refine AT.ite (x := (0, 0, 0)) (by decide +kernel) (show jbr (.if_icmp .eq 21) (165, [(9, x0), (0, x1)], [(0, 60), (0, (s x0 6)), (9, x0)], s) = some ((w32 (s x0 6)) = 60, (186, [(9, x0), (0, x1)], [(9, x0)], s), (168, [(9, x0), (0, x1)], [(9, x0)], s)) from rfl) H (fun H => ?_) (fun H => ?_)
    · refine AT.seq [(186, .iconst 3, 1, (0, 0, 0)), (187, .goto 4, 3, (0, 0, 0)), (191, .putfield 47, 3, (2036, 504, 0)), (194, .aload_n 0, 1, (0, 0, 0)), (195, .iload_n 1, 1, (0, 0, 0)), (196, .iconst 1, 1, (0, 0, 0)), (197, .iadd, 1, (0, 0, 0)), (198, .putfield 22, 3, (2032, 502, 0))] (by decide +kernel) (show jrun _ (186, [(9, x0), (0, x1)], [(9, x0)], s) = some ([], (201, [(9, x0), (0, x1)], [], (jup (jup s x0 4 3) x0 2 (x1 + 1)))) from rfl) ?_
      exact AT.retvH (by decide +kernel) H
    · refine AT.seq [(168, .aload_n 0, 1, (0, 0, 0)), (169, .getfield 44, 3, (2040, 506, 0)), (172, .bipush 62, 2, (0, 0, 0))] (by decide +kernel) (show jrun _ (168, [(9, x0), (0, x1)], [(9, x0)], s) = some ([], (174, [(9, x0), (0, x1)], [(0, 62), (0, (s x0 6)), (9, x0)], s)) from rfl) ?_
      refine AT.ite (x := (0, 0, 0)) (by decide +kernel) (show jbr (.if_icmp .eq 12) (174, [(9, x0), (0, x1)], [(0, 62), (0, (s x0 6)), (9, x0)], s) = some ((w32 (s x0 6)) = 62, (186, [(9, x0), (0, x1)], [(9, x0)], s), (177, [(9, x0), (0, x1)], [(9, x0)], s)) from rfl) H (fun H => ?_) (fun H => ?_)
      · refine AT.seq [(186, .iconst 3, 1, (0, 0, 0)), (187, .goto 4, 3, (0, 0, 0)), (191, .putfield 47, 3, (2036, 504, 0)), (194, .aload_n 0, 1, (0, 0, 0)), (195, .iload_n 1, 1, (0, 0, 0)), (196, .iconst 1, 1, (0, 0, 0)), (197, .iadd, 1, (0, 0, 0)), (198, .putfield 22, 3, (2032, 502, 0))] (by decide +kernel) (show jrun _ (186, [(9, x0), (0, x1)], [(9, x0)], s) = some ([], (201, [(9, x0), (0, x1)], [], (jup (jup s x0 4 3) x0 2 (x1 + 1)))) from rfl) ?_
        exact AT.retvH (by decide +kernel) H
      · refine AT.seq [(177, .aload_n 0, 1, (0, 0, 0)), (178, .getfield 44, 3, (2040, 506, 0)), (181, .bipush 61, 2, (0, 0, 0))] (by decide +kernel) (show jrun _ (177, [(9, x0), (0, x1)], [(9, x0)], s) = some ([], (183, [(9, x0), (0, x1)], [(0, 61), (0, (s x0 6)), (9, x0)], s)) from rfl) ?_
        refine AT.ite (x := (0, 0, 0)) (by decide +kernel) (show jbr (.if_icmp .ne 7) (183, [(9, x0), (0, x1)], [(0, 61), (0, (s x0 6)), (9, x0)], s) = some ((w32 (s x0 6)) = 61, (186, [(9, x0), (0, x1)], [(9, x0)], s), (190, [(9, x0), (0, x1)], [(9, x0)], s)) from rfl) H (fun H => ?_) (fun H => ?_)
        · refine AT.seq [(186, .iconst 3, 1, (0, 0, 0)), (187, .goto 4, 3, (0, 0, 0)), (191, .putfield 47, 3, (2036, 504, 0)), (194, .aload_n 0, 1, (0, 0, 0)), (195, .iload_n 1, 1, (0, 0, 0)), (196, .iconst 1, 1, (0, 0, 0)), (197, .iadd, 1, (0, 0, 0)), (198, .putfield 22, 3, (2032, 502, 0))] (by decide +kernel) (show jrun _ (186, [(9, x0), (0, x1)], [(9, x0)], s) = some ([], (201, [(9, x0), (0, x1)], [], (jup (jup s x0 4 3) x0 2 (x1 + 1)))) from rfl) ?_
          exact AT.retvH (by decide +kernel) H
        · refine AT.seq [(190, .iconst 4, 1, (0, 0, 0)), (191, .putfield 47, 3, (2036, 504, 0)), (194, .aload_n 0, 1, (0, 0, 0)), (195, .iload_n 1, 1, (0, 0, 0)), (196, .iconst 1, 1, (0, 0, 0)), (197, .iadd, 1, (0, 0, 0)), (198, .putfield 22, 3, (2032, 502, 0))] (by decide +kernel) (show jrun _ (190, [(9, x0), (0, x1)], [(9, x0)], s) = some ([], (201, [(9, x0), (0, x1)], [], (jup (jup s x0 4 4) x0 2 (x1 + 1)))) from rfl) ?_
          exact AT.retvH (by decide +kernel) H
theorem Te_advance_124_ok {o : Int × jM} {x0 x1 : Int} {s : jM} (H : Te_advance_124  x0 x1 s = some o) : AT sTe_advance 1 (124, [(9, x0), (0, x1)], [], s) o := by
  unfold Te_advance_124 at H
  refine AT.seq [(124, .aload_n 0, 1, (0, 0, 0)), (125, .getfield 44, 3, (2040, 506, 0)), (128, .bipush 48, 2, (0, 0, 0))] (by decide +kernel) (show jrun _ (124, [(9, x0), (0, x1)], [], s) = some ([], (130, [(9, x0), (0, x1)], [(0, 48), (0, (s x0 6))], s)) from rfl) ?_
  refine AT.ite (x := (0, 0, 0)) (by decide +kernel) (show jbr (.if_icmp .lt 19) (130, [(9, x0), (0, x1)], [(0, 48), (0, (s x0 6))], s) = some ((w32 (s x0 6)) < 48, (149, [(9, x0), (0, x1)], [], s), (133, [(9, x0), (0, x1)], [], s)) from rfl) H (fun H => ?_) (fun H => ?_)
  · exact Te_advance_149_ok  H
  · refine AT.seq [(133, .aload_n 0, 1, (0, 0, 0)), (134, .getfield 44, 3, (2040, 506, 0)), (137, .bipush 57, 2, (0, 0, 0))] (by decide +kernel) (show jrun _ (133, [(9, x0), (0, x1)], [], s) = some ([], (139, [(9, x0), (0, x1)], [(0, 57), (0, (s x0 6))], s)) from rfl) ?_
    refine AT.ite (x := (0, 0, 0)) (by decide +kernel) (show jbr (.if_icmp .gt 10) (139, [(9, x0), (0, x1)], [(0, 57), (0, (s x0 6))], s) = some (57 < (w32 (s x0 6)), (149, [(9, x0), (0, x1)], [], s), (142, [(9, x0), (0, x1)], [], s)) from rfl) H (fun H => ?_) (fun H => ?_)
    · exact Te_advance_149_ok  H
    · refine AT.seq [(142, .aload_n 0, 1, (0, 0, 0))] (by decide +kernel) (show jrun _ (142, [(9, x0), (0, x1)], [], s) = some ([], (143, [(9, x0), (0, x1)], [(9, x0)], s)) from rfl) ?_
      obtain ⟨v1, s1, h1, H⟩ := jb_some H
      refine AT.callV (As := []) (cl := 5) (b := x0) (st := []) (i := 53) (pos := 3107) kTe_scanNumber (by decide +kernel) rfl (by decide +kernel) rfl rfl (by omega) (Te_scanNumber_ok h1) ?_
      show AT sTe_advance 1 (146, [(9, x0), (0, x1)], [], s1) o
      refine AT.seq [(146, .goto 55, 3, (0, 0, 0))] (by decide +kernel) (show jrun _ (146, [(9, x0), (0, x1)], [], s1) = some ([], (201, [(9, x0), (0, x1)], [], s1)) from rfl) ?_
      exact AT.retvH (by decide +kernel) H
theorem Te_advance_75_ok {o : Int × jM} {x0 x1 t0 t1 : Int} {s : jM} (H : Te_advance_75  x0 x1 t0 t1 s = some o) : AT sTe_advance 1 (75, [(9, x0), (0, x1)], [(0, t0), (9, t1)], s) o := by
  unfold Te_advance_75 at H
  refine AT.seq [(75, .putfield 44, 3, (2040, 506, 0)), (78, .iload_n 1, 1, (0, 0, 0)), (79, .aload_n 0, 1, (0, 0, 0)), (80, .getfield 19, 3, (2031, 501, 0))] (by decide +kernel) (show jrun _ (75, [(9, x0), (0, x1)], [(0, t0), (9, t1)], s) = some ([], (83, [(9, x0), (0, x1)], [(0, ((jup s t1 6 t0) x0 1)), (0, x1)], (jup s t1 6 t0))) from rfl) ?_
  refine AT.ite (x := (0, 0, 0)) (by decide +kernel) (show jbr (.if_icmp .lt 16) (83, [(9, x0), (0, x1)], [(0, ((jup s t1 6 t0) x0 1)), (0, x1)], (jup s t1 6 t0)) = some ((w32 x1) < (w32 ((jup s t1 6 t0) x0 1)), (99, [(9, x0), (0, x1)], [], (jup s t1 6 t0)), (86, [(9, x0), (0, x1)], [], (jup s t1 6 t0))) from rfl) H (fun H => ?_) (fun H => ?_)
  · refine AT.seq [(99, .aload_n 0, 1, (0, 0, 0)), (100, .getfield 44, 3, (2040, 506, 0)), (103, .bipush 97, 2, (0, 0, 0))] (by decide +kernel) (show jrun _ (99, [(9, x0), (0, x1)], [], (jup s t1 6 t0)) = some ([], (105, [(9, x0), (0, x1)], [(0, 97), (0, ((jup s t1 6 t0) x0 6))], (jup s t1 6 t0))) from rfl) ?_
    refine AT.ite (x := (0, 0, 0)) (by decide +kernel) (show jbr (.if_icmp .lt 19) (105, [(9, x0), (0, x1)], [(0, 97), (0, ((jup s t1 6 t0) x0 6))], (jup s t1 6 t0)) = some ((w32 ((jup s t1 6 t0) x0 6)) < 97, (124, [(9, x0), (0, x1)], [], (jup s t1 6 t0)), (108, [(9, x0), (0, x1)], [], (jup s t1 6 t0))) from rfl) H (fun H => ?_) (fun H => ?_)
    · exact Te_advance_124_ok  H
    · refine AT.seq [(108, .aload_n 0, 1, (0, 0, 0)), (109, .getfield 44, 3, (2040, 506, 0)), (112, .bipush 122, 2, (0, 0, 0))] (by decide +kernel) (show jrun _ (108, [(9, x0), (0, x1)], [], (jup s t1 6 t0)) = some ([], (114, [(9, x0), (0, x1)], [(0, 122), (0, ((jup s t1 6 t0) x0 6))], (jup s t1 6 t0))) from rfl) ?_
      refine AT.ite (x := (0, 0, 0)) (by decide +kernel) (show jbr (.if_icmp .gt 10) (114, [(9, x0), (0, x1)], [(0, 122), (0, ((jup s t1 6 t0) x0 6))], (jup s t1 6 t0)) = some (122 < (w32 ((jup s t1 6 t0) x0 6)), (124, [(9, x0), (0, x1)], [], (jup s t1 6 t0)), (117, [(9, x0), (0, x1)], [], (jup s t1 6 t0))) from rfl) H (fun H => ?_) (fun H => ?_)
      · exact Te_advance_124_ok  H
      · refine AT.seq [(117, .aload_n 0, 1, (0, 0, 0))] (by decide +kernel) (show jrun _ (117, [(9, x0), (0, x1)], [], (jup s t1 6 t0)) = some ([], (118, [(9, x0), (0, x1)], [(9, x0)], (jup s t1 6 t0))) from rfl) ?_
        obtain ⟨v2, s2, h2, H⟩ := jb_some H
        refine AT.callV (As := []) (cl := 5) (b := x0) (st := []) (i := 50) (pos := 3101) kTe_scanWord (by decide +kernel) rfl (by decide +kernel) rfl rfl (by omega) (Te_scanWord_ok h2) ?_
        show AT sTe_advance 1 (121, [(9, x0), (0, x1)], [], s2) o
        refine AT.seq [(121, .goto 80, 3, (0, 0, 0))] (by decide +kernel) (show jrun _ (121, [(9, x0), (0, x1)], [], s2) = some ([], (201, [(9, x0), (0, x1)], [], s2)) from rfl) ?_
        exact AT.retvH (by decide +kernel) H
  · refine AT.seq [(86, .aload_n 0, 1, (0, 0, 0)), (87, .iconst 0, 1, (0, 0, 0)), (88, .putfield 47, 3, (2036, 504, 0)), (91, .aload_n 0, 1, (0, 0, 0)), (92, .iload_n 1, 1, (0, 0, 0)), (93, .putfield 22, 3, (2032, 502, 0)), (96, .goto 105, 3, (0, 0, 0))] (by decide +kernel) (show jrun _ (86, [(9, x0), (0, x1)], [], (jup s t1 6 t0)) = some ([], (201, [(9, x0), (0, x1)], [], (jup (jup (jup s t1 6 t0) x0 4 0) x0 2 x1))) from rfl) ?_
    exact AT.retvH (by decide +kernel) H
theorem Te_advance_41_ok {o : Int × jM} {x0 x1 : Int} {s : jM} (H : Te_advance_41  x0 x1 s = some o) : AT sTe_advance 1 (41, [(9, x0), (0, x1)], [], s) o := by
  unfold Te_advance_41 at H
  refine AT.seq [(41, .aload_n 0, 1, (0, 0, 0)), (42, .iload_n 1, 1, (0, 0, 0)), (43, .putfield 34, 3, (2033, 503, 0)), (46, .aload_n 0, 1, (0, 0, 0)), (47, .iconst (-1), 1, (0, 0, 0)), (48, .putfield 37, 3, (2039, 505, 0)), (51, .aload_n 0, 1, (0, 0, 0)), (52, .lconst 0, 1, (0, 0, 0)), (53, .putfield 40, 3, (2041, 507, 0)), (56, .aload_n 0, 1, (0, 0, 0)), (57, .iload_n 1, 1, (0, 0, 0)), (58, .aload_n 0, 1, (0, 0, 0)), (59, .getfield 19, 3, (2031, 501, 0))] (by decide +kernel) (show jrun _ (41, [(9, x0), (0, x1)], [], s) = some ([], (62, [(9, x0), (0, x1)], [(0, ((jup (jup (jup s x0 3 x1) x0 5 (-1)) x0 7 0) x0 1)), (0, x1), (9, x0)], (jup (jup (jup s x0 3 x1) x0 5 (-1)) x0 7 0))) from rfl) ?_
  refine AT.ite (x := (0, 0, 0)) (by decide +kernel) (show jbr (.if_icmp .ge 12) (62, [(9, x0), (0, x1)], [(0, ((jup (jup (jup s x0 3 x1) x0 5 (-1)) x0 7 0) x0 1)), (0, x1), (9, x0)], (jup (jup (jup s x0 3 x1) x0 5 (-1)) x0 7 0)) = some ((w32 x1) < (w32 ((jup (jup (jup s x0 3 x1) x0 5 (-1)) x0 7 0) x0 1)), (65, [(9, x0), (0, x1)], [(9, x0)], (jup (jup (jup s x0 3 x1) x0 5 (-1)) x0 7 0)), (74, [(9, x0), (0, x1)], [(9, x0)], (jup (jup (jup s x0 3 x1) x0 5 (-1)) x0 7 0))) from rfl) H (fun H => ?_) (fun H => ?_)
  · refine AT.blk (g := (0 ≤ (w32 x1) ∧ (w32 x1) < 900)) [(65, .aload_n 0, 1, (0, 0, 0)), (66, .getfield 9, 3, (2047, 510, 0)), (69, .iload_n 1, 1, (0, 0, 0)), (70, .baload, 1, (0, 0, 0)), (71, .goto 4, 3, (0, 0, 0))] (by decide +kernel) (show jrun _ (65, [(9, x0), (0, x1)], [(9, x0)], (jup (jup (jup s x0 3 x1) x0 5 (-1)) x0 7 0)) = some ([(0 ≤ (w32 x1) ∧ (w32 x1) < 900)], (75, [(9, x0), (0, x1)], [(0, ((jup (jup (jup s x0 3 x1) x0 5 (-1)) x0 7 0) (x0 + 1) (w32 x1))), (9, x0)], (jup (jup (jup s x0 3 x1) x0 5 (-1)) x0 7 0))) from rfl) (fun h => h) H (fun H => ?_)
    exact Te_advance_75_ok  H
  · refine AT.seq [(74, .iconst 0, 1, (0, 0, 0))] (by decide +kernel) (show jrun _ (74, [(9, x0), (0, x1)], [(9, x0)], (jup (jup (jup s x0 3 x1) x0 5 (-1)) x0 7 0)) = some ([], (75, [(9, x0), (0, x1)], [(0, 0), (9, x0)], (jup (jup (jup s x0 3 x1) x0 5 (-1)) x0 7 0))) from rfl) ?_
    exact Te_advance_75_ok  H
theorem Te_advance_5_ok {o : Int × jM} : ∀ (n : Nat) (x0 x1 : Int) (s : jM), Te_advance_5  n x0 x1 s = some o → AT sTe_advance 1 (5, [(9, x0), (0, x1)], [], s) o := by
  intro n
  induction n with
  | zero =>
    intro x0 x1 s H
    have H : (none : Option (Int × jM)) = some o := H
    cases H
  | succ n ih =>
    intro x0 x1 s H
    rw [Te_advance_5] at H
    refine AT.seq [(5, .iload_n 1, 1, (0, 0, 0)), (6, .aload_n 0, 1, (0, 0, 0)), (7, .getfield 19, 3, (2031, 501, 0))] (by decide +kernel) (show jrun _ (5, [(9, x0), (0, x1)], [], s) = some ([], (10, [(9, x0), (0, x1)], [(0, (s x0 1)), (0, x1)], s)) from rfl) ?_
    refine AT.ite (x := (0, 0, 0)) (by decide +kernel) (show jbr (.if_icmp .ge 31) (10, [(9, x0), (0, x1)], [(0, (s x0 1)), (0, x1)], s) = some ((w32 x1) < (w32 (s x0 1)), (13, [(9, x0), (0, x1)], [], s), (41, [(9, x0), (0, x1)], [], s)) from rfl) H (fun H => ?_) (fun H => ?_)
    · refine AT.blk (g := (0 ≤ (w32 x1) ∧ (w32 x1) < 900)) [(13, .aload_n 0, 1, (0, 0, 0)), (14, .getfield 9, 3, (2047, 510, 0)), (17, .iload_n 1, 1, (0, 0, 0)), (18, .baload, 1, (0, 0, 0)), (19, .bipush 10, 2, (0, 0, 0))] (by decide +kernel) (show jrun _ (13, [(9, x0), (0, x1)], [], s) = some ([(0 ≤ (w32 x1) ∧ (w32 x1) < 900)], (21, [(9, x0), (0, x1)], [(0, 10), (0, (s (x0 + 1) (w32 x1)))], s)) from rfl) (fun h => h) H (fun H => ?_)
      refine AT.ite (x := (0, 0, 0)) (by decide +kernel) (show jbr (.if_icmp .eq 14) (21, [(9, x0), (0, x1)], [(0, 10), (0, (s (x0 + 1) (w32 x1)))], s) = some ((w32 (s (x0 + 1) (w32 x1))) = 10, (35, [(9, x0), (0, x1)], [], s), (24, [(9, x0), (0, x1)], [], s)) from rfl) H (fun H => ?_) (fun H => ?_)
      · refine AT.seq [(35, .iinc 1 1, 3, (0, 0, 0)), (38, .goto (-33), 3, (0, 0, 0))] (by decide +kernel) (show jrun _ (35, [(9, x0), (0, x1)], [], s) = some ([], (5, [(9, x0), (0, (x1 + 1))], [], s)) from rfl) ?_
        exact ih _ _ _ H
      · refine AT.blk (g := (0 ≤ (w32 x1) ∧ (w32 x1) < 900)) [(24, .aload_n 0, 1, (0, 0, 0)), (25, .getfield 9, 3, (2047, 510, 0)), (28, .iload_n 1, 1, (0, 0, 0)), (29, .baload, 1, (0, 0, 0)), (30, .bipush 32, 2, (0, 0, 0))] (by decide +kernel) (show jrun _ (24, [(9, x0), (0, x1)], [], s) = some ([(0 ≤ (w32 x1) ∧ (w32 x1) < 900)], (32, [(9, x0), (0, x1)], [(0, 32), (0, (s (x0 + 1) (w32 x1)))], s)) from rfl) (fun h => h) H (fun H => ?_)
        refine AT.ite (x := (0, 0, 0)) (by decide +kernel) (show jbr (.if_icmp .ne 9) (32, [(9, x0), (0, x1)], [(0, 32), (0, (s (x0 + 1) (w32 x1)))], s) = some ((w32 (s (x0 + 1) (w32 x1))) = 32, (35, [(9, x0), (0, x1)], [], s), (41, [(9, x0), (0, x1)], [], s)) from rfl) H (fun H => ?_) (fun H => ?_)
        · refine AT.seq [(35, .iinc 1 1, 3, (0, 0, 0)), (38, .goto (-33), 3, (0, 0, 0))] (by decide +kernel) (show jrun _ (35, [(9, x0), (0, x1)], [], s) = some ([], (5, [(9, x0), (0, (x1 + 1))], [], s)) from rfl) ?_
          exact ih _ _ _ H
        · exact Te_advance_41_ok  H
    · exact Te_advance_41_ok  H
theorem Te_advance_ok {a0 : Int} {s : jM} {o : Int × jM} (H : Te_advance a0 s = some o) : MK sTe_advance 1 [(9, a0)] s o := by
  refine MK.of kTe_advance rfl ?_
  show AT sTe_advance 1 (0, [(9, a0), (99, 0)], [], s) o
  unfold Te_advance at H
  refine AT.seq [(0, .aload_n 0, 1, (0, 0, 0)), (1, .getfield 22, 3, (2032, 502, 0)), (4, .istore_n 1, 1, (0, 0, 0))] (by decide +kernel) (show jrun _ (0, [(9, a0), (99, 0)], [], s) = some ([], (5, [(9, a0), (0, (s a0 2))], [], s)) from rfl) ?_
  exact Te_advance_5_ok  jFU _ _ _ H
def sTe_open : jS := (⟨"JellyCathedral$Text", "open", "(I)V"⟩, prog_10_method_4_code, 2, 0, [9, 0], 0)
theorem kTe_open : jmk sTe_open = true := jmk_of 3096 1006 3094 3095 (by decide +kernel)
theorem Te_open_ok {a0 a1 : Int} {s : jM} {o : Int × jM} (H : Te_open a0 a1 s = some o) : MK sTe_open 2 [(9, a0), (0, a1)] s o := by
  refine MK.of kTe_open rfl ?_
  show AT sTe_open 2 (0, [(9, a0), (0, a1)], [], s) o
  unfold Te_open at H
  refine AT.seq [(0, .aload_n 0, 1, (0, 0, 0)), (1, .iload_n 1, 1, (0, 0, 0)), (2, .putfield 19, 3, (2031, 501, 0)), (5, .aload_n 0, 1, (0, 0, 0)), (6, .iconst 0, 1, (0, 0, 0)), (7, .putfield 22, 3, (2032, 502, 0)), (10, .aload_n 0, 1, (0, 0, 0)), (11, .iconst 0, 1, (0, 0, 0)), (12, .putfield 25, 3, (2043, 508, 0)), (15, .aload_n 0, 1, (0, 0, 0)), (16, .iconst (-1), 1, (0, 0, 0)), (17, .putfield 28, 3, (2045, 509, 0)), (20, .aload_n 0, 1, (0, 0, 0))] (by decide +kernel) (show jrun _ (0, [(9, a0), (0, a1)], [], s) = some ([], (21, [(9, a0), (0, a1)], [(9, a0)], (jup (jup (jup (jup s a0 1 a1) a0 2 0) a0 8 0) a0 9 (-1)))) from rfl) ?_
  obtain ⟨v1, s1, h1, H⟩ := jb_some H
  refine AT.callV (As := []) (cl := 5) (b := a0) (st := []) (i := 31) (pos := 3097) kTe_advance (by decide +kernel) rfl (by decide +kernel) rfl rfl (by omega) (Te_advance_ok h1) ?_
  show AT sTe_open 2 (24, [(9, a0), (0, a1)], [], s1) o
  exact AT.retvH (by decide +kernel) H
def sTe_isWell : jS := (⟨"JellyCathedral$Text", "isWell", "()Z"⟩, prog_10_method_8_code, 1, 3, [9], 0)
theorem kTe_isWell : jmk sTe_isWell = true := jmk_of 3119 1006 3117 3118 (by decide +kernel)
theorem Te_isWell_ok {a0 : Int} {s : jM} {o : Int × jM} (H : Te_isWell a0 s = some o) : MK sTe_isWell 0 [(9, a0)] s o := by
  refine MK.of kTe_isWell rfl ?_
  show AT sTe_isWell 0 (0, [(9, a0)], [], s) o
  unfold Te_isWell at H
  refine AT.seq [(0, .aload_n 0, 1, (0, 0, 0)), (1, .getfield 25, 3, (2043, 508, 0))] (by decide +kernel) (show jrun _ (0, [(9, a0)], [], s) = some ([], (4, [(9, a0)], [(0, (s a0 8))], s)) from rfl) ?_
  refine AT.ite (x := (0, 0, 0)) (by decide +kernel) (show jbr (.ifCond .ne 7) (4, [(9, a0)], [(0, (s a0 8))], s) = some ((w32 (s a0 8)) = 0, (7, [(9, a0)], [], s), (11, [(9, a0)], [], s)) from rfl) H (fun H => ?_) (fun H => ?_)
  · refine AT.seq [(7, .iconst 1, 1, (0, 0, 0)), (8, .goto 4, 3, (0, 0, 0))] (by decide +kernel) (show jrun _ (7, [(9, a0)], [], s) = some ([], (12, [(9, a0)], [(0, 1)], s)) from rfl) ?_
    exact AT.retzC (by decide +kernel) (by decide) H
  · refine AT.seq [(11, .iconst 0, 1, (0, 0, 0))] (by decide +kernel) (show jrun _ (11, [(9, a0)], [], s) = some ([], (12, [(9, a0)], [(0, 0)], s)) from rfl) ?_
    exact AT.retzC (by decide +kernel) (by decide) H
def sTe_fail : jS := (⟨"JellyCathedral$Text", "fail", "(I)V"⟩, prog_10_method_9_code, 2, 0, [9, 0], 0)
theorem kTe_fail : jmk sTe_fail = true := jmk_of 3131 1006 3129 3130 (by decide +kernel)
theorem Te_fail_ok {a0 a1 : Int} {s : jM} {o : Int × jM} (H : Te_fail a0 a1 s = some o) : MK sTe_fail 0 [(9, a0), (0, a1)] s o := by
  refine MK.of kTe_fail rfl ?_
  show AT sTe_fail 0 (0, [(9, a0), (0, a1)], [], s) o
  unfold Te_fail at H
  refine AT.seq [(0, .aload_n 0, 1, (0, 0, 0)), (1, .getfield 25, 3, (2043, 508, 0))] (by decide +kernel) (show jrun _ (0, [(9, a0), (0, a1)], [], s) = some ([], (4, [(9, a0), (0, a1)], [(0, (s a0 8))], s)) from rfl) ?_
  refine AT.ite (x := (0, 0, 0)) (by decide +kernel) (show jbr (.ifCond .ne 28) (4, [(9, a0), (0, a1)], [(0, (s a0 8))], s) = some ((w32 (s a0 8)) = 0, (7, [(9, a0), (0, a1)], [], s), (32, [(9, a0), (0, a1)], [], s)) from rfl) H (fun H => ?_) (fun H => ?_)
  · refine AT.seq [(7, .aload_n 0, 1, (0, 0, 0)), (8, .aload_n 0, 1, (0, 0, 0)), (9, .getfield 47, 3, (2036, 504, 0)), (12, .iconst 4, 1, (0, 0, 0))] (by decide +kernel) (show jrun _ (7, [(9, a0), (0, a1)], [], s) = some ([], (13, [(9, a0), (0, a1)], [(0, 4), (0, (s a0 4)), (9, a0)], s)) from rfl) ?_
    refine AT.ite (x := (0, 0, 0)) (by decide +kernel) (show jbr (.if_icmp .ne 7) (13, [(9, a0), (0, a1)], [(0, 4), (0, (s a0 4)), (9, a0)], s) = some ((w32 (s a0 4)) = 4, (16, [(9, a0), (0, a1)], [(9, a0)], s), (20, [(9, a0), (0, a1)], [(9, a0)], s)) from rfl) H (fun H => ?_) (fun H => ?_)
    · refine AT.seq [(16, .iconst 1, 1, (0, 0, 0)), (17, .goto 4, 3, (0, 0, 0)), (21, .putfield 25, 3, (2043, 508, 0)), (24, .aload_n 0, 1, (0, 0, 0)), (25, .aload_n 0, 1, (0, 0, 0)), (26, .getfield 34, 3, (2033, 503, 0)), (29, .putfield 28, 3, (2045, 509, 0))] (by decide +kernel) (show jrun _ (16, [(9, a0), (0, a1)], [(9, a0)], s) = some ([], (32, [(9, a0), (0, a1)], [], (jup (jup s a0 8 1) a0 9 ((jup s a0 8 1) a0 3)))) from rfl) ?_
      exact AT.retvH (by decide +kernel) H
    · refine AT.seq [(20, .iload_n 1, 1, (0, 0, 0)), (21, .putfield 25, 3, (2043, 508, 0)), (24, .aload_n 0, 1, (0, 0, 0)), (25, .aload_n 0, 1, (0, 0, 0)), (26, .getfield 34, 3, (2033, 503, 0)), (29, .putfield 28, 3, (2045, 509, 0))] (by decide +kernel) (show jrun _ (20, [(9, a0), (0, a1)], [(9, a0)], s) = some ([], (32, [(9, a0), (0, a1)], [], (jup (jup s a0 8 a1) a0 9 ((jup s a0 8 a1) a0 3)))) from rfl) ?_
      exact AT.retvH (by decide +kernel) H
  · exact AT.retvH (by decide +kernel) H
def sTe_takeNumber : jS := (⟨"JellyCathedral$Text", "takeNumber", "(II)I"⟩, prog_10_method_13_code, 4, 1, [9, 0, 0], 0)
theorem kTe_takeNumber : jmk sTe_takeNumber = true := jmk_of 3136 1006 3134 3135 (by decide +kernel)
theorem Te_takeNumber_ok {a0 a1 a2 : Int} {s : jM} {o : Int × jM} (H : Te_takeNumber a0 a1 a2 s = some o) : MK sTe_takeNumber 2 [(9, a0), (0, a1), (0, a2)] s o := by
  refine MK.of kTe_takeNumber rfl ?_
  show AT sTe_takeNumber 2 (0, [(9, a0), (0, a1), (0, a2), (99, 0)], [], s) o
  unfold Te_takeNumber at H
  refine AT.seq [(0, .aload_n 0, 1, (0, 0, 0)), (1, .getfield 44, 3, (2040, 506, 0)), (4, .istore_n 3, 1, (0, 0, 0)), (5, .aload_n 0, 1, (0, 0, 0)), (6, .getfield 47, 3, (2036, 504, 0)), (9, .iconst 2, 1, (0, 0, 0))] (by decide +kernel) (show jrun _ (0, [(9, a0), (0, a1), (0, a2), (99, 0)], [], s) = some ([], (10, [(9, a0), (0, a1), (0, a2), (0, (s a0 6))], [(0, 2), (0, (s a0 4))], s)) from rfl) ?_
  refine AT.ite (x := (0, 0, 0)) (by decide +kernel) (show jbr (.if_icmp .eq 11) (10, [(9, a0), (0, a1), (0, a2), (0, (s a0 6))], [(0, 2), (0, (s a0 4))], s) = some ((w32 (s a0 4)) = 2, (21, [(9, a0), (0, a1), (0, a2), (0, (s a0 6))], [], s), (13, [(9, a0), (0, a1), (0, a2), (0, (s a0 6))], [], s)) from rfl) H (fun H => ?_) (fun H => ?_)
  · refine AT.seq [(21, .iload_n 3, 1, (0, 0, 0)), (22, .iload_n 1, 1, (0, 0, 0))] (by decide +kernel) (show jrun _ (21, [(9, a0), (0, a1), (0, a2), (0, (s a0 6))], [], s) = some ([], (23, [(9, a0), (0, a1), (0, a2), (0, (s a0 6))], [(0, a1), (0, (s a0 6))], s)) from rfl) ?_
    refine AT.ite (x := (0, 0, 0)) (by decide +kernel) (show jbr (.if_icmp .lt 8) (23, [(9, a0), (0, a1), (0, a2), (0, (s a0 6))], [(0, a1), (0, (s a0 6))], s) = some ((w32 (s a0 6)) < (w32 a1), (31, [(9, a0), (0, a1), (0, a2), (0, (s a0 6))], [], s), (26, [(9, a0), (0, a1), (0, a2), (0, (s a0 6))], [], s)) from rfl) H (fun H => ?_) (fun H => ?_)
    · refine AT.seq [(31, .aload_n 0, 1, (0, 0, 0)), (32, .iconst 4, 1, (0, 0, 0))] (by decide +kernel) (show jrun _ (31, [(9, a0), (0, a1), (0, a2), (0, (s a0 6))], [], s) = some ([], (33, [(9, a0), (0, a1), (0, a2), (0, (s a0 6))], [(0, 4), (9, a0)], s)) from rfl) ?_
      obtain ⟨v1, s1, h1, H⟩ := jb_some H
      refine AT.callV (As := [(0, 4)]) (cl := 5) (b := a0) (st := []) (i := 60) (pos := 3137) kTe_fail (by decide +kernel) rfl (by decide +kernel) rfl rfl (by omega) (Te_fail_ok h1) ?_
      show AT sTe_takeNumber 2 (36, [(9, a0), (0, a1), (0, a2), (0, (s a0 6))], [], s1) o
      refine AT.seq [(36, .goto 7, 3, (0, 0, 0)), (43, .iload_n 3, 1, (0, 0, 0))] (by decide +kernel) (show jrun _ (36, [(9, a0), (0, a1), (0, a2), (0, (s a0 6))], [], s1) = some ([], (44, [(9, a0), (0, a1), (0, a2), (0, (s a0 6))], [(0, (s a0 6))], s1)) from rfl) ?_
      exact AT.retiH (by decide +kernel) H
    · refine AT.seq [(26, .iload_n 3, 1, (0, 0, 0)), (27, .iload_n 2, 1, (0, 0, 0))] (by decide +kernel) (show jrun _ (26, [(9, a0), (0, a1), (0, a2), (0, (s a0 6))], [], s) = some ([], (28, [(9, a0), (0, a1), (0, a2), (0, (s a0 6))], [(0, a2), (0, (s a0 6))], s)) from rfl) ?_
      refine AT.ite (x := (0, 0, 0)) (by decide +kernel) (show jbr (.if_icmp .le 11) (28, [(9, a0), (0, a1), (0, a2), (0, (s a0 6))], [(0, a2), (0, (s a0 6))], s) = some ((w32 a2) < (w32 (s a0 6)), (31, [(9, a0), (0, a1), (0, a2), (0, (s a0 6))], [], s), (39, [(9, a0), (0, a1), (0, a2), (0, (s a0 6))], [], s)) from rfl) H (fun H => ?_) (fun H => ?_)
      · refine AT.seq [(31, .aload_n 0, 1, (0, 0, 0)), (32, .iconst 4, 1, (0, 0, 0))] (by decide +kernel) (show jrun _ (31, [(9, a0), (0, a1), (0, a2), (0, (s a0 6))], [], s) = some ([], (33, [(9, a0), (0, a1), (0, a2), (0, (s a0 6))], [(0, 4), (9, a0)], s)) from rfl) ?_
        obtain ⟨v2, s2, h2, H⟩ := jb_some H
        refine AT.callV (As := [(0, 4)]) (cl := 5) (b := a0) (st := []) (i := 60) (pos := 3137) kTe_fail (by decide +kernel) rfl (by decide +kernel) rfl rfl (by omega) (Te_fail_ok h2) ?_
        show AT sTe_takeNumber 2 (36, [(9, a0), (0, a1), (0, a2), (0, (s a0 6))], [], s2) o
        refine AT.seq [(36, .goto 7, 3, (0, 0, 0)), (43, .iload_n 3, 1, (0, 0, 0))] (by decide +kernel) (show jrun _ (36, [(9, a0), (0, a1), (0, a2), (0, (s a0 6))], [], s2) = some ([], (44, [(9, a0), (0, a1), (0, a2), (0, (s a0 6))], [(0, (s a0 6))], s2)) from rfl) ?_
        exact AT.retiH (by decide +kernel) H
      · refine AT.seq [(39, .aload_n 0, 1, (0, 0, 0))] (by decide +kernel) (show jrun _ (39, [(9, a0), (0, a1), (0, a2), (0, (s a0 6))], [], s) = some ([], (40, [(9, a0), (0, a1), (0, a2), (0, (s a0 6))], [(9, a0)], s)) from rfl) ?_
        obtain ⟨v3, s3, h3, H⟩ := jb_some H
        refine AT.callV (As := []) (cl := 5) (b := a0) (st := []) (i := 31) (pos := 3097) kTe_advance (by decide +kernel) rfl (by decide +kernel) rfl rfl (by omega) (Te_advance_ok h3) ?_
        show AT sTe_takeNumber 2 (43, [(9, a0), (0, a1), (0, a2), (0, (s a0 6))], [], s3) o
        refine AT.seq [(43, .iload_n 3, 1, (0, 0, 0))] (by decide +kernel) (show jrun _ (43, [(9, a0), (0, a1), (0, a2), (0, (s a0 6))], [], s3) = some ([], (44, [(9, a0), (0, a1), (0, a2), (0, (s a0 6))], [(0, (s a0 6))], s3)) from rfl) ?_
        exact AT.retiH (by decide +kernel) H
  · refine AT.seq [(13, .aload_n 0, 1, (0, 0, 0)), (14, .iconst 2, 1, (0, 0, 0))] (by decide +kernel) (show jrun _ (13, [(9, a0), (0, a1), (0, a2), (0, (s a0 6))], [], s) = some ([], (15, [(9, a0), (0, a1), (0, a2), (0, (s a0 6))], [(0, 2), (9, a0)], s)) from rfl) ?_
    obtain ⟨v4, s4, h4, H⟩ := jb_some H
    refine AT.callV (As := [(0, 2)]) (cl := 5) (b := a0) (st := []) (i := 60) (pos := 3137) kTe_fail (by decide +kernel) rfl (by decide +kernel) rfl rfl (by omega) (Te_fail_ok h4) ?_
    show AT sTe_takeNumber 2 (18, [(9, a0), (0, a1), (0, a2), (0, (s a0 6))], [], s4) o
    refine AT.seq [(18, .goto 25, 3, (0, 0, 0)), (43, .iload_n 3, 1, (0, 0, 0))] (by decide +kernel) (show jrun _ (18, [(9, a0), (0, a1), (0, a2), (0, (s a0 6))], [], s4) = some ([], (44, [(9, a0), (0, a1), (0, a2), (0, (s a0 6))], [(0, (s a0 6))], s4)) from rfl) ?_
    exact AT.retiH (by decide +kernel) H
def sTe_isName : jS := (⟨"JellyCathedral$Text", "isName", "()Z"⟩, prog_10_method_14_code, 1, 3, [9], 0)
theorem kTe_isName : jmk sTe_isName = true := jmk_of 3153 1006 3151 3152 (by decide +kernel)
theorem Te_isName_ok {a0 : Int} {s : jM} {o : Int × jM} (H : Te_isName a0 s = some o) : MK sTe_isName 0 [(9, a0)] s o := by
  refine MK.of kTe_isName rfl ?_
  show AT sTe_isName 0 (0, [(9, a0)], [], s) o
  unfold Te_isName at H
  refine AT.seq [(0, .aload_n 0, 1, (0, 0, 0)), (1, .getfield 47, 3, (2036, 504, 0)), (4, .iconst 1, 1, (0, 0, 0))] (by decide +kernel) (show jrun _ (0, [(9, a0)], [], s) = some ([], (5, [(9, a0)], [(0, 1), (0, (s a0 4))], s)) from rfl) ?_
  refine AT.ite (x := (0, 0, 0)) (by decide +kernel) (show jbr (.if_icmp .ne 24) (5, [(9, a0)], [(0, 1), (0, (s a0 4))], s) = some ((w32 (s a0 4)) = 1, (8, [(9, a0)], [], s), (29, [(9, a0)], [], s)) from rfl) H (fun H => ?_) (fun H => ?_)
  · refine AT.seq [(8, .aload_n 0, 1, (0, 0, 0)), (9, .getfield 37, 3, (2039, 505, 0)), (12, .iconst (-1), 1, (0, 0, 0))] (by decide +kernel) (show jrun _ (8, [(9, a0)], [], s) = some ([], (13, [(9, a0)], [(0, (-1)), (0, (s a0 5))], s)) from rfl) ?_
    refine AT.ite (x := (0, 0, 0)) (by decide +kernel) (show jbr (.if_icmp .ne 16) (13, [(9, a0)], [(0, (-1)), (0, (s a0 5))], s) = some ((w32 (s a0 5)) = (-1), (16, [(9, a0)], [], s), (29, [(9, a0)], [], s)) from rfl) H (fun H => ?_) (fun H => ?_)
    · refine AT.seq [(16, .aload_n 0, 1, (0, 0, 0)), (17, .getfield 40, 3, (2041, 507, 0)), (20, .lconst 0, 1, (0, 0, 0)), (21, .lcmp, 1, (0, 0, 0))] (by decide +kernel) (show jrun _ (16, [(9, a0)], [], s) = some ([], (22, [(9, a0)], [(0, (jlcmp (s a0 7) 0))], s)) from rfl) ?_
      refine AT.ite (x := (0, 0, 0)) (by decide +kernel) (show jbr (.ifCond .eq 7) (22, [(9, a0)], [(0, (jlcmp (s a0 7) 0))], s) = some ((w32 (jlcmp (s a0 7) 0)) = 0, (29, [(9, a0)], [], s), (25, [(9, a0)], [], s)) from rfl) H (fun H => ?_) (fun H => ?_)
      · refine AT.seq [(29, .iconst 0, 1, (0, 0, 0))] (by decide +kernel) (show jrun _ (29, [(9, a0)], [], s) = some ([], (30, [(9, a0)], [(0, 0)], s)) from rfl) ?_
        exact AT.retzC (by decide +kernel) (by decide) H
      · refine AT.seq [(25, .iconst 1, 1, (0, 0, 0)), (26, .goto 4, 3, (0, 0, 0))] (by decide +kernel) (show jrun _ (25, [(9, a0)], [], s) = some ([], (30, [(9, a0)], [(0, 1)], s)) from rfl) ?_
        exact AT.retzC (by decide +kernel) (by decide) H
    · refine AT.seq [(29, .iconst 0, 1, (0, 0, 0))] (by decide +kernel) (show jrun _ (29, [(9, a0)], [], s) = some ([], (30, [(9, a0)], [(0, 0)], s)) from rfl) ?_
      exact AT.retzC (by decide +kernel) (by decide) H
  · refine AT.seq [(29, .iconst 0, 1, (0, 0, 0))] (by decide +kernel) (show jrun _ (29, [(9, a0)], [], s) = some ([], (30, [(9, a0)], [(0, 0)], s)) from rfl) ?_
    exact AT.retzC (by decide +kernel) (by decide) H
def sTe_takeNewName : jS := (⟨"JellyCathedral$Text", "takeNewName", "(LJellyCathedral$See;II)V"⟩, prog_10_method_16_code, 4, 0, [9, 7, 0, 0], 0)
theorem kTe_takeNewName : jmk sTe_takeNewName = true := jmk_of 3149 1006 3147 3148 (by decide +kernel)
theorem Te_takeNewName_ok {a0 a1 a2 a3 : Int} {s : jM} {o : Int × jM} (H : Te_takeNewName a0 a1 a2 a3 s = some o) : MK sTe_takeNewName 2 [(9, a0), (7, a1), (0, a2), (0, a3)] s o := by
  refine MK.of kTe_takeNewName rfl ?_
  show AT sTe_takeNewName 2 (0, [(9, a0), (7, a1), (0, a2), (0, a3)], [], s) o
  unfold Te_takeNewName at H
  refine AT.seq [(0, .aload_n 0, 1, (0, 0, 0))] (by decide +kernel) (show jrun _ (0, [(9, a0), (7, a1), (0, a2), (0, a3)], [], s) = some ([], (1, [(9, a0), (7, a1), (0, a2), (0, a3)], [(9, a0)], s)) from rfl) ?_
  obtain ⟨v1, s1, h1, H⟩ := jb_some H
  refine AT.callV (As := []) (cl := 5) (b := a0) (st := []) (i := 70) (pos := 3150) kTe_isName (by decide +kernel) rfl (by decide +kernel) rfl rfl (by omega) (Te_isName_ok h1) ?_
  show AT sTe_takeNewName 2 (4, [(9, a0), (7, a1), (0, a2), (0, a3)], [(0, v1)], s1) o
  refine AT.ite (x := (0, 0, 0)) (by decide +kernel) (show jbr (.ifCond .ne 11) (4, [(9, a0), (7, a1), (0, a2), (0, a3)], [(0, v1)], s1) = some ((w32 v1) = 0, (7, [(9, a0), (7, a1), (0, a2), (0, a3)], [], s1), (15, [(9, a0), (7, a1), (0, a2), (0, a3)], [], s1)) from rfl) H (fun H => ?_) (fun H => ?_)
  · refine AT.seq [(7, .aload_n 0, 1, (0, 0, 0)), (8, .iconst 2, 1, (0, 0, 0))] (by decide +kernel) (show jrun _ (7, [(9, a0), (7, a1), (0, a2), (0, a3)], [], s1) = some ([], (9, [(9, a0), (7, a1), (0, a2), (0, a3)], [(0, 2), (9, a0)], s1)) from rfl) ?_
    obtain ⟨v2, s2, h2, H⟩ := jb_some H
    refine AT.callV (As := [(0, 2)]) (cl := 5) (b := a0) (st := []) (i := 60) (pos := 3137) kTe_fail (by decide +kernel) rfl (by decide +kernel) rfl rfl (by omega) (Te_fail_ok h2) ?_
    show AT sTe_takeNewName 2 (12, [(9, a0), (7, a1), (0, a2), (0, a3)], [], s2) o
    refine AT.seq [(12, .goto 36, 3, (0, 0, 0))] (by decide +kernel) (show jrun _ (12, [(9, a0), (7, a1), (0, a2), (0, a3)], [], s2) = some ([], (48, [(9, a0), (7, a1), (0, a2), (0, a3)], [], s2)) from rfl) ?_
    exact AT.retvH (by decide +kernel) H
  · refine AT.seq [(15, .aload_n 1, 1, (0, 0, 0)), (16, .aload_n 0, 1, (0, 0, 0)), (17, .getfield 40, 3, (2041, 507, 0))] (by decide +kernel) (show jrun _ (15, [(9, a0), (7, a1), (0, a2), (0, a3)], [], s1) = some ([], (20, [(9, a0), (7, a1), (0, a2), (0, a3)], [(1, (s1 a0 7)), (7, a1)], s1)) from rfl) ?_
    obtain ⟨v3, s3, h3, H⟩ := jb_some H
    refine AT.callV (As := [(1, (s1 a0 7))]) (cl := 3) (b := a1) (st := []) (i := 74) (pos := 3154) kSe_isTaken (by decide +kernel) rfl (by decide +kernel) rfl rfl (by omega) (Se_isTaken_ok h3) ?_
    show AT sTe_takeNewName 2 (23, [(9, a0), (7, a1), (0, a2), (0, a3)], [(0, v3)], s3) o
    refine AT.ite (x := (0, 0, 0)) (by decide +kernel) (show jbr (.ifCond .eq 11) (23, [(9, a0), (7, a1), (0, a2), (0, a3)], [(0, v3)], s3) = some ((w32 v3) = 0, (34, [(9, a0), (7, a1), (0, a2), (0, a3)], [], s3), (26, [(9, a0), (7, a1), (0, a2), (0, a3)], [], s3)) from rfl) H (fun H => ?_) (fun H => ?_)
    · refine AT.seq [(34, .aload_n 1, 1, (0, 0, 0)), (35, .aload_n 0, 1, (0, 0, 0)), (36, .getfield 40, 3, (2041, 507, 0)), (39, .iload_n 2, 1, (0, 0, 0)), (40, .iload_n 3, 1, (0, 0, 0))] (by decide +kernel) (show jrun _ (34, [(9, a0), (7, a1), (0, a2), (0, a3)], [], s3) = some ([], (41, [(9, a0), (7, a1), (0, a2), (0, a3)], [(0, a3), (0, a2), (1, (s3 a0 7)), (7, a1)], s3)) from rfl) ?_
      obtain ⟨v4, s4, h4, H⟩ := jb_some H
      refine AT.callV (As := [(1, (s3 a0 7)), (0, a2), (0, a3)]) (cl := 3) (b := a1) (st := []) (i := 78) (pos := 3158) kSe_addName (by decide +kernel) rfl (by decide +kernel) rfl rfl (by omega) (Se_addName_ok h4) ?_
      show AT sTe_takeNewName 2 (44, [(9, a0), (7, a1), (0, a2), (0, a3)], [], s4) o
      refine AT.seq [(44, .aload_n 0, 1, (0, 0, 0))] (by decide +kernel) (show jrun _ (44, [(9, a0), (7, a1), (0, a2), (0, a3)], [], s4) = some ([], (45, [(9, a0), (7, a1), (0, a2), (0, a3)], [(9, a0)], s4)) from rfl) ?_
      obtain ⟨v5, s5, h5, H⟩ := jb_some H
      refine AT.callV (As := []) (cl := 5) (b := a0) (st := []) (i := 31) (pos := 3097) kTe_advance (by decide +kernel) rfl (by decide +kernel) rfl rfl (by omega) (Te_advance_ok h5) ?_
      show AT sTe_takeNewName 2 (48, [(9, a0), (7, a1), (0, a2), (0, a3)], [], s5) o
      exact AT.retvH (by decide +kernel) H
    · refine AT.seq [(26, .aload_n 0, 1, (0, 0, 0)), (27, .iconst 3, 1, (0, 0, 0))] (by decide +kernel) (show jrun _ (26, [(9, a0), (7, a1), (0, a2), (0, a3)], [], s3) = some ([], (28, [(9, a0), (7, a1), (0, a2), (0, a3)], [(0, 3), (9, a0)], s3)) from rfl) ?_
      obtain ⟨v6, s6, h6, H⟩ := jb_some H
      refine AT.callV (As := [(0, 3)]) (cl := 5) (b := a0) (st := []) (i := 60) (pos := 3137) kTe_fail (by decide +kernel) rfl (by decide +kernel) rfl rfl (by omega) (Te_fail_ok h6) ?_
      show AT sTe_takeNewName 2 (31, [(9, a0), (7, a1), (0, a2), (0, a3)], [], s6) o
      refine AT.seq [(31, .goto 17, 3, (0, 0, 0))] (by decide +kernel) (show jrun _ (31, [(9, a0), (7, a1), (0, a2), (0, a3)], [], s6) = some ([], (48, [(9, a0), (7, a1), (0, a2), (0, a3)], [], s6)) from rfl) ?_
      exact AT.retvH (by decide +kernel) H
def sTe_takeWord : jS := (⟨"JellyCathedral$Text", "takeWord", "(I)V"⟩, prog_10_method_10_code, 2, 0, [9, 0], 0)
theorem kTe_takeWord : jmk sTe_takeWord = true := jmk_of 3165 1006 3163 3164 (by decide +kernel)
theorem Te_takeWord_ok {a0 a1 : Int} {s : jM} {o : Int × jM} (H : Te_takeWord a0 a1 s = some o) : MK sTe_takeWord 2 [(9, a0), (0, a1)] s o := by
  refine MK.of kTe_takeWord rfl ?_
  show AT sTe_takeWord 2 (0, [(9, a0), (0, a1)], [], s) o
  unfold Te_takeWord at H
  refine AT.seq [(0, .aload_n 0, 1, (0, 0, 0)), (1, .getfield 37, 3, (2039, 505, 0)), (4, .iload_n 1, 1, (0, 0, 0))] (by decide +kernel) (show jrun _ (0, [(9, a0), (0, a1)], [], s) = some ([], (5, [(9, a0), (0, a1)], [(0, a1), (0, (s a0 5))], s)) from rfl) ?_
  refine AT.ite (x := (0, 0, 0)) (by decide +kernel) (show jbr (.if_icmp .ne 10) (5, [(9, a0), (0, a1)], [(0, a1), (0, (s a0 5))], s) = some ((w32 (s a0 5)) = (w32 a1), (8, [(9, a0), (0, a1)], [], s), (15, [(9, a0), (0, a1)], [], s)) from rfl) H (fun H => ?_) (fun H => ?_)
  · refine AT.seq [(8, .aload_n 0, 1, (0, 0, 0))] (by decide +kernel) (show jrun _ (8, [(9, a0), (0, a1)], [], s) = some ([], (9, [(9, a0), (0, a1)], [(9, a0)], s)) from rfl) ?_
    obtain ⟨v1, s1, h1, H⟩ := jb_some H
    refine AT.callV (As := []) (cl := 5) (b := a0) (st := []) (i := 31) (pos := 3097) kTe_advance (by decide +kernel) rfl (by decide +kernel) rfl rfl (by omega) (Te_advance_ok h1) ?_
    show AT sTe_takeWord 2 (12, [(9, a0), (0, a1)], [], s1) o
    refine AT.seq [(12, .goto 8, 3, (0, 0, 0))] (by decide +kernel) (show jrun _ (12, [(9, a0), (0, a1)], [], s1) = some ([], (20, [(9, a0), (0, a1)], [], s1)) from rfl) ?_
    exact AT.retvH (by decide +kernel) H
  · refine AT.seq [(15, .aload_n 0, 1, (0, 0, 0)), (16, .iconst 2, 1, (0, 0, 0))] (by decide +kernel) (show jrun _ (15, [(9, a0), (0, a1)], [], s) = some ([], (17, [(9, a0), (0, a1)], [(0, 2), (9, a0)], s)) from rfl) ?_
    obtain ⟨v2, s2, h2, H⟩ := jb_some H
    refine AT.callV (As := [(0, 2)]) (cl := 5) (b := a0) (st := []) (i := 60) (pos := 3137) kTe_fail (by decide +kernel) rfl (by decide +kernel) rfl rfl (by omega) (Te_fail_ok h2) ?_
    show AT sTe_takeWord 2 (20, [(9, a0), (0, a1)], [], s2) o
    exact AT.retvH (by decide +kernel) H
def sTe_takeThing : jS := (⟨"JellyCathedral$Text", "takeThing", "(LJellyCathedral$See;I)I"⟩, prog_10_method_15_code, 4, 1, [9, 7, 0], 0)
theorem kTe_takeThing : jmk sTe_takeThing = true := jmk_of 3177 1006 3175 3176 (by decide +kernel)
theorem Te_takeThing_ok {a0 a1 a2 : Int} {s : jM} {o : Int × jM} (H : Te_takeThing a0 a1 a2 s = some o) : MK sTe_takeThing 2 [(9, a0), (7, a1), (0, a2)] s o := by
  refine MK.of kTe_takeThing rfl ?_
  show AT sTe_takeThing 2 (0, [(9, a0), (7, a1), (0, a2), (99, 0)], [], s) o
  unfold Te_takeThing at H
  refine AT.seq [(0, .aload_n 1, 1, (0, 0, 0)), (1, .aload_n 0, 1, (0, 0, 0)), (2, .getfield 40, 3, (2041, 507, 0)), (5, .iload_n 2, 1, (0, 0, 0))] (by decide +kernel) (show jrun _ (0, [(9, a0), (7, a1), (0, a2), (99, 0)], [], s) = some ([], (6, [(9, a0), (7, a1), (0, a2), (99, 0)], [(0, a2), (1, (s a0 7)), (7, a1)], s)) from rfl) ?_
  obtain ⟨v1, s1, h1, H⟩ := jb_some H
  refine AT.callV (As := [(1, (s a0 7)), (0, a2)]) (cl := 3) (b := a1) (st := []) (i := 64) (pos := 3178) kSe_find (by decide +kernel) rfl (by decide +kernel) rfl rfl (by omega) (Se_find_ok h1) ?_
  show AT sTe_takeThing 2 (9, [(9, a0), (7, a1), (0, a2), (99, 0)], [(0, v1)], s1) o
  refine AT.seq [(9, .istore_n 3, 1, (0, 0, 0)), (10, .aload_n 0, 1, (0, 0, 0))] (by decide +kernel) (show jrun _ (9, [(9, a0), (7, a1), (0, a2), (99, 0)], [(0, v1)], s1) = some ([], (11, [(9, a0), (7, a1), (0, a2), (0, v1)], [(9, a0)], s1)) from rfl) ?_
  obtain ⟨v2, s2, h2, H⟩ := jb_some H
  refine AT.callV (As := []) (cl := 5) (b := a0) (st := []) (i := 70) (pos := 3150) kTe_isName (by decide +kernel) rfl (by decide +kernel) rfl rfl (by omega) (Te_isName_ok h2) ?_
  show AT sTe_takeThing 2 (14, [(9, a0), (7, a1), (0, a2), (0, v1)], [(0, v2)], s2) o
  refine AT.ite (x := (0, 0, 0)) (by decide +kernel) (show jbr (.ifCond .ne 11) (14, [(9, a0), (7, a1), (0, a2), (0, v1)], [(0, v2)], s2) = some ((w32 v2) = 0, (17, [(9, a0), (7, a1), (0, a2), (0, v1)], [], s2), (25, [(9, a0), (7, a1), (0, a2), (0, v1)], [], s2)) from rfl) H (fun H => ?_) (fun H => ?_)
  · refine AT.seq [(17, .aload_n 0, 1, (0, 0, 0)), (18, .iconst 2, 1, (0, 0, 0))] (by decide +kernel) (show jrun _ (17, [(9, a0), (7, a1), (0, a2), (0, v1)], [], s2) = some ([], (19, [(9, a0), (7, a1), (0, a2), (0, v1)], [(0, 2), (9, a0)], s2)) from rfl) ?_
    obtain ⟨v3, s3, h3, H⟩ := jb_some H
    refine AT.callV (As := [(0, 2)]) (cl := 5) (b := a0) (st := []) (i := 60) (pos := 3137) kTe_fail (by decide +kernel) rfl (by decide +kernel) rfl rfl (by omega) (Te_fail_ok h3) ?_
    show AT sTe_takeThing 2 (22, [(9, a0), (7, a1), (0, a2), (0, v1)], [], s3) o
    refine AT.seq [(22, .goto 20, 3, (0, 0, 0)), (42, .iload_n 3, 1, (0, 0, 0))] (by decide +kernel) (show jrun _ (22, [(9, a0), (7, a1), (0, a2), (0, v1)], [], s3) = some ([], (43, [(9, a0), (7, a1), (0, a2), (0, v1)], [(0, v1)], s3)) from rfl) ?_
    exact AT.retiH (by decide +kernel) H
  · refine AT.seq [(25, .iload_n 3, 1, (0, 0, 0)), (26, .iconst (-1), 1, (0, 0, 0))] (by decide +kernel) (show jrun _ (25, [(9, a0), (7, a1), (0, a2), (0, v1)], [], s2) = some ([], (27, [(9, a0), (7, a1), (0, a2), (0, v1)], [(0, (-1)), (0, v1)], s2)) from rfl) ?_
    refine AT.ite (x := (0, 0, 0)) (by decide +kernel) (show jbr (.if_icmp .ne 11) (27, [(9, a0), (7, a1), (0, a2), (0, v1)], [(0, (-1)), (0, v1)], s2) = some ((w32 v1) = (-1), (30, [(9, a0), (7, a1), (0, a2), (0, v1)], [], s2), (38, [(9, a0), (7, a1), (0, a2), (0, v1)], [], s2)) from rfl) H (fun H => ?_) (fun H => ?_)
    · refine AT.seq [(30, .aload_n 0, 1, (0, 0, 0)), (31, .iconst 3, 1, (0, 0, 0))] (by decide +kernel) (show jrun _ (30, [(9, a0), (7, a1), (0, a2), (0, v1)], [], s2) = some ([], (32, [(9, a0), (7, a1), (0, a2), (0, v1)], [(0, 3), (9, a0)], s2)) from rfl) ?_
      obtain ⟨v4, s4, h4, H⟩ := jb_some H
      refine AT.callV (As := [(0, 3)]) (cl := 5) (b := a0) (st := []) (i := 60) (pos := 3137) kTe_fail (by decide +kernel) rfl (by decide +kernel) rfl rfl (by omega) (Te_fail_ok h4) ?_
      show AT sTe_takeThing 2 (35, [(9, a0), (7, a1), (0, a2), (0, v1)], [], s4) o
      refine AT.seq [(35, .goto 7, 3, (0, 0, 0)), (42, .iload_n 3, 1, (0, 0, 0))] (by decide +kernel) (show jrun _ (35, [(9, a0), (7, a1), (0, a2), (0, v1)], [], s4) = some ([], (43, [(9, a0), (7, a1), (0, a2), (0, v1)], [(0, v1)], s4)) from rfl) ?_
      exact AT.retiH (by decide +kernel) H
    · refine AT.seq [(38, .aload_n 0, 1, (0, 0, 0))] (by decide +kernel) (show jrun _ (38, [(9, a0), (7, a1), (0, a2), (0, v1)], [], s2) = some ([], (39, [(9, a0), (7, a1), (0, a2), (0, v1)], [(9, a0)], s2)) from rfl) ?_
      obtain ⟨v5, s5, h5, H⟩ := jb_some H
      refine AT.callV (As := []) (cl := 5) (b := a0) (st := []) (i := 31) (pos := 3097) kTe_advance (by decide +kernel) rfl (by decide +kernel) rfl rfl (by omega) (Te_advance_ok h5) ?_
      show AT sTe_takeThing 2 (42, [(9, a0), (7, a1), (0, a2), (0, v1)], [], s5) o
      refine AT.seq [(42, .iload_n 3, 1, (0, 0, 0))] (by decide +kernel) (show jrun _ (42, [(9, a0), (7, a1), (0, a2), (0, v1)], [], s5) = some ([], (43, [(9, a0), (7, a1), (0, a2), (0, v1)], [(0, v1)], s5)) from rfl) ?_
      exact AT.retiH (by decide +kernel) H
def sTe_takeStop : jS := (⟨"JellyCathedral$Text", "takeStop", "()V"⟩, prog_10_method_11_code, 1, 0, [9], 0)
theorem kTe_takeStop : jmk sTe_takeStop = true := jmk_of 3202 1006 3200 3201 (by decide +kernel)
theorem Te_takeStop_ok {a0 : Int} {s : jM} {o : Int × jM} (H : Te_takeStop a0 s = some o) : MK sTe_takeStop 2 [(9, a0)] s o := by
  refine MK.of kTe_takeStop rfl ?_
  show AT sTe_takeStop 2 (0, [(9, a0)], [], s) o
  unfold Te_takeStop at H
  refine AT.seq [(0, .aload_n 0, 1, (0, 0, 0)), (1, .getfield 47, 3, (2036, 504, 0)), (4, .iconst 3, 1, (0, 0, 0))] (by decide +kernel) (show jrun _ (0, [(9, a0)], [], s) = some ([], (5, [(9, a0)], [(0, 3), (0, (s a0 4))], s)) from rfl) ?_
  refine AT.ite (x := (0, 0, 0)) (by decide +kernel) (show jbr (.if_icmp .ne 19) (5, [(9, a0)], [(0, 3), (0, (s a0 4))], s) = some ((w32 (s a0 4)) = 3, (8, [(9, a0)], [], s), (24, [(9, a0)], [], s)) from rfl) H (fun H => ?_) (fun H => ?_)
  · refine AT.seq [(8, .aload_n 0, 1, (0, 0, 0)), (9, .getfield 44, 3, (2040, 506, 0)), (12, .bipush 59, 2, (0, 0, 0))] (by decide +kernel) (show jrun _ (8, [(9, a0)], [], s) = some ([], (14, [(9, a0)], [(0, 59), (0, (s a0 6))], s)) from rfl) ?_
    refine AT.ite (x := (0, 0, 0)) (by decide +kernel) (show jbr (.if_icmp .ne 10) (14, [(9, a0)], [(0, 59), (0, (s a0 6))], s) = some ((w32 (s a0 6)) = 59, (17, [(9, a0)], [], s), (24, [(9, a0)], [], s)) from rfl) H (fun H => ?_) (fun H => ?_)
    · refine AT.seq [(17, .aload_n 0, 1, (0, 0, 0))] (by decide +kernel) (show jrun _ (17, [(9, a0)], [], s) = some ([], (18, [(9, a0)], [(9, a0)], s)) from rfl) ?_
      obtain ⟨v1, s1, h1, H⟩ := jb_some H
      refine AT.callV (As := []) (cl := 5) (b := a0) (st := []) (i := 31) (pos := 3097) kTe_advance (by decide +kernel) rfl (by decide +kernel) rfl rfl (by omega) (Te_advance_ok h1) ?_
      show AT sTe_takeStop 2 (21, [(9, a0)], [], s1) o
      refine AT.seq [(21, .goto 8, 3, (0, 0, 0))] (by decide +kernel) (show jrun _ (21, [(9, a0)], [], s1) = some ([], (29, [(9, a0)], [], s1)) from rfl) ?_
      exact AT.retvH (by decide +kernel) H
    · refine AT.seq [(24, .aload_n 0, 1, (0, 0, 0)), (25, .iconst 2, 1, (0, 0, 0))] (by decide +kernel) (show jrun _ (24, [(9, a0)], [], s) = some ([], (26, [(9, a0)], [(0, 2), (9, a0)], s)) from rfl) ?_
      obtain ⟨v2, s2, h2, H⟩ := jb_some H
      refine AT.callV (As := [(0, 2)]) (cl := 5) (b := a0) (st := []) (i := 60) (pos := 3137) kTe_fail (by decide +kernel) rfl (by decide +kernel) rfl rfl (by omega) (Te_fail_ok h2) ?_
      show AT sTe_takeStop 2 (29, [(9, a0)], [], s2) o
      exact AT.retvH (by decide +kernel) H
  · refine AT.seq [(24, .aload_n 0, 1, (0, 0, 0)), (25, .iconst 2, 1, (0, 0, 0))] (by decide +kernel) (show jrun _ (24, [(9, a0)], [], s) = some ([], (26, [(9, a0)], [(0, 2), (9, a0)], s)) from rfl) ?_
    obtain ⟨v3, s3, h3, H⟩ := jb_some H
    refine AT.callV (As := [(0, 2)]) (cl := 5) (b := a0) (st := []) (i := 60) (pos := 3137) kTe_fail (by decide +kernel) rfl (by decide +kernel) rfl rfl (by omega) (Te_fail_ok h3) ?_
    show AT sTe_takeStop 2 (29, [(9, a0)], [], s3) o
    exact AT.retvH (by decide +kernel) H
def sTe_takeCompare : jS := (⟨"JellyCathedral$Text", "takeCompare", "()I"⟩, prog_10_method_12_code, 2, 1, [9], 0)
theorem kTe_takeCompare : jmk sTe_takeCompare = true := jmk_of 4011 1006 4009 4010 (by decide +kernel)
theorem Te_takeCompare_ok {a0 : Int} {s : jM} {o : Int × jM} (H : Te_takeCompare a0 s = some o) : MK sTe_takeCompare 2 [(9, a0)] s o := by
  refine MK.of kTe_takeCompare rfl ?_
  show AT sTe_takeCompare 2 (0, [(9, a0), (99, 0)], [], s) o
  unfold Te_takeCompare at H
  refine AT.seq [(0, .aload_n 0, 1, (0, 0, 0)), (1, .getfield 44, 3, (2040, 506, 0)), (4, .istore_n 1, 1, (0, 0, 0)), (5, .aload_n 0, 1, (0, 0, 0)), (6, .getfield 47, 3, (2036, 504, 0)), (9, .iconst 3, 1, (0, 0, 0))] (by decide +kernel) (show jrun _ (0, [(9, a0), (99, 0)], [], s) = some ([], (10, [(9, a0), (0, (s a0 6))], [(0, 3), (0, (s a0 4))], s)) from rfl) ?_
  refine AT.ite (x := (0, 0, 0)) (by decide +kernel) (show jbr (.if_icmp .ne 19) (10, [(9, a0), (0, (s a0 6))], [(0, 3), (0, (s a0 4))], s) = some ((w32 (s a0 4)) = 3, (13, [(9, a0), (0, (s a0 6))], [], s), (29, [(9, a0), (0, (s a0 6))], [], s)) from rfl) H (fun H => ?_) (fun H => ?_)
  · refine AT.seq [(13, .aload_n 0, 1, (0, 0, 0)), (14, .getfield 44, 3, (2040, 506, 0)), (17, .bipush 59, 2, (0, 0, 0))] (by decide +kernel) (show jrun _ (13, [(9, a0), (0, (s a0 6))], [], s) = some ([], (19, [(9, a0), (0, (s a0 6))], [(0, 59), (0, (s a0 6))], s)) from rfl) ?_
    refine AT.ite (x := (0, 0, 0)) (by decide +kernel) (show jbr (.if_icmp .eq 10) (19, [(9, a0), (0, (s a0 6))], [(0, 59), (0, (s a0 6))], s) = some ((w32 (s a0 6)) = 59, (29, [(9, a0), (0, (s a0 6))], [], s), (22, [(9, a0), (0, (s a0 6))], [], s)) from rfl) H (fun H => ?_) (fun H => ?_)
    · refine AT.seq [(29, .aload_n 0, 1, (0, 0, 0)), (30, .iconst 2, 1, (0, 0, 0))] (by decide +kernel) (show jrun _ (29, [(9, a0), (0, (s a0 6))], [], s) = some ([], (31, [(9, a0), (0, (s a0 6))], [(0, 2), (9, a0)], s)) from rfl) ?_
      obtain ⟨v1, s1, h1, H⟩ := jb_some H
      refine AT.callV (As := [(0, 2)]) (cl := 5) (b := a0) (st := []) (i := 60) (pos := 3137) kTe_fail (by decide +kernel) rfl (by decide +kernel) rfl rfl (by omega) (Te_fail_ok h1) ?_
      show AT sTe_takeCompare 2 (34, [(9, a0), (0, (s a0 6))], [], s1) o
      refine AT.seq [(34, .iload_n 1, 1, (0, 0, 0))] (by decide +kernel) (show jrun _ (34, [(9, a0), (0, (s a0 6))], [], s1) = some ([], (35, [(9, a0), (0, (s a0 6))], [(0, (s a0 6))], s1)) from rfl) ?_
      exact AT.retiH (by decide +kernel) H
    · refine AT.seq [(22, .aload_n 0, 1, (0, 0, 0))] (by decide +kernel) (show jrun _ (22, [(9, a0), (0, (s a0 6))], [], s) = some ([], (23, [(9, a0), (0, (s a0 6))], [(9, a0)], s)) from rfl) ?_
      obtain ⟨v2, s2, h2, H⟩ := jb_some H
      refine AT.callV (As := []) (cl := 5) (b := a0) (st := []) (i := 31) (pos := 3097) kTe_advance (by decide +kernel) rfl (by decide +kernel) rfl rfl (by omega) (Te_advance_ok h2) ?_
      show AT sTe_takeCompare 2 (26, [(9, a0), (0, (s a0 6))], [], s2) o
      refine AT.seq [(26, .goto 8, 3, (0, 0, 0)), (34, .iload_n 1, 1, (0, 0, 0))] (by decide +kernel) (show jrun _ (26, [(9, a0), (0, (s a0 6))], [], s2) = some ([], (35, [(9, a0), (0, (s a0 6))], [(0, (s a0 6))], s2)) from rfl) ?_
      exact AT.retiH (by decide +kernel) H
  · refine AT.seq [(29, .aload_n 0, 1, (0, 0, 0)), (30, .iconst 2, 1, (0, 0, 0))] (by decide +kernel) (show jrun _ (29, [(9, a0), (0, (s a0 6))], [], s) = some ([], (31, [(9, a0), (0, (s a0 6))], [(0, 2), (9, a0)], s)) from rfl) ?_
    obtain ⟨v3, s3, h3, H⟩ := jb_some H
    refine AT.callV (As := [(0, 2)]) (cl := 5) (b := a0) (st := []) (i := 60) (pos := 3137) kTe_fail (by decide +kernel) rfl (by decide +kernel) rfl rfl (by omega) (Te_fail_ok h3) ?_
    show AT sTe_takeCompare 2 (34, [(9, a0), (0, (s a0 6))], [], s3) o
    refine AT.seq [(34, .iload_n 1, 1, (0, 0, 0))] (by decide +kernel) (show jrun _ (34, [(9, a0), (0, (s a0 6))], [], s3) = some ([], (35, [(9, a0), (0, (s a0 6))], [(0, (s a0 6))], s3)) from rfl) ?_
    exact AT.retiH (by decide +kernel) H
