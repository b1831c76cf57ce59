/-! printed by wip/whole/gen_all.py: Tr_become, Tr_put, Fe_clear, Fe_copyOf -/
def sTr_become : jS := (⟨"JellyCathedral$Tray", "become", "(II)V"⟩, prog_11_method_2_code, 4, 0, [5, 0, 0], 0)
theorem kTr_become : jmk sTr_become = true := jmk_of 3041 1002 3039 3040 (by decide +kernel)
theorem Tr_become_17_ok {o : Int × jM} : ∀ (n : Nat) (x0 x3 : Int) (s : jM), Tr_become_17  n x0 x3 s = some o → AT sTr_become 0 (17, [(5, x0), (99, 0), (99, 0), (0, x3)], [], s) o := by
  intro n
  induction n with
  | zero =>
    intro x0 x3 s H
    have H : (none : Option (Int × jM)) = some o := H
    cases H
  | succ n ih =>
    intro x0 x3 s H
    rw [Tr_become_17] at H
    refine AT.seq [(17, .iload_n 3, 1, (0, 0, 0)), (18, .bipush 60, 2, (0, 0, 0))] (by decide +kernel) (show jrun _ (17, [(5, x0), (99, 0), (99, 0), (0, x3)], [], s) = some ([], (20, [(5, x0), (99, 0), (99, 0), (0, x3)], [(0, 60), (0, x3)], s)) from rfl) ?_
    refine AT.ite (x := (0, 0, 0)) (by decide +kernel) (show jbr (.if_icmp .ge 16) (20, [(5, x0), (99, 0), (99, 0), (0, x3)], [(0, 60), (0, x3)], s) = some ((w32 x3) < 60, (23, [(5, x0), (99, 0), (99, 0), (0, x3)], [], s), (36, [(5, x0), (99, 0), (99, 0), (0, x3)], [], s)) from rfl) H (fun H => ?_) (fun H => ?_)
    · refine AT.blk (g := (0 ≤ (w32 x3) ∧ (w32 x3) < 60)) [(23, .aload_n 0, 1, (0, 0, 0)), (24, .getfield 9, 3, (1036, 103, 0)), (27, .iload_n 3, 1, (0, 0, 0)), (28, .lconst 0, 1, (0, 0, 0)), (29, .lastore, 1, (0, 0, 0)), (30, .iinc 3 1, 3, (0, 0, 0)), (33, .goto (-16), 3, (0, 0, 0))] (by decide +kernel) (show jrun _ (23, [(5, x0), (99, 0), (99, 0), (0, x3)], [], s) = some ([(0 ≤ (w32 x3) ∧ (w32 x3) < 60)], (17, [(5, x0), (99, 0), (99, 0), (0, (x3 + 1))], [], (jup s (x0 + 1) (w32 x3) 0))) from rfl) (fun h => h) H (fun H => ?_)
      exact ih _ _ _ H
    · exact AT.retvH (by decide +kernel) H
theorem Tr_become_ok {a0 a1 a2 : Int} {s : jM} {o : Int × jM} (H : Tr_become a0 a1 a2 s = some o) : MK sTr_become 0 [(5, a0), (0, a1), (0, a2)] s o := by
  refine MK.of kTr_become rfl ?_
  show AT sTr_become 0 (0, [(5, a0), (0, a1), (0, a2), (99, 0)], [], s) o
  unfold Tr_become at H
  refine AT.row [(0, .aload_n 0, 1, (0, 0, 0)), (1, .iconst 1, 1, (0, 0, 0)), (2, .putfield 15, 3, (1030, 100, 0)), (5, .aload_n 0, 1, (0, 0, 0)), (6, .iload_n 1, 1, (0, 0, 0)), (7, .putfield 19, 3, (1032, 101, 0)), (10, .aload_n 0, 1, (0, 0, 0)), (11, .iload_n 2, 1, (0, 0, 0)), (12, .putfield 23, 3, (1034, 102, 0)), (15, .iconst 0, 1, (0, 0, 0)), (16, .istore_n 3, 1, (0, 0, 0))] (by decide +kernel) (show jrun _ (0, [(5, a0), (0, a1), (0, a2), (99, 0)], [], s) = some ([((1 : Int) = 0 ∨ (1 : Int) = 1)], (17, [(5, a0), (0, a1), (0, a2), (0, 0)], [], (jup (jup (jup s a0 0 1) a0 1 a1) a0 2 a2))) from rfl) (show ((1 : Int) = 0 ∨ (1 : Int) = 1) from by decide) ?_
  exact AT.weak (L' := [(5, a0), (99, 0), (99, 0), (0, 0)]) (jleK (jleJ (jleJ (jleK jle0)))) (Tr_become_17_ok  jFU _ _ _ H)
def sTr_put : jS := (⟨"JellyCathedral$Tray", "put", "(IJ)V"⟩, prog_11_method_3_code, 4, 0, [5, 0, 1], 0)
theorem kTr_put : jmk sTr_put = true := jmk_of 3061 1002 3059 3060 (by decide +kernel)
theorem Tr_put_ok {a0 a1 a2 : Int} {s : jM} {o : Int × jM} (H : Tr_put a0 a1 a2 s = some o) : MK sTr_put 0 [(5, a0), (0, a1), (1, a2)] s o := by
  refine MK.of kTr_put rfl ?_
  show AT sTr_put 0 (0, [(5, a0), (0, a1), (1, a2), (99, 0)], [], s) o
  unfold Tr_put at H
  refine AT.seq [(0, .aload_n 0, 1, (0, 0, 0)), (1, .getfield 19, 3, (1032, 101, 0))] (by decide +kernel) (show jrun _ (0, [(5, a0), (0, a1), (1, a2), (99, 0)], [], s) = some ([], (4, [(5, a0), (0, a1), (1, a2), (99, 0)], [(0, (s a0 1))], s)) from rfl) ?_
  by_cases h1 : (w32 (s a0 1)) = 0
  · rw [if_pos h1] at H
    refine AT.sw (ins := .tableswitch 66 0 2 #[28, 41, 54]) (n := 28) (v := 0) (t := 32) (by decide +kernel) h1 ?_
    refine AT.blk (g := (0 ≤ (w32 a1) ∧ (w32 a1) < 60)) [(32, .aload_n 0, 1, (0, 0, 0)), (33, .getfield 9, 3, (1036, 103, 0)), (36, .iload_n 1, 1, (0, 0, 0)), (37, .lload_n 2, 1, (0, 0, 0)), (38, .l2i, 1, (0, 0, 0)), (39, .i2b, 1, (0, 0, 0)), (40, .i2l, 1, (0, 0, 0)), (41, .lastore, 1, (0, 0, 0)), (42, .goto 35, 3, (0, 0, 0))] (by decide +kernel) (show jrun _ (32, [(5, a0), (0, a1), (1, a2), (99, 0)], [], s) = some ([(0 ≤ (w32 a1) ∧ (w32 a1) < 60)], (77, [(5, a0), (0, a1), (1, a2), (99, 0)], [], (jup s (a0 + 1) (w32 a1) (w32 (w8 a2))))) from rfl) (fun h => h) H (fun H => ?_)
    exact AT.retvH (by decide +kernel) H
  rw [if_neg h1] at H
  by_cases h2 : (w32 (s a0 1)) = 1
  · rw [if_pos h2] at H
    refine AT.sw (ins := .tableswitch 66 0 2 #[28, 41, 54]) (n := 28) (v := 1) (t := 45) (by decide +kernel) h2 ?_
    refine AT.blk (g := (0 ≤ (w32 a1) ∧ (w32 a1) < 60)) [(45, .aload_n 0, 1, (0, 0, 0)), (46, .getfield 9, 3, (1036, 103, 0)), (49, .iload_n 1, 1, (0, 0, 0)), (50, .lload_n 2, 1, (0, 0, 0)), (51, .l2i, 1, (0, 0, 0)), (52, .i2s, 1, (0, 0, 0)), (53, .i2l, 1, (0, 0, 0)), (54, .lastore, 1, (0, 0, 0)), (55, .goto 22, 3, (0, 0, 0))] (by decide +kernel) (show jrun _ (45, [(5, a0), (0, a1), (1, a2), (99, 0)], [], s) = some ([(0 ≤ (w32 a1) ∧ (w32 a1) < 60)], (77, [(5, a0), (0, a1), (1, a2), (99, 0)], [], (jup s (a0 + 1) (w32 a1) (w32 (w16 a2))))) from rfl) (fun h => h) H (fun H => ?_)
    exact AT.retvH (by decide +kernel) H
  rw [if_neg h2] at H
  by_cases h3 : (w32 (s a0 1)) = 2
  · rw [if_pos h3] at H
    refine AT.sw (ins := .tableswitch 66 0 2 #[28, 41, 54]) (n := 28) (v := 2) (t := 58) (by decide +kernel) h3 ?_
    refine AT.blk (g := (0 ≤ (w32 a1) ∧ (w32 a1) < 60)) [(58, .aload_n 0, 1, (0, 0, 0)), (59, .getfield 9, 3, (1036, 103, 0)), (62, .iload_n 1, 1, (0, 0, 0)), (63, .lload_n 2, 1, (0, 0, 0)), (64, .l2i, 1, (0, 0, 0)), (65, .i2l, 1, (0, 0, 0)), (66, .lastore, 1, (0, 0, 0)), (67, .goto 10, 3, (0, 0, 0))] (by decide +kernel) (show jrun _ (58, [(5, a0), (0, a1), (1, a2), (99, 0)], [], s) = some ([(0 ≤ (w32 a1) ∧ (w32 a1) < 60)], (77, [(5, a0), (0, a1), (1, a2), (99, 0)], [], (jup s (a0 + 1) (w32 a1) (w32 a2)))) from rfl) (fun h => h) H (fun H => ?_)
    exact AT.retvH (by decide +kernel) H
  rw [if_neg h3] at H
  refine AT.swd (df := 66) (lo := 0) (hi := 2) (offs := #[28, 41, 54]) (n := 28) (t := 70) (by decide +kernel) (by omega) ?_
  refine AT.blk (g := (0 ≤ (w32 a1) ∧ (w32 a1) < 60)) [(70, .aload_n 0, 1, (0, 0, 0)), (71, .getfield 9, 3, (1036, 103, 0)), (74, .iload_n 1, 1, (0, 0, 0)), (75, .lload_n 2, 1, (0, 0, 0)), (76, .lastore, 1, (0, 0, 0))] (by decide +kernel) (show jrun _ (70, [(5, a0), (0, a1), (1, a2), (99, 0)], [], s) = some ([(0 ≤ (w32 a1) ∧ (w32 a1) < 60)], (77, [(5, a0), (0, a1), (1, a2), (99, 0)], [], (jup s (a0 + 1) (w32 a1) a2))) from rfl) (fun h => h) H (fun H => ?_)
  exact AT.retvH (by decide +kernel) H
def sFe_clear : jS := (⟨"JellyCathedral$Feasts", "clear", "()V"⟩, prog_2_method_2_code, 1, 0, [8], 0)
theorem kFe_clear : jmk sFe_clear = true := jmk_of 1172 1004 1170 1171 (by decide +kernel)
theorem Fe_clear_ok {a0 : Int} {s : jM} {o : Int × jM} (H : Fe_clear a0 s = some o) : MK sFe_clear 0 [(8, a0)] s o := by
  refine MK.of kFe_clear rfl ?_
  show AT sFe_clear 0 (0, [(8, a0)], [], s) o
  unfold Fe_clear at H
  refine AT.row [(0, .aload_n 0, 1, (0, 0, 0)), (1, .iconst 0, 1, (0, 0, 0)), (2, .putfield 27, 3, (1062, 400, 0)), (5, .aload_n 0, 1, (0, 0, 0)), (6, .iconst 0, 1, (0, 0, 0)), (7, .putfield 31, 3, (1065, 401, 0)), (10, .aload_n 0, 1, (0, 0, 0)), (11, .iconst 0, 1, (0, 0, 0)), (12, .putfield 35, 3, (1068, 402, 0))] (by decide +kernel) (show jrun _ (0, [(8, a0)], [], s) = some ([((0 : Int) = 0 ∨ (0 : Int) = 1)], (15, [(8, a0)], [], (jup (jup (jup s a0 0 0) a0 1 0) a0 2 0))) from rfl) (show ((0 : Int) = 0 ∨ (0 : Int) = 1) from by decide) ?_
  exact AT.retvH (by decide +kernel) H
def sFe_copyOf : jS := (⟨"JellyCathedral$Feasts", "copyOf", "(LJellyCathedral$Feasts;)V"⟩, prog_2_method_3_code, 2, 0, [8, 8], 0)
theorem kFe_copyOf : jmk sFe_copyOf = true := jmk_of 4020 1004 4018 4019 (by decide +kernel)
theorem Fe_copyOf_ok {a0 a1 : Int} {s : jM} {o : Int × jM} (H : Fe_copyOf a0 a1 s = some o) : MK sFe_copyOf 0 [(8, a0), (8, a1)] s o := by
  refine MK.of kFe_copyOf rfl ?_
  show AT sFe_copyOf 0 (0, [(8, a0), (8, a1)], [], s) o
  unfold Fe_copyOf at H
  refine AT.blk (g := ((s a1 0) = 0 ∨ (s a1 0) = 1)) [(0, .aload_n 0, 1, (0, 0, 0)), (1, .aload_n 1, 1, (0, 0, 0)), (2, .getfield 27, 3, (1062, 400, 0)), (5, .putfield 27, 3, (1062, 400, 0)), (8, .aload_n 0, 1, (0, 0, 0)), (9, .aload_n 1, 1, (0, 0, 0)), (10, .getfield 31, 3, (1065, 401, 0)), (13, .putfield 31, 3, (1065, 401, 0)), (16, .aload_n 0, 1, (0, 0, 0)), (17, .aload_n 1, 1, (0, 0, 0)), (18, .getfield 35, 3, (1068, 402, 0)), (21, .putfield 35, 3, (1068, 402, 0)), (24, .aload_n 1, 1, (0, 0, 0)), (25, .getfield 9, 3, (1071, 403, 0)), (28, .iconst 0, 1, (0, 0, 0)), (29, .aload_n 0, 1, (0, 0, 0)), (30, .getfield 9, 3, (1071, 403, 0)), (33, .iconst 0, 1, (0, 0, 0)), (34, .aload_n 0, 1, (0, 0, 0))] (by decide +kernel) (show jrun _ (0, [(8, a0), (8, a1)], [], s) = some ([((s a1 0) = 0 ∨ (s a1 0) = 1)], (35, [(8, a0), (8, a1)], [(8, a0), (0, 0), (32, (a0 + 1)), (0, 0), (32, (a1 + 1))], (jup (jup (jup s a0 0 (s a1 0)) a0 1 ((jup s a0 0 (s a1 0)) a1 1)) a0 2 ((jup (jup s a0 0 (s a1 0)) a0 1 ((jup s a0 0 (s a1 0)) a1 1)) a1 2)))) from rfl) (fun h => h) H (fun H => ?_)
  obtain ⟨s1, e1, H⟩ := jm_some H
  rw [← e1]
  refine AT.blk (g := (0 ≤ (0 : Int) ∧ 0 ≤ (0 : Int) ∧ 0 ≤ (w32 (s1 a0 2)) ∧ (0 : Int) + (w32 (s1 a0 2)) ≤ 60 ∧ (0 : Int) + (w32 (s1 a0 2)) ≤ 60) ∧ (0 ≤ (0 : Int) ∧ 0 ≤ (0 : Int) ∧ 0 ≤ (w32 ((jcp s1 (a1 + 1) 0 (a0 + 1) 0 (w32 (s1 a0 2))) a0 2)) ∧ (0 : Int) + (w32 ((jcp s1 (a1 + 1) 0 (a0 + 1) 0 (w32 (s1 a0 2))) a0 2)) ≤ 60 ∧ (0 : Int) + (w32 ((jcp s1 (a1 + 1) 0 (a0 + 1) 0 (w32 (s1 a0 2))) a0 2)) ≤ 60)) [(35, .getfield 35, 3, (1068, 402, 0)), (38, .invokestatic 38, 3, (4021, 4, 0)), (41, .aload_n 1, 1, (0, 0, 0)), (42, .getfield 15, 3, (1074, 404, 0)), (45, .iconst 0, 1, (0, 0, 0)), (46, .aload_n 0, 1, (0, 0, 0)), (47, .getfield 15, 3, (1074, 404, 0)), (50, .iconst 0, 1, (0, 0, 0)), (51, .aload_n 0, 1, (0, 0, 0)), (52, .getfield 35, 3, (1068, 402, 0)), (55, .invokestatic 38, 3, (4021, 4, 0)), (58, .aload_n 1, 1, (0, 0, 0)), (59, .getfield 18, 3, (1077, 405, 0)), (62, .iconst 0, 1, (0, 0, 0)), (63, .aload_n 0, 1, (0, 0, 0)), (64, .getfield 18, 3, (1077, 405, 0)), (67, .iconst 0, 1, (0, 0, 0)), (68, .aload_n 0, 1, (0, 0, 0))] (by decide +kernel) (show jrun _ (35, [(8, a0), (8, a1)], [(8, a0), (0, 0), (32, (a0 + 1)), (0, 0), (32, (a1 + 1))], s1) = some ([(0 ≤ (0 : Int) ∧ 0 ≤ (0 : Int) ∧ 0 ≤ (w32 (s1 a0 2)) ∧ (0 : Int) + (w32 (s1 a0 2)) ≤ 60 ∧ (0 : Int) + (w32 (s1 a0 2)) ≤ 60), (0 ≤ (0 : Int) ∧ 0 ≤ (0 : Int) ∧ 0 ≤ (w32 ((jcp s1 (a1 + 1) 0 (a0 + 1) 0 (w32 (s1 a0 2))) a0 2)) ∧ (0 : Int) + (w32 ((jcp s1 (a1 + 1) 0 (a0 + 1) 0 (w32 (s1 a0 2))) a0 2)) ≤ 60 ∧ (0 : Int) + (w32 ((jcp s1 (a1 + 1) 0 (a0 + 1) 0 (w32 (s1 a0 2))) a0 2)) ≤ 60)], (69, [(8, a0), (8, a1)], [(8, a0), (0, 0), (32, (a0 + 3)), (0, 0), (32, (a1 + 3))], (jcp (jcp s1 (a1 + 1) 0 (a0 + 1) 0 (w32 (s1 a0 2))) (a1 + 2) 0 (a0 + 2) 0 (w32 ((jcp s1 (a1 + 1) 0 (a0 + 1) 0 (w32 (s1 a0 2))) a0 2))))) from rfl) (fun h => ⟨h.1, h.2⟩) H (fun H => ?_)
  obtain ⟨s2, e2, H⟩ := jm_some H
  rw [← e2]
  refine AT.blk (g := (0 ≤ (0 : Int) ∧ 0 ≤ (0 : Int) ∧ 0 ≤ (w32 (s2 a0 2)) ∧ (0 : Int) + (w32 (s2 a0 2)) ≤ 60 ∧ (0 : Int) + (w32 (s2 a0 2)) ≤ 60) ∧ (0 ≤ (0 : Int) ∧ 0 ≤ (0 : Int) ∧ 0 ≤ (w32 ((jcp s2 (a1 + 3) 0 (a0 + 3) 0 (w32 (s2 a0 2))) a0 2)) ∧ (0 : Int) + (w32 ((jcp s2 (a1 + 3) 0 (a0 + 3) 0 (w32 (s2 a0 2))) a0 2)) ≤ 60 ∧ (0 : Int) + (w32 ((jcp s2 (a1 + 3) 0 (a0 + 3) 0 (w32 (s2 a0 2))) a0 2)) ≤ 60)) [(69, .getfield 35, 3, (1068, 402, 0)), (72, .invokestatic 38, 3, (4021, 4, 0)), (75, .aload_n 1, 1, (0, 0, 0)), (76, .getfield 21, 3, (1080, 406, 0)), (79, .iconst 0, 1, (0, 0, 0)), (80, .aload_n 0, 1, (0, 0, 0)), (81, .getfield 21, 3, (1080, 406, 0)), (84, .iconst 0, 1, (0, 0, 0)), (85, .aload_n 0, 1, (0, 0, 0)), (86, .getfield 35, 3, (1068, 402, 0)), (89, .invokestatic 38, 3, (4021, 4, 0)), (92, .aload_n 1, 1, (0, 0, 0)), (93, .getfield 24, 3, (1083, 407, 0)), (96, .iconst 0, 1, (0, 0, 0)), (97, .aload_n 0, 1, (0, 0, 0)), (98, .getfield 24, 3, (1083, 407, 0)), (101, .iconst 0, 1, (0, 0, 0)), (102, .aload_n 0, 1, (0, 0, 0))] (by decide +kernel) (show jrun _ (69, [(8, a0), (8, a1)], [(8, a0), (0, 0), (32, (a0 + 3)), (0, 0), (32, (a1 + 3))], s2) = some ([(0 ≤ (0 : Int) ∧ 0 ≤ (0 : Int) ∧ 0 ≤ (w32 (s2 a0 2)) ∧ (0 : Int) + (w32 (s2 a0 2)) ≤ 60 ∧ (0 : Int) + (w32 (s2 a0 2)) ≤ 60), (0 ≤ (0 : Int) ∧ 0 ≤ (0 : Int) ∧ 0 ≤ (w32 ((jcp s2 (a1 + 3) 0 (a0 + 3) 0 (w32 (s2 a0 2))) a0 2)) ∧ (0 : Int) + (w32 ((jcp s2 (a1 + 3) 0 (a0 + 3) 0 (w32 (s2 a0 2))) a0 2)) ≤ 60 ∧ (0 : Int) + (w32 ((jcp s2 (a1 + 3) 0 (a0 + 3) 0 (w32 (s2 a0 2))) a0 2)) ≤ 60)], (103, [(8, a0), (8, a1)], [(8, a0), (0, 0), (32, (a0 + 5)), (0, 0), (32, (a1 + 5))], (jcp (jcp s2 (a1 + 3) 0 (a0 + 3) 0 (w32 (s2 a0 2))) (a1 + 4) 0 (a0 + 4) 0 (w32 ((jcp s2 (a1 + 3) 0 (a0 + 3) 0 (w32 (s2 a0 2))) a0 2))))) from rfl) (fun h => ⟨h.1, h.2⟩) H (fun H => ?_)
  obtain ⟨s3, e3, H⟩ := jm_some H
  rw [← e3]
  refine AT.blk (g := (0 ≤ (0 : Int) ∧ 0 ≤ (0 : Int) ∧ 0 ≤ (w32 (s3 a0 2)) ∧ (0 : Int) + (w32 (s3 a0 2)) ≤ 60 ∧ (0 : Int) + (w32 (s3 a0 2)) ≤ 60)) [(103, .getfield 35, 3, (1068, 402, 0)), (106, .invokestatic 38, 3, (4021, 4, 0))] (by decide +kernel) (show jrun _ (103, [(8, a0), (8, a1)], [(8, a0), (0, 0), (32, (a0 + 5)), (0, 0), (32, (a1 + 5))], s3) = some ([(0 ≤ (0 : Int) ∧ 0 ≤ (0 : Int) ∧ 0 ≤ (w32 (s3 a0 2)) ∧ (0 : Int) + (w32 (s3 a0 2)) ≤ 60 ∧ (0 : Int) + (w32 (s3 a0 2)) ≤ 60)], (109, [(8, a0), (8, a1)], [], (jcp s3 (a1 + 5) 0 (a0 + 5) 0 (w32 (s3 a0 2))))) from rfl) (fun h => h) H (fun H => ?_)
  exact AT.retvH (by decide +kernel) H
