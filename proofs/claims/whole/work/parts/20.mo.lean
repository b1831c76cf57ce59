/-! printed by wip/whole/gen_all.py: Mo_makeVoid, Mo_add, Mo_canBeTurnedOut, Mo_weaken, Mo_firmAfter, Mo_rest, Mo_copyOf -/
def sMo_makeVoid : jS := (⟨"JellyCathedral$Mould", "makeVoid", "()V"⟩, prog_7_method_3_code, 2, 0, [6], 0)
theorem kMo_makeVoid : jmk sMo_makeVoid = true := jmk_of 3198 1005 3196 3197 (by decide +kernel)
theorem Mo_makeVoid_22_ok {o : Int × jM} : ∀ (n : Nat) (x0 x1 : Int) (s : jM), Mo_makeVoid_22  n x0 x1 s = some o → AT sMo_makeVoid 0 (22, [(6, x0), (0, x1)], [], s) o := by
  intro n
  induction n with
  | zero =>
    intro x0 x1 s H
    have H : (none : Option (Int × jM)) = some o := H
    cases H
  | succ n ih =>
    intro x0 x1 s H
    rw [Mo_makeVoid_22] at H
    refine AT.seq [(22, .iload_n 1, 1, (0, 0, 0)), (23, .iconst 5, 1, (0, 0, 0))] (by decide +kernel) (show jrun _ (22, [(6, x0), (0, x1)], [], s) = some ([], (24, [(6, x0), (0, x1)], [(0, 5), (0, x1)], s)) from rfl) ?_
    refine AT.ite (x := (0, 0, 0)) (by decide +kernel) (show jbr (.if_icmp .ge 16) (24, [(6, x0), (0, x1)], [(0, 5), (0, x1)], s) = some ((w32 x1) < 5, (27, [(6, x0), (0, x1)], [], s), (40, [(6, x0), (0, x1)], [], s)) from rfl) H (fun H => ?_) (fun H => ?_)
    · refine AT.blk (g := (0 ≤ (w32 x1) ∧ (w32 x1) < 5)) [(27, .aload_n 0, 1, (0, 0, 0)), (28, .getfield 9, 3, (1143, 208, 0)), (31, .iload_n 1, 1, (0, 0, 0)), (32, .iconst 0, 1, (0, 0, 0)), (33, .iastore, 1, (0, 0, 0)), (34, .iinc 1 1, 3, (0, 0, 0)), (37, .goto (-15), 3, (0, 0, 0))] (by decide +kernel) (show jrun _ (27, [(6, x0), (0, x1)], [], s) = some ([(0 ≤ (w32 x1) ∧ (w32 x1) < 5)], (22, [(6, x0), (0, (x1 + 1))], [], (jup s (x0 + 1) (w32 x1) 0))) from rfl) (fun h => h) H (fun H => ?_)
      exact ih _ _ _ H
    · exact AT.retvH (by decide +kernel) H
theorem Mo_makeVoid_ok {a0 : Int} {s : jM} {o : Int × jM} (H : Mo_makeVoid a0 s = some o) : MK sMo_makeVoid 0 [(6, a0)] s o := by
  refine MK.of kMo_makeVoid rfl ?_
  show AT sMo_makeVoid 0 (0, [(6, a0), (99, 0)], [], s) o
  unfold Mo_makeVoid at H
  refine AT.seq [(0, .aload_n 0, 1, (0, 0, 0)), (1, .iconst 0, 1, (0, 0, 0)), (2, .putfield 25, 3, (1123, 203, 0)), (5, .aload_n 0, 1, (0, 0, 0)), (6, .iconst 0, 1, (0, 0, 0)), (7, .putfield 28, 3, (1128, 204, 0)), (10, .aload_n 0, 1, (0, 0, 0)), (11, .iconst 0, 1, (0, 0, 0)), (12, .putfield 31, 3, (1132, 205, 0)), (15, .aload_n 0, 1, (0, 0, 0)), (16, .iconst 0, 1, (0, 0, 0)), (17, .putfield 34, 3, (1135, 206, 0)), (20, .iconst 0, 1, (0, 0, 0)), (21, .istore_n 1, 1, (0, 0, 0))] (by decide +kernel) (show jrun _ (0, [(6, a0), (99, 0)], [], s) = some ([], (22, [(6, a0), (0, 0)], [], (jup (jup (jup (jup s a0 3 0) a0 4 0) a0 5 0) a0 6 0))) from rfl) ?_
  exact Mo_makeVoid_22_ok  jFU _ _ _ H
def sMo_add : jS := (⟨"JellyCathedral$Mould", "add", "(III)V"⟩, prog_7_method_4_code, 4, 0, [6, 0, 0, 0], 0)
theorem kMo_add : jmk sMo_add = true := jmk_of 4073 1005 4071 4072 (by decide +kernel)
theorem Mo_add_ok {a0 a1 a2 a3 : Int} {s : jM} {o : Int × jM} (H : Mo_add a0 a1 a2 a3 s = some o) : MK sMo_add 0 [(6, a0), (0, a1), (0, a2), (0, a3)] s o := by
  refine MK.of kMo_add rfl ?_
  show AT sMo_add 0 (0, [(6, a0), (0, a1), (0, a2), (0, a3)], [], s) o
  unfold Mo_add at H
  refine AT.seq [(0, .aload_n 0, 1, (0, 0, 0)), (1, .iconst 1, 1, (0, 0, 0)), (2, .putfield 25, 3, (1123, 203, 0)), (5, .aload_n 0, 1, (0, 0, 0)), (6, .iconst 0, 1, (0, 0, 0)), (7, .putfield 28, 3, (1128, 204, 0)), (10, .aload_n 0, 1, (0, 0, 0)), (11, .dup, 1, (0, 0, 0)), (12, .getfield 31, 3, (1132, 205, 0)), (15, .iload_n 2, 1, (0, 0, 0)), (16, .iload_n 3, 1, (0, 0, 0)), (17, .imul, 1, (0, 0, 0)), (18, .iadd, 1, (0, 0, 0)), (19, .putfield 31, 3, (1132, 205, 0)), (22, .aload_n 0, 1, (0, 0, 0)), (23, .dup, 1, (0, 0, 0)), (24, .getfield 34, 3, (1135, 206, 0)), (27, .iload_n 2, 1, (0, 0, 0)), (28, .iadd, 1, (0, 0, 0)), (29, .putfield 34, 3, (1135, 206, 0)), (32, .aload_n 0, 1, (0, 0, 0)), (33, .getfield 9, 3, (1143, 208, 0)), (36, .iload_n 1, 1, (0, 0, 0)), (37, .dup2, 1, (0, 0, 0))] (by decide +kernel) (show jrun _ (0, [(6, a0), (0, a1), (0, a2), (0, a3)], [], s) = some ([], (38, [(6, a0), (0, a1), (0, a2), (0, a3)], [(0, a1), (26, (a0 + 1)), (0, a1), (26, (a0 + 1))], (jup (jup (jup (jup s a0 3 1) a0 4 0) a0 5 (((jup (jup s a0 3 1) a0 4 0) a0 5) + (a2 * a3))) a0 6 (((jup (jup (jup s a0 3 1) a0 4 0) a0 5 (((jup (jup s a0 3 1) a0 4 0) a0 5) + (a2 * a3))) a0 6) + a2)))) from rfl) ?_
  obtain ⟨s1, e1, H⟩ := jm_some H
  rw [← e1]
  refine AT.blk (g := (0 ≤ (w32 a1) ∧ (w32 a1) < 5) ∧ (0 ≤ (w32 a1) ∧ (w32 a1) < 5)) [(38, .iaload, 1, (0, 0, 0)), (39, .iload_n 2, 1, (0, 0, 0)), (40, .iadd, 1, (0, 0, 0)), (41, .iastore, 1, (0, 0, 0))] (by decide +kernel) (show jrun _ (38, [(6, a0), (0, a1), (0, a2), (0, a3)], [(0, a1), (26, (a0 + 1)), (0, a1), (26, (a0 + 1))], s1) = some ([(0 ≤ (w32 a1) ∧ (w32 a1) < 5), (0 ≤ (w32 a1) ∧ (w32 a1) < 5)], (42, [(6, a0), (0, a1), (0, a2), (0, a3)], [], (jup s1 (a0 + 1) (w32 a1) ((s1 (a0 + 1) (w32 a1)) + a2)))) from rfl) (fun h => ⟨h.1, h.2⟩) H (fun H => ?_)
  exact AT.retvH (by decide +kernel) H
def sMo_canBeTurnedOut : jS := (⟨"JellyCathedral$Mould", "canBeTurnedOut", "()Z"⟩, prog_7_method_5_code, 1, 3, [6], 0)
theorem kMo_canBeTurnedOut : jmk sMo_canBeTurnedOut = true := jmk_of 4094 1005 4092 4093 (by decide +kernel)
theorem Mo_canBeTurnedOut_ok {a0 : Int} {s : jM} {o : Int × jM} (H : Mo_canBeTurnedOut a0 s = some o) : MK sMo_canBeTurnedOut 0 [(6, a0)] s o := by
  refine MK.of kMo_canBeTurnedOut rfl ?_
  show AT sMo_canBeTurnedOut 0 (0, [(6, a0)], [], s) o
  unfold Mo_canBeTurnedOut at H
  refine AT.seq [(0, .aload_n 0, 1, (0, 0, 0)), (1, .getfield 25, 3, (1123, 203, 0)), (4, .iconst 1, 1, (0, 0, 0))] (by decide +kernel) (show jrun _ (0, [(6, a0)], [], s) = some ([], (5, [(6, a0)], [(0, 1), (0, (s a0 3))], s)) from rfl) ?_
  refine AT.ite (x := (0, 0, 0)) (by decide +kernel) (show jbr (.if_icmp .ne 18) (5, [(6, a0)], [(0, 1), (0, (s a0 3))], s) = some ((w32 (s a0 3)) = 1, (8, [(6, a0)], [], s), (23, [(6, a0)], [], s)) from rfl) H (fun H => ?_) (fun H => ?_)
  · refine AT.seq [(8, .aload_n 0, 1, (0, 0, 0)), (9, .getfield 34, 3, (1135, 206, 0)), (12, .aload_n 0, 1, (0, 0, 0)), (13, .getfield 19, 3, (1113, 201, 0))] (by decide +kernel) (show jrun _ (8, [(6, a0)], [], s) = some ([], (16, [(6, a0)], [(0, (s a0 1)), (0, (s a0 6))], s)) from rfl) ?_
    refine AT.ite (x := (0, 0, 0)) (by decide +kernel) (show jbr (.if_icmp .ne 7) (16, [(6, a0)], [(0, (s a0 1)), (0, (s a0 6))], s) = some ((w32 (s a0 6)) = (w32 (s a0 1)), (19, [(6, a0)], [], s), (23, [(6, a0)], [], s)) from rfl) H (fun H => ?_) (fun H => ?_)
    · refine AT.seq [(19, .iconst 1, 1, (0, 0, 0)), (20, .goto 4, 3, (0, 0, 0))] (by decide +kernel) (show jrun _ (19, [(6, a0)], [], s) = some ([], (24, [(6, a0)], [(0, 1)], s)) from rfl) ?_
      exact AT.retzC (by decide +kernel) (by decide) H
    · refine AT.seq [(23, .iconst 0, 1, (0, 0, 0))] (by decide +kernel) (show jrun _ (23, [(6, a0)], [], s) = some ([], (24, [(6, a0)], [(0, 0)], s)) from rfl) ?_
      exact AT.retzC (by decide +kernel) (by decide) H
  · refine AT.seq [(23, .iconst 0, 1, (0, 0, 0))] (by decide +kernel) (show jrun _ (23, [(6, a0)], [], s) = some ([], (24, [(6, a0)], [(0, 0)], s)) from rfl) ?_
    exact AT.retzC (by decide +kernel) (by decide) H
def sMo_weaken : jS := (⟨"JellyCathedral$Mould", "weaken", "(I)V"⟩, prog_7_method_6_code, 2, 0, [6, 0], 0)
theorem kMo_weaken : jmk sMo_weaken = true := jmk_of 4098 1005 4096 4097 (by decide +kernel)
theorem Mo_weaken_ok {a0 a1 : Int} {s : jM} {o : Int × jM} (H : Mo_weaken a0 a1 s = some o) : MK sMo_weaken 1 [(6, a0), (0, a1)] s o := by
  refine MK.of kMo_weaken rfl ?_
  show AT sMo_weaken 1 (0, [(6, a0), (0, a1)], [], s) o
  unfold Mo_weaken at H
  refine AT.seq [(0, .aload_n 0, 1, (0, 0, 0)), (1, .getfield 25, 3, (1123, 203, 0)), (4, .iconst 2, 1, (0, 0, 0))] (by decide +kernel) (show jrun _ (0, [(6, a0), (0, a1)], [], s) = some ([], (5, [(6, a0), (0, a1)], [(0, 2), (0, (s a0 3))], s)) from rfl) ?_
  refine AT.ite (x := (0, 0, 0)) (by decide +kernel) (show jbr (.if_icmp .eq 4) (5, [(6, a0), (0, a1)], [(0, 2), (0, (s a0 3))], s) = some ((w32 (s a0 3)) = 2, (9, [(6, a0), (0, a1)], [], s), (8, [(6, a0), (0, a1)], [], s)) from rfl) H (fun H => ?_) (fun H => ?_)
  · refine AT.seq [(9, .aload_n 0, 1, (0, 0, 0)), (10, .dup, 1, (0, 0, 0)), (11, .getfield 28, 3, (1128, 204, 0)), (14, .iload_n 1, 1, (0, 0, 0)), (15, .isub, 1, (0, 0, 0)), (16, .putfield 28, 3, (1128, 204, 0)), (19, .aload_n 0, 1, (0, 0, 0)), (20, .getfield 28, 3, (1128, 204, 0)), (23, .aload_n 0, 1, (0, 0, 0)), (24, .getfield 15, 3, (1109, 200, 0))] (by decide +kernel) (show jrun _ (9, [(6, a0), (0, a1)], [], s) = some ([], (27, [(6, a0), (0, a1)], [(0, ((jup s a0 4 ((s a0 4) - a1)) a0 0)), (0, ((jup s a0 4 ((s a0 4) - a1)) a0 4))], (jup s a0 4 ((s a0 4) - a1)))) from rfl) ?_
    refine AT.ite (x := (0, 0, 0)) (by decide +kernel) (show jbr (.if_icmp .ge 17) (27, [(6, a0), (0, a1)], [(0, ((jup s a0 4 ((s a0 4) - a1)) a0 0)), (0, ((jup s a0 4 ((s a0 4) - a1)) a0 4))], (jup s a0 4 ((s a0 4) - a1))) = some ((w32 ((jup s a0 4 ((s a0 4) - a1)) a0 4)) < (w32 ((jup s a0 4 ((s a0 4) - a1)) a0 0)), (30, [(6, a0), (0, a1)], [], (jup s a0 4 ((s a0 4) - a1))), (44, [(6, a0), (0, a1)], [], (jup s a0 4 ((s a0 4) - a1)))) from rfl) H (fun H => ?_) (fun H => ?_)
    · refine AT.seq [(30, .aload_n 0, 1, (0, 0, 0))] (by decide +kernel) (show jrun _ (30, [(6, a0), (0, a1)], [], (jup s a0 4 ((s a0 4) - a1))) = some ([], (31, [(6, a0), (0, a1)], [(6, a0)], (jup s a0 4 ((s a0 4) - a1)))) from rfl) ?_
      obtain ⟨v1, s1, h1, H⟩ := jb_some H
      refine AT.callV (As := []) (cl := 2) (b := a0) (st := []) (i := 46) (pos := 4099) kMo_makeVoid (by decide +kernel) rfl (by decide +kernel) rfl rfl (by omega) (Mo_makeVoid_ok h1) ?_
      show AT sMo_weaken 1 (34, [(6, a0), (0, a1)], [], s1) o
      refine AT.seq [(34, .aload_n 0, 1, (0, 0, 0)), (35, .dup, 1, (0, 0, 0)), (36, .getfield 37, 3, (1139, 207, 0)), (39, .iconst 1, 1, (0, 0, 0)), (40, .iadd, 1, (0, 0, 0)), (41, .putfield 37, 3, (1139, 207, 0))] (by decide +kernel) (show jrun _ (34, [(6, a0), (0, a1)], [], s1) = some ([], (44, [(6, a0), (0, a1)], [], (jup s1 a0 7 ((s1 a0 7) + 1)))) from rfl) ?_
      exact AT.retvH (by decide +kernel) H
    · exact AT.retvH (by decide +kernel) H
  · exact AT.retvH (by decide +kernel) H
def sMo_firmAfter : jS := (⟨"JellyCathedral$Mould", "firmAfter", "(II)I"⟩, prog_7_method_8_code, 4, 1, [6, 0, 0], 0)
theorem kMo_firmAfter : jmk sMo_firmAfter = true := jmk_of 4140 1005 4138 4139 (by decide +kernel)
theorem Mo_firmAfter_ok {a0 a1 a2 : Int} {s : jM} {o : Int × jM} (H : Mo_firmAfter a0 a1 a2 s = some o) : MK sMo_firmAfter 0 [(6, a0), (0, a1), (0, a2)] s o := by
  refine MK.of kMo_firmAfter rfl ?_
  show AT sMo_firmAfter 0 (0, [(6, a0), (0, a1), (0, a2), (99, 0)], [], s) o
  unfold Mo_firmAfter at H
  refine AT.seq [(0, .aload_n 0, 1, (0, 0, 0)), (1, .getfield 25, 3, (1123, 203, 0)), (4, .iconst 1, 1, (0, 0, 0))] (by decide +kernel) (show jrun _ (0, [(6, a0), (0, a1), (0, a2), (99, 0)], [], s) = some ([], (5, [(6, a0), (0, a1), (0, a2), (99, 0)], [(0, 1), (0, (s a0 3))], s)) from rfl) ?_
  refine AT.ite (x := (0, 0, 0)) (by decide +kernel) (show jbr (.if_icmp .ne 22) (5, [(6, a0), (0, a1), (0, a2), (99, 0)], [(0, 1), (0, (s a0 3))], s) = some ((w32 (s a0 3)) = 1, (8, [(6, a0), (0, a1), (0, a2), (99, 0)], [], s), (27, [(6, a0), (0, a1), (0, a2), (99, 0)], [], s)) from rfl) H (fun H => ?_) (fun H => ?_)
  · refine AT.seq [(8, .aload_n 0, 1, (0, 0, 0)), (9, .getfield 31, 3, (1132, 205, 0)), (12, .aload_n 0, 1, (0, 0, 0)), (13, .getfield 28, 3, (1128, 204, 0)), (16, .bipush 9, 2, (0, 0, 0)), (18, .iload_n 1, 1, (0, 0, 0)), (19, .isub, 1, (0, 0, 0)), (20, .iload_n 2, 1, (0, 0, 0)), (21, .imul, 1, (0, 0, 0)), (22, .iadd, 1, (0, 0, 0)), (23, .invokestatic 57, 3, (4141, 2, 0))] (by decide +kernel) (show jrun _ (8, [(6, a0), (0, a1), (0, a2), (99, 0)], [], s) = some ([], (26, [(6, a0), (0, a1), (0, a2), (99, 0)], [(0, (jmin (s a0 5) ((s a0 4) + ((9 - a1) * a2))))], s)) from rfl) ?_
    exact AT.retiH (by decide +kernel) H
  · refine AT.seq [(27, .aload_n 0, 1, (0, 0, 0)), (28, .getfield 28, 3, (1128, 204, 0)), (31, .iload_n 1, 1, (0, 0, 0)), (32, .iload_n 2, 1, (0, 0, 0)), (33, .imul, 1, (0, 0, 0)), (34, .isub, 1, (0, 0, 0)), (35, .istore_n 3, 1, (0, 0, 0)), (36, .aload_n 0, 1, (0, 0, 0)), (37, .getfield 25, 3, (1123, 203, 0)), (40, .iconst 2, 1, (0, 0, 0))] (by decide +kernel) (show jrun _ (27, [(6, a0), (0, a1), (0, a2), (99, 0)], [], s) = some ([], (41, [(6, a0), (0, a1), (0, a2), (0, ((s a0 4) - (a1 * a2)))], [(0, 2), (0, (s a0 3))], s)) from rfl) ?_
    refine AT.ite (x := (0, 0, 0)) (by decide +kernel) (show jbr (.if_icmp .ne 15) (41, [(6, a0), (0, a1), (0, a2), (0, ((s a0 4) - (a1 * a2)))], [(0, 2), (0, (s a0 3))], s) = some ((w32 (s a0 3)) = 2, (44, [(6, a0), (0, a1), (0, a2), (0, ((s a0 4) - (a1 * a2)))], [], s), (56, [(6, a0), (0, a1), (0, a2), (0, ((s a0 4) - (a1 * a2)))], [], s)) from rfl) H (fun H => ?_) (fun H => ?_)
    · refine AT.seq [(44, .iload_n 3, 1, (0, 0, 0)), (45, .aload_n 0, 1, (0, 0, 0)), (46, .getfield 15, 3, (1109, 200, 0))] (by decide +kernel) (show jrun _ (44, [(6, a0), (0, a1), (0, a2), (0, ((s a0 4) - (a1 * a2)))], [], s) = some ([], (49, [(6, a0), (0, a1), (0, a2), (0, ((s a0 4) - (a1 * a2)))], [(0, (s a0 0)), (0, ((s a0 4) - (a1 * a2)))], s)) from rfl) ?_
      refine AT.ite (x := (0, 0, 0)) (by decide +kernel) (show jbr (.if_icmp .lt 7) (49, [(6, a0), (0, a1), (0, a2), (0, ((s a0 4) - (a1 * a2)))], [(0, (s a0 0)), (0, ((s a0 4) - (a1 * a2)))], s) = some ((w32 ((s a0 4) - (a1 * a2))) < (w32 (s a0 0)), (56, [(6, a0), (0, a1), (0, a2), (0, ((s a0 4) - (a1 * a2)))], [], s), (52, [(6, a0), (0, a1), (0, a2), (0, ((s a0 4) - (a1 * a2)))], [], s)) from rfl) H (fun H => ?_) (fun H => ?_)
      · refine AT.seq [(56, .iconst 0, 1, (0, 0, 0))] (by decide +kernel) (show jrun _ (56, [(6, a0), (0, a1), (0, a2), (0, ((s a0 4) - (a1 * a2)))], [], s) = some ([], (57, [(6, a0), (0, a1), (0, a2), (0, ((s a0 4) - (a1 * a2)))], [(0, 0)], s)) from rfl) ?_
        exact AT.retiH (by decide +kernel) H
      · refine AT.seq [(52, .iload_n 3, 1, (0, 0, 0)), (53, .goto 4, 3, (0, 0, 0))] (by decide +kernel) (show jrun _ (52, [(6, a0), (0, a1), (0, a2), (0, ((s a0 4) - (a1 * a2)))], [], s) = some ([], (57, [(6, a0), (0, a1), (0, a2), (0, ((s a0 4) - (a1 * a2)))], [(0, ((s a0 4) - (a1 * a2)))], s)) from rfl) ?_
        exact AT.retiH (by decide +kernel) H
    · refine AT.seq [(56, .iconst 0, 1, (0, 0, 0))] (by decide +kernel) (show jrun _ (56, [(6, a0), (0, a1), (0, a2), (0, ((s a0 4) - (a1 * a2)))], [], s) = some ([], (57, [(6, a0), (0, a1), (0, a2), (0, ((s a0 4) - (a1 * a2)))], [(0, 0)], s)) from rfl) ?_
      exact AT.retiH (by decide +kernel) H
def sMo_rest : jS := (⟨"JellyCathedral$Mould", "rest", "(II)V"⟩, prog_7_method_7_code, 3, 0, [6, 0, 0], 0)
theorem kMo_rest : jmk sMo_rest = true := jmk_of 4136 1005 4134 4135 (by decide +kernel)
theorem Mo_rest_ok {a0 a1 a2 : Int} {s : jM} {o : Int × jM} (H : Mo_rest a0 a1 a2 s = some o) : MK sMo_rest 2 [(6, a0), (0, a1), (0, a2)] s o := by
  refine MK.of kMo_rest rfl ?_
  show AT sMo_rest 2 (0, [(6, a0), (0, a1), (0, a2)], [], s) o
  unfold Mo_rest at H
  refine AT.seq [(0, .aload_n 0, 1, (0, 0, 0)), (1, .getfield 25, 3, (1123, 203, 0)), (4, .iconst 1, 1, (0, 0, 0))] (by decide +kernel) (show jrun _ (0, [(6, a0), (0, a1), (0, a2)], [], s) = some ([], (5, [(6, a0), (0, a1), (0, a2)], [(0, 1), (0, (s a0 3))], s)) from rfl) ?_
  refine AT.ite (x := (0, 0, 0)) (by decide +kernel) (show jbr (.if_icmp .ne 13) (5, [(6, a0), (0, a1), (0, a2)], [(0, 1), (0, (s a0 3))], s) = some ((w32 (s a0 3)) = 1, (8, [(6, a0), (0, a1), (0, a2)], [], s), (18, [(6, a0), (0, a1), (0, a2)], [], s)) from rfl) H (fun H => ?_) (fun H => ?_)
  · refine AT.seq [(8, .aload_n 0, 1, (0, 0, 0)), (9, .aload_n 0, 1, (0, 0, 0)), (10, .iload_n 1, 1, (0, 0, 0)), (11, .iload_n 2, 1, (0, 0, 0))] (by decide +kernel) (show jrun _ (8, [(6, a0), (0, a1), (0, a2)], [], s) = some ([], (12, [(6, a0), (0, a1), (0, a2)], [(0, a2), (0, a1), (6, a0), (6, a0)], s)) from rfl) ?_
    obtain ⟨v1, s1, h1, H⟩ := jb_some H
    refine AT.callV (As := [(0, a1), (0, a2)]) (cl := 2) (b := a0) (st := [(6, a0)]) (i := 49) (pos := 4137) kMo_firmAfter (by decide +kernel) rfl (by decide +kernel) rfl rfl (by omega) (Mo_firmAfter_ok h1) ?_
    show AT sMo_rest 2 (15, [(6, a0), (0, a1), (0, a2)], [(0, v1), (6, a0)], s1) o
    refine AT.seq [(15, .putfield 28, 3, (1128, 204, 0)), (18, .aload_n 0, 1, (0, 0, 0)), (19, .iload_n 1, 1, (0, 0, 0)), (20, .iload_n 2, 1, (0, 0, 0)), (21, .imul, 1, (0, 0, 0))] (by decide +kernel) (show jrun _ (15, [(6, a0), (0, a1), (0, a2)], [(0, v1), (6, a0)], s1) = some ([], (22, [(6, a0), (0, a1), (0, a2)], [(0, (a1 * a2)), (6, a0)], (jup s1 a0 4 v1))) from rfl) ?_
    obtain ⟨v2, s2, h2, H⟩ := jb_some H
    refine AT.callV (As := [(0, (a1 * a2))]) (cl := 2) (b := a0) (st := []) (i := 53) (pos := 4142) kMo_weaken (by decide +kernel) rfl (by decide +kernel) rfl rfl (by omega) (Mo_weaken_ok h2) ?_
    show AT sMo_rest 2 (25, [(6, a0), (0, a1), (0, a2)], [], s2) o
    exact AT.retvH (by decide +kernel) H
  · refine AT.seq [(18, .aload_n 0, 1, (0, 0, 0)), (19, .iload_n 1, 1, (0, 0, 0)), (20, .iload_n 2, 1, (0, 0, 0)), (21, .imul, 1, (0, 0, 0))] (by decide +kernel) (show jrun _ (18, [(6, a0), (0, a1), (0, a2)], [], s) = some ([], (22, [(6, a0), (0, a1), (0, a2)], [(0, (a1 * a2)), (6, a0)], s)) from rfl) ?_
    obtain ⟨v3, s3, h3, H⟩ := jb_some H
    refine AT.callV (As := [(0, (a1 * a2))]) (cl := 2) (b := a0) (st := []) (i := 53) (pos := 4142) kMo_weaken (by decide +kernel) rfl (by decide +kernel) rfl rfl (by omega) (Mo_weaken_ok h3) ?_
    show AT sMo_rest 2 (25, [(6, a0), (0, a1), (0, a2)], [], s3) o
    exact AT.retvH (by decide +kernel) H
def sMo_copyOf : jS := (⟨"JellyCathedral$Mould", "copyOf", "(LJellyCathedral$Mould;)V"⟩, prog_7_method_2_code, 2, 0, [6, 6], 0)
theorem kMo_copyOf : jmk sMo_copyOf = true := jmk_of 5162 1005 5160 5161 (by decide +kernel)
theorem Mo_copyOf_ok {a0 a1 : Int} {s : jM} {o : Int × jM} (H : Mo_copyOf a0 a1 s = some o) : MK sMo_copyOf 0 [(6, a0), (6, a1)] s o := by
  refine MK.of kMo_copyOf rfl ?_
  show AT sMo_copyOf 0 (0, [(6, a0), (6, a1)], [], s) o
  unfold Mo_copyOf at H
  refine AT.seq [(0, .aload_n 0, 1, (0, 0, 0)), (1, .aload_n 1, 1, (0, 0, 0)), (2, .getfield 15, 3, (1109, 200, 0)), (5, .putfield 15, 3, (1109, 200, 0)), (8, .aload_n 0, 1, (0, 0, 0)), (9, .aload_n 1, 1, (0, 0, 0)), (10, .getfield 19, 3, (1113, 201, 0)), (13, .putfield 19, 3, (1113, 201, 0)), (16, .aload_n 0, 1, (0, 0, 0)), (17, .aload_n 1, 1, (0, 0, 0)), (18, .getfield 22, 3, (1118, 202, 0)), (21, .putfield 22, 3, (1118, 202, 0)), (24, .aload_n 0, 1, (0, 0, 0)), (25, .aload_n 1, 1, (0, 0, 0))] (by decide +kernel) (show jrun _ (0, [(6, a0), (6, a1)], [], s) = some ([], (26, [(6, a0), (6, a1)], [(6, a1), (6, a0)], (jup (jup (jup s a0 0 (s a1 0)) a0 1 ((jup s a0 0 (s a1 0)) a1 1)) a0 2 ((jup (jup s a0 0 (s a1 0)) a0 1 ((jup s a0 0 (s a1 0)) a1 1)) a1 2)))) from rfl) ?_
  obtain ⟨s1, e1, H⟩ := jm_some H
  rw [← e1]
  refine AT.seq [(26, .getfield 25, 3, (1123, 203, 0)), (29, .putfield 25, 3, (1123, 203, 0)), (32, .aload_n 0, 1, (0, 0, 0)), (33, .aload_n 1, 1, (0, 0, 0)), (34, .getfield 28, 3, (1128, 204, 0)), (37, .putfield 28, 3, (1128, 204, 0)), (40, .aload_n 0, 1, (0, 0, 0)), (41, .aload_n 1, 1, (0, 0, 0)), (42, .getfield 31, 3, (1132, 205, 0)), (45, .putfield 31, 3, (1132, 205, 0)), (48, .aload_n 0, 1, (0, 0, 0)), (49, .aload_n 1, 1, (0, 0, 0))] (by decide +kernel) (show jrun _ (26, [(6, a0), (6, a1)], [(6, a1), (6, a0)], s1) = some ([], (50, [(6, a0), (6, a1)], [(6, a1), (6, a0)], (jup (jup (jup s1 a0 3 (s1 a1 3)) a0 4 ((jup s1 a0 3 (s1 a1 3)) a1 4)) a0 5 ((jup (jup s1 a0 3 (s1 a1 3)) a0 4 ((jup s1 a0 3 (s1 a1 3)) a1 4)) a1 5)))) from rfl) ?_
  obtain ⟨s2, e2, H⟩ := jm_some H
  rw [← e2]
  refine AT.row [(50, .getfield 34, 3, (1135, 206, 0)), (53, .putfield 34, 3, (1135, 206, 0)), (56, .aload_n 0, 1, (0, 0, 0)), (57, .aload_n 1, 1, (0, 0, 0)), (58, .getfield 37, 3, (1139, 207, 0)), (61, .putfield 37, 3, (1139, 207, 0)), (64, .aload_n 1, 1, (0, 0, 0)), (65, .getfield 9, 3, (1143, 208, 0)), (68, .iconst 0, 1, (0, 0, 0)), (69, .aload_n 0, 1, (0, 0, 0)), (70, .getfield 9, 3, (1143, 208, 0)), (73, .iconst 0, 1, (0, 0, 0)), (74, .iconst 5, 1, (0, 0, 0)), (75, .invokestatic 40, 3, (5163, 4, 0))] (by decide +kernel) (show jrun _ (50, [(6, a0), (6, a1)], [(6, a1), (6, a0)], s2) = some ([(0 ≤ (0 : Int) ∧ 0 ≤ (0 : Int) ∧ 0 ≤ (5 : Int) ∧ (0 : Int) + 5 ≤ 5 ∧ (0 : Int) + 5 ≤ 5)], (78, [(6, a0), (6, a1)], [], (jcp (jup (jup s2 a0 6 (s2 a1 6)) a0 7 ((jup s2 a0 6 (s2 a1 6)) a1 7)) (a1 + 1) 0 (a0 + 1) 0 5))) from rfl) (show (0 ≤ (0 : Int) ∧ 0 ≤ (0 : Int) ∧ 0 ≤ (5 : Int) ∧ (0 : Int) + 5 ≤ 5 ∧ (0 : Int) + 5 ≤ 5) from by decide) ?_
  exact AT.retvH (by decide +kernel) H
