/-! printed by wip/whole/gen_all.py: Sr_takeHeat, Sr_takeOdds, Sr_takeStuff, Sr_takePlace, Sr_takeWalk, Sr_takeMould, Sr_takePart, Sr_take, Fr_takeClose, Fr_beginsStep, Fr_takeTest, Fr_takeRest, Fr_takeStep, Fr_take -/
def sSr_takeHeat : jS := (⟨"JellyCathedral$SeeReader", "takeHeat", "()V"⟩, prog_9_method_4_code, 1, 0, [10], 0)
theorem kSr_takeHeat : jmk sSr_takeHeat = true := jmk_of 3127 1007 3126 8 (by decide +kernel)
theorem Sr_takeHeat_ok {a0 : Int} {s : jM} {o : Int × jM} (H : Sr_takeHeat a0 s = some o) : MK sSr_takeHeat 3 [(10, a0)] s o := by
  refine MK.of kSr_takeHeat rfl ?_
  show AT sSr_takeHeat 3 (0, [(10, a0)], [], s) o
  unfold Sr_takeHeat at H
  refine AT.seq [(0, .aload_n 0, 1, (0, 0, 0)), (1, .getfield 19, 3, (2080, 602, 0))] (by decide +kernel) (show jrun _ (0, [(10, a0)], [], s) = some ([], (4, [(10, a0)], [(0, (s a0 2))], s)) from rfl) ?_
  refine AT.ite (x := (0, 0, 0)) (by decide +kernel) (show jbr (.ifCond .eq 12) (4, [(10, a0)], [(0, (s a0 2))], s) = some ((w32 (s a0 2)) = 0, (16, [(10, a0)], [], s), (7, [(10, a0)], [], s)) from rfl) H (fun H => ?_) (fun H => ?_)
  · refine AT.blk (g := jok 5 ((jup s a0 2 1) a0 0) = true) [(16, .aload_n 0, 1, (0, 0, 0)), (17, .iconst 1, 1, (0, 0, 0)), (18, .putfield 19, 3, (2080, 602, 0)), (21, .aload_n 0, 1, (0, 0, 0)), (22, .getfield 9, 3, (2078, 600, 0))] (by decide +kernel) (show jrun _ (16, [(10, a0)], [], s) = some ([((1 : Int) = 0 ∨ (1 : Int) = 1), jok 5 ((jup s a0 2 1) a0 0) = true], (25, [(10, a0)], [(9, ((jup s a0 2 1) a0 0))], (jup s a0 2 1))) from rfl) (fun h => ⟨(show ((1 : Int) = 0 ∨ (1 : Int) = 1) from by decide), h⟩) H (fun H => ?_)
    obtain ⟨v1, s1, h1, H⟩ := jb_some H
    refine AT.callV (As := []) (cl := 5) (b := ((jup s a0 2 1) a0 0)) (st := []) (i := 84) (pos := 3132) kTe_advance (by decide +kernel) rfl (by decide +kernel) rfl rfl (by omega) (Te_advance_ok h1) ?_
    show AT sSr_takeHeat 3 (28, [(10, a0)], [], s1) o
    refine AT.blk (g := jok 3 (s1 a0 1) = true ∧ jok 5 (s1 a0 0) = true) [(28, .aload_n 0, 1, (0, 0, 0)), (29, .getfield 15, 3, (2079, 601, 0)), (32, .aload_n 0, 1, (0, 0, 0)), (33, .getfield 9, 3, (2078, 600, 0)), (36, .iconst 0, 1, (0, 0, 0)), (37, .bipush 9, 2, (0, 0, 0))] (by decide +kernel) (show jrun _ (28, [(10, a0)], [], s1) = some ([jok 3 (s1 a0 1) = true, jok 5 (s1 a0 0) = true], (39, [(10, a0)], [(0, 9), (0, 0), (9, (s1 a0 0)), (7, (s1 a0 1))], s1)) from rfl) (fun h => ⟨h.1, h.2⟩) H (fun H => ?_)
    obtain ⟨v2, s2, h2, H⟩ := jb_some H
    refine AT.callV (As := [(0, 0), (0, 9)]) (cl := 5) (b := (s1 a0 0)) (st := [(7, (s1 a0 1))]) (i := 87) (pos := 3133) kTe_takeNumber (by decide +kernel) rfl (by decide +kernel) rfl rfl (by omega) (Te_takeNumber_ok h2) ?_
    show AT sSr_takeHeat 3 (42, [(10, a0)], [(0, v2), (7, (s1 a0 1))], s2) o
    refine AT.seq [(42, .putfield 91, 3, (1174, 300, 0))] (by decide +kernel) (show jrun _ (42, [(10, a0)], [(0, v2), (7, (s1 a0 1))], s2) = some ([], (45, [(10, a0)], [], (jup s2 (s1 a0 1) 0 v2))) from rfl) ?_
    exact AT.retvH (by decide +kernel) H
  · refine AT.blk (g := jok 5 (s a0 0) = true) [(7, .aload_n 0, 1, (0, 0, 0)), (8, .getfield 9, 3, (2078, 600, 0)), (11, .iconst 5, 1, (0, 0, 0))] (by decide +kernel) (show jrun _ (7, [(10, a0)], [], s) = some ([jok 5 (s a0 0) = true], (12, [(10, a0)], [(0, 5), (9, (s a0 0))], s)) from rfl) (fun h => h) H (fun H => ?_)
    obtain ⟨v3, s3, h3, H⟩ := jb_some H
    refine AT.callV (As := [(0, 5)]) (cl := 5) (b := (s a0 0)) (st := []) (i := 81) (pos := 3128) kTe_fail (by decide +kernel) rfl (by decide +kernel) rfl rfl (by omega) (Te_fail_ok h3) ?_
    show AT sSr_takeHeat 3 (15, [(10, a0)], [], s3) o
    exact AT.retvH (by decide +kernel) H
def sSr_takeOdds : jS := (⟨"JellyCathedral$SeeReader", "takeOdds", "()V"⟩, prog_9_method_5_code, 1, 0, [10], 0)
theorem kSr_takeOdds : jmk sSr_takeOdds = true := jmk_of 3141 1007 3140 9 (by decide +kernel)
theorem Sr_takeOdds_ok {a0 : Int} {s : jM} {o : Int × jM} (H : Sr_takeOdds a0 s = some o) : MK sSr_takeOdds 3 [(10, a0)] s o := by
  refine MK.of kSr_takeOdds rfl ?_
  show AT sSr_takeOdds 3 (0, [(10, a0)], [], s) o
  unfold Sr_takeOdds at H
  refine AT.seq [(0, .aload_n 0, 1, (0, 0, 0)), (1, .getfield 23, 3, (2081, 603, 0))] (by decide +kernel) (show jrun _ (0, [(10, a0)], [], s) = some ([], (4, [(10, a0)], [(0, (s a0 3))], s)) from rfl) ?_
  refine AT.ite (x := (0, 0, 0)) (by decide +kernel) (show jbr (.ifCond .eq 12) (4, [(10, a0)], [(0, (s a0 3))], s) = some ((w32 (s a0 3)) = 0, (16, [(10, a0)], [], s), (7, [(10, a0)], [], s)) from rfl) H (fun H => ?_) (fun H => ?_)
  · refine AT.blk (g := jok 5 ((jup s a0 3 1) a0 0) = true) [(16, .aload_n 0, 1, (0, 0, 0)), (17, .iconst 1, 1, (0, 0, 0)), (18, .putfield 23, 3, (2081, 603, 0)), (21, .aload_n 0, 1, (0, 0, 0)), (22, .getfield 9, 3, (2078, 600, 0))] (by decide +kernel) (show jrun _ (16, [(10, a0)], [], s) = some ([((1 : Int) = 0 ∨ (1 : Int) = 1), jok 5 ((jup s a0 3 1) a0 0) = true], (25, [(10, a0)], [(9, ((jup s a0 3 1) a0 0))], (jup s a0 3 1))) from rfl) (fun h => ⟨(show ((1 : Int) = 0 ∨ (1 : Int) = 1) from by decide), h⟩) H (fun H => ?_)
    obtain ⟨v1, s1, h1, H⟩ := jb_some H
    refine AT.callV (As := []) (cl := 5) (b := ((jup s a0 3 1) a0 0)) (st := []) (i := 84) (pos := 3132) kTe_advance (by decide +kernel) rfl (by decide +kernel) rfl rfl (by omega) (Te_advance_ok h1) ?_
    show AT sSr_takeOdds 3 (28, [(10, a0)], [], s1) o
    refine AT.blk (g := jok 3 (s1 a0 1) = true ∧ jok 5 (s1 a0 0) = true) [(28, .aload_n 0, 1, (0, 0, 0)), (29, .getfield 15, 3, (2079, 601, 0)), (32, .aload_n 0, 1, (0, 0, 0)), (33, .getfield 9, 3, (2078, 600, 0)), (36, .iconst 0, 1, (0, 0, 0)), (37, .bipush 16, 2, (0, 0, 0))] (by decide +kernel) (show jrun _ (28, [(10, a0)], [], s1) = some ([jok 3 (s1 a0 1) = true, jok 5 (s1 a0 0) = true], (39, [(10, a0)], [(0, 16), (0, 0), (9, (s1 a0 0)), (7, (s1 a0 1))], s1)) from rfl) (fun h => ⟨h.1, h.2⟩) H (fun H => ?_)
    obtain ⟨v2, s2, h2, H⟩ := jb_some H
    refine AT.callV (As := [(0, 0), (0, 16)]) (cl := 5) (b := (s1 a0 0)) (st := [(7, (s1 a0 1))]) (i := 87) (pos := 3133) kTe_takeNumber (by decide +kernel) rfl (by decide +kernel) rfl rfl (by omega) (Te_takeNumber_ok h2) ?_
    show AT sSr_takeOdds 3 (42, [(10, a0)], [(0, v2), (7, (s1 a0 1))], s2) o
    refine AT.seq [(42, .putfield 94, 3, (1177, 301, 0))] (by decide +kernel) (show jrun _ (42, [(10, a0)], [(0, v2), (7, (s1 a0 1))], s2) = some ([], (45, [(10, a0)], [], (jup s2 (s1 a0 1) 1 v2))) from rfl) ?_
    exact AT.retvH (by decide +kernel) H
  · refine AT.blk (g := jok 5 (s a0 0) = true) [(7, .aload_n 0, 1, (0, 0, 0)), (8, .getfield 9, 3, (2078, 600, 0)), (11, .iconst 5, 1, (0, 0, 0))] (by decide +kernel) (show jrun _ (7, [(10, a0)], [], s) = some ([jok 5 (s a0 0) = true], (12, [(10, a0)], [(0, 5), (9, (s a0 0))], s)) from rfl) (fun h => h) H (fun H => ?_)
    obtain ⟨v3, s3, h3, H⟩ := jb_some H
    refine AT.callV (As := [(0, 5)]) (cl := 5) (b := (s a0 0)) (st := []) (i := 81) (pos := 3128) kTe_fail (by decide +kernel) rfl (by decide +kernel) rfl rfl (by omega) (Te_fail_ok h3) ?_
    show AT sSr_takeOdds 3 (15, [(10, a0)], [], s3) o
    exact AT.retvH (by decide +kernel) H
def sSr_takeStuff : jS := (⟨"JellyCathedral$SeeReader", "takeStuff", "(I)V"⟩, prog_9_method_6_code, 2, 0, [10, 0], 0)
theorem kSr_takeStuff : jmk sSr_takeStuff = true := jmk_of 3145 1007 3144 10 (by decide +kernel)
theorem Sr_takeStuff_ok {a0 a1 : Int} {s : jM} {o : Int × jM} (H : Sr_takeStuff a0 a1 s = some o) : MK sSr_takeStuff 3 [(10, a0), (0, a1)] s o := by
  refine MK.of kSr_takeStuff rfl ?_
  show AT sSr_takeStuff 3 (0, [(10, a0), (0, a1)], [], s) o
  unfold Sr_takeStuff at H
  refine AT.seq [(0, .iload_n 1, 1, (0, 0, 0)), (1, .iconst 5, 1, (0, 0, 0))] (by decide +kernel) (show jrun _ (0, [(10, a0), (0, a1)], [], s) = some ([], (2, [(10, a0), (0, a1)], [(0, 5), (0, a1)], s)) from rfl) ?_
  refine AT.ite (x := (0, 0, 0)) (by decide +kernel) (show jbr (.if_icmp .lt 13) (2, [(10, a0), (0, a1)], [(0, 5), (0, a1)], s) = some ((w32 a1) < 5, (15, [(10, a0), (0, a1)], [], s), (5, [(10, a0), (0, a1)], [], s)) from rfl) H (fun H => ?_) (fun H => ?_)
  · refine AT.blk (g := jok 5 (s a0 0) = true) [(15, .aload_n 0, 1, (0, 0, 0)), (16, .getfield 9, 3, (2078, 600, 0))] (by decide +kernel) (show jrun _ (15, [(10, a0), (0, a1)], [], s) = some ([jok 5 (s a0 0) = true], (19, [(10, a0), (0, a1)], [(9, (s a0 0))], s)) from rfl) (fun h => h) H (fun H => ?_)
    obtain ⟨v1, s1, h1, H⟩ := jb_some H
    refine AT.callV (As := []) (cl := 5) (b := (s a0 0)) (st := []) (i := 84) (pos := 3132) kTe_advance (by decide +kernel) rfl (by decide +kernel) rfl rfl (by omega) (Te_advance_ok h1) ?_
    show AT sSr_takeStuff 3 (22, [(10, a0), (0, a1)], [], s1) o
    refine AT.blk (g := jok 5 (s1 a0 0) = true ∧ jok 3 (s1 a0 1) = true) [(22, .aload_n 0, 1, (0, 0, 0)), (23, .getfield 9, 3, (2078, 600, 0)), (26, .aload_n 0, 1, (0, 0, 0)), (27, .getfield 15, 3, (2079, 601, 0)), (30, .iconst 0, 1, (0, 0, 0)), (31, .iload_n 1, 1, (0, 0, 0))] (by decide +kernel) (show jrun _ (22, [(10, a0), (0, a1)], [], s1) = some ([jok 5 (s1 a0 0) = true, jok 3 (s1 a0 1) = true], (32, [(10, a0), (0, a1)], [(0, a1), (0, 0), (7, (s1 a0 1)), (9, (s1 a0 0))], s1)) from rfl) (fun h => ⟨h.1, h.2⟩) H (fun H => ?_)
    obtain ⟨v2, s2, h2, H⟩ := jb_some H
    refine AT.callV (As := [(7, (s1 a0 1)), (0, 0), (0, a1)]) (cl := 5) (b := (s1 a0 0)) (st := []) (i := 97) (pos := 3146) kTe_takeNewName (by decide +kernel) rfl (by decide +kernel) rfl rfl (by omega) (Te_takeNewName_ok h2) ?_
    show AT sSr_takeStuff 3 (35, [(10, a0), (0, a1)], [], s2) o
    refine AT.blk (g := jok 5 (s2 a0 0) = true) [(35, .aload_n 0, 1, (0, 0, 0)), (36, .getfield 9, 3, (2078, 600, 0)), (39, .iconst 3, 1, (0, 0, 0))] (by decide +kernel) (show jrun _ (35, [(10, a0), (0, a1)], [], s2) = some ([jok 5 (s2 a0 0) = true], (40, [(10, a0), (0, a1)], [(0, 3), (9, (s2 a0 0))], s2)) from rfl) (fun h => h) H (fun H => ?_)
    obtain ⟨v3, s3, h3, H⟩ := jb_some H
    refine AT.callV (As := [(0, 3)]) (cl := 5) (b := (s2 a0 0)) (st := []) (i := 101) (pos := 3162) kTe_takeWord (by decide +kernel) rfl (by decide +kernel) rfl rfl (by omega) (Te_takeWord_ok h3) ?_
    show AT sSr_takeStuff 3 (43, [(10, a0), (0, a1)], [], s3) o
    refine AT.blk (g := jok 3 (s3 a0 1) = true ∧ jok 5 (s3 a0 0) = true) [(43, .aload_n 0, 1, (0, 0, 0)), (44, .getfield 15, 3, (2079, 601, 0)), (47, .getfield 104, 3, (1201, 309, 0)), (50, .iload_n 1, 1, (0, 0, 0)), (51, .aload_n 0, 1, (0, 0, 0)), (52, .getfield 9, 3, (2078, 600, 0)), (55, .iconst 0, 1, (0, 0, 0)), (56, .bipush 9, 2, (0, 0, 0))] (by decide +kernel) (show jrun _ (43, [(10, a0), (0, a1)], [], s3) = some ([jok 3 (s3 a0 1) = true, jok 5 (s3 a0 0) = true], (58, [(10, a0), (0, a1)], [(0, 9), (0, 0), (9, (s3 a0 0)), (0, a1), (26, ((s3 a0 1) + 1))], s3)) from rfl) (fun h => ⟨h.1, h.2⟩) H (fun H => ?_)
    obtain ⟨v4, s4, h4, H⟩ := jb_some H
    refine AT.callV (As := [(0, 0), (0, 9)]) (cl := 5) (b := (s3 a0 0)) (st := [(0, a1), (26, ((s3 a0 1) + 1))]) (i := 87) (pos := 3133) kTe_takeNumber (by decide +kernel) rfl (by decide +kernel) rfl rfl (by omega) (Te_takeNumber_ok h4) ?_
    show AT sSr_takeStuff 3 (61, [(10, a0), (0, a1)], [(0, v4), (0, a1), (26, ((s3 a0 1) + 1))], s4) o
    refine AT.blk (g := (0 ≤ (w32 a1) ∧ (w32 a1) < 5) ∧ jok 5 ((jup s4 ((s3 a0 1) + 1) (w32 a1) v4) a0 0) = true) [(61, .iastore, 1, (0, 0, 0)), (62, .aload_n 0, 1, (0, 0, 0)), (63, .getfield 9, 3, (2078, 600, 0)), (66, .iconst 4, 1, (0, 0, 0))] (by decide +kernel) (show jrun _ (61, [(10, a0), (0, a1)], [(0, v4), (0, a1), (26, ((s3 a0 1) + 1))], s4) = some ([(0 ≤ (w32 a1) ∧ (w32 a1) < 5), jok 5 ((jup s4 ((s3 a0 1) + 1) (w32 a1) v4) a0 0) = true], (67, [(10, a0), (0, a1)], [(0, 4), (9, ((jup s4 ((s3 a0 1) + 1) (w32 a1) v4) a0 0))], (jup s4 ((s3 a0 1) + 1) (w32 a1) v4))) from rfl) (fun h => ⟨h.1, h.2⟩) H (fun H => ?_)
    obtain ⟨v5, s5, h5, H⟩ := jb_some H
    refine AT.callV (As := [(0, 4)]) (cl := 5) (b := ((jup s4 ((s3 a0 1) + 1) (w32 a1) v4) a0 0)) (st := []) (i := 101) (pos := 3162) kTe_takeWord (by decide +kernel) rfl (by decide +kernel) rfl rfl (by omega) (Te_takeWord_ok h5) ?_
    show AT sSr_takeStuff 3 (70, [(10, a0), (0, a1)], [], s5) o
    refine AT.blk (g := jok 3 (s5 a0 1) = true ∧ jok 5 (s5 a0 0) = true) [(70, .aload_n 0, 1, (0, 0, 0)), (71, .getfield 15, 3, (2079, 601, 0)), (74, .getfield 108, 3, (1206, 310, 0)), (77, .iload_n 1, 1, (0, 0, 0)), (78, .aload_n 0, 1, (0, 0, 0)), (79, .getfield 9, 3, (2078, 600, 0)), (82, .iconst 0, 1, (0, 0, 0)), (83, .bipush 99, 2, (0, 0, 0))] (by decide +kernel) (show jrun _ (70, [(10, a0), (0, a1)], [], s5) = some ([jok 3 (s5 a0 1) = true, jok 5 (s5 a0 0) = true], (85, [(10, a0), (0, a1)], [(0, 99), (0, 0), (9, (s5 a0 0)), (0, a1), (26, ((s5 a0 1) + 2))], s5)) from rfl) (fun h => ⟨h.1, h.2⟩) H (fun H => ?_)
    obtain ⟨v6, s6, h6, H⟩ := jb_some H
    refine AT.callV (As := [(0, 0), (0, 99)]) (cl := 5) (b := (s5 a0 0)) (st := [(0, a1), (26, ((s5 a0 1) + 2))]) (i := 87) (pos := 3133) kTe_takeNumber (by decide +kernel) rfl (by decide +kernel) rfl rfl (by omega) (Te_takeNumber_ok h6) ?_
    show AT sSr_takeStuff 3 (88, [(10, a0), (0, a1)], [(0, v6), (0, a1), (26, ((s5 a0 1) + 2))], s6) o
    refine AT.blk (g := (0 ≤ (w32 a1) ∧ (w32 a1) < 5) ∧ jok 3 ((jup s6 ((s5 a0 1) + 2) (w32 a1) v6) a0 1) = true ∧ (0 ≤ (w32 a1) ∧ (w32 a1) < 5)) [(88, .iastore, 1, (0, 0, 0)), (89, .aload_n 0, 1, (0, 0, 0)), (90, .getfield 15, 3, (2079, 601, 0)), (93, .getfield 111, 3, (1211, 311, 0)), (96, .iload_n 1, 1, (0, 0, 0)), (97, .bipush 20, 2, (0, 0, 0)), (99, .iastore, 1, (0, 0, 0)), (100, .aload_n 0, 1, (0, 0, 0))] (by decide +kernel) (show jrun _ (88, [(10, a0), (0, a1)], [(0, v6), (0, a1), (26, ((s5 a0 1) + 2))], s6) = some ([(0 ≤ (w32 a1) ∧ (w32 a1) < 5), jok 3 ((jup s6 ((s5 a0 1) + 2) (w32 a1) v6) a0 1) = true, (0 ≤ (w32 a1) ∧ (w32 a1) < 5)], (101, [(10, a0), (0, a1)], [(10, a0)], (jup (jup s6 ((s5 a0 1) + 2) (w32 a1) v6) (((jup s6 ((s5 a0 1) + 2) (w32 a1) v6) a0 1) + 3) (w32 a1) 20))) from rfl) (fun h => ⟨h.1, h.2.1, h.2.2⟩) H (fun H => ?_)
    obtain ⟨s7, e7, H⟩ := jm_some H
    rw [← e7]
    refine AT.blk (g := jok 5 (s7 a0 0) = true) [(101, .getfield 9, 3, (2078, 600, 0)), (104, .getfield 50, 3, (2038, 505, 0)), (107, .iconst 5, 1, (0, 0, 0))] (by decide +kernel) (show jrun _ (101, [(10, a0), (0, a1)], [(10, a0)], s7) = some ([jok 5 (s7 a0 0) = true], (108, [(10, a0), (0, a1)], [(0, 5), (0, (s7 (s7 a0 0) 5))], s7)) from rfl) (fun h => h) H (fun H => ?_)
    refine AT.ite (x := (0, 0, 0)) (by decide +kernel) (show jbr (.if_icmp .ne 29) (108, [(10, a0), (0, a1)], [(0, 5), (0, (s7 (s7 a0 0) 5))], s7) = some ((w32 (s7 (s7 a0 0) 5)) = 5, (111, [(10, a0), (0, a1)], [], s7), (137, [(10, a0), (0, a1)], [], s7)) from rfl) H (fun H => ?_) (fun H => ?_)
    · refine AT.blk (g := jok 5 (s7 a0 0) = true) [(111, .aload_n 0, 1, (0, 0, 0)), (112, .getfield 9, 3, (2078, 600, 0))] (by decide +kernel) (show jrun _ (111, [(10, a0), (0, a1)], [], s7) = some ([jok 5 (s7 a0 0) = true], (115, [(10, a0), (0, a1)], [(9, (s7 a0 0))], s7)) from rfl) (fun h => h) H (fun H => ?_)
      obtain ⟨v8, s8, h8, H⟩ := jb_some H
      refine AT.callV (As := []) (cl := 5) (b := (s7 a0 0)) (st := []) (i := 84) (pos := 3132) kTe_advance (by decide +kernel) rfl (by decide +kernel) rfl rfl (by omega) (Te_advance_ok h8) ?_
      show AT sSr_takeStuff 3 (118, [(10, a0), (0, a1)], [], s8) o
      refine AT.blk (g := jok 3 (s8 a0 1) = true ∧ jok 5 (s8 a0 0) = true) [(118, .aload_n 0, 1, (0, 0, 0)), (119, .getfield 15, 3, (2079, 601, 0)), (122, .getfield 111, 3, (1211, 311, 0)), (125, .iload_n 1, 1, (0, 0, 0)), (126, .aload_n 0, 1, (0, 0, 0)), (127, .getfield 9, 3, (2078, 600, 0)), (130, .iconst 0, 1, (0, 0, 0)), (131, .bipush 99, 2, (0, 0, 0))] (by decide +kernel) (show jrun _ (118, [(10, a0), (0, a1)], [], s8) = some ([jok 3 (s8 a0 1) = true, jok 5 (s8 a0 0) = true], (133, [(10, a0), (0, a1)], [(0, 99), (0, 0), (9, (s8 a0 0)), (0, a1), (26, ((s8 a0 1) + 3))], s8)) from rfl) (fun h => ⟨h.1, h.2⟩) H (fun H => ?_)
      obtain ⟨v9, s9, h9, H⟩ := jb_some H
      refine AT.callV (As := [(0, 0), (0, 99)]) (cl := 5) (b := (s8 a0 0)) (st := [(0, a1), (26, ((s8 a0 1) + 3))]) (i := 87) (pos := 3133) kTe_takeNumber (by decide +kernel) rfl (by decide +kernel) rfl rfl (by omega) (Te_takeNumber_ok h9) ?_
      show AT sSr_takeStuff 3 (136, [(10, a0), (0, a1)], [(0, v9), (0, a1), (26, ((s8 a0 1) + 3))], s9) o
      refine AT.blk (g := (0 ≤ (w32 a1) ∧ (w32 a1) < 5) ∧ jok 3 ((jup s9 ((s8 a0 1) + 3) (w32 a1) v9) a0 1) = true) [(136, .iastore, 1, (0, 0, 0)), (137, .aload_n 0, 1, (0, 0, 0)), (138, .getfield 15, 3, (2079, 601, 0)), (141, .dup, 1, (0, 0, 0)), (142, .getfield 59, 3, (1187, 304, 0)), (145, .iconst 1, 1, (0, 0, 0)), (146, .iadd, 1, (0, 0, 0)), (147, .putfield 59, 3, (1187, 304, 0))] (by decide +kernel) (show jrun _ (136, [(10, a0), (0, a1)], [(0, v9), (0, a1), (26, ((s8 a0 1) + 3))], s9) = some ([(0 ≤ (w32 a1) ∧ (w32 a1) < 5), jok 3 ((jup s9 ((s8 a0 1) + 3) (w32 a1) v9) a0 1) = true], (150, [(10, a0), (0, a1)], [], (jup (jup s9 ((s8 a0 1) + 3) (w32 a1) v9) ((jup s9 ((s8 a0 1) + 3) (w32 a1) v9) a0 1) 4 (((jup s9 ((s8 a0 1) + 3) (w32 a1) v9) ((jup s9 ((s8 a0 1) + 3) (w32 a1) v9) a0 1) 4) + 1)))) from rfl) (fun h => ⟨h.1, h.2⟩) H (fun H => ?_)
      exact AT.retvH (by decide +kernel) H
    · refine AT.blk (g := jok 3 (s7 a0 1) = true) [(137, .aload_n 0, 1, (0, 0, 0)), (138, .getfield 15, 3, (2079, 601, 0)), (141, .dup, 1, (0, 0, 0)), (142, .getfield 59, 3, (1187, 304, 0)), (145, .iconst 1, 1, (0, 0, 0)), (146, .iadd, 1, (0, 0, 0)), (147, .putfield 59, 3, (1187, 304, 0))] (by decide +kernel) (show jrun _ (137, [(10, a0), (0, a1)], [], s7) = some ([jok 3 (s7 a0 1) = true], (150, [(10, a0), (0, a1)], [], (jup s7 (s7 a0 1) 4 ((s7 (s7 a0 1) 4) + 1)))) from rfl) (fun h => h) H (fun H => ?_)
      exact AT.retvH (by decide +kernel) H
  · refine AT.blk (g := jok 5 (s a0 0) = true) [(5, .aload_n 0, 1, (0, 0, 0)), (6, .getfield 9, 3, (2078, 600, 0)), (9, .bipush 6, 2, (0, 0, 0))] (by decide +kernel) (show jrun _ (5, [(10, a0), (0, a1)], [], s) = some ([jok 5 (s a0 0) = true], (11, [(10, a0), (0, a1)], [(0, 6), (9, (s a0 0))], s)) from rfl) (fun h => h) H (fun H => ?_)
    obtain ⟨v10, s10, h10, H⟩ := jb_some H
    refine AT.callV (As := [(0, 6)]) (cl := 5) (b := (s a0 0)) (st := []) (i := 81) (pos := 3128) kTe_fail (by decide +kernel) rfl (by decide +kernel) rfl rfl (by omega) (Te_fail_ok h10) ?_
    show AT sSr_takeStuff 3 (14, [(10, a0), (0, a1)], [], s10) o
    exact AT.retvH (by decide +kernel) H
def sSr_takePlace : jS := (⟨"JellyCathedral$SeeReader", "takePlace", "(I)V"⟩, prog_9_method_7_code, 2, 0, [10, 0], 0)
theorem kSr_takePlace : jmk sSr_takePlace = true := jmk_of 3169 1007 3168 11 (by decide +kernel)
theorem Sr_takePlace_ok {a0 a1 : Int} {s : jM} {o : Int × jM} (H : Sr_takePlace a0 a1 s = some o) : MK sSr_takePlace 3 [(10, a0), (0, a1)] s o := by
  refine MK.of kSr_takePlace rfl ?_
  show AT sSr_takePlace 3 (0, [(10, a0), (0, a1)], [], s) o
  unfold Sr_takePlace at H
  refine AT.seq [(0, .iload_n 1, 1, (0, 0, 0)), (1, .bipush 6, 2, (0, 0, 0))] (by decide +kernel) (show jrun _ (0, [(10, a0), (0, a1)], [], s) = some ([], (3, [(10, a0), (0, a1)], [(0, 6), (0, a1)], s)) from rfl) ?_
  refine AT.ite (x := (0, 0, 0)) (by decide +kernel) (show jbr (.if_icmp .lt 13) (3, [(10, a0), (0, a1)], [(0, 6), (0, a1)], s) = some ((w32 a1) < 6, (16, [(10, a0), (0, a1)], [], s), (6, [(10, a0), (0, a1)], [], s)) from rfl) H (fun H => ?_) (fun H => ?_)
  · refine AT.blk (g := jok 5 (s a0 0) = true) [(16, .aload_n 0, 1, (0, 0, 0)), (17, .getfield 9, 3, (2078, 600, 0))] (by decide +kernel) (show jrun _ (16, [(10, a0), (0, a1)], [], s) = some ([jok 5 (s a0 0) = true], (20, [(10, a0), (0, a1)], [(9, (s a0 0))], s)) from rfl) (fun h => h) H (fun H => ?_)
    obtain ⟨v1, s1, h1, H⟩ := jb_some H
    refine AT.callV (As := []) (cl := 5) (b := (s a0 0)) (st := []) (i := 84) (pos := 3132) kTe_advance (by decide +kernel) rfl (by decide +kernel) rfl rfl (by omega) (Te_advance_ok h1) ?_
    show AT sSr_takePlace 3 (23, [(10, a0), (0, a1)], [], s1) o
    refine AT.blk (g := jok 5 (s1 a0 0) = true ∧ jok 3 (s1 a0 1) = true) [(23, .aload_n 0, 1, (0, 0, 0)), (24, .getfield 9, 3, (2078, 600, 0)), (27, .aload_n 0, 1, (0, 0, 0)), (28, .getfield 15, 3, (2079, 601, 0)), (31, .iconst 1, 1, (0, 0, 0)), (32, .iload_n 1, 1, (0, 0, 0))] (by decide +kernel) (show jrun _ (23, [(10, a0), (0, a1)], [], s1) = some ([jok 5 (s1 a0 0) = true, jok 3 (s1 a0 1) = true], (33, [(10, a0), (0, a1)], [(0, a1), (0, 1), (7, (s1 a0 1)), (9, (s1 a0 0))], s1)) from rfl) (fun h => ⟨h.1, h.2⟩) H (fun H => ?_)
    obtain ⟨v2, s2, h2, H⟩ := jb_some H
    refine AT.callV (As := [(7, (s1 a0 1)), (0, 1), (0, a1)]) (cl := 5) (b := (s1 a0 0)) (st := []) (i := 97) (pos := 3146) kTe_takeNewName (by decide +kernel) rfl (by decide +kernel) rfl rfl (by omega) (Te_takeNewName_ok h2) ?_
    show AT sSr_takePlace 3 (36, [(10, a0), (0, a1)], [], s2) o
    refine AT.blk (g := jok 3 (s2 a0 1) = true) [(36, .aload_n 0, 1, (0, 0, 0)), (37, .getfield 15, 3, (2079, 601, 0)), (40, .dup, 1, (0, 0, 0)), (41, .getfield 66, 3, (1190, 305, 0)), (44, .iconst 1, 1, (0, 0, 0)), (45, .iadd, 1, (0, 0, 0)), (46, .putfield 66, 3, (1190, 305, 0))] (by decide +kernel) (show jrun _ (36, [(10, a0), (0, a1)], [], s2) = some ([jok 3 (s2 a0 1) = true], (49, [(10, a0), (0, a1)], [], (jup s2 (s2 a0 1) 5 ((s2 (s2 a0 1) 5) + 1)))) from rfl) (fun h => h) H (fun H => ?_)
    exact AT.retvH (by decide +kernel) H
  · refine AT.blk (g := jok 5 (s a0 0) = true) [(6, .aload_n 0, 1, (0, 0, 0)), (7, .getfield 9, 3, (2078, 600, 0)), (10, .bipush 6, 2, (0, 0, 0))] (by decide +kernel) (show jrun _ (6, [(10, a0), (0, a1)], [], s) = some ([jok 5 (s a0 0) = true], (12, [(10, a0), (0, a1)], [(0, 6), (9, (s a0 0))], s)) from rfl) (fun h => h) H (fun H => ?_)
    obtain ⟨v3, s3, h3, H⟩ := jb_some H
    refine AT.callV (As := [(0, 6)]) (cl := 5) (b := (s a0 0)) (st := []) (i := 81) (pos := 3128) kTe_fail (by decide +kernel) rfl (by decide +kernel) rfl rfl (by omega) (Te_fail_ok h3) ?_
    show AT sSr_takePlace 3 (15, [(10, a0), (0, a1)], [], s3) o
    exact AT.retvH (by decide +kernel) H
def sSr_takeWalk : jS := (⟨"JellyCathedral$SeeReader", "takeWalk", "()V"⟩, prog_9_method_8_code, 4, 0, [10], 0)
theorem kSr_takeWalk : jmk sSr_takeWalk = true := jmk_of 3173 1007 3172 12 (by decide +kernel)
theorem Sr_takeWalk_84_ok {o : Int × jM} {x0 x1 : Int} {s : jM} (H : Sr_takeWalk_84  x0 x1 s = some o) : AT sSr_takeWalk 3 (84, [(10, x0), (0, x1), (99, 0), (99, 0)], [], s) o := by
  unfold Sr_takeWalk_84 at H
  refine AT.blk (g := jok 5 (s x0 0) = true ∧ jok 3 (s x0 1) = true) [(84, .aload_n 0, 1, (0, 0, 0)), (85, .getfield 9, 3, (2078, 600, 0)), (88, .aload_n 0, 1, (0, 0, 0)), (89, .getfield 15, 3, (2079, 601, 0)), (92, .iconst 1, 1, (0, 0, 0))] (by decide +kernel) (show jrun _ (84, [(10, x0), (0, x1), (99, 0), (99, 0)], [], s) = some ([jok 5 (s x0 0) = true, jok 3 (s x0 1) = true], (93, [(10, x0), (0, x1), (99, 0), (99, 0)], [(0, 1), (7, (s x0 1)), (9, (s x0 0))], s)) from rfl) (fun h => ⟨h.1, h.2⟩) H (fun H => ?_)
  obtain ⟨v1, s1, h1, H⟩ := jb_some H
  refine AT.callV (As := [(7, (s x0 1)), (0, 1)]) (cl := 5) (b := (s x0 0)) (st := []) (i := 117) (pos := 3174) kTe_takeThing (by decide +kernel) rfl (by decide +kernel) rfl rfl (by omega) (Te_takeThing_ok h1) ?_
  show AT sSr_takeWalk 3 (96, [(10, x0), (0, x1), (99, 0), (99, 0)], [(0, v1)], s1) o
  refine AT.blk (g := jok 5 (s1 x0 0) = true) [(96, .istore_n 2, 1, (0, 0, 0)), (97, .aload_n 0, 1, (0, 0, 0)), (98, .getfield 9, 3, (2078, 600, 0)), (101, .bipush 8, 2, (0, 0, 0))] (by decide +kernel) (show jrun _ (96, [(10, x0), (0, x1), (99, 0), (99, 0)], [(0, v1)], s1) = some ([jok 5 (s1 x0 0) = true], (103, [(10, x0), (0, x1), (0, v1), (99, 0)], [(0, 8), (9, (s1 x0 0))], s1)) from rfl) (fun h => h) H (fun H => ?_)
  obtain ⟨v2, s2, h2, H⟩ := jb_some H
  refine AT.callV (As := [(0, 8)]) (cl := 5) (b := (s1 x0 0)) (st := []) (i := 101) (pos := 3162) kTe_takeWord (by decide +kernel) rfl (by decide +kernel) rfl rfl (by omega) (Te_takeWord_ok h2) ?_
  show AT sSr_takeWalk 3 (106, [(10, x0), (0, x1), (0, v1), (99, 0)], [], s2) o
  refine AT.blk (g := jok 5 (s2 x0 0) = true) [(106, .aload_n 0, 1, (0, 0, 0)), (107, .getfield 9, 3, (2078, 600, 0)), (110, .iconst 0, 1, (0, 0, 0)), (111, .bipush 9, 2, (0, 0, 0))] (by decide +kernel) (show jrun _ (106, [(10, x0), (0, x1), (0, v1), (99, 0)], [], s2) = some ([jok 5 (s2 x0 0) = true], (113, [(10, x0), (0, x1), (0, v1), (99, 0)], [(0, 9), (0, 0), (9, (s2 x0 0))], s2)) from rfl) (fun h => h) H (fun H => ?_)
  obtain ⟨v3, s3, h3, H⟩ := jb_some H
  refine AT.callV (As := [(0, 0), (0, 9)]) (cl := 5) (b := (s2 x0 0)) (st := []) (i := 87) (pos := 3133) kTe_takeNumber (by decide +kernel) rfl (by decide +kernel) rfl rfl (by omega) (Te_takeNumber_ok h3) ?_
  show AT sSr_takeWalk 3 (116, [(10, x0), (0, x1), (0, v1), (99, 0)], [(0, v3)], s3) o
  refine AT.blk (g := jok 5 (s3 x0 0) = true) [(116, .istore_n 3, 1, (0, 0, 0)), (117, .aload_n 0, 1, (0, 0, 0)), (118, .getfield 9, 3, (2078, 600, 0))] (by decide +kernel) (show jrun _ (116, [(10, x0), (0, x1), (0, v1), (99, 0)], [(0, v3)], s3) = some ([jok 5 (s3 x0 0) = true], (121, [(10, x0), (0, x1), (0, v1), (0, v3)], [(9, (s3 x0 0))], s3)) from rfl) (fun h => h) H (fun H => ?_)
  obtain ⟨v4, s4, h4, H⟩ := jb_some H
  refine AT.callV (As := []) (cl := 5) (b := (s3 x0 0)) (st := []) (i := 31) (pos := 3116) kTe_isWell (by decide +kernel) rfl (by decide +kernel) rfl rfl (by omega) (Te_isWell_ok h4) ?_
  show AT sSr_takeWalk 3 (124, [(10, x0), (0, x1), (0, v1), (0, v3)], [(0, v4)], s4) o
  refine AT.ite (x := (0, 0, 0)) (by decide +kernel) (show jbr (.ifCond .eq 13) (124, [(10, x0), (0, x1), (0, v1), (0, v3)], [(0, v4)], s4) = some ((w32 v4) = 0, (137, [(10, x0), (0, x1), (0, v1), (0, v3)], [], s4), (127, [(10, x0), (0, x1), (0, v1), (0, v3)], [], s4)) from rfl) H (fun H => ?_) (fun H => ?_)
  · exact AT.retvH (by decide +kernel) H
  · refine AT.blk (g := jok 3 (s4 x0 1) = true) [(127, .aload_n 0, 1, (0, 0, 0)), (128, .getfield 15, 3, (2079, 601, 0)), (131, .iload_n 1, 1, (0, 0, 0)), (132, .iload_n 2, 1, (0, 0, 0)), (133, .iload_n 3, 1, (0, 0, 0))] (by decide +kernel) (show jrun _ (127, [(10, x0), (0, x1), (0, v1), (0, v3)], [], s4) = some ([jok 3 (s4 x0 1) = true], (134, [(10, x0), (0, x1), (0, v1), (0, v3)], [(0, v3), (0, v1), (0, x1), (7, (s4 x0 1))], s4)) from rfl) (fun h => h) H (fun H => ?_)
    obtain ⟨v5, s5, h5, H⟩ := jb_some H
    refine AT.callV (As := [(0, x1), (0, v1), (0, v3)]) (cl := 3) (b := (s4 x0 1)) (st := []) (i := 132) (pos := 3184) kSe_addWalk (by decide +kernel) rfl (by decide +kernel) rfl rfl (by omega) (Se_addWalk_ok h5) ?_
    show AT sSr_takeWalk 3 (137, [(10, x0), (0, x1), (0, v1), (0, v3)], [], s5) o
    exact AT.retvH (by decide +kernel) H
theorem Sr_takeWalk_ok {a0 : Int} {s : jM} {o : Int × jM} (H : Sr_takeWalk a0 s = some o) : MK sSr_takeWalk 3 [(10, a0)] s o := by
  refine MK.of kSr_takeWalk rfl ?_
  show AT sSr_takeWalk 3 (0, [(10, a0), (99, 0), (99, 0), (99, 0)], [], s) o
  unfold Sr_takeWalk at H
  refine AT.blk (g := jok 3 (s a0 1) = true) [(0, .aload_n 0, 1, (0, 0, 0)), (1, .getfield 15, 3, (2079, 601, 0)), (4, .getfield 114, 3, (1197, 307, 0)), (7, .bipush 10, 2, (0, 0, 0))] (by decide +kernel) (show jrun _ (0, [(10, a0), (99, 0), (99, 0), (99, 0)], [], s) = some ([jok 3 (s a0 1) = true], (9, [(10, a0), (99, 0), (99, 0), (99, 0)], [(0, 10), (0, (s (s a0 1) 7))], s)) from rfl) (fun h => h) H (fun H => ?_)
  refine AT.ite (x := (0, 0, 0)) (by decide +kernel) (show jbr (.if_icmp .lt 13) (9, [(10, a0), (99, 0), (99, 0), (99, 0)], [(0, 10), (0, (s (s a0 1) 7))], s) = some ((w32 (s (s a0 1) 7)) < 10, (22, [(10, a0), (99, 0), (99, 0), (99, 0)], [], s), (12, [(10, a0), (99, 0), (99, 0), (99, 0)], [], s)) from rfl) H (fun H => ?_) (fun H => ?_)
  · refine AT.blk (g := jok 5 (s a0 0) = true) [(22, .aload_n 0, 1, (0, 0, 0)), (23, .getfield 9, 3, (2078, 600, 0))] (by decide +kernel) (show jrun _ (22, [(10, a0), (99, 0), (99, 0), (99, 0)], [], s) = some ([jok 5 (s a0 0) = true], (26, [(10, a0), (99, 0), (99, 0), (99, 0)], [(9, (s a0 0))], s)) from rfl) (fun h => h) H (fun H => ?_)
    obtain ⟨v6, s6, h6, H⟩ := jb_some H
    refine AT.callV (As := []) (cl := 5) (b := (s a0 0)) (st := []) (i := 84) (pos := 3132) kTe_advance (by decide +kernel) rfl (by decide +kernel) rfl rfl (by omega) (Te_advance_ok h6) ?_
    show AT sSr_takeWalk 3 (29, [(10, a0), (99, 0), (99, 0), (99, 0)], [], s6) o
    refine AT.blk (g := jok 5 (s6 a0 0) = true ∧ jok 3 (s6 a0 1) = true) [(29, .aload_n 0, 1, (0, 0, 0)), (30, .getfield 9, 3, (2078, 600, 0)), (33, .aload_n 0, 1, (0, 0, 0)), (34, .getfield 15, 3, (2079, 601, 0)), (37, .iconst 1, 1, (0, 0, 0))] (by decide +kernel) (show jrun _ (29, [(10, a0), (99, 0), (99, 0), (99, 0)], [], s6) = some ([jok 5 (s6 a0 0) = true, jok 3 (s6 a0 1) = true], (38, [(10, a0), (99, 0), (99, 0), (99, 0)], [(0, 1), (7, (s6 a0 1)), (9, (s6 a0 0))], s6)) from rfl) (fun h => ⟨h.1, h.2⟩) H (fun H => ?_)
    obtain ⟨v7, s7, h7, H⟩ := jb_some H
    refine AT.callV (As := [(7, (s6 a0 1)), (0, 1)]) (cl := 5) (b := (s6 a0 0)) (st := []) (i := 117) (pos := 3174) kTe_takeThing (by decide +kernel) rfl (by decide +kernel) rfl rfl (by omega) (Te_takeThing_ok h7) ?_
    show AT sSr_takeWalk 3 (41, [(10, a0), (99, 0), (99, 0), (99, 0)], [(0, v7)], s7) o
    refine AT.blk (g := jok 5 (s7 a0 0) = true) [(41, .istore_n 1, 1, (0, 0, 0)), (42, .aload_n 0, 1, (0, 0, 0)), (43, .getfield 9, 3, (2078, 600, 0))] (by decide +kernel) (show jrun _ (41, [(10, a0), (99, 0), (99, 0), (99, 0)], [(0, v7)], s7) = some ([jok 5 (s7 a0 0) = true], (46, [(10, a0), (0, v7), (99, 0), (99, 0)], [(9, (s7 a0 0))], s7)) from rfl) (fun h => h) H (fun H => ?_)
    obtain ⟨v8, s8, h8, H⟩ := jb_some H
    refine AT.callV (As := []) (cl := 5) (b := (s7 a0 0)) (st := []) (i := 121) (pos := 3182) kTe_isName (by decide +kernel) rfl (by decide +kernel) rfl rfl (by omega) (Te_isName_ok h8) ?_
    show AT sSr_takeWalk 3 (49, [(10, a0), (0, v7), (99, 0), (99, 0)], [(0, v8)], s8) o
    refine AT.ite (x := (0, 0, 0)) (by decide +kernel) (show jbr (.ifCond .eq 35) (49, [(10, a0), (0, v7), (99, 0), (99, 0)], [(0, v8)], s8) = some ((w32 v8) = 0, (84, [(10, a0), (0, v7), (99, 0), (99, 0)], [], s8), (52, [(10, a0), (0, v7), (99, 0), (99, 0)], [], s8)) from rfl) H (fun H => ?_) (fun H => ?_)
    · exact Sr_takeWalk_84_ok  H
    · refine AT.seq [(52, .iload_n 1, 1, (0, 0, 0)), (53, .iconst (-1), 1, (0, 0, 0))] (by decide +kernel) (show jrun _ (52, [(10, a0), (0, v7), (99, 0), (99, 0)], [], s8) = some ([], (54, [(10, a0), (0, v7), (99, 0), (99, 0)], [(0, (-1)), (0, v7)], s8)) from rfl) ?_
      refine AT.ite (x := (0, 0, 0)) (by decide +kernel) (show jbr (.if_icmp .eq 30) (54, [(10, a0), (0, v7), (99, 0), (99, 0)], [(0, (-1)), (0, v7)], s8) = some ((w32 v7) = (-1), (84, [(10, a0), (0, v7), (99, 0), (99, 0)], [], s8), (57, [(10, a0), (0, v7), (99, 0), (99, 0)], [], s8)) from rfl) H (fun H => ?_) (fun H => ?_)
      · exact Sr_takeWalk_84_ok  H
      · refine AT.blk (g := jok 3 (s8 a0 1) = true ∧ jok 5 (s8 a0 0) = true) [(57, .iload_n 1, 1, (0, 0, 0)), (58, .aload_n 0, 1, (0, 0, 0)), (59, .getfield 15, 3, (2079, 601, 0)), (62, .aload_n 0, 1, (0, 0, 0)), (63, .getfield 9, 3, (2078, 600, 0)), (66, .getfield 124, 3, (2042, 507, 0)), (69, .iconst 1, 1, (0, 0, 0))] (by decide +kernel) (show jrun _ (57, [(10, a0), (0, v7), (99, 0), (99, 0)], [], s8) = some ([jok 3 (s8 a0 1) = true, jok 5 (s8 a0 0) = true], (70, [(10, a0), (0, v7), (99, 0), (99, 0)], [(0, 1), (1, (s8 (s8 a0 0) 7)), (7, (s8 a0 1)), (0, v7)], s8)) from rfl) (fun h => ⟨h.1, h.2⟩) H (fun H => ?_)
        obtain ⟨v9, s9, h9, H⟩ := jb_some H
        refine AT.callV (As := [(1, (s8 (s8 a0 0) 7)), (0, 1)]) (cl := 3) (b := (s8 a0 1)) (st := [(0, v7)]) (i := 128) (pos := 3183) kSe_find (by decide +kernel) rfl (by decide +kernel) rfl rfl (by omega) (Se_find_ok h9) ?_
        show AT sSr_takeWalk 3 (73, [(10, a0), (0, v7), (99, 0), (99, 0)], [(0, v9), (0, v7)], s9) o
        refine AT.ite (x := (0, 0, 0)) (by decide +kernel) (show jbr (.if_icmp .ne 11) (73, [(10, a0), (0, v7), (99, 0), (99, 0)], [(0, v9), (0, v7)], s9) = some ((w32 v7) = (w32 v9), (76, [(10, a0), (0, v7), (99, 0), (99, 0)], [], s9), (84, [(10, a0), (0, v7), (99, 0), (99, 0)], [], s9)) from rfl) H (fun H => ?_) (fun H => ?_)
        · refine AT.blk (g := jok 5 (s9 a0 0) = true) [(76, .aload_n 0, 1, (0, 0, 0)), (77, .getfield 9, 3, (2078, 600, 0)), (80, .iconst 5, 1, (0, 0, 0))] (by decide +kernel) (show jrun _ (76, [(10, a0), (0, v7), (99, 0), (99, 0)], [], s9) = some ([jok 5 (s9 a0 0) = true], (81, [(10, a0), (0, v7), (99, 0), (99, 0)], [(0, 5), (9, (s9 a0 0))], s9)) from rfl) (fun h => h) H (fun H => ?_)
          obtain ⟨v10, s10, h10, H⟩ := jb_some H
          refine AT.callV (As := [(0, 5)]) (cl := 5) (b := (s9 a0 0)) (st := []) (i := 81) (pos := 3128) kTe_fail (by decide +kernel) rfl (by decide +kernel) rfl rfl (by omega) (Te_fail_ok h10) ?_
          show AT sSr_takeWalk 3 (84, [(10, a0), (0, v7), (99, 0), (99, 0)], [], s10) o
          exact Sr_takeWalk_84_ok  H
        · exact Sr_takeWalk_84_ok  H
  · refine AT.blk (g := jok 5 (s a0 0) = true) [(12, .aload_n 0, 1, (0, 0, 0)), (13, .getfield 9, 3, (2078, 600, 0)), (16, .bipush 6, 2, (0, 0, 0))] (by decide +kernel) (show jrun _ (12, [(10, a0), (99, 0), (99, 0), (99, 0)], [], s) = some ([jok 5 (s a0 0) = true], (18, [(10, a0), (99, 0), (99, 0), (99, 0)], [(0, 6), (9, (s a0 0))], s)) from rfl) (fun h => h) H (fun H => ?_)
    obtain ⟨v11, s11, h11, H⟩ := jb_some H
    refine AT.callV (As := [(0, 6)]) (cl := 5) (b := (s a0 0)) (st := []) (i := 81) (pos := 3128) kTe_fail (by decide +kernel) rfl (by decide +kernel) rfl rfl (by omega) (Te_fail_ok h11) ?_
    show AT sSr_takeWalk 3 (21, [(10, a0), (99, 0), (99, 0), (99, 0)], [], s11) o
    exact AT.retvH (by decide +kernel) H
def sSr_takeMould : jS := (⟨"JellyCathedral$SeeReader", "takeMould", "(I)V"⟩, prog_9_method_9_code, 3, 0, [10, 0], 0)
theorem kSr_takeMould : jmk sSr_takeMould = true := jmk_of 3194 1007 3193 13 (by decide +kernel)
theorem Sr_takeMould_ok {a0 a1 : Int} {s : jM} {o : Int × jM} (H : Sr_takeMould a0 a1 s = some o) : MK sSr_takeMould 3 [(10, a0), (0, a1)] s o := by
  refine MK.of kSr_takeMould rfl ?_
  show AT sSr_takeMould 3 (0, [(10, a0), (0, a1), (99, 0)], [], s) o
  unfold Sr_takeMould at H
  refine AT.seq [(0, .iload_n 1, 1, (0, 0, 0)), (1, .iconst 5, 1, (0, 0, 0))] (by decide +kernel) (show jrun _ (0, [(10, a0), (0, a1), (99, 0)], [], s) = some ([], (2, [(10, a0), (0, a1), (99, 0)], [(0, 5), (0, a1)], s)) from rfl) ?_
  refine AT.ite (x := (0, 0, 0)) (by decide +kernel) (show jbr (.if_icmp .lt 13) (2, [(10, a0), (0, a1), (99, 0)], [(0, 5), (0, a1)], s) = some ((w32 a1) < 5, (15, [(10, a0), (0, a1), (99, 0)], [], s), (5, [(10, a0), (0, a1), (99, 0)], [], s)) from rfl) H (fun H => ?_) (fun H => ?_)
  · refine AT.blk (g := jok 3 (s a0 1) = true ∧ (0 ≤ (w32 a1) ∧ (w32 a1) < 5)) [(15, .aload_n 0, 1, (0, 0, 0)), (16, .getfield 15, 3, (2079, 601, 0)), (19, .getfield 136, 3, (1216, 312, 0)), (22, .iload_n 1, 1, (0, 0, 0)), (23, .aaload, 1, (0, 0, 0)), (24, .astore_n 2, 1, (0, 0, 0)), (25, .aload_n 2, 1, (0, 0, 0))] (by decide +kernel) (show jrun _ (15, [(10, a0), (0, a1), (99, 0)], [], s) = some ([jok 3 (s a0 1) = true, (0 ≤ (w32 a1) ∧ (w32 a1) < 5)], (26, [(10, a0), (0, a1), (6, (((s a0 1) + 4) + 11 + 2 * (w32 a1)))], [(6, (((s a0 1) + 4) + 11 + 2 * (w32 a1)))], s)) from rfl) (fun h => ⟨h.1, h.2⟩) H (fun H => ?_)
    obtain ⟨v1, s1, h1, H⟩ := jb_some H
    refine AT.callV (As := []) (cl := 2) (b := (((s a0 1) + 4) + 11 + 2 * (w32 a1))) (st := []) (i := 140) (pos := 3195) kMo_makeVoid (by decide +kernel) rfl (by decide +kernel) rfl rfl (by omega) (Mo_makeVoid_ok h1) ?_
    show AT sSr_takeMould 3 (29, [(10, a0), (0, a1), (6, (((s a0 1) + 4) + 11 + 2 * (w32 a1)))], [], s1) o
    refine AT.blk (g := jok 5 ((jup s1 (((s a0 1) + 4) + 11 + 2 * (w32 a1)) 7 0) a0 0) = true) [(29, .aload_n 2, 1, (0, 0, 0)), (30, .iconst 0, 1, (0, 0, 0)), (31, .putfield 145, 3, (1140, 207, 0)), (34, .aload_n 0, 1, (0, 0, 0)), (35, .getfield 9, 3, (2078, 600, 0))] (by decide +kernel) (show jrun _ (29, [(10, a0), (0, a1), (6, (((s a0 1) + 4) + 11 + 2 * (w32 a1)))], [], s1) = some ([jok 5 ((jup s1 (((s a0 1) + 4) + 11 + 2 * (w32 a1)) 7 0) a0 0) = true], (38, [(10, a0), (0, a1), (6, (((s a0 1) + 4) + 11 + 2 * (w32 a1)))], [(9, ((jup s1 (((s a0 1) + 4) + 11 + 2 * (w32 a1)) 7 0) a0 0))], (jup s1 (((s a0 1) + 4) + 11 + 2 * (w32 a1)) 7 0))) from rfl) (fun h => h) H (fun H => ?_)
    obtain ⟨v2, s2, h2, H⟩ := jb_some H
    refine AT.callV (As := []) (cl := 5) (b := ((jup s1 (((s a0 1) + 4) + 11 + 2 * (w32 a1)) 7 0) a0 0)) (st := []) (i := 84) (pos := 3132) kTe_advance (by decide +kernel) rfl (by decide +kernel) rfl rfl (by omega) (Te_advance_ok h2) ?_
    show AT sSr_takeMould 3 (41, [(10, a0), (0, a1), (6, (((s a0 1) + 4) + 11 + 2 * (w32 a1)))], [], s2) o
    refine AT.blk (g := jok 5 (s2 a0 0) = true ∧ jok 3 (s2 a0 1) = true) [(41, .aload_n 0, 1, (0, 0, 0)), (42, .getfield 9, 3, (2078, 600, 0)), (45, .aload_n 0, 1, (0, 0, 0)), (46, .getfield 15, 3, (2079, 601, 0)), (49, .iconst 2, 1, (0, 0, 0)), (50, .iload_n 1, 1, (0, 0, 0))] (by decide +kernel) (show jrun _ (41, [(10, a0), (0, a1), (6, (((s a0 1) + 4) + 11 + 2 * (w32 a1)))], [], s2) = some ([jok 5 (s2 a0 0) = true, jok 3 (s2 a0 1) = true], (51, [(10, a0), (0, a1), (6, (((s a0 1) + 4) + 11 + 2 * (w32 a1)))], [(0, a1), (0, 2), (7, (s2 a0 1)), (9, (s2 a0 0))], s2)) from rfl) (fun h => ⟨h.1, h.2⟩) H (fun H => ?_)
    obtain ⟨v3, s3, h3, H⟩ := jb_some H
    refine AT.callV (As := [(7, (s2 a0 1)), (0, 2), (0, a1)]) (cl := 5) (b := (s2 a0 0)) (st := []) (i := 97) (pos := 3146) kTe_takeNewName (by decide +kernel) rfl (by decide +kernel) rfl rfl (by omega) (Te_takeNewName_ok h3) ?_
    show AT sSr_takeMould 3 (54, [(10, a0), (0, a1), (6, (((s a0 1) + 4) + 11 + 2 * (w32 a1)))], [], s3) o
    refine AT.blk (g := jok 5 (s3 a0 0) = true) [(54, .aload_n 0, 1, (0, 0, 0)), (55, .getfield 9, 3, (2078, 600, 0)), (58, .bipush 10, 2, (0, 0, 0))] (by decide +kernel) (show jrun _ (54, [(10, a0), (0, a1), (6, (((s a0 1) + 4) + 11 + 2 * (w32 a1)))], [], s3) = some ([jok 5 (s3 a0 0) = true], (60, [(10, a0), (0, a1), (6, (((s a0 1) + 4) + 11 + 2 * (w32 a1)))], [(0, 10), (9, (s3 a0 0))], s3)) from rfl) (fun h => h) H (fun H => ?_)
    obtain ⟨v4, s4, h4, H⟩ := jb_some H
    refine AT.callV (As := [(0, 10)]) (cl := 5) (b := (s3 a0 0)) (st := []) (i := 101) (pos := 3162) kTe_takeWord (by decide +kernel) rfl (by decide +kernel) rfl rfl (by omega) (Te_takeWord_ok h4) ?_
    show AT sSr_takeMould 3 (63, [(10, a0), (0, a1), (6, (((s a0 1) + 4) + 11 + 2 * (w32 a1)))], [], s4) o
    refine AT.blk (g := jok 5 (s4 a0 0) = true) [(63, .aload_n 2, 1, (0, 0, 0)), (64, .aload_n 0, 1, (0, 0, 0)), (65, .getfield 9, 3, (2078, 600, 0)), (68, .iconst 1, 1, (0, 0, 0)), (69, .bipush 30, 2, (0, 0, 0))] (by decide +kernel) (show jrun _ (63, [(10, a0), (0, a1), (6, (((s a0 1) + 4) + 11 + 2 * (w32 a1)))], [], s4) = some ([jok 5 (s4 a0 0) = true], (71, [(10, a0), (0, a1), (6, (((s a0 1) + 4) + 11 + 2 * (w32 a1)))], [(0, 30), (0, 1), (9, (s4 a0 0)), (6, (((s a0 1) + 4) + 11 + 2 * (w32 a1)))], s4)) from rfl) (fun h => h) H (fun H => ?_)
    obtain ⟨v5, s5, h5, H⟩ := jb_some H
    refine AT.callV (As := [(0, 1), (0, 30)]) (cl := 5) (b := (s4 a0 0)) (st := [(6, (((s a0 1) + 4) + 11 + 2 * (w32 a1)))]) (i := 87) (pos := 3133) kTe_takeNumber (by decide +kernel) rfl (by decide +kernel) rfl rfl (by omega) (Te_takeNumber_ok h5) ?_
    show AT sSr_takeMould 3 (74, [(10, a0), (0, a1), (6, (((s a0 1) + 4) + 11 + 2 * (w32 a1)))], [(0, v5), (6, (((s a0 1) + 4) + 11 + 2 * (w32 a1)))], s5) o
    refine AT.blk (g := jok 5 ((jup s5 (((s a0 1) + 4) + 11 + 2 * (w32 a1)) 0 v5) a0 0) = true) [(74, .putfield 148, 3, (1110, 200, 0)), (77, .aload_n 0, 1, (0, 0, 0)), (78, .getfield 9, 3, (2078, 600, 0)), (81, .bipush 11, 2, (0, 0, 0))] (by decide +kernel) (show jrun _ (74, [(10, a0), (0, a1), (6, (((s a0 1) + 4) + 11 + 2 * (w32 a1)))], [(0, v5), (6, (((s a0 1) + 4) + 11 + 2 * (w32 a1)))], s5) = some ([jok 5 ((jup s5 (((s a0 1) + 4) + 11 + 2 * (w32 a1)) 0 v5) a0 0) = true], (83, [(10, a0), (0, a1), (6, (((s a0 1) + 4) + 11 + 2 * (w32 a1)))], [(0, 11), (9, ((jup s5 (((s a0 1) + 4) + 11 + 2 * (w32 a1)) 0 v5) a0 0))], (jup s5 (((s a0 1) + 4) + 11 + 2 * (w32 a1)) 0 v5))) from rfl) (fun h => h) H (fun H => ?_)
    obtain ⟨v6, s6, h6, H⟩ := jb_some H
    refine AT.callV (As := [(0, 11)]) (cl := 5) (b := ((jup s5 (((s a0 1) + 4) + 11 + 2 * (w32 a1)) 0 v5) a0 0)) (st := []) (i := 101) (pos := 3162) kTe_takeWord (by decide +kernel) rfl (by decide +kernel) rfl rfl (by omega) (Te_takeWord_ok h6) ?_
    show AT sSr_takeMould 3 (86, [(10, a0), (0, a1), (6, (((s a0 1) + 4) + 11 + 2 * (w32 a1)))], [], s6) o
    refine AT.blk (g := jok 5 (s6 a0 0) = true) [(86, .aload_n 2, 1, (0, 0, 0)), (87, .aload_n 0, 1, (0, 0, 0)), (88, .getfield 9, 3, (2078, 600, 0)), (91, .iconst 1, 1, (0, 0, 0)), (92, .bipush 9, 2, (0, 0, 0))] (by decide +kernel) (show jrun _ (86, [(10, a0), (0, a1), (6, (((s a0 1) + 4) + 11 + 2 * (w32 a1)))], [], s6) = some ([jok 5 (s6 a0 0) = true], (94, [(10, a0), (0, a1), (6, (((s a0 1) + 4) + 11 + 2 * (w32 a1)))], [(0, 9), (0, 1), (9, (s6 a0 0)), (6, (((s a0 1) + 4) + 11 + 2 * (w32 a1)))], s6)) from rfl) (fun h => h) H (fun H => ?_)
    obtain ⟨v7, s7, h7, H⟩ := jb_some H
    refine AT.callV (As := [(0, 1), (0, 9)]) (cl := 5) (b := (s6 a0 0)) (st := [(6, (((s a0 1) + 4) + 11 + 2 * (w32 a1)))]) (i := 87) (pos := 3133) kTe_takeNumber (by decide +kernel) rfl (by decide +kernel) rfl rfl (by omega) (Te_takeNumber_ok h7) ?_
    show AT sSr_takeMould 3 (97, [(10, a0), (0, a1), (6, (((s a0 1) + 4) + 11 + 2 * (w32 a1)))], [(0, v7), (6, (((s a0 1) + 4) + 11 + 2 * (w32 a1)))], s7) o
    refine AT.blk (g := jok 5 ((jup s7 (((s a0 1) + 4) + 11 + 2 * (w32 a1)) 1 v7) a0 0) = true) [(97, .putfield 151, 3, (1115, 201, 0)), (100, .aload_n 0, 1, (0, 0, 0)), (101, .getfield 9, 3, (2078, 600, 0)), (104, .bipush 12, 2, (0, 0, 0))] (by decide +kernel) (show jrun _ (97, [(10, a0), (0, a1), (6, (((s a0 1) + 4) + 11 + 2 * (w32 a1)))], [(0, v7), (6, (((s a0 1) + 4) + 11 + 2 * (w32 a1)))], s7) = some ([jok 5 ((jup s7 (((s a0 1) + 4) + 11 + 2 * (w32 a1)) 1 v7) a0 0) = true], (106, [(10, a0), (0, a1), (6, (((s a0 1) + 4) + 11 + 2 * (w32 a1)))], [(0, 12), (9, ((jup s7 (((s a0 1) + 4) + 11 + 2 * (w32 a1)) 1 v7) a0 0))], (jup s7 (((s a0 1) + 4) + 11 + 2 * (w32 a1)) 1 v7))) from rfl) (fun h => h) H (fun H => ?_)
    obtain ⟨v8, s8, h8, H⟩ := jb_some H
    refine AT.callV (As := [(0, 12)]) (cl := 5) (b := ((jup s7 (((s a0 1) + 4) + 11 + 2 * (w32 a1)) 1 v7) a0 0)) (st := []) (i := 101) (pos := 3162) kTe_takeWord (by decide +kernel) rfl (by decide +kernel) rfl rfl (by omega) (Te_takeWord_ok h8) ?_
    show AT sSr_takeMould 3 (109, [(10, a0), (0, a1), (6, (((s a0 1) + 4) + 11 + 2 * (w32 a1)))], [], s8) o
    refine AT.blk (g := jok 5 (s8 a0 0) = true ∧ jok 3 (s8 a0 1) = true) [(109, .aload_n 2, 1, (0, 0, 0)), (110, .aload_n 0, 1, (0, 0, 0)), (111, .getfield 9, 3, (2078, 600, 0)), (114, .aload_n 0, 1, (0, 0, 0)), (115, .getfield 15, 3, (2079, 601, 0)), (118, .iconst 1, 1, (0, 0, 0))] (by decide +kernel) (show jrun _ (109, [(10, a0), (0, a1), (6, (((s a0 1) + 4) + 11 + 2 * (w32 a1)))], [], s8) = some ([jok 5 (s8 a0 0) = true, jok 3 (s8 a0 1) = true], (119, [(10, a0), (0, a1), (6, (((s a0 1) + 4) + 11 + 2 * (w32 a1)))], [(0, 1), (7, (s8 a0 1)), (9, (s8 a0 0)), (6, (((s a0 1) + 4) + 11 + 2 * (w32 a1)))], s8)) from rfl) (fun h => ⟨h.1, h.2⟩) H (fun H => ?_)
    obtain ⟨v9, s9, h9, H⟩ := jb_some H
    refine AT.callV (As := [(7, (s8 a0 1)), (0, 1)]) (cl := 5) (b := (s8 a0 0)) (st := [(6, (((s a0 1) + 4) + 11 + 2 * (w32 a1)))]) (i := 117) (pos := 3174) kTe_takeThing (by decide +kernel) rfl (by decide +kernel) rfl rfl (by omega) (Te_takeThing_ok h9) ?_
    show AT sSr_takeMould 3 (122, [(10, a0), (0, a1), (6, (((s a0 1) + 4) + 11 + 2 * (w32 a1)))], [(0, v9), (6, (((s a0 1) + 4) + 11 + 2 * (w32 a1)))], s9) o
    refine AT.blk (g := jok 3 ((jup s9 (((s a0 1) + 4) + 11 + 2 * (w32 a1)) 2 v9) a0 1) = true) [(122, .putfield 154, 3, (1120, 202, 0)), (125, .aload_n 0, 1, (0, 0, 0)), (126, .getfield 15, 3, (2079, 601, 0)), (129, .dup, 1, (0, 0, 0)), (130, .getfield 75, 3, (1193, 306, 0)), (133, .iconst 1, 1, (0, 0, 0)), (134, .iadd, 1, (0, 0, 0)), (135, .putfield 75, 3, (1193, 306, 0))] (by decide +kernel) (show jrun _ (122, [(10, a0), (0, a1), (6, (((s a0 1) + 4) + 11 + 2 * (w32 a1)))], [(0, v9), (6, (((s a0 1) + 4) + 11 + 2 * (w32 a1)))], s9) = some ([jok 3 ((jup s9 (((s a0 1) + 4) + 11 + 2 * (w32 a1)) 2 v9) a0 1) = true], (138, [(10, a0), (0, a1), (6, (((s a0 1) + 4) + 11 + 2 * (w32 a1)))], [], (jup (jup s9 (((s a0 1) + 4) + 11 + 2 * (w32 a1)) 2 v9) ((jup s9 (((s a0 1) + 4) + 11 + 2 * (w32 a1)) 2 v9) a0 1) 6 (((jup s9 (((s a0 1) + 4) + 11 + 2 * (w32 a1)) 2 v9) ((jup s9 (((s a0 1) + 4) + 11 + 2 * (w32 a1)) 2 v9) a0 1) 6) + 1)))) from rfl) (fun h => h) H (fun H => ?_)
    exact AT.retvH (by decide +kernel) H
  · refine AT.blk (g := jok 5 (s a0 0) = true) [(5, .aload_n 0, 1, (0, 0, 0)), (6, .getfield 9, 3, (2078, 600, 0)), (9, .bipush 6, 2, (0, 0, 0))] (by decide +kernel) (show jrun _ (5, [(10, a0), (0, a1), (99, 0)], [], s) = some ([jok 5 (s a0 0) = true], (11, [(10, a0), (0, a1), (99, 0)], [(0, 6), (9, (s a0 0))], s)) from rfl) (fun h => h) H (fun H => ?_)
    obtain ⟨v10, s10, h10, H⟩ := jb_some H
    refine AT.callV (As := [(0, 6)]) (cl := 5) (b := (s a0 0)) (st := []) (i := 81) (pos := 3128) kTe_fail (by decide +kernel) rfl (by decide +kernel) rfl rfl (by omega) (Te_fail_ok h10) ?_
    show AT sSr_takeMould 3 (14, [(10, a0), (0, a1), (99, 0)], [], s10) o
    exact AT.retvH (by decide +kernel) H
def sSr_takePart : jS := (⟨"JellyCathedral$SeeReader", "takePart", "()V"⟩, prog_9_method_3_code, 1, 0, [10], 0)
theorem kSr_takePart : jmk sSr_takePart = true := jmk_of 3123 1007 3122 7 (by decide +kernel)
theorem Sr_takePart_ok {a0 : Int} {s : jM} {o : Int × jM} (H : Sr_takePart a0 s = some o) : MK sSr_takePart 4 [(10, a0)] s o := by
  refine MK.of kSr_takePart rfl ?_
  show AT sSr_takePart 4 (0, [(10, a0)], [], s) o
  unfold Sr_takePart at H
  refine AT.blk (g := jok 5 (s a0 0) = true) [(0, .aload_n 0, 1, (0, 0, 0)), (1, .getfield 9, 3, (2078, 600, 0)), (4, .getfield 50, 3, (2038, 505, 0))] (by decide +kernel) (show jrun _ (0, [(10, a0)], [], s) = some ([jok 5 (s a0 0) = true], (7, [(10, a0)], [(0, (s (s a0 0) 5))], s)) from rfl) (fun h => h) H (fun H => ?_)
  by_cases h1 : (w32 (s (s a0 0) 5)) = 0
  · rw [if_pos h1] at H
    refine AT.sw (ins := .tableswitch 116 0 9 #[53, 60, 67, 116, 116, 116, 81, 95, 116, 102]) (n := 53) (v := 0) (t := 60) (by decide +kernel) h1 ?_
    refine AT.seq [(60, .aload_n 0, 1, (0, 0, 0))] (by decide +kernel) (show jrun _ (60, [(10, a0)], [], s) = some ([], (61, [(10, a0)], [(10, a0)], s)) from rfl) ?_
    obtain ⟨v2, s2, h2, H⟩ := jb_some H
    refine AT.callV (As := []) (cl := 6) (b := a0) (st := []) (i := 53) (pos := 3124) kSr_takeHeat (by decide +kernel) rfl (by decide +kernel) rfl rfl (by omega) (Sr_takeHeat_ok h2) ?_
    show AT sSr_takePart 4 (64, [(10, a0)], [], s2) o
    refine AT.seq [(64, .goto 67, 3, (0, 0, 0))] (by decide +kernel) (show jrun _ (64, [(10, a0)], [], s2) = some ([], (131, [(10, a0)], [], s2)) from rfl) ?_
    exact AT.retvH (by decide +kernel) H
  rw [if_neg h1] at H
  by_cases h3 : (w32 (s (s a0 0) 5)) = 1
  · rw [if_pos h3] at H
    refine AT.sw (ins := .tableswitch 116 0 9 #[53, 60, 67, 116, 116, 116, 81, 95, 116, 102]) (n := 53) (v := 1) (t := 67) (by decide +kernel) h3 ?_
    refine AT.seq [(67, .aload_n 0, 1, (0, 0, 0))] (by decide +kernel) (show jrun _ (67, [(10, a0)], [], s) = some ([], (68, [(10, a0)], [(10, a0)], s)) from rfl) ?_
    obtain ⟨v4, s4, h4, H⟩ := jb_some H
    refine AT.callV (As := []) (cl := 6) (b := a0) (st := []) (i := 56) (pos := 3138) kSr_takeOdds (by decide +kernel) rfl (by decide +kernel) rfl rfl (by omega) (Sr_takeOdds_ok h4) ?_
    show AT sSr_takePart 4 (71, [(10, a0)], [], s4) o
    refine AT.seq [(71, .goto 60, 3, (0, 0, 0))] (by decide +kernel) (show jrun _ (71, [(10, a0)], [], s4) = some ([], (131, [(10, a0)], [], s4)) from rfl) ?_
    exact AT.retvH (by decide +kernel) H
  rw [if_neg h3] at H
  by_cases h5 : (w32 (s (s a0 0) 5)) = 2
  · rw [if_pos h5] at H
    refine AT.sw (ins := .tableswitch 116 0 9 #[53, 60, 67, 116, 116, 116, 81, 95, 116, 102]) (n := 53) (v := 2) (t := 74) (by decide +kernel) h5 ?_
    refine AT.blk (g := jok 3 (s a0 1) = true) [(74, .aload_n 0, 1, (0, 0, 0)), (75, .aload_n 0, 1, (0, 0, 0)), (76, .getfield 15, 3, (2079, 601, 0)), (79, .getfield 59, 3, (1187, 304, 0))] (by decide +kernel) (show jrun _ (74, [(10, a0)], [], s) = some ([jok 3 (s a0 1) = true], (82, [(10, a0)], [(0, (s (s a0 1) 4)), (10, a0)], s)) from rfl) (fun h => h) H (fun H => ?_)
    obtain ⟨v6, s6, h6, H⟩ := jb_some H
    refine AT.callV (As := [(0, (s (s a0 1) 4))]) (cl := 6) (b := a0) (st := []) (i := 62) (pos := 3142) kSr_takeStuff (by decide +kernel) rfl (by decide +kernel) rfl rfl (by omega) (Sr_takeStuff_ok h6) ?_
    show AT sSr_takePart 4 (85, [(10, a0)], [], s6) o
    refine AT.seq [(85, .goto 46, 3, (0, 0, 0))] (by decide +kernel) (show jrun _ (85, [(10, a0)], [], s6) = some ([], (131, [(10, a0)], [], s6)) from rfl) ?_
    exact AT.retvH (by decide +kernel) H
  rw [if_neg h5] at H
  by_cases h7 : (w32 (s (s a0 0) 5)) = 3
  · rw [if_pos h7] at H
    refine AT.sw (ins := .tableswitch 116 0 9 #[53, 60, 67, 116, 116, 116, 81, 95, 116, 102]) (n := 53) (v := 3) (t := 123) (by decide +kernel) h7 ?_
    refine AT.blk (g := jok 5 (s a0 0) = true) [(123, .aload_n 0, 1, (0, 0, 0)), (124, .getfield 9, 3, (2078, 600, 0)), (127, .iconst 2, 1, (0, 0, 0))] (by decide +kernel) (show jrun _ (123, [(10, a0)], [], s) = some ([jok 5 (s a0 0) = true], (128, [(10, a0)], [(0, 2), (9, (s a0 0))], s)) from rfl) (fun h => h) H (fun H => ?_)
    obtain ⟨v8, s8, h8, H⟩ := jb_some H
    refine AT.callV (As := [(0, 2)]) (cl := 5) (b := (s a0 0)) (st := []) (i := 81) (pos := 3128) kTe_fail (by decide +kernel) rfl (by decide +kernel) rfl rfl (by omega) (Te_fail_ok h8) ?_
    show AT sSr_takePart 4 (131, [(10, a0)], [], s8) o
    exact AT.retvH (by decide +kernel) H
  rw [if_neg h7] at H
  by_cases h9 : (w32 (s (s a0 0) 5)) = 4
  · rw [if_pos h9] at H
    refine AT.sw (ins := .tableswitch 116 0 9 #[53, 60, 67, 116, 116, 116, 81, 95, 116, 102]) (n := 53) (v := 4) (t := 123) (by decide +kernel) h9 ?_
    refine AT.blk (g := jok 5 (s a0 0) = true) [(123, .aload_n 0, 1, (0, 0, 0)), (124, .getfield 9, 3, (2078, 600, 0)), (127, .iconst 2, 1, (0, 0, 0))] (by decide +kernel) (show jrun _ (123, [(10, a0)], [], s) = some ([jok 5 (s a0 0) = true], (128, [(10, a0)], [(0, 2), (9, (s a0 0))], s)) from rfl) (fun h => h) H (fun H => ?_)
    obtain ⟨v10, s10, h10, H⟩ := jb_some H
    refine AT.callV (As := [(0, 2)]) (cl := 5) (b := (s a0 0)) (st := []) (i := 81) (pos := 3128) kTe_fail (by decide +kernel) rfl (by decide +kernel) rfl rfl (by omega) (Te_fail_ok h10) ?_
    show AT sSr_takePart 4 (131, [(10, a0)], [], s10) o
    exact AT.retvH (by decide +kernel) H
  rw [if_neg h9] at H
  by_cases h11 : (w32 (s (s a0 0) 5)) = 5
  · rw [if_pos h11] at H
    refine AT.sw (ins := .tableswitch 116 0 9 #[53, 60, 67, 116, 116, 116, 81, 95, 116, 102]) (n := 53) (v := 5) (t := 123) (by decide +kernel) h11 ?_
    refine AT.blk (g := jok 5 (s a0 0) = true) [(123, .aload_n 0, 1, (0, 0, 0)), (124, .getfield 9, 3, (2078, 600, 0)), (127, .iconst 2, 1, (0, 0, 0))] (by decide +kernel) (show jrun _ (123, [(10, a0)], [], s) = some ([jok 5 (s a0 0) = true], (128, [(10, a0)], [(0, 2), (9, (s a0 0))], s)) from rfl) (fun h => h) H (fun H => ?_)
    obtain ⟨v12, s12, h12, H⟩ := jb_some H
    refine AT.callV (As := [(0, 2)]) (cl := 5) (b := (s a0 0)) (st := []) (i := 81) (pos := 3128) kTe_fail (by decide +kernel) rfl (by decide +kernel) rfl rfl (by omega) (Te_fail_ok h12) ?_
    show AT sSr_takePart 4 (131, [(10, a0)], [], s12) o
    exact AT.retvH (by decide +kernel) H
  rw [if_neg h11] at H
  by_cases h13 : (w32 (s (s a0 0) 5)) = 6
  · rw [if_pos h13] at H
    refine AT.sw (ins := .tableswitch 116 0 9 #[53, 60, 67, 116, 116, 116, 81, 95, 116, 102]) (n := 53) (v := 6) (t := 88) (by decide +kernel) h13 ?_
    refine AT.blk (g := jok 3 (s a0 1) = true) [(88, .aload_n 0, 1, (0, 0, 0)), (89, .aload_n 0, 1, (0, 0, 0)), (90, .getfield 15, 3, (2079, 601, 0)), (93, .getfield 66, 3, (1190, 305, 0))] (by decide +kernel) (show jrun _ (88, [(10, a0)], [], s) = some ([jok 3 (s a0 1) = true], (96, [(10, a0)], [(0, (s (s a0 1) 5)), (10, a0)], s)) from rfl) (fun h => h) H (fun H => ?_)
    obtain ⟨v14, s14, h14, H⟩ := jb_some H
    refine AT.callV (As := [(0, (s (s a0 1) 5))]) (cl := 6) (b := a0) (st := []) (i := 69) (pos := 3166) kSr_takePlace (by decide +kernel) rfl (by decide +kernel) rfl rfl (by omega) (Sr_takePlace_ok h14) ?_
    show AT sSr_takePart 4 (99, [(10, a0)], [], s14) o
    refine AT.seq [(99, .goto 32, 3, (0, 0, 0))] (by decide +kernel) (show jrun _ (99, [(10, a0)], [], s14) = some ([], (131, [(10, a0)], [], s14)) from rfl) ?_
    exact AT.retvH (by decide +kernel) H
  rw [if_neg h13] at H
  by_cases h15 : (w32 (s (s a0 0) 5)) = 7
  · rw [if_pos h15] at H
    refine AT.sw (ins := .tableswitch 116 0 9 #[53, 60, 67, 116, 116, 116, 81, 95, 116, 102]) (n := 53) (v := 7) (t := 102) (by decide +kernel) h15 ?_
    refine AT.seq [(102, .aload_n 0, 1, (0, 0, 0))] (by decide +kernel) (show jrun _ (102, [(10, a0)], [], s) = some ([], (103, [(10, a0)], [(10, a0)], s)) from rfl) ?_
    obtain ⟨v16, s16, h16, H⟩ := jb_some H
    refine AT.callV (As := []) (cl := 6) (b := a0) (st := []) (i := 72) (pos := 3170) kSr_takeWalk (by decide +kernel) rfl (by decide +kernel) rfl rfl (by omega) (Sr_takeWalk_ok h16) ?_
    show AT sSr_takePart 4 (106, [(10, a0)], [], s16) o
    refine AT.seq [(106, .goto 25, 3, (0, 0, 0))] (by decide +kernel) (show jrun _ (106, [(10, a0)], [], s16) = some ([], (131, [(10, a0)], [], s16)) from rfl) ?_
    exact AT.retvH (by decide +kernel) H
  rw [if_neg h15] at H
  by_cases h17 : (w32 (s (s a0 0) 5)) = 8
  · rw [if_pos h17] at H
    refine AT.sw (ins := .tableswitch 116 0 9 #[53, 60, 67, 116, 116, 116, 81, 95, 116, 102]) (n := 53) (v := 8) (t := 123) (by decide +kernel) h17 ?_
    refine AT.blk (g := jok 5 (s a0 0) = true) [(123, .aload_n 0, 1, (0, 0, 0)), (124, .getfield 9, 3, (2078, 600, 0)), (127, .iconst 2, 1, (0, 0, 0))] (by decide +kernel) (show jrun _ (123, [(10, a0)], [], s) = some ([jok 5 (s a0 0) = true], (128, [(10, a0)], [(0, 2), (9, (s a0 0))], s)) from rfl) (fun h => h) H (fun H => ?_)
    obtain ⟨v18, s18, h18, H⟩ := jb_some H
    refine AT.callV (As := [(0, 2)]) (cl := 5) (b := (s a0 0)) (st := []) (i := 81) (pos := 3128) kTe_fail (by decide +kernel) rfl (by decide +kernel) rfl rfl (by omega) (Te_fail_ok h18) ?_
    show AT sSr_takePart 4 (131, [(10, a0)], [], s18) o
    exact AT.retvH (by decide +kernel) H
  rw [if_neg h17] at H
  by_cases h19 : (w32 (s (s a0 0) 5)) = 9
  · rw [if_pos h19] at H
    refine AT.sw (ins := .tableswitch 116 0 9 #[53, 60, 67, 116, 116, 116, 81, 95, 116, 102]) (n := 53) (v := 9) (t := 109) (by decide +kernel) h19 ?_
    refine AT.blk (g := jok 3 (s a0 1) = true) [(109, .aload_n 0, 1, (0, 0, 0)), (110, .aload_n 0, 1, (0, 0, 0)), (111, .getfield 15, 3, (2079, 601, 0)), (114, .getfield 75, 3, (1193, 306, 0))] (by decide +kernel) (show jrun _ (109, [(10, a0)], [], s) = some ([jok 3 (s a0 1) = true], (117, [(10, a0)], [(0, (s (s a0 1) 6)), (10, a0)], s)) from rfl) (fun h => h) H (fun H => ?_)
    obtain ⟨v20, s20, h20, H⟩ := jb_some H
    refine AT.callV (As := [(0, (s (s a0 1) 6))]) (cl := 6) (b := a0) (st := []) (i := 78) (pos := 3191) kSr_takeMould (by decide +kernel) rfl (by decide +kernel) rfl rfl (by omega) (Sr_takeMould_ok h20) ?_
    show AT sSr_takePart 4 (120, [(10, a0)], [], s20) o
    refine AT.seq [(120, .goto 11, 3, (0, 0, 0))] (by decide +kernel) (show jrun _ (120, [(10, a0)], [], s20) = some ([], (131, [(10, a0)], [], s20)) from rfl) ?_
    exact AT.retvH (by decide +kernel) H
  rw [if_neg h19] at H
  refine AT.swd (df := 116) (lo := 0) (hi := 9) (offs := #[53, 60, 67, 116, 116, 116, 81, 95, 116, 102]) (n := 53) (t := 123) (by decide +kernel) (by omega) ?_
  refine AT.blk (g := jok 5 (s a0 0) = true) [(123, .aload_n 0, 1, (0, 0, 0)), (124, .getfield 9, 3, (2078, 600, 0)), (127, .iconst 2, 1, (0, 0, 0))] (by decide +kernel) (show jrun _ (123, [(10, a0)], [], s) = some ([jok 5 (s a0 0) = true], (128, [(10, a0)], [(0, 2), (9, (s a0 0))], s)) from rfl) (fun h => h) H (fun H => ?_)
  obtain ⟨v21, s21, h21, H⟩ := jb_some H
  refine AT.callV (As := [(0, 2)]) (cl := 5) (b := (s a0 0)) (st := []) (i := 81) (pos := 3128) kTe_fail (by decide +kernel) rfl (by decide +kernel) rfl rfl (by omega) (Te_fail_ok h21) ?_
  show AT sSr_takePart 4 (131, [(10, a0)], [], s21) o
  exact AT.retvH (by decide +kernel) H
def sSr_take : jS := (⟨"JellyCathedral$SeeReader", "take", "(LJellyCathedral$Text;LJellyCathedral$See;)Z"⟩, prog_9_method_2_code, 4, 3, [10, 9, 7], 0)
theorem kSr_take : jmk sSr_take = true := jmk_of 3114 1007 3112 3113 (by decide +kernel)
theorem Sr_take_29_ok {o : Int × jM} : ∀ (n : Nat) (x0 x3 : Int) (s : jM), Sr_take_29  n x0 x3 s = some o → AT sSr_take 5 (29, [(10, x0), (99, 0), (99, 0), (0, x3)], [], s) o := by
  intro n
  induction n with
  | zero =>
    intro x0 x3 s H
    have H : (none : Option (Int × jM)) = some o := H
    cases H
  | succ n ih =>
    intro x0 x3 s H
    rw [Sr_take_29] at H
    refine AT.seq [(29, .iload_n 3, 1, (0, 0, 0)), (30, .sipush 900, 3, (0, 0, 0))] (by decide +kernel) (show jrun _ (29, [(10, x0), (99, 0), (99, 0), (0, x3)], [], s) = some ([], (33, [(10, x0), (99, 0), (99, 0), (0, x3)], [(0, 900), (0, x3)], s)) from rfl) ?_
    refine AT.ite (x := (0, 0, 0)) (by decide +kernel) (show jbr (.if_icmp .gt 40) (33, [(10, x0), (99, 0), (99, 0), (0, x3)], [(0, 900), (0, x3)], s) = some (900 < (w32 x3), (73, [(10, x0), (99, 0), (99, 0), (0, x3)], [], s), (36, [(10, x0), (99, 0), (99, 0), (0, x3)], [], s)) from rfl) H (fun H => ?_) (fun H => ?_)
    · refine AT.blk (g := jok 3 (s x0 1) = true) [(73, .aload_n 0, 1, (0, 0, 0)), (74, .getfield 15, 3, (2079, 601, 0))] (by decide +kernel) (show jrun _ (73, [(10, x0), (99, 0), (99, 0), (0, x3)], [], s) = some ([jok 3 (s x0 1) = true], (77, [(10, x0), (99, 0), (99, 0), (0, x3)], [(7, (s x0 1))], s)) from rfl) (fun h => h) H (fun H => ?_)
      obtain ⟨v1, s1, h1, H⟩ := jb_some H
      refine AT.callV (As := []) (cl := 3) (b := (s x0 1)) (st := []) (i := 47) (pos := 3203) kSe_joinWalks (by decide +kernel) rfl (by decide +kernel) rfl rfl (by omega) (Se_joinWalks_ok h1) ?_
      show AT sSr_take 5 (80, [(10, x0), (99, 0), (99, 0), (0, x3)], [], s1) o
      refine AT.blk (g := jok 5 (s1 x0 0) = true) [(80, .aload_n 0, 1, (0, 0, 0)), (81, .getfield 9, 3, (2078, 600, 0))] (by decide +kernel) (show jrun _ (80, [(10, x0), (99, 0), (99, 0), (0, x3)], [], s1) = some ([jok 5 (s1 x0 0) = true], (84, [(10, x0), (99, 0), (99, 0), (0, x3)], [(9, (s1 x0 0))], s1)) from rfl) (fun h => h) H (fun H => ?_)
      obtain ⟨v2, s2, h2, H⟩ := jb_some H
      refine AT.callV (As := []) (cl := 5) (b := (s1 x0 0)) (st := []) (i := 31) (pos := 3116) kTe_isWell (by decide +kernel) rfl (by decide +kernel) rfl rfl (by omega) (Te_isWell_ok h2) ?_
      show AT sSr_take 5 (87, [(10, x0), (99, 0), (99, 0), (0, x3)], [(0, v2)], s2) o
      exact AT.retzH (by decide +kernel) H
    · refine AT.blk (g := jok 5 (s x0 0) = true) [(36, .aload_n 0, 1, (0, 0, 0)), (37, .getfield 9, 3, (2078, 600, 0))] (by decide +kernel) (show jrun _ (36, [(10, x0), (99, 0), (99, 0), (0, x3)], [], s) = some ([jok 5 (s x0 0) = true], (40, [(10, x0), (99, 0), (99, 0), (0, x3)], [(9, (s x0 0))], s)) from rfl) (fun h => h) H (fun H => ?_)
      obtain ⟨v3, s3, h3, H⟩ := jb_some H
      refine AT.callV (As := []) (cl := 5) (b := (s x0 0)) (st := []) (i := 31) (pos := 3116) kTe_isWell (by decide +kernel) rfl (by decide +kernel) rfl rfl (by omega) (Te_isWell_ok h3) ?_
      show AT sSr_take 5 (43, [(10, x0), (99, 0), (99, 0), (0, x3)], [(0, v3)], s3) o
      refine AT.ite (x := (0, 0, 0)) (by decide +kernel) (show jbr (.ifCond .eq 30) (43, [(10, x0), (99, 0), (99, 0), (0, x3)], [(0, v3)], s3) = some ((w32 v3) = 0, (73, [(10, x0), (99, 0), (99, 0), (0, x3)], [], s3), (46, [(10, x0), (99, 0), (99, 0), (0, x3)], [], s3)) from rfl) H (fun H => ?_) (fun H => ?_)
      · refine AT.blk (g := jok 3 (s3 x0 1) = true) [(73, .aload_n 0, 1, (0, 0, 0)), (74, .getfield 15, 3, (2079, 601, 0))] (by decide +kernel) (show jrun _ (73, [(10, x0), (99, 0), (99, 0), (0, x3)], [], s3) = some ([jok 3 (s3 x0 1) = true], (77, [(10, x0), (99, 0), (99, 0), (0, x3)], [(7, (s3 x0 1))], s3)) from rfl) (fun h => h) H (fun H => ?_)
        obtain ⟨v4, s4, h4, H⟩ := jb_some H
        refine AT.callV (As := []) (cl := 3) (b := (s3 x0 1)) (st := []) (i := 47) (pos := 3203) kSe_joinWalks (by decide +kernel) rfl (by decide +kernel) rfl rfl (by omega) (Se_joinWalks_ok h4) ?_
        show AT sSr_take 5 (80, [(10, x0), (99, 0), (99, 0), (0, x3)], [], s4) o
        refine AT.blk (g := jok 5 (s4 x0 0) = true) [(80, .aload_n 0, 1, (0, 0, 0)), (81, .getfield 9, 3, (2078, 600, 0))] (by decide +kernel) (show jrun _ (80, [(10, x0), (99, 0), (99, 0), (0, x3)], [], s4) = some ([jok 5 (s4 x0 0) = true], (84, [(10, x0), (99, 0), (99, 0), (0, x3)], [(9, (s4 x0 0))], s4)) from rfl) (fun h => h) H (fun H => ?_)
        obtain ⟨v5, s5, h5, H⟩ := jb_some H
        refine AT.callV (As := []) (cl := 5) (b := (s4 x0 0)) (st := []) (i := 31) (pos := 3116) kTe_isWell (by decide +kernel) rfl (by decide +kernel) rfl rfl (by omega) (Te_isWell_ok h5) ?_
        show AT sSr_take 5 (87, [(10, x0), (99, 0), (99, 0), (0, x3)], [(0, v5)], s5) o
        exact AT.retzH (by decide +kernel) H
      · refine AT.blk (g := jok 5 (s3 x0 0) = true) [(46, .aload_n 0, 1, (0, 0, 0)), (47, .getfield 9, 3, (2078, 600, 0)), (50, .getfield 37, 3, (2034, 504, 0))] (by decide +kernel) (show jrun _ (46, [(10, x0), (99, 0), (99, 0), (0, x3)], [], s3) = some ([jok 5 (s3 x0 0) = true], (53, [(10, x0), (99, 0), (99, 0), (0, x3)], [(0, (s3 (s3 x0 0) 4))], s3)) from rfl) (fun h => h) H (fun H => ?_)
        refine AT.ite (x := (0, 0, 0)) (by decide +kernel) (show jbr (.ifCond .eq 20) (53, [(10, x0), (99, 0), (99, 0), (0, x3)], [(0, (s3 (s3 x0 0) 4))], s3) = some ((w32 (s3 (s3 x0 0) 4)) = 0, (73, [(10, x0), (99, 0), (99, 0), (0, x3)], [], s3), (56, [(10, x0), (99, 0), (99, 0), (0, x3)], [], s3)) from rfl) H (fun H => ?_) (fun H => ?_)
        · refine AT.blk (g := jok 3 (s3 x0 1) = true) [(73, .aload_n 0, 1, (0, 0, 0)), (74, .getfield 15, 3, (2079, 601, 0))] (by decide +kernel) (show jrun _ (73, [(10, x0), (99, 0), (99, 0), (0, x3)], [], s3) = some ([jok 3 (s3 x0 1) = true], (77, [(10, x0), (99, 0), (99, 0), (0, x3)], [(7, (s3 x0 1))], s3)) from rfl) (fun h => h) H (fun H => ?_)
          obtain ⟨v6, s6, h6, H⟩ := jb_some H
          refine AT.callV (As := []) (cl := 3) (b := (s3 x0 1)) (st := []) (i := 47) (pos := 3203) kSe_joinWalks (by decide +kernel) rfl (by decide +kernel) rfl rfl (by omega) (Se_joinWalks_ok h6) ?_
          show AT sSr_take 5 (80, [(10, x0), (99, 0), (99, 0), (0, x3)], [], s6) o
          refine AT.blk (g := jok 5 (s6 x0 0) = true) [(80, .aload_n 0, 1, (0, 0, 0)), (81, .getfield 9, 3, (2078, 600, 0))] (by decide +kernel) (show jrun _ (80, [(10, x0), (99, 0), (99, 0), (0, x3)], [], s6) = some ([jok 5 (s6 x0 0) = true], (84, [(10, x0), (99, 0), (99, 0), (0, x3)], [(9, (s6 x0 0))], s6)) from rfl) (fun h => h) H (fun H => ?_)
          obtain ⟨v7, s7, h7, H⟩ := jb_some H
          refine AT.callV (As := []) (cl := 5) (b := (s6 x0 0)) (st := []) (i := 31) (pos := 3116) kTe_isWell (by decide +kernel) rfl (by decide +kernel) rfl rfl (by omega) (Te_isWell_ok h7) ?_
          show AT sSr_take 5 (87, [(10, x0), (99, 0), (99, 0), (0, x3)], [(0, v7)], s7) o
          exact AT.retzH (by decide +kernel) H
        · refine AT.seq [(56, .aload_n 0, 1, (0, 0, 0))] (by decide +kernel) (show jrun _ (56, [(10, x0), (99, 0), (99, 0), (0, x3)], [], s3) = some ([], (57, [(10, x0), (99, 0), (99, 0), (0, x3)], [(10, x0)], s3)) from rfl) ?_
          obtain ⟨v8, s8, h8, H⟩ := jb_some H
          refine AT.callV (As := []) (cl := 6) (b := x0) (st := []) (i := 41) (pos := 3120) kSr_takePart (by decide +kernel) rfl (by decide +kernel) rfl rfl (by omega) (Sr_takePart_ok h8) ?_
          show AT sSr_take 5 (60, [(10, x0), (99, 0), (99, 0), (0, x3)], [], s8) o
          refine AT.blk (g := jok 5 (s8 x0 0) = true) [(60, .aload_n 0, 1, (0, 0, 0)), (61, .getfield 9, 3, (2078, 600, 0))] (by decide +kernel) (show jrun _ (60, [(10, x0), (99, 0), (99, 0), (0, x3)], [], s8) = some ([jok 5 (s8 x0 0) = true], (64, [(10, x0), (99, 0), (99, 0), (0, x3)], [(9, (s8 x0 0))], s8)) from rfl) (fun h => h) H (fun H => ?_)
          obtain ⟨v9, s9, h9, H⟩ := jb_some H
          refine AT.callV (As := []) (cl := 5) (b := (s8 x0 0)) (st := []) (i := 44) (pos := 3199) kTe_takeStop (by decide +kernel) rfl (by decide +kernel) rfl rfl (by omega) (Te_takeStop_ok h9) ?_
          show AT sSr_take 5 (67, [(10, x0), (99, 0), (99, 0), (0, x3)], [], s9) o
          refine AT.seq [(67, .iinc 3 1, 3, (0, 0, 0)), (70, .goto (-41), 3, (0, 0, 0))] (by decide +kernel) (show jrun _ (67, [(10, x0), (99, 0), (99, 0), (0, x3)], [], s9) = some ([], (29, [(10, x0), (99, 0), (99, 0), (0, (x3 + 1))], [], s9)) from rfl) ?_
          exact ih _ _ _ H
theorem Sr_take_ok {a0 a1 a2 : Int} {s : jM} {o : Int × jM} (H : Sr_take a0 a1 a2 s = some o) : MK sSr_take 5 [(10, a0), (9, a1), (7, a2)] s o := by
  refine MK.of kSr_take rfl ?_
  show AT sSr_take 5 (0, [(10, a0), (9, a1), (7, a2), (99, 0)], [], s) o
  unfold Sr_take at H
  refine AT.blk (g := jok 3 ((jup (jup (jup (jup s a0 0 a1) a0 1 a2) a0 2 0) a0 3 0) a0 1) = true) [(0, .aload_n 0, 1, (0, 0, 0)), (1, .aload_n 1, 1, (0, 0, 0)), (2, .putfield 9, 3, (2078, 600, 0)), (5, .aload_n 0, 1, (0, 0, 0)), (6, .aload_n 2, 1, (0, 0, 0)), (7, .putfield 15, 3, (2079, 601, 0)), (10, .aload_n 0, 1, (0, 0, 0)), (11, .iconst 0, 1, (0, 0, 0)), (12, .putfield 19, 3, (2080, 602, 0)), (15, .aload_n 0, 1, (0, 0, 0)), (16, .iconst 0, 1, (0, 0, 0)), (17, .putfield 23, 3, (2081, 603, 0)), (20, .aload_n 0, 1, (0, 0, 0)), (21, .getfield 15, 3, (2079, 601, 0))] (by decide +kernel) (show jrun _ (0, [(10, a0), (9, a1), (7, a2), (99, 0)], [], s) = some ([((0 : Int) = 0 ∨ (0 : Int) = 1), ((0 : Int) = 0 ∨ (0 : Int) = 1), jok 3 ((jup (jup (jup (jup s a0 0 a1) a0 1 a2) a0 2 0) a0 3 0) a0 1) = true], (24, [(10, a0), (9, a1), (7, a2), (99, 0)], [(7, ((jup (jup (jup (jup s a0 0 a1) a0 1 a2) a0 2 0) a0 3 0) a0 1))], (jup (jup (jup (jup s a0 0 a1) a0 1 a2) a0 2 0) a0 3 0))) from rfl) (fun h => ⟨(show ((0 : Int) = 0 ∨ (0 : Int) = 1) from by decide), (show ((0 : Int) = 0 ∨ (0 : Int) = 1) from by decide), h⟩) H (fun H => ?_)
  obtain ⟨v10, s10, h10, H⟩ := jb_some H
  refine AT.callV (As := []) (cl := 3) (b := ((jup (jup (jup (jup s a0 0 a1) a0 1 a2) a0 2 0) a0 3 0) a0 1)) (st := []) (i := 26) (pos := 3115) kSe_clear (by decide +kernel) rfl (by decide +kernel) rfl rfl (by omega) (Se_clear_ok h10) ?_
  show AT sSr_take 5 (27, [(10, a0), (9, a1), (7, a2), (99, 0)], [], s10) o
  refine AT.seq [(27, .iconst 0, 1, (0, 0, 0)), (28, .istore_n 3, 1, (0, 0, 0))] (by decide +kernel) (show jrun _ (27, [(10, a0), (9, a1), (7, a2), (99, 0)], [], s10) = some ([], (29, [(10, a0), (9, a1), (7, a2), (0, 0)], [], s10)) from rfl) ?_
  exact AT.weak (L' := [(10, a0), (99, 0), (99, 0), (0, 0)]) (jleK (jleJ (jleJ (jleK jle0)))) (Sr_take_29_ok  jFU _ _ _ H)
def sFr_takeClose : jS := (⟨"JellyCathedral$FeastsReader", "takeClose", "(I)V"⟩, prog_3_method_3_code, 3, 0, [11, 0], 0)
theorem kFr_takeClose : jmk sFr_takeClose = true := jmk_of 3232 1008 3231 16 (by decide +kernel)
theorem Fr_takeClose_ok {a0 a1 : Int} {s : jM} {o : Int × jM} (H : Fr_takeClose a0 a1 s = some o) : MK sFr_takeClose 3 [(11, a0), (0, a1)] s o := by
  refine MK.of kFr_takeClose rfl ?_
  show AT sFr_takeClose 3 (0, [(11, a0), (0, a1), (99, 0)], [], s) o
  unfold Fr_takeClose at H
  refine AT.seq [(0, .aload_n 0, 1, (0, 0, 0)), (1, .getfield 36, 3, (2100, 703, 0))] (by decide +kernel) (show jrun _ (0, [(11, a0), (0, a1), (99, 0)], [], s) = some ([], (4, [(11, a0), (0, a1), (99, 0)], [(0, (s a0 3))], s)) from rfl) ?_
  refine AT.ite (x := (0, 0, 0)) (by decide +kernel) (show jbr (.ifCond .le 9) (4, [(11, a0), (0, a1), (99, 0)], [(0, (s a0 3))], s) = some (0 < (w32 (s a0 3)), (7, [(11, a0), (0, a1), (99, 0)], [], s), (13, [(11, a0), (0, a1), (99, 0)], [], s)) from rfl) H (fun H => ?_) (fun H => ?_)
  · refine AT.seq [(7, .iload_n 1, 1, (0, 0, 0)), (8, .bipush 60, 2, (0, 0, 0))] (by decide +kernel) (show jrun _ (7, [(11, a0), (0, a1), (99, 0)], [], s) = some ([], (10, [(11, a0), (0, a1), (99, 0)], [(0, 60), (0, a1)], s)) from rfl) ?_
    refine AT.ite (x := (0, 0, 0)) (by decide +kernel) (show jbr (.if_icmp .lt 12) (10, [(11, a0), (0, a1), (99, 0)], [(0, 60), (0, a1)], s) = some ((w32 a1) < 60, (22, [(11, a0), (0, a1), (99, 0)], [], s), (13, [(11, a0), (0, a1), (99, 0)], [], s)) from rfl) H (fun H => ?_) (fun H => ?_)
    · refine AT.blk (g := (0 ≤ (w32 ((jup s a0 3 ((s a0 3) - 1)) a0 3)) ∧ (w32 ((jup s a0 3 ((s a0 3) - 1)) a0 3)) < 3) ∧ jok 4 ((jup s a0 3 ((s a0 3) - 1)) a0 2) = true ∧ (0 ≤ (w32 ((jup s a0 3 ((s a0 3) - 1)) (a0 + 1) (w32 ((jup s a0 3 ((s a0 3) - 1)) a0 3)))) ∧ (w32 ((jup s a0 3 ((s a0 3) - 1)) (a0 + 1) (w32 ((jup s a0 3 ((s a0 3) - 1)) a0 3)))) < 60)) [(22, .aload_n 0, 1, (0, 0, 0)), (23, .dup, 1, (0, 0, 0)), (24, .getfield 36, 3, (2100, 703, 0)), (27, .iconst 1, 1, (0, 0, 0)), (28, .isub, 1, (0, 0, 0)), (29, .putfield 36, 3, (2100, 703, 0)), (32, .aload_n 0, 1, (0, 0, 0)), (33, .getfield 9, 3, (2101, 704, 0)), (36, .aload_n 0, 1, (0, 0, 0)), (37, .getfield 36, 3, (2100, 703, 0)), (40, .iaload, 1, (0, 0, 0)), (41, .istore_n 2, 1, (0, 0, 0)), (42, .aload_n 0, 1, (0, 0, 0)), (43, .getfield 23, 3, (2099, 702, 0)), (46, .getfield 66, 3, (1085, 407, 0)), (49, .iload_n 2, 1, (0, 0, 0)), (50, .iload_n 1, 1, (0, 0, 0)), (51, .iastore, 1, (0, 0, 0)), (52, .aload_n 0, 1, (0, 0, 0))] (by decide +kernel) (show jrun _ (22, [(11, a0), (0, a1), (99, 0)], [], s) = some ([(0 ≤ (w32 ((jup s a0 3 ((s a0 3) - 1)) a0 3)) ∧ (w32 ((jup s a0 3 ((s a0 3) - 1)) a0 3)) < 3), jok 4 ((jup s a0 3 ((s a0 3) - 1)) a0 2) = true, (0 ≤ (w32 ((jup s a0 3 ((s a0 3) - 1)) (a0 + 1) (w32 ((jup s a0 3 ((s a0 3) - 1)) a0 3)))) ∧ (w32 ((jup s a0 3 ((s a0 3) - 1)) (a0 + 1) (w32 ((jup s a0 3 ((s a0 3) - 1)) a0 3)))) < 60)], (53, [(11, a0), (0, a1), (0, ((jup s a0 3 ((s a0 3) - 1)) (a0 + 1) (w32 ((jup s a0 3 ((s a0 3) - 1)) a0 3))))], [(11, a0)], (jup (jup s a0 3 ((s a0 3) - 1)) (((jup s a0 3 ((s a0 3) - 1)) a0 2) + 5) (w32 ((jup s a0 3 ((s a0 3) - 1)) (a0 + 1) (w32 ((jup s a0 3 ((s a0 3) - 1)) a0 3)))) a1))) from rfl) (fun h => ⟨h.1, h.2.1, h.2.2⟩) H (fun H => ?_)
      obtain ⟨s1, e1, H⟩ := jm_some H
      rw [← e1]
      refine AT.blk (g := jok 4 (s1 a0 2) = true ∧ (0 ≤ (w32 a1) ∧ (w32 a1) < 60)) [(53, .getfield 23, 3, (2099, 702, 0)), (56, .getfield 66, 3, (1085, 407, 0)), (59, .iload_n 1, 1, (0, 0, 0)), (60, .iload_n 2, 1, (0, 0, 0)), (61, .iastore, 1, (0, 0, 0)), (62, .aload_n 0, 1, (0, 0, 0))] (by decide +kernel) (show jrun _ (53, [(11, a0), (0, a1), (0, ((jup s a0 3 ((s a0 3) - 1)) (a0 + 1) (w32 ((jup s a0 3 ((s a0 3) - 1)) a0 3))))], [(11, a0)], s1) = some ([jok 4 (s1 a0 2) = true, (0 ≤ (w32 a1) ∧ (w32 a1) < 60)], (63, [(11, a0), (0, a1), (0, ((jup s a0 3 ((s a0 3) - 1)) (a0 + 1) (w32 ((jup s a0 3 ((s a0 3) - 1)) a0 3))))], [(11, a0)], (jup s1 ((s1 a0 2) + 5) (w32 a1) ((jup s a0 3 ((s a0 3) - 1)) (a0 + 1) (w32 ((jup s a0 3 ((s a0 3) - 1)) a0 3)))))) from rfl) (fun h => ⟨h.1, h.2⟩) H (fun H => ?_)
      obtain ⟨s2, e2, H⟩ := jm_some H
      rw [← e2]
      refine AT.blk (g := jok 4 (s2 a0 2) = true ∧ (0 ≤ (w32 a1) ∧ (w32 a1) < 60) ∧ jok 4 ((jup s2 ((s2 a0 2) + 1) (w32 a1) 24) a0 2) = true) [(63, .getfield 23, 3, (2099, 702, 0)), (66, .getfield 69, 3, (1073, 403, 0)), (69, .iload_n 1, 1, (0, 0, 0)), (70, .bipush 24, 2, (0, 0, 0)), (72, .iastore, 1, (0, 0, 0)), (73, .aload_n 0, 1, (0, 0, 0)), (74, .getfield 23, 3, (2099, 702, 0)), (77, .dup, 1, (0, 0, 0)), (78, .getfield 52, 3, (1070, 402, 0)), (81, .iconst 1, 1, (0, 0, 0)), (82, .iadd, 1, (0, 0, 0)), (83, .putfield 52, 3, (1070, 402, 0)), (86, .aload_n 0, 1, (0, 0, 0))] (by decide +kernel) (show jrun _ (63, [(11, a0), (0, a1), (0, ((jup s a0 3 ((s a0 3) - 1)) (a0 + 1) (w32 ((jup s a0 3 ((s a0 3) - 1)) a0 3))))], [(11, a0)], s2) = some ([jok 4 (s2 a0 2) = true, (0 ≤ (w32 a1) ∧ (w32 a1) < 60), jok 4 ((jup s2 ((s2 a0 2) + 1) (w32 a1) 24) a0 2) = true], (87, [(11, a0), (0, a1), (0, ((jup s a0 3 ((s a0 3) - 1)) (a0 + 1) (w32 ((jup s a0 3 ((s a0 3) - 1)) a0 3))))], [(11, a0)], (jup (jup s2 ((s2 a0 2) + 1) (w32 a1) 24) ((jup s2 ((s2 a0 2) + 1) (w32 a1) 24) a0 2) 2 (((jup s2 ((s2 a0 2) + 1) (w32 a1) 24) ((jup s2 ((s2 a0 2) + 1) (w32 a1) 24) a0 2) 2) + 1)))) from rfl) (fun h => ⟨h.1, h.2.1, h.2.2⟩) H (fun H => ?_)
      obtain ⟨s3, e3, H⟩ := jm_some H
      rw [← e3]
      refine AT.blk (g := jok 5 (s3 a0 0) = true) [(87, .getfield 15, 3, (2097, 700, 0))] (by decide +kernel) (show jrun _ (87, [(11, a0), (0, a1), (0, ((jup s a0 3 ((s a0 3) - 1)) (a0 + 1) (w32 ((jup s a0 3 ((s a0 3) - 1)) a0 3))))], [(11, a0)], s3) = some ([jok 5 (s3 a0 0) = true], (90, [(11, a0), (0, a1), (0, ((jup s a0 3 ((s a0 3) - 1)) (a0 + 1) (w32 ((jup s a0 3 ((s a0 3) - 1)) a0 3))))], [(9, (s3 a0 0))], s3)) from rfl) (fun h => h) H (fun H => ?_)
      obtain ⟨v4, s4, h4, H⟩ := jb_some H
      refine AT.callV (As := []) (cl := 5) (b := (s3 a0 0)) (st := []) (i := 72) (pos := 3234) kTe_advance (by decide +kernel) rfl (by decide +kernel) rfl rfl (by omega) (Te_advance_ok h4) ?_
      show AT sFr_takeClose 3 (93, [(11, a0), (0, a1), (0, ((jup s a0 3 ((s a0 3) - 1)) (a0 + 1) (w32 ((jup s a0 3 ((s a0 3) - 1)) a0 3))))], [], s4) o
      refine AT.blk (g := jok 5 (s4 a0 0) = true) [(93, .aload_n 0, 1, (0, 0, 0)), (94, .getfield 15, 3, (2097, 700, 0))] (by decide +kernel) (show jrun _ (93, [(11, a0), (0, a1), (0, ((jup s a0 3 ((s a0 3) - 1)) (a0 + 1) (w32 ((jup s a0 3 ((s a0 3) - 1)) a0 3))))], [], s4) = some ([jok 5 (s4 a0 0) = true], (97, [(11, a0), (0, a1), (0, ((jup s a0 3 ((s a0 3) - 1)) (a0 + 1) (w32 ((jup s a0 3 ((s a0 3) - 1)) a0 3))))], [(9, (s4 a0 0))], s4)) from rfl) (fun h => h) H (fun H => ?_)
      obtain ⟨v5, s5, h5, H⟩ := jb_some H
      refine AT.callV (As := []) (cl := 5) (b := (s4 a0 0)) (st := []) (i := 75) (pos := 3235) kTe_takeStop (by decide +kernel) rfl (by decide +kernel) rfl rfl (by omega) (Te_takeStop_ok h5) ?_
      show AT sFr_takeClose 3 (100, [(11, a0), (0, a1), (0, ((jup s a0 3 ((s a0 3) - 1)) (a0 + 1) (w32 ((jup s a0 3 ((s a0 3) - 1)) a0 3))))], [], s5) o
      exact AT.retvH (by decide +kernel) H
    · refine AT.blk (g := jok 5 (s a0 0) = true) [(13, .aload_n 0, 1, (0, 0, 0)), (14, .getfield 15, 3, (2097, 700, 0)), (17, .iconst 2, 1, (0, 0, 0))] (by decide +kernel) (show jrun _ (13, [(11, a0), (0, a1), (99, 0)], [], s) = some ([jok 5 (s a0 0) = true], (18, [(11, a0), (0, a1), (99, 0)], [(0, 2), (9, (s a0 0))], s)) from rfl) (fun h => h) H (fun H => ?_)
      obtain ⟨v6, s6, h6, H⟩ := jb_some H
      refine AT.callV (As := [(0, 2)]) (cl := 5) (b := (s a0 0)) (st := []) (i := 63) (pos := 3233) kTe_fail (by decide +kernel) rfl (by decide +kernel) rfl rfl (by omega) (Te_fail_ok h6) ?_
      show AT sFr_takeClose 3 (21, [(11, a0), (0, a1), (99, 0)], [], s6) o
      exact AT.retvH (by decide +kernel) H
  · refine AT.blk (g := jok 5 (s a0 0) = true) [(13, .aload_n 0, 1, (0, 0, 0)), (14, .getfield 15, 3, (2097, 700, 0)), (17, .iconst 2, 1, (0, 0, 0))] (by decide +kernel) (show jrun _ (13, [(11, a0), (0, a1), (99, 0)], [], s) = some ([jok 5 (s a0 0) = true], (18, [(11, a0), (0, a1), (99, 0)], [(0, 2), (9, (s a0 0))], s)) from rfl) (fun h => h) H (fun H => ?_)
    obtain ⟨v7, s7, h7, H⟩ := jb_some H
    refine AT.callV (As := [(0, 2)]) (cl := 5) (b := (s a0 0)) (st := []) (i := 63) (pos := 3233) kTe_fail (by decide +kernel) rfl (by decide +kernel) rfl rfl (by omega) (Te_fail_ok h7) ?_
    show AT sFr_takeClose 3 (21, [(11, a0), (0, a1), (99, 0)], [], s7) o
    exact AT.retvH (by decide +kernel) H
def sFr_beginsStep : jS := (⟨"JellyCathedral$FeastsReader", "beginsStep", "(I)Z"⟩, prog_3_method_5_code, 1, 3, [0], 1)
theorem kFr_beginsStep : jmk sFr_beginsStep = true := jmk_of 4002 1008 4001 0 (by decide +kernel)
theorem Fr_beginsStep_ok {a0 : Int} {s : jM} {o : Int × jM} (H : Fr_beginsStep a0 s = some o) : MK sFr_beginsStep 0 [(0, a0)] s o := by
  refine MK.of kFr_beginsStep rfl ?_
  show AT sFr_beginsStep 0 (0, [(0, a0)], [], s) o
  unfold Fr_beginsStep at H
  refine AT.seq [(0, .iload_n 0, 1, (0, 0, 0))] (by decide +kernel) (show jrun _ (0, [(0, a0)], [], s) = some ([], (1, [(0, a0)], [(0, a0)], s)) from rfl) ?_
  by_cases h1 : (w32 a0) = 0
  · rw [if_pos h1] at H
    refine AT.sw (ins := .tableswitch 121 0 25 #[119, 121, 121, 121, 121, 121, 121, 121, 121, 121, 121, 121, 121, 119, 119, 119, 119, 119, 119, 119, 119, 121, 121, 119, 121, 119]) (n := 119) (v := 0) (t := 120) (by decide +kernel) h1 ?_
    refine AT.seq [(120, .iconst 1, 1, (0, 0, 0))] (by decide +kernel) (show jrun _ (120, [(0, a0)], [], s) = some ([], (121, [(0, a0)], [(0, 1)], s)) from rfl) ?_
    exact AT.retzC (by decide +kernel) (by decide) H
  rw [if_neg h1] at H
  by_cases h2 : (w32 a0) = 1
  · rw [if_pos h2] at H
    refine AT.sw (ins := .tableswitch 121 0 25 #[119, 121, 121, 121, 121, 121, 121, 121, 121, 121, 121, 121, 121, 119, 119, 119, 119, 119, 119, 119, 119, 121, 121, 119, 121, 119]) (n := 119) (v := 1) (t := 122) (by decide +kernel) h2 ?_
    refine AT.seq [(122, .iconst 0, 1, (0, 0, 0))] (by decide +kernel) (show jrun _ (122, [(0, a0)], [], s) = some ([], (123, [(0, a0)], [(0, 0)], s)) from rfl) ?_
    exact AT.retzC (by decide +kernel) (by decide) H
  rw [if_neg h2] at H
  by_cases h3 : (w32 a0) = 2
  · rw [if_pos h3] at H
    refine AT.sw (ins := .tableswitch 121 0 25 #[119, 121, 121, 121, 121, 121, 121, 121, 121, 121, 121, 121, 121, 119, 119, 119, 119, 119, 119, 119, 119, 121, 121, 119, 121, 119]) (n := 119) (v := 2) (t := 122) (by decide +kernel) h3 ?_
    refine AT.seq [(122, .iconst 0, 1, (0, 0, 0))] (by decide +kernel) (show jrun _ (122, [(0, a0)], [], s) = some ([], (123, [(0, a0)], [(0, 0)], s)) from rfl) ?_
    exact AT.retzC (by decide +kernel) (by decide) H
  rw [if_neg h3] at H
  by_cases h4 : (w32 a0) = 3
  · rw [if_pos h4] at H
    refine AT.sw (ins := .tableswitch 121 0 25 #[119, 121, 121, 121, 121, 121, 121, 121, 121, 121, 121, 121, 121, 119, 119, 119, 119, 119, 119, 119, 119, 121, 121, 119, 121, 119]) (n := 119) (v := 3) (t := 122) (by decide +kernel) h4 ?_
    refine AT.seq [(122, .iconst 0, 1, (0, 0, 0))] (by decide +kernel) (show jrun _ (122, [(0, a0)], [], s) = some ([], (123, [(0, a0)], [(0, 0)], s)) from rfl) ?_
    exact AT.retzC (by decide +kernel) (by decide) H
  rw [if_neg h4] at H
  by_cases h5 : (w32 a0) = 4
  · rw [if_pos h5] at H
    refine AT.sw (ins := .tableswitch 121 0 25 #[119, 121, 121, 121, 121, 121, 121, 121, 121, 121, 121, 121, 121, 119, 119, 119, 119, 119, 119, 119, 119, 121, 121, 119, 121, 119]) (n := 119) (v := 4) (t := 122) (by decide +kernel) h5 ?_
    refine AT.seq [(122, .iconst 0, 1, (0, 0, 0))] (by decide +kernel) (show jrun _ (122, [(0, a0)], [], s) = some ([], (123, [(0, a0)], [(0, 0)], s)) from rfl) ?_
    exact AT.retzC (by decide +kernel) (by decide) H
  rw [if_neg h5] at H
  by_cases h6 : (w32 a0) = 5
  · rw [if_pos h6] at H
    refine AT.sw (ins := .tableswitch 121 0 25 #[119, 121, 121, 121, 121, 121, 121, 121, 121, 121, 121, 121, 121, 119, 119, 119, 119, 119, 119, 119, 119, 121, 121, 119, 121, 119]) (n := 119) (v := 5) (t := 122) (by decide +kernel) h6 ?_
    refine AT.seq [(122, .iconst 0, 1, (0, 0, 0))] (by decide +kernel) (show jrun _ (122, [(0, a0)], [], s) = some ([], (123, [(0, a0)], [(0, 0)], s)) from rfl) ?_
    exact AT.retzC (by decide +kernel) (by decide) H
  rw [if_neg h6] at H
  by_cases h7 : (w32 a0) = 6
  · rw [if_pos h7] at H
    refine AT.sw (ins := .tableswitch 121 0 25 #[119, 121, 121, 121, 121, 121, 121, 121, 121, 121, 121, 121, 121, 119, 119, 119, 119, 119, 119, 119, 119, 121, 121, 119, 121, 119]) (n := 119) (v := 6) (t := 122) (by decide +kernel) h7 ?_
    refine AT.seq [(122, .iconst 0, 1, (0, 0, 0))] (by decide +kernel) (show jrun _ (122, [(0, a0)], [], s) = some ([], (123, [(0, a0)], [(0, 0)], s)) from rfl) ?_
    exact AT.retzC (by decide +kernel) (by decide) H
  rw [if_neg h7] at H
  by_cases h8 : (w32 a0) = 7
  · rw [if_pos h8] at H
    refine AT.sw (ins := .tableswitch 121 0 25 #[119, 121, 121, 121, 121, 121, 121, 121, 121, 121, 121, 121, 121, 119, 119, 119, 119, 119, 119, 119, 119, 121, 121, 119, 121, 119]) (n := 119) (v := 7) (t := 122) (by decide +kernel) h8 ?_
    refine AT.seq [(122, .iconst 0, 1, (0, 0, 0))] (by decide +kernel) (show jrun _ (122, [(0, a0)], [], s) = some ([], (123, [(0, a0)], [(0, 0)], s)) from rfl) ?_
    exact AT.retzC (by decide +kernel) (by decide) H
  rw [if_neg h8] at H
  by_cases h9 : (w32 a0) = 8
  · rw [if_pos h9] at H
    refine AT.sw (ins := .tableswitch 121 0 25 #[119, 121, 121, 121, 121, 121, 121, 121, 121, 121, 121, 121, 121, 119, 119, 119, 119, 119, 119, 119, 119, 121, 121, 119, 121, 119]) (n := 119) (v := 8) (t := 122) (by decide +kernel) h9 ?_
    refine AT.seq [(122, .iconst 0, 1, (0, 0, 0))] (by decide +kernel) (show jrun _ (122, [(0, a0)], [], s) = some ([], (123, [(0, a0)], [(0, 0)], s)) from rfl) ?_
    exact AT.retzC (by decide +kernel) (by decide) H
  rw [if_neg h9] at H
  by_cases h10 : (w32 a0) = 9
  · rw [if_pos h10] at H
    refine AT.sw (ins := .tableswitch 121 0 25 #[119, 121, 121, 121, 121, 121, 121, 121, 121, 121, 121, 121, 121, 119, 119, 119, 119, 119, 119, 119, 119, 121, 121, 119, 121, 119]) (n := 119) (v := 9) (t := 122) (by decide +kernel) h10 ?_
    refine AT.seq [(122, .iconst 0, 1, (0, 0, 0))] (by decide +kernel) (show jrun _ (122, [(0, a0)], [], s) = some ([], (123, [(0, a0)], [(0, 0)], s)) from rfl) ?_
    exact AT.retzC (by decide +kernel) (by decide) H
  rw [if_neg h10] at H
  by_cases h11 : (w32 a0) = 10
  · rw [if_pos h11] at H
    refine AT.sw (ins := .tableswitch 121 0 25 #[119, 121, 121, 121, 121, 121, 121, 121, 121, 121, 121, 121, 121, 119, 119, 119, 119, 119, 119, 119, 119, 121, 121, 119, 121, 119]) (n := 119) (v := 10) (t := 122) (by decide +kernel) h11 ?_
    refine AT.seq [(122, .iconst 0, 1, (0, 0, 0))] (by decide +kernel) (show jrun _ (122, [(0, a0)], [], s) = some ([], (123, [(0, a0)], [(0, 0)], s)) from rfl) ?_
    exact AT.retzC (by decide +kernel) (by decide) H
  rw [if_neg h11] at H
  by_cases h12 : (w32 a0) = 11
  · rw [if_pos h12] at H
    refine AT.sw (ins := .tableswitch 121 0 25 #[119, 121, 121, 121, 121, 121, 121, 121, 121, 121, 121, 121, 121, 119, 119, 119, 119, 119, 119, 119, 119, 121, 121, 119, 121, 119]) (n := 119) (v := 11) (t := 122) (by decide +kernel) h12 ?_
    refine AT.seq [(122, .iconst 0, 1, (0, 0, 0))] (by decide +kernel) (show jrun _ (122, [(0, a0)], [], s) = some ([], (123, [(0, a0)], [(0, 0)], s)) from rfl) ?_
    exact AT.retzC (by decide +kernel) (by decide) H
  rw [if_neg h12] at H
  by_cases h13 : (w32 a0) = 12
  · rw [if_pos h13] at H
    refine AT.sw (ins := .tableswitch 121 0 25 #[119, 121, 121, 121, 121, 121, 121, 121, 121, 121, 121, 121, 121, 119, 119, 119, 119, 119, 119, 119, 119, 121, 121, 119, 121, 119]) (n := 119) (v := 12) (t := 122) (by decide +kernel) h13 ?_
    refine AT.seq [(122, .iconst 0, 1, (0, 0, 0))] (by decide +kernel) (show jrun _ (122, [(0, a0)], [], s) = some ([], (123, [(0, a0)], [(0, 0)], s)) from rfl) ?_
    exact AT.retzC (by decide +kernel) (by decide) H
  rw [if_neg h13] at H
  by_cases h14 : (w32 a0) = 13
  · rw [if_pos h14] at H
    refine AT.sw (ins := .tableswitch 121 0 25 #[119, 121, 121, 121, 121, 121, 121, 121, 121, 121, 121, 121, 121, 119, 119, 119, 119, 119, 119, 119, 119, 121, 121, 119, 121, 119]) (n := 119) (v := 13) (t := 120) (by decide +kernel) h14 ?_
    refine AT.seq [(120, .iconst 1, 1, (0, 0, 0))] (by decide +kernel) (show jrun _ (120, [(0, a0)], [], s) = some ([], (121, [(0, a0)], [(0, 1)], s)) from rfl) ?_
    exact AT.retzC (by decide +kernel) (by decide) H
  rw [if_neg h14] at H
  by_cases h15 : (w32 a0) = 14
  · rw [if_pos h15] at H
    refine AT.sw (ins := .tableswitch 121 0 25 #[119, 121, 121, 121, 121, 121, 121, 121, 121, 121, 121, 121, 121, 119, 119, 119, 119, 119, 119, 119, 119, 121, 121, 119, 121, 119]) (n := 119) (v := 14) (t := 120) (by decide +kernel) h15 ?_
    refine AT.seq [(120, .iconst 1, 1, (0, 0, 0))] (by decide +kernel) (show jrun _ (120, [(0, a0)], [], s) = some ([], (121, [(0, a0)], [(0, 1)], s)) from rfl) ?_
    exact AT.retzC (by decide +kernel) (by decide) H
  rw [if_neg h15] at H
  by_cases h16 : (w32 a0) = 15
  · rw [if_pos h16] at H
    refine AT.sw (ins := .tableswitch 121 0 25 #[119, 121, 121, 121, 121, 121, 121, 121, 121, 121, 121, 121, 121, 119, 119, 119, 119, 119, 119, 119, 119, 121, 121, 119, 121, 119]) (n := 119) (v := 15) (t := 120) (by decide +kernel) h16 ?_
    refine AT.seq [(120, .iconst 1, 1, (0, 0, 0))] (by decide +kernel) (show jrun _ (120, [(0, a0)], [], s) = some ([], (121, [(0, a0)], [(0, 1)], s)) from rfl) ?_
    exact AT.retzC (by decide +kernel) (by decide) H
  rw [if_neg h16] at H
  by_cases h17 : (w32 a0) = 16
  · rw [if_pos h17] at H
    refine AT.sw (ins := .tableswitch 121 0 25 #[119, 121, 121, 121, 121, 121, 121, 121, 121, 121, 121, 121, 121, 119, 119, 119, 119, 119, 119, 119, 119, 121, 121, 119, 121, 119]) (n := 119) (v := 16) (t := 120) (by decide +kernel) h17 ?_
    refine AT.seq [(120, .iconst 1, 1, (0, 0, 0))] (by decide +kernel) (show jrun _ (120, [(0, a0)], [], s) = some ([], (121, [(0, a0)], [(0, 1)], s)) from rfl) ?_
    exact AT.retzC (by decide +kernel) (by decide) H
  rw [if_neg h17] at H
  by_cases h18 : (w32 a0) = 17
  · rw [if_pos h18] at H
    refine AT.sw (ins := .tableswitch 121 0 25 #[119, 121, 121, 121, 121, 121, 121, 121, 121, 121, 121, 121, 121, 119, 119, 119, 119, 119, 119, 119, 119, 121, 121, 119, 121, 119]) (n := 119) (v := 17) (t := 120) (by decide +kernel) h18 ?_
    refine AT.seq [(120, .iconst 1, 1, (0, 0, 0))] (by decide +kernel) (show jrun _ (120, [(0, a0)], [], s) = some ([], (121, [(0, a0)], [(0, 1)], s)) from rfl) ?_
    exact AT.retzC (by decide +kernel) (by decide) H
  rw [if_neg h18] at H
  by_cases h19 : (w32 a0) = 18
  · rw [if_pos h19] at H
    refine AT.sw (ins := .tableswitch 121 0 25 #[119, 121, 121, 121, 121, 121, 121, 121, 121, 121, 121, 121, 121, 119, 119, 119, 119, 119, 119, 119, 119, 121, 121, 119, 121, 119]) (n := 119) (v := 18) (t := 120) (by decide +kernel) h19 ?_
    refine AT.seq [(120, .iconst 1, 1, (0, 0, 0))] (by decide +kernel) (show jrun _ (120, [(0, a0)], [], s) = some ([], (121, [(0, a0)], [(0, 1)], s)) from rfl) ?_
    exact AT.retzC (by decide +kernel) (by decide) H
  rw [if_neg h19] at H
  by_cases h20 : (w32 a0) = 19
  · rw [if_pos h20] at H
    refine AT.sw (ins := .tableswitch 121 0 25 #[119, 121, 121, 121, 121, 121, 121, 121, 121, 121, 121, 121, 121, 119, 119, 119, 119, 119, 119, 119, 119, 121, 121, 119, 121, 119]) (n := 119) (v := 19) (t := 120) (by decide +kernel) h20 ?_
    refine AT.seq [(120, .iconst 1, 1, (0, 0, 0))] (by decide +kernel) (show jrun _ (120, [(0, a0)], [], s) = some ([], (121, [(0, a0)], [(0, 1)], s)) from rfl) ?_
    exact AT.retzC (by decide +kernel) (by decide) H
  rw [if_neg h20] at H
  by_cases h21 : (w32 a0) = 20
  · rw [if_pos h21] at H
    refine AT.sw (ins := .tableswitch 121 0 25 #[119, 121, 121, 121, 121, 121, 121, 121, 121, 121, 121, 121, 121, 119, 119, 119, 119, 119, 119, 119, 119, 121, 121, 119, 121, 119]) (n := 119) (v := 20) (t := 120) (by decide +kernel) h21 ?_
    refine AT.seq [(120, .iconst 1, 1, (0, 0, 0))] (by decide +kernel) (show jrun _ (120, [(0, a0)], [], s) = some ([], (121, [(0, a0)], [(0, 1)], s)) from rfl) ?_
    exact AT.retzC (by decide +kernel) (by decide) H
  rw [if_neg h21] at H
  by_cases h22 : (w32 a0) = 21
  · rw [if_pos h22] at H
    refine AT.sw (ins := .tableswitch 121 0 25 #[119, 121, 121, 121, 121, 121, 121, 121, 121, 121, 121, 121, 121, 119, 119, 119, 119, 119, 119, 119, 119, 121, 121, 119, 121, 119]) (n := 119) (v := 21) (t := 122) (by decide +kernel) h22 ?_
    refine AT.seq [(122, .iconst 0, 1, (0, 0, 0))] (by decide +kernel) (show jrun _ (122, [(0, a0)], [], s) = some ([], (123, [(0, a0)], [(0, 0)], s)) from rfl) ?_
    exact AT.retzC (by decide +kernel) (by decide) H
  rw [if_neg h22] at H
  by_cases h23 : (w32 a0) = 22
  · rw [if_pos h23] at H
    refine AT.sw (ins := .tableswitch 121 0 25 #[119, 121, 121, 121, 121, 121, 121, 121, 121, 121, 121, 121, 121, 119, 119, 119, 119, 119, 119, 119, 119, 121, 121, 119, 121, 119]) (n := 119) (v := 22) (t := 122) (by decide +kernel) h23 ?_
    refine AT.seq [(122, .iconst 0, 1, (0, 0, 0))] (by decide +kernel) (show jrun _ (122, [(0, a0)], [], s) = some ([], (123, [(0, a0)], [(0, 0)], s)) from rfl) ?_
    exact AT.retzC (by decide +kernel) (by decide) H
  rw [if_neg h23] at H
  by_cases h24 : (w32 a0) = 23
  · rw [if_pos h24] at H
    refine AT.sw (ins := .tableswitch 121 0 25 #[119, 121, 121, 121, 121, 121, 121, 121, 121, 121, 121, 121, 121, 119, 119, 119, 119, 119, 119, 119, 119, 121, 121, 119, 121, 119]) (n := 119) (v := 23) (t := 120) (by decide +kernel) h24 ?_
    refine AT.seq [(120, .iconst 1, 1, (0, 0, 0))] (by decide +kernel) (show jrun _ (120, [(0, a0)], [], s) = some ([], (121, [(0, a0)], [(0, 1)], s)) from rfl) ?_
    exact AT.retzC (by decide +kernel) (by decide) H
  rw [if_neg h24] at H
  by_cases h25 : (w32 a0) = 24
  · rw [if_pos h25] at H
    refine AT.sw (ins := .tableswitch 121 0 25 #[119, 121, 121, 121, 121, 121, 121, 121, 121, 121, 121, 121, 121, 119, 119, 119, 119, 119, 119, 119, 119, 121, 121, 119, 121, 119]) (n := 119) (v := 24) (t := 122) (by decide +kernel) h25 ?_
    refine AT.seq [(122, .iconst 0, 1, (0, 0, 0))] (by decide +kernel) (show jrun _ (122, [(0, a0)], [], s) = some ([], (123, [(0, a0)], [(0, 0)], s)) from rfl) ?_
    exact AT.retzC (by decide +kernel) (by decide) H
  rw [if_neg h25] at H
  by_cases h26 : (w32 a0) = 25
  · rw [if_pos h26] at H
    refine AT.sw (ins := .tableswitch 121 0 25 #[119, 121, 121, 121, 121, 121, 121, 121, 121, 121, 121, 121, 121, 119, 119, 119, 119, 119, 119, 119, 119, 121, 121, 119, 121, 119]) (n := 119) (v := 25) (t := 120) (by decide +kernel) h26 ?_
    refine AT.seq [(120, .iconst 1, 1, (0, 0, 0))] (by decide +kernel) (show jrun _ (120, [(0, a0)], [], s) = some ([], (121, [(0, a0)], [(0, 1)], s)) from rfl) ?_
    exact AT.retzC (by decide +kernel) (by decide) H
  rw [if_neg h26] at H
  refine AT.swd (df := 121) (lo := 0) (hi := 25) (offs := #[119, 121, 121, 121, 121, 121, 121, 121, 121, 121, 121, 121, 121, 119, 119, 119, 119, 119, 119, 119, 119, 121, 121, 119, 121, 119]) (n := 119) (t := 122) (by decide +kernel) (by omega) ?_
  refine AT.seq [(122, .iconst 0, 1, (0, 0, 0))] (by decide +kernel) (show jrun _ (122, [(0, a0)], [], s) = some ([], (123, [(0, a0)], [(0, 0)], s)) from rfl) ?_
  exact AT.retzC (by decide +kernel) (by decide) H
def sFr_takeTest : jS := (⟨"JellyCathedral$FeastsReader", "takeTest", "(II)V"⟩, prog_3_method_7_code, 3, 0, [11, 0, 0], 0)
theorem kFr_takeTest : jmk sFr_takeTest = true := jmk_of 4006 1008 4005 18 (by decide +kernel)
theorem Fr_takeTest_27_ok {o : Int × jM} {x0 x1 x2 : Int} {s : jM} (H : Fr_takeTest_27  x0 x1 x2 s = some o) : AT sFr_takeTest 3 (27, [(11, x0), (0, x1), (0, x2)], [], s) o := by
  unfold Fr_takeTest_27 at H
  refine AT.blk (g := jok 4 (s x0 2) = true ∧ (0 ≤ (w32 x2) ∧ (w32 x2) < 60) ∧ jok 5 ((jup s ((s x0 2) + 1) (w32 x2) x1) x0 0) = true) [(27, .aload_n 0, 1, (0, 0, 0)), (28, .getfield 23, 3, (2099, 702, 0)), (31, .getfield 69, 3, (1073, 403, 0)), (34, .iload_n 2, 1, (0, 0, 0)), (35, .iload_n 1, 1, (0, 0, 0)), (36, .iastore, 1, (0, 0, 0)), (37, .aload_n 0, 1, (0, 0, 0)), (38, .getfield 15, 3, (2097, 700, 0))] (by decide +kernel) (show jrun _ (27, [(11, x0), (0, x1), (0, x2)], [], s) = some ([jok 4 (s x0 2) = true, (0 ≤ (w32 x2) ∧ (w32 x2) < 60), jok 5 ((jup s ((s x0 2) + 1) (w32 x2) x1) x0 0) = true], (41, [(11, x0), (0, x1), (0, x2)], [(9, ((jup s ((s x0 2) + 1) (w32 x2) x1) x0 0))], (jup s ((s x0 2) + 1) (w32 x2) x1))) from rfl) (fun h => ⟨h.1, h.2.1, h.2.2⟩) H (fun H => ?_)
  obtain ⟨v1, s1, h1, H⟩ := jb_some H
  refine AT.callV (As := []) (cl := 5) (b := ((jup s ((s x0 2) + 1) (w32 x2) x1) x0 0)) (st := []) (i := 72) (pos := 3234) kTe_advance (by decide +kernel) rfl (by decide +kernel) rfl rfl (by omega) (Te_advance_ok h1) ?_
  show AT sFr_takeTest 3 (44, [(11, x0), (0, x1), (0, x2)], [], s1) o
  refine AT.blk (g := jok 4 (s1 x0 2) = true ∧ jok 5 (s1 x0 0) = true ∧ jok 3 (s1 x0 1) = true) [(44, .aload_n 0, 1, (0, 0, 0)), (45, .getfield 23, 3, (2099, 702, 0)), (48, .getfield 91, 3, (1076, 404, 0)), (51, .iload_n 2, 1, (0, 0, 0)), (52, .aload_n 0, 1, (0, 0, 0)), (53, .getfield 15, 3, (2097, 700, 0)), (56, .aload_n 0, 1, (0, 0, 0)), (57, .getfield 19, 3, (2098, 701, 0)), (60, .iconst 2, 1, (0, 0, 0))] (by decide +kernel) (show jrun _ (44, [(11, x0), (0, x1), (0, x2)], [], s1) = some ([jok 4 (s1 x0 2) = true, jok 5 (s1 x0 0) = true, jok 3 (s1 x0 1) = true], (61, [(11, x0), (0, x1), (0, x2)], [(0, 2), (7, (s1 x0 1)), (9, (s1 x0 0)), (0, x2), (32, ((s1 x0 2) + 2))], s1)) from rfl) (fun h => ⟨h.1, h.2.1, h.2.2⟩) H (fun H => ?_)
  obtain ⟨v2, s2, h2, H⟩ := jb_some H
  refine AT.callV (As := [(7, (s1 x0 1)), (0, 2)]) (cl := 5) (b := (s1 x0 0)) (st := [(0, x2), (32, ((s1 x0 2) + 2))]) (i := 94) (pos := 4007) kTe_takeThing (by decide +kernel) rfl (by decide +kernel) rfl rfl (by omega) (Te_takeThing_ok h2) ?_
  show AT sFr_takeTest 3 (64, [(11, x0), (0, x1), (0, x2)], [(0, v2), (0, x2), (32, ((s1 x0 2) + 2))], s2) o
  refine AT.blk (g := (0 ≤ (w32 x2) ∧ (w32 x2) < 60)) [(64, .iastore, 1, (0, 0, 0)), (65, .iload_n 1, 1, (0, 0, 0)), (66, .bipush 22, 2, (0, 0, 0))] (by decide +kernel) (show jrun _ (64, [(11, x0), (0, x1), (0, x2)], [(0, v2), (0, x2), (32, ((s1 x0 2) + 2))], s2) = some ([(0 ≤ (w32 x2) ∧ (w32 x2) < 60)], (68, [(11, x0), (0, x1), (0, x2)], [(0, 22), (0, x1)], (jup s2 ((s1 x0 2) + 2) (w32 x2) v2))) from rfl) (fun h => h) H (fun H => ?_)
  refine AT.ite (x := (0, 0, 0)) (by decide +kernel) (show jbr (.if_icmp .ne 41) (68, [(11, x0), (0, x1), (0, x2)], [(0, 22), (0, x1)], (jup s2 ((s1 x0 2) + 2) (w32 x2) v2)) = some ((w32 x1) = 22, (71, [(11, x0), (0, x1), (0, x2)], [], (jup s2 ((s1 x0 2) + 2) (w32 x2) v2)), (109, [(11, x0), (0, x1), (0, x2)], [], (jup s2 ((s1 x0 2) + 2) (w32 x2) v2))) from rfl) H (fun H => ?_) (fun H => ?_)
  · refine AT.blk (g := jok 4 ((jup s2 ((s1 x0 2) + 2) (w32 x2) v2) x0 2) = true ∧ jok 5 ((jup s2 ((s1 x0 2) + 2) (w32 x2) v2) x0 0) = true) [(71, .aload_n 0, 1, (0, 0, 0)), (72, .getfield 23, 3, (2099, 702, 0)), (75, .getfield 98, 3, (1079, 405, 0)), (78, .iload_n 2, 1, (0, 0, 0)), (79, .aload_n 0, 1, (0, 0, 0)), (80, .getfield 15, 3, (2097, 700, 0))] (by decide +kernel) (show jrun _ (71, [(11, x0), (0, x1), (0, x2)], [], (jup s2 ((s1 x0 2) + 2) (w32 x2) v2)) = some ([jok 4 ((jup s2 ((s1 x0 2) + 2) (w32 x2) v2) x0 2) = true, jok 5 ((jup s2 ((s1 x0 2) + 2) (w32 x2) v2) x0 0) = true], (83, [(11, x0), (0, x1), (0, x2)], [(9, ((jup s2 ((s1 x0 2) + 2) (w32 x2) v2) x0 0)), (0, x2), (32, (((jup s2 ((s1 x0 2) + 2) (w32 x2) v2) x0 2) + 3))], (jup s2 ((s1 x0 2) + 2) (w32 x2) v2))) from rfl) (fun h => ⟨h.1, h.2⟩) H (fun H => ?_)
    obtain ⟨v3, s3, h3, H⟩ := jb_some H
    refine AT.callV (As := []) (cl := 5) (b := ((jup s2 ((s1 x0 2) + 2) (w32 x2) v2) x0 0)) (st := [(0, x2), (32, (((jup s2 ((s1 x0 2) + 2) (w32 x2) v2) x0 2) + 3))]) (i := 108) (pos := 4008) kTe_takeCompare (by decide +kernel) rfl (by decide +kernel) rfl rfl (by omega) (Te_takeCompare_ok h3) ?_
    show AT sFr_takeTest 3 (86, [(11, x0), (0, x1), (0, x2)], [(0, v3), (0, x2), (32, (((jup s2 ((s1 x0 2) + 2) (w32 x2) v2) x0 2) + 3))], s3) o
    refine AT.blk (g := (0 ≤ (w32 x2) ∧ (w32 x2) < 60) ∧ jok 4 ((jup s3 (((jup s2 ((s1 x0 2) + 2) (w32 x2) v2) x0 2) + 3) (w32 x2) v3) x0 2) = true ∧ jok 5 ((jup s3 (((jup s2 ((s1 x0 2) + 2) (w32 x2) v2) x0 2) + 3) (w32 x2) v3) x0 0) = true) [(86, .iastore, 1, (0, 0, 0)), (87, .aload_n 0, 1, (0, 0, 0)), (88, .getfield 23, 3, (2099, 702, 0)), (91, .getfield 101, 3, (1082, 406, 0)), (94, .iload_n 2, 1, (0, 0, 0)), (95, .aload_n 0, 1, (0, 0, 0)), (96, .getfield 15, 3, (2097, 700, 0)), (99, .iconst 0, 1, (0, 0, 0)), (100, .bipush 99, 2, (0, 0, 0))] (by decide +kernel) (show jrun _ (86, [(11, x0), (0, x1), (0, x2)], [(0, v3), (0, x2), (32, (((jup s2 ((s1 x0 2) + 2) (w32 x2) v2) x0 2) + 3))], s3) = some ([(0 ≤ (w32 x2) ∧ (w32 x2) < 60), jok 4 ((jup s3 (((jup s2 ((s1 x0 2) + 2) (w32 x2) v2) x0 2) + 3) (w32 x2) v3) x0 2) = true, jok 5 ((jup s3 (((jup s2 ((s1 x0 2) + 2) (w32 x2) v2) x0 2) + 3) (w32 x2) v3) x0 0) = true], (102, [(11, x0), (0, x1), (0, x2)], [(0, 99), (0, 0), (9, ((jup s3 (((jup s2 ((s1 x0 2) + 2) (w32 x2) v2) x0 2) + 3) (w32 x2) v3) x0 0)), (0, x2), (32, (((jup s3 (((jup s2 ((s1 x0 2) + 2) (w32 x2) v2) x0 2) + 3) (w32 x2) v3) x0 2) + 4))], (jup s3 (((jup s2 ((s1 x0 2) + 2) (w32 x2) v2) x0 2) + 3) (w32 x2) v3))) from rfl) (fun h => ⟨h.1, h.2.1, h.2.2⟩) H (fun H => ?_)
    obtain ⟨v4, s4, h4, H⟩ := jb_some H
    refine AT.callV (As := [(0, 0), (0, 99)]) (cl := 5) (b := ((jup s3 (((jup s2 ((s1 x0 2) + 2) (w32 x2) v2) x0 2) + 3) (w32 x2) v3) x0 0)) (st := [(0, x2), (32, (((jup s3 (((jup s2 ((s1 x0 2) + 2) (w32 x2) v2) x0 2) + 3) (w32 x2) v3) x0 2) + 4))]) (i := 104) (pos := 4012) kTe_takeNumber (by decide +kernel) rfl (by decide +kernel) rfl rfl (by omega) (Te_takeNumber_ok h4) ?_
    show AT sFr_takeTest 3 (105, [(11, x0), (0, x1), (0, x2)], [(0, v4), (0, x2), (32, (((jup s3 (((jup s2 ((s1 x0 2) + 2) (w32 x2) v2) x0 2) + 3) (w32 x2) v3) x0 2) + 4))], s4) o
    refine AT.blk (g := (0 ≤ (w32 x2) ∧ (w32 x2) < 60)) [(105, .iastore, 1, (0, 0, 0)), (106, .goto 30, 3, (0, 0, 0))] (by decide +kernel) (show jrun _ (105, [(11, x0), (0, x1), (0, x2)], [(0, v4), (0, x2), (32, (((jup s3 (((jup s2 ((s1 x0 2) + 2) (w32 x2) v2) x0 2) + 3) (w32 x2) v3) x0 2) + 4))], s4) = some ([(0 ≤ (w32 x2) ∧ (w32 x2) < 60)], (136, [(11, x0), (0, x1), (0, x2)], [], (jup s4 (((jup s3 (((jup s2 ((s1 x0 2) + 2) (w32 x2) v2) x0 2) + 3) (w32 x2) v3) x0 2) + 4) (w32 x2) v4))) from rfl) (fun h => h) H (fun H => ?_)
    exact AT.retvH (by decide +kernel) H
  · refine AT.seq [(109, .iload_n 1, 1, (0, 0, 0)), (110, .bipush 12, 2, (0, 0, 0))] (by decide +kernel) (show jrun _ (109, [(11, x0), (0, x1), (0, x2)], [], (jup s2 ((s1 x0 2) + 2) (w32 x2) v2)) = some ([], (112, [(11, x0), (0, x1), (0, x2)], [(0, 12), (0, x1)], (jup s2 ((s1 x0 2) + 2) (w32 x2) v2))) from rfl) ?_
    refine AT.ite (x := (0, 0, 0)) (by decide +kernel) (show jbr (.if_icmp .ne 24) (112, [(11, x0), (0, x1), (0, x2)], [(0, 12), (0, x1)], (jup s2 ((s1 x0 2) + 2) (w32 x2) v2)) = some ((w32 x1) = 12, (115, [(11, x0), (0, x1), (0, x2)], [], (jup s2 ((s1 x0 2) + 2) (w32 x2) v2)), (136, [(11, x0), (0, x1), (0, x2)], [], (jup s2 ((s1 x0 2) + 2) (w32 x2) v2))) from rfl) H (fun H => ?_) (fun H => ?_)
    · refine AT.blk (g := jok 4 ((jup s2 ((s1 x0 2) + 2) (w32 x2) v2) x0 2) = true ∧ jok 5 ((jup s2 ((s1 x0 2) + 2) (w32 x2) v2) x0 0) = true ∧ jok 3 ((jup s2 ((s1 x0 2) + 2) (w32 x2) v2) x0 1) = true) [(115, .aload_n 0, 1, (0, 0, 0)), (116, .getfield 23, 3, (2099, 702, 0)), (119, .getfield 98, 3, (1079, 405, 0)), (122, .iload_n 2, 1, (0, 0, 0)), (123, .aload_n 0, 1, (0, 0, 0)), (124, .getfield 15, 3, (2097, 700, 0)), (127, .aload_n 0, 1, (0, 0, 0)), (128, .getfield 19, 3, (2098, 701, 0)), (131, .iconst 1, 1, (0, 0, 0))] (by decide +kernel) (show jrun _ (115, [(11, x0), (0, x1), (0, x2)], [], (jup s2 ((s1 x0 2) + 2) (w32 x2) v2)) = some ([jok 4 ((jup s2 ((s1 x0 2) + 2) (w32 x2) v2) x0 2) = true, jok 5 ((jup s2 ((s1 x0 2) + 2) (w32 x2) v2) x0 0) = true, jok 3 ((jup s2 ((s1 x0 2) + 2) (w32 x2) v2) x0 1) = true], (132, [(11, x0), (0, x1), (0, x2)], [(0, 1), (7, ((jup s2 ((s1 x0 2) + 2) (w32 x2) v2) x0 1)), (9, ((jup s2 ((s1 x0 2) + 2) (w32 x2) v2) x0 0)), (0, x2), (32, (((jup s2 ((s1 x0 2) + 2) (w32 x2) v2) x0 2) + 3))], (jup s2 ((s1 x0 2) + 2) (w32 x2) v2))) from rfl) (fun h => ⟨h.1, h.2.1, h.2.2⟩) H (fun H => ?_)
      obtain ⟨v5, s5, h5, H⟩ := jb_some H
      refine AT.callV (As := [(7, ((jup s2 ((s1 x0 2) + 2) (w32 x2) v2) x0 1)), (0, 1)]) (cl := 5) (b := ((jup s2 ((s1 x0 2) + 2) (w32 x2) v2) x0 0)) (st := [(0, x2), (32, (((jup s2 ((s1 x0 2) + 2) (w32 x2) v2) x0 2) + 3))]) (i := 94) (pos := 4007) kTe_takeThing (by decide +kernel) rfl (by decide +kernel) rfl rfl (by omega) (Te_takeThing_ok h5) ?_
      show AT sFr_takeTest 3 (135, [(11, x0), (0, x1), (0, x2)], [(0, v5), (0, x2), (32, (((jup s2 ((s1 x0 2) + 2) (w32 x2) v2) x0 2) + 3))], s5) o
      refine AT.blk (g := (0 ≤ (w32 x2) ∧ (w32 x2) < 60)) [(135, .iastore, 1, (0, 0, 0))] (by decide +kernel) (show jrun _ (135, [(11, x0), (0, x1), (0, x2)], [(0, v5), (0, x2), (32, (((jup s2 ((s1 x0 2) + 2) (w32 x2) v2) x0 2) + 3))], s5) = some ([(0 ≤ (w32 x2) ∧ (w32 x2) < 60)], (136, [(11, x0), (0, x1), (0, x2)], [], (jup s5 (((jup s2 ((s1 x0 2) + 2) (w32 x2) v2) x0 2) + 3) (w32 x2) v5))) from rfl) (fun h => h) H (fun H => ?_)
      exact AT.retvH (by decide +kernel) H
    · exact AT.retvH (by decide +kernel) H
theorem Fr_takeTest_ok {a0 a1 a2 : Int} {s : jM} {o : Int × jM} (H : Fr_takeTest a0 a1 a2 s = some o) : MK sFr_takeTest 3 [(11, a0), (0, a1), (0, a2)] s o := by
  refine MK.of kFr_takeTest rfl ?_
  show AT sFr_takeTest 3 (0, [(11, a0), (0, a1), (0, a2)], [], s) o
  unfold Fr_takeTest at H
  refine AT.seq [(0, .iload_n 1, 1, (0, 0, 0)), (1, .bipush 21, 2, (0, 0, 0))] (by decide +kernel) (show jrun _ (0, [(11, a0), (0, a1), (0, a2)], [], s) = some ([], (3, [(11, a0), (0, a1), (0, a2)], [(0, 21), (0, a1)], s)) from rfl) ?_
  refine AT.ite (x := (0, 0, 0)) (by decide +kernel) (show jbr (.if_icmp .eq 24) (3, [(11, a0), (0, a1), (0, a2)], [(0, 21), (0, a1)], s) = some ((w32 a1) = 21, (27, [(11, a0), (0, a1), (0, a2)], [], s), (6, [(11, a0), (0, a1), (0, a2)], [], s)) from rfl) H (fun H => ?_) (fun H => ?_)
  · exact Fr_takeTest_27_ok  H
  · refine AT.seq [(6, .iload_n 1, 1, (0, 0, 0)), (7, .bipush 22, 2, (0, 0, 0))] (by decide +kernel) (show jrun _ (6, [(11, a0), (0, a1), (0, a2)], [], s) = some ([], (9, [(11, a0), (0, a1), (0, a2)], [(0, 22), (0, a1)], s)) from rfl) ?_
    refine AT.ite (x := (0, 0, 0)) (by decide +kernel) (show jbr (.if_icmp .eq 18) (9, [(11, a0), (0, a1), (0, a2)], [(0, 22), (0, a1)], s) = some ((w32 a1) = 22, (27, [(11, a0), (0, a1), (0, a2)], [], s), (12, [(11, a0), (0, a1), (0, a2)], [], s)) from rfl) H (fun H => ?_) (fun H => ?_)
    · exact Fr_takeTest_27_ok  H
    · refine AT.seq [(12, .iload_n 1, 1, (0, 0, 0)), (13, .bipush 12, 2, (0, 0, 0))] (by decide +kernel) (show jrun _ (12, [(11, a0), (0, a1), (0, a2)], [], s) = some ([], (15, [(11, a0), (0, a1), (0, a2)], [(0, 12), (0, a1)], s)) from rfl) ?_
      refine AT.ite (x := (0, 0, 0)) (by decide +kernel) (show jbr (.if_icmp .eq 12) (15, [(11, a0), (0, a1), (0, a2)], [(0, 12), (0, a1)], s) = some ((w32 a1) = 12, (27, [(11, a0), (0, a1), (0, a2)], [], s), (18, [(11, a0), (0, a1), (0, a2)], [], s)) from rfl) H (fun H => ?_) (fun H => ?_)
      · exact Fr_takeTest_27_ok  H
      · refine AT.blk (g := jok 5 (s a0 0) = true) [(18, .aload_n 0, 1, (0, 0, 0)), (19, .getfield 15, 3, (2097, 700, 0)), (22, .iconst 2, 1, (0, 0, 0))] (by decide +kernel) (show jrun _ (18, [(11, a0), (0, a1), (0, a2)], [], s) = some ([jok 5 (s a0 0) = true], (23, [(11, a0), (0, a1), (0, a2)], [(0, 2), (9, (s a0 0))], s)) from rfl) (fun h => h) H (fun H => ?_)
        obtain ⟨v6, s6, h6, H⟩ := jb_some H
        refine AT.callV (As := [(0, 2)]) (cl := 5) (b := (s a0 0)) (st := []) (i := 63) (pos := 3233) kTe_fail (by decide +kernel) rfl (by decide +kernel) rfl rfl (by omega) (Te_fail_ok h6) ?_
        show AT sFr_takeTest 3 (26, [(11, a0), (0, a1), (0, a2)], [], s6) o
        exact AT.retvH (by decide +kernel) H
def sFr_takeRest : jS := (⟨"JellyCathedral$FeastsReader", "takeRest", "(II)V"⟩, prog_3_method_6_code, 3, 0, [11, 0, 0], 0)
theorem kFr_takeRest : jmk sFr_takeRest = true := jmk_of 4016 1008 4015 19 (by decide +kernel)
theorem Fr_takeRest_ok {a0 a1 a2 : Int} {s : jM} {o : Int × jM} (H : Fr_takeRest a0 a1 a2 s = some o) : MK sFr_takeRest 3 [(11, a0), (0, a1), (0, a2)] s o := by
  refine MK.of kFr_takeRest rfl ?_
  show AT sFr_takeRest 3 (0, [(11, a0), (0, a1), (0, a2)], [], s) o
  unfold Fr_takeRest at H
  refine AT.seq [(0, .iload_n 1, 1, (0, 0, 0))] (by decide +kernel) (show jrun _ (0, [(11, a0), (0, a1), (0, a2)], [], s) = some ([], (1, [(11, a0), (0, a1), (0, a2)], [(0, a1)], s)) from rfl) ?_
  by_cases h1 : (w32 a1) = 0
  · rw [if_pos h1] at H
    refine AT.sw (ins := .tableswitch 310 0 23 #[266, 310, 310, 310, 310, 310, 310, 310, 310, 310, 310, 310, 310, 111, 175, 175, 175, 199, 244, 310, 310, 310, 310, 288]) (n := 111) (v := 0) (t := 267) (by decide +kernel) h1 ?_
    refine AT.blk (g := jok 4 (s a0 2) = true ∧ jok 5 (s a0 0) = true) [(267, .aload_n 0, 1, (0, 0, 0)), (268, .getfield 23, 3, (2099, 702, 0)), (271, .getfield 101, 3, (1082, 406, 0)), (274, .iload_n 2, 1, (0, 0, 0)), (275, .aload_n 0, 1, (0, 0, 0)), (276, .getfield 15, 3, (2097, 700, 0)), (279, .iconst 0, 1, (0, 0, 0)), (280, .bipush 9, 2, (0, 0, 0))] (by decide +kernel) (show jrun _ (267, [(11, a0), (0, a1), (0, a2)], [], s) = some ([jok 4 (s a0 2) = true, jok 5 (s a0 0) = true], (282, [(11, a0), (0, a1), (0, a2)], [(0, 9), (0, 0), (9, (s a0 0)), (0, a2), (32, ((s a0 2) + 4))], s)) from rfl) (fun h => ⟨h.1, h.2⟩) H (fun H => ?_)
    obtain ⟨v2, s2, h2, H⟩ := jb_some H
    refine AT.callV (As := [(0, 0), (0, 9)]) (cl := 5) (b := (s a0 0)) (st := [(0, a2), (32, ((s a0 2) + 4))]) (i := 104) (pos := 4012) kTe_takeNumber (by decide +kernel) rfl (by decide +kernel) rfl rfl (by omega) (Te_takeNumber_ok h2) ?_
    show AT sFr_takeRest 3 (285, [(11, a0), (0, a1), (0, a2)], [(0, v2), (0, a2), (32, ((s a0 2) + 4))], s2) o
    refine AT.blk (g := (0 ≤ (w32 a2) ∧ (w32 a2) < 60)) [(285, .iastore, 1, (0, 0, 0)), (286, .goto 25, 3, (0, 0, 0))] (by decide +kernel) (show jrun _ (285, [(11, a0), (0, a1), (0, a2)], [(0, v2), (0, a2), (32, ((s a0 2) + 4))], s2) = some ([(0 ≤ (w32 a2) ∧ (w32 a2) < 60)], (311, [(11, a0), (0, a1), (0, a2)], [], (jup s2 ((s a0 2) + 4) (w32 a2) v2))) from rfl) (fun h => h) H (fun H => ?_)
    exact AT.retvH (by decide +kernel) H
  rw [if_neg h1] at H
  by_cases h3 : (w32 a1) = 1
  · rw [if_pos h3] at H
    refine AT.sw (ins := .tableswitch 310 0 23 #[266, 310, 310, 310, 310, 310, 310, 310, 310, 310, 310, 310, 310, 111, 175, 175, 175, 199, 244, 310, 310, 310, 310, 288]) (n := 111) (v := 1) (t := 311) (by decide +kernel) h3 ?_
    exact AT.retvH (by decide +kernel) H
  rw [if_neg h3] at H
  by_cases h4 : (w32 a1) = 2
  · rw [if_pos h4] at H
    refine AT.sw (ins := .tableswitch 310 0 23 #[266, 310, 310, 310, 310, 310, 310, 310, 310, 310, 310, 310, 310, 111, 175, 175, 175, 199, 244, 310, 310, 310, 310, 288]) (n := 111) (v := 2) (t := 311) (by decide +kernel) h4 ?_
    exact AT.retvH (by decide +kernel) H
  rw [if_neg h4] at H
  by_cases h5 : (w32 a1) = 3
  · rw [if_pos h5] at H
    refine AT.sw (ins := .tableswitch 310 0 23 #[266, 310, 310, 310, 310, 310, 310, 310, 310, 310, 310, 310, 310, 111, 175, 175, 175, 199, 244, 310, 310, 310, 310, 288]) (n := 111) (v := 3) (t := 311) (by decide +kernel) h5 ?_
    exact AT.retvH (by decide +kernel) H
  rw [if_neg h5] at H
  by_cases h6 : (w32 a1) = 4
  · rw [if_pos h6] at H
    refine AT.sw (ins := .tableswitch 310 0 23 #[266, 310, 310, 310, 310, 310, 310, 310, 310, 310, 310, 310, 310, 111, 175, 175, 175, 199, 244, 310, 310, 310, 310, 288]) (n := 111) (v := 4) (t := 311) (by decide +kernel) h6 ?_
    exact AT.retvH (by decide +kernel) H
  rw [if_neg h6] at H
  by_cases h7 : (w32 a1) = 5
  · rw [if_pos h7] at H
    refine AT.sw (ins := .tableswitch 310 0 23 #[266, 310, 310, 310, 310, 310, 310, 310, 310, 310, 310, 310, 310, 111, 175, 175, 175, 199, 244, 310, 310, 310, 310, 288]) (n := 111) (v := 5) (t := 311) (by decide +kernel) h7 ?_
    exact AT.retvH (by decide +kernel) H
  rw [if_neg h7] at H
  by_cases h8 : (w32 a1) = 6
  · rw [if_pos h8] at H
    refine AT.sw (ins := .tableswitch 310 0 23 #[266, 310, 310, 310, 310, 310, 310, 310, 310, 310, 310, 310, 310, 111, 175, 175, 175, 199, 244, 310, 310, 310, 310, 288]) (n := 111) (v := 6) (t := 311) (by decide +kernel) h8 ?_
    exact AT.retvH (by decide +kernel) H
  rw [if_neg h8] at H
  by_cases h9 : (w32 a1) = 7
  · rw [if_pos h9] at H
    refine AT.sw (ins := .tableswitch 310 0 23 #[266, 310, 310, 310, 310, 310, 310, 310, 310, 310, 310, 310, 310, 111, 175, 175, 175, 199, 244, 310, 310, 310, 310, 288]) (n := 111) (v := 7) (t := 311) (by decide +kernel) h9 ?_
    exact AT.retvH (by decide +kernel) H
  rw [if_neg h9] at H
  by_cases h10 : (w32 a1) = 8
  · rw [if_pos h10] at H
    refine AT.sw (ins := .tableswitch 310 0 23 #[266, 310, 310, 310, 310, 310, 310, 310, 310, 310, 310, 310, 310, 111, 175, 175, 175, 199, 244, 310, 310, 310, 310, 288]) (n := 111) (v := 8) (t := 311) (by decide +kernel) h10 ?_
    exact AT.retvH (by decide +kernel) H
  rw [if_neg h10] at H
  by_cases h11 : (w32 a1) = 9
  · rw [if_pos h11] at H
    refine AT.sw (ins := .tableswitch 310 0 23 #[266, 310, 310, 310, 310, 310, 310, 310, 310, 310, 310, 310, 310, 111, 175, 175, 175, 199, 244, 310, 310, 310, 310, 288]) (n := 111) (v := 9) (t := 311) (by decide +kernel) h11 ?_
    exact AT.retvH (by decide +kernel) H
  rw [if_neg h11] at H
  by_cases h12 : (w32 a1) = 10
  · rw [if_pos h12] at H
    refine AT.sw (ins := .tableswitch 310 0 23 #[266, 310, 310, 310, 310, 310, 310, 310, 310, 310, 310, 310, 310, 111, 175, 175, 175, 199, 244, 310, 310, 310, 310, 288]) (n := 111) (v := 10) (t := 311) (by decide +kernel) h12 ?_
    exact AT.retvH (by decide +kernel) H
  rw [if_neg h12] at H
  by_cases h13 : (w32 a1) = 11
  · rw [if_pos h13] at H
    refine AT.sw (ins := .tableswitch 310 0 23 #[266, 310, 310, 310, 310, 310, 310, 310, 310, 310, 310, 310, 310, 111, 175, 175, 175, 199, 244, 310, 310, 310, 310, 288]) (n := 111) (v := 11) (t := 311) (by decide +kernel) h13 ?_
    exact AT.retvH (by decide +kernel) H
  rw [if_neg h13] at H
  by_cases h14 : (w32 a1) = 12
  · rw [if_pos h14] at H
    refine AT.sw (ins := .tableswitch 310 0 23 #[266, 310, 310, 310, 310, 310, 310, 310, 310, 310, 310, 310, 310, 111, 175, 175, 175, 199, 244, 310, 310, 310, 310, 288]) (n := 111) (v := 12) (t := 311) (by decide +kernel) h14 ?_
    exact AT.retvH (by decide +kernel) H
  rw [if_neg h14] at H
  by_cases h15 : (w32 a1) = 13
  · rw [if_pos h15] at H
    refine AT.sw (ins := .tableswitch 310 0 23 #[266, 310, 310, 310, 310, 310, 310, 310, 310, 310, 310, 310, 310, 111, 175, 175, 175, 199, 244, 310, 310, 310, 310, 288]) (n := 111) (v := 13) (t := 112) (by decide +kernel) h15 ?_
    refine AT.blk (g := jok 4 (s a0 2) = true ∧ jok 5 (s a0 0) = true ∧ jok 3 (s a0 1) = true) [(112, .aload_n 0, 1, (0, 0, 0)), (113, .getfield 23, 3, (2099, 702, 0)), (116, .getfield 91, 3, (1076, 404, 0)), (119, .iload_n 2, 1, (0, 0, 0)), (120, .aload_n 0, 1, (0, 0, 0)), (121, .getfield 15, 3, (2097, 700, 0)), (124, .aload_n 0, 1, (0, 0, 0)), (125, .getfield 19, 3, (2098, 701, 0)), (128, .iconst 2, 1, (0, 0, 0))] (by decide +kernel) (show jrun _ (112, [(11, a0), (0, a1), (0, a2)], [], s) = some ([jok 4 (s a0 2) = true, jok 5 (s a0 0) = true, jok 3 (s a0 1) = true], (129, [(11, a0), (0, a1), (0, a2)], [(0, 2), (7, (s a0 1)), (9, (s a0 0)), (0, a2), (32, ((s a0 2) + 2))], s)) from rfl) (fun h => ⟨h.1, h.2.1, h.2.2⟩) H (fun H => ?_)
    obtain ⟨v16, s16, h16, H⟩ := jb_some H
    refine AT.callV (As := [(7, (s a0 1)), (0, 2)]) (cl := 5) (b := (s a0 0)) (st := [(0, a2), (32, ((s a0 2) + 2))]) (i := 94) (pos := 4007) kTe_takeThing (by decide +kernel) rfl (by decide +kernel) rfl rfl (by omega) (Te_takeThing_ok h16) ?_
    show AT sFr_takeRest 3 (132, [(11, a0), (0, a1), (0, a2)], [(0, v16), (0, a2), (32, ((s a0 2) + 2))], s16) o
    refine AT.blk (g := (0 ≤ (w32 a2) ∧ (w32 a2) < 60) ∧ jok 4 ((jup s16 ((s a0 2) + 2) (w32 a2) v16) a0 2) = true ∧ jok 5 ((jup s16 ((s a0 2) + 2) (w32 a2) v16) a0 0) = true ∧ jok 3 ((jup s16 ((s a0 2) + 2) (w32 a2) v16) a0 1) = true) [(132, .iastore, 1, (0, 0, 0)), (133, .aload_n 0, 1, (0, 0, 0)), (134, .getfield 23, 3, (2099, 702, 0)), (137, .getfield 98, 3, (1079, 405, 0)), (140, .iload_n 2, 1, (0, 0, 0)), (141, .aload_n 0, 1, (0, 0, 0)), (142, .getfield 15, 3, (2097, 700, 0)), (145, .aload_n 0, 1, (0, 0, 0)), (146, .getfield 19, 3, (2098, 701, 0)), (149, .iconst 0, 1, (0, 0, 0))] (by decide +kernel) (show jrun _ (132, [(11, a0), (0, a1), (0, a2)], [(0, v16), (0, a2), (32, ((s a0 2) + 2))], s16) = some ([(0 ≤ (w32 a2) ∧ (w32 a2) < 60), jok 4 ((jup s16 ((s a0 2) + 2) (w32 a2) v16) a0 2) = true, jok 5 ((jup s16 ((s a0 2) + 2) (w32 a2) v16) a0 0) = true, jok 3 ((jup s16 ((s a0 2) + 2) (w32 a2) v16) a0 1) = true], (150, [(11, a0), (0, a1), (0, a2)], [(0, 0), (7, ((jup s16 ((s a0 2) + 2) (w32 a2) v16) a0 1)), (9, ((jup s16 ((s a0 2) + 2) (w32 a2) v16) a0 0)), (0, a2), (32, (((jup s16 ((s a0 2) + 2) (w32 a2) v16) a0 2) + 3))], (jup s16 ((s a0 2) + 2) (w32 a2) v16))) from rfl) (fun h => ⟨h.1, h.2.1, h.2.2.1, h.2.2.2⟩) H (fun H => ?_)
    obtain ⟨v17, s17, h17, H⟩ := jb_some H
    refine AT.callV (As := [(7, ((jup s16 ((s a0 2) + 2) (w32 a2) v16) a0 1)), (0, 0)]) (cl := 5) (b := ((jup s16 ((s a0 2) + 2) (w32 a2) v16) a0 0)) (st := [(0, a2), (32, (((jup s16 ((s a0 2) + 2) (w32 a2) v16) a0 2) + 3))]) (i := 94) (pos := 4007) kTe_takeThing (by decide +kernel) rfl (by decide +kernel) rfl rfl (by omega) (Te_takeThing_ok h17) ?_
    show AT sFr_takeRest 3 (153, [(11, a0), (0, a1), (0, a2)], [(0, v17), (0, a2), (32, (((jup s16 ((s a0 2) + 2) (w32 a2) v16) a0 2) + 3))], s17) o
    refine AT.blk (g := (0 ≤ (w32 a2) ∧ (w32 a2) < 60) ∧ jok 4 ((jup s17 (((jup s16 ((s a0 2) + 2) (w32 a2) v16) a0 2) + 3) (w32 a2) v17) a0 2) = true ∧ jok 5 ((jup s17 (((jup s16 ((s a0 2) + 2) (w32 a2) v16) a0 2) + 3) (w32 a2) v17) a0 0) = true) [(153, .iastore, 1, (0, 0, 0)), (154, .aload_n 0, 1, (0, 0, 0)), (155, .getfield 23, 3, (2099, 702, 0)), (158, .getfield 101, 3, (1082, 406, 0)), (161, .iload_n 2, 1, (0, 0, 0)), (162, .aload_n 0, 1, (0, 0, 0)), (163, .getfield 15, 3, (2097, 700, 0)), (166, .iconst 1, 1, (0, 0, 0)), (167, .bipush 9, 2, (0, 0, 0))] (by decide +kernel) (show jrun _ (153, [(11, a0), (0, a1), (0, a2)], [(0, v17), (0, a2), (32, (((jup s16 ((s a0 2) + 2) (w32 a2) v16) a0 2) + 3))], s17) = some ([(0 ≤ (w32 a2) ∧ (w32 a2) < 60), jok 4 ((jup s17 (((jup s16 ((s a0 2) + 2) (w32 a2) v16) a0 2) + 3) (w32 a2) v17) a0 2) = true, jok 5 ((jup s17 (((jup s16 ((s a0 2) + 2) (w32 a2) v16) a0 2) + 3) (w32 a2) v17) a0 0) = true], (169, [(11, a0), (0, a1), (0, a2)], [(0, 9), (0, 1), (9, ((jup s17 (((jup s16 ((s a0 2) + 2) (w32 a2) v16) a0 2) + 3) (w32 a2) v17) a0 0)), (0, a2), (32, (((jup s17 (((jup s16 ((s a0 2) + 2) (w32 a2) v16) a0 2) + 3) (w32 a2) v17) a0 2) + 4))], (jup s17 (((jup s16 ((s a0 2) + 2) (w32 a2) v16) a0 2) + 3) (w32 a2) v17))) from rfl) (fun h => ⟨h.1, h.2.1, h.2.2⟩) H (fun H => ?_)
    obtain ⟨v18, s18, h18, H⟩ := jb_some H
    refine AT.callV (As := [(0, 1), (0, 9)]) (cl := 5) (b := ((jup s17 (((jup s16 ((s a0 2) + 2) (w32 a2) v16) a0 2) + 3) (w32 a2) v17) a0 0)) (st := [(0, a2), (32, (((jup s17 (((jup s16 ((s a0 2) + 2) (w32 a2) v16) a0 2) + 3) (w32 a2) v17) a0 2) + 4))]) (i := 104) (pos := 4012) kTe_takeNumber (by decide +kernel) rfl (by decide +kernel) rfl rfl (by omega) (Te_takeNumber_ok h18) ?_
    show AT sFr_takeRest 3 (172, [(11, a0), (0, a1), (0, a2)], [(0, v18), (0, a2), (32, (((jup s17 (((jup s16 ((s a0 2) + 2) (w32 a2) v16) a0 2) + 3) (w32 a2) v17) a0 2) + 4))], s18) o
    refine AT.blk (g := (0 ≤ (w32 a2) ∧ (w32 a2) < 60)) [(172, .iastore, 1, (0, 0, 0)), (173, .goto 138, 3, (0, 0, 0))] (by decide +kernel) (show jrun _ (172, [(11, a0), (0, a1), (0, a2)], [(0, v18), (0, a2), (32, (((jup s17 (((jup s16 ((s a0 2) + 2) (w32 a2) v16) a0 2) + 3) (w32 a2) v17) a0 2) + 4))], s18) = some ([(0 ≤ (w32 a2) ∧ (w32 a2) < 60)], (311, [(11, a0), (0, a1), (0, a2)], [], (jup s18 (((jup s17 (((jup s16 ((s a0 2) + 2) (w32 a2) v16) a0 2) + 3) (w32 a2) v17) a0 2) + 4) (w32 a2) v18))) from rfl) (fun h => h) H (fun H => ?_)
    exact AT.retvH (by decide +kernel) H
  rw [if_neg h15] at H
  by_cases h19 : (w32 a1) = 14
  · rw [if_pos h19] at H
    refine AT.sw (ins := .tableswitch 310 0 23 #[266, 310, 310, 310, 310, 310, 310, 310, 310, 310, 310, 310, 310, 111, 175, 175, 175, 199, 244, 310, 310, 310, 310, 288]) (n := 111) (v := 14) (t := 176) (by decide +kernel) h19 ?_
    refine AT.blk (g := jok 4 (s a0 2) = true ∧ jok 5 (s a0 0) = true ∧ jok 3 (s a0 1) = true) [(176, .aload_n 0, 1, (0, 0, 0)), (177, .getfield 23, 3, (2099, 702, 0)), (180, .getfield 91, 3, (1076, 404, 0)), (183, .iload_n 2, 1, (0, 0, 0)), (184, .aload_n 0, 1, (0, 0, 0)), (185, .getfield 15, 3, (2097, 700, 0)), (188, .aload_n 0, 1, (0, 0, 0)), (189, .getfield 19, 3, (2098, 701, 0)), (192, .iconst 2, 1, (0, 0, 0))] (by decide +kernel) (show jrun _ (176, [(11, a0), (0, a1), (0, a2)], [], s) = some ([jok 4 (s a0 2) = true, jok 5 (s a0 0) = true, jok 3 (s a0 1) = true], (193, [(11, a0), (0, a1), (0, a2)], [(0, 2), (7, (s a0 1)), (9, (s a0 0)), (0, a2), (32, ((s a0 2) + 2))], s)) from rfl) (fun h => ⟨h.1, h.2.1, h.2.2⟩) H (fun H => ?_)
    obtain ⟨v20, s20, h20, H⟩ := jb_some H
    refine AT.callV (As := [(7, (s a0 1)), (0, 2)]) (cl := 5) (b := (s a0 0)) (st := [(0, a2), (32, ((s a0 2) + 2))]) (i := 94) (pos := 4007) kTe_takeThing (by decide +kernel) rfl (by decide +kernel) rfl rfl (by omega) (Te_takeThing_ok h20) ?_
    show AT sFr_takeRest 3 (196, [(11, a0), (0, a1), (0, a2)], [(0, v20), (0, a2), (32, ((s a0 2) + 2))], s20) o
    refine AT.blk (g := (0 ≤ (w32 a2) ∧ (w32 a2) < 60)) [(196, .iastore, 1, (0, 0, 0)), (197, .goto 114, 3, (0, 0, 0))] (by decide +kernel) (show jrun _ (196, [(11, a0), (0, a1), (0, a2)], [(0, v20), (0, a2), (32, ((s a0 2) + 2))], s20) = some ([(0 ≤ (w32 a2) ∧ (w32 a2) < 60)], (311, [(11, a0), (0, a1), (0, a2)], [], (jup s20 ((s a0 2) + 2) (w32 a2) v20))) from rfl) (fun h => h) H (fun H => ?_)
    exact AT.retvH (by decide +kernel) H
  rw [if_neg h19] at H
  by_cases h21 : (w32 a1) = 15
  · rw [if_pos h21] at H
    refine AT.sw (ins := .tableswitch 310 0 23 #[266, 310, 310, 310, 310, 310, 310, 310, 310, 310, 310, 310, 310, 111, 175, 175, 175, 199, 244, 310, 310, 310, 310, 288]) (n := 111) (v := 15) (t := 176) (by decide +kernel) h21 ?_
    refine AT.blk (g := jok 4 (s a0 2) = true ∧ jok 5 (s a0 0) = true ∧ jok 3 (s a0 1) = true) [(176, .aload_n 0, 1, (0, 0, 0)), (177, .getfield 23, 3, (2099, 702, 0)), (180, .getfield 91, 3, (1076, 404, 0)), (183, .iload_n 2, 1, (0, 0, 0)), (184, .aload_n 0, 1, (0, 0, 0)), (185, .getfield 15, 3, (2097, 700, 0)), (188, .aload_n 0, 1, (0, 0, 0)), (189, .getfield 19, 3, (2098, 701, 0)), (192, .iconst 2, 1, (0, 0, 0))] (by decide +kernel) (show jrun _ (176, [(11, a0), (0, a1), (0, a2)], [], s) = some ([jok 4 (s a0 2) = true, jok 5 (s a0 0) = true, jok 3 (s a0 1) = true], (193, [(11, a0), (0, a1), (0, a2)], [(0, 2), (7, (s a0 1)), (9, (s a0 0)), (0, a2), (32, ((s a0 2) + 2))], s)) from rfl) (fun h => ⟨h.1, h.2.1, h.2.2⟩) H (fun H => ?_)
    obtain ⟨v22, s22, h22, H⟩ := jb_some H
    refine AT.callV (As := [(7, (s a0 1)), (0, 2)]) (cl := 5) (b := (s a0 0)) (st := [(0, a2), (32, ((s a0 2) + 2))]) (i := 94) (pos := 4007) kTe_takeThing (by decide +kernel) rfl (by decide +kernel) rfl rfl (by omega) (Te_takeThing_ok h22) ?_
    show AT sFr_takeRest 3 (196, [(11, a0), (0, a1), (0, a2)], [(0, v22), (0, a2), (32, ((s a0 2) + 2))], s22) o
    refine AT.blk (g := (0 ≤ (w32 a2) ∧ (w32 a2) < 60)) [(196, .iastore, 1, (0, 0, 0)), (197, .goto 114, 3, (0, 0, 0))] (by decide +kernel) (show jrun _ (196, [(11, a0), (0, a1), (0, a2)], [(0, v22), (0, a2), (32, ((s a0 2) + 2))], s22) = some ([(0 ≤ (w32 a2) ∧ (w32 a2) < 60)], (311, [(11, a0), (0, a1), (0, a2)], [], (jup s22 ((s a0 2) + 2) (w32 a2) v22))) from rfl) (fun h => h) H (fun H => ?_)
    exact AT.retvH (by decide +kernel) H
  rw [if_neg h21] at H
  by_cases h23 : (w32 a1) = 16
  · rw [if_pos h23] at H
    refine AT.sw (ins := .tableswitch 310 0 23 #[266, 310, 310, 310, 310, 310, 310, 310, 310, 310, 310, 310, 310, 111, 175, 175, 175, 199, 244, 310, 310, 310, 310, 288]) (n := 111) (v := 16) (t := 176) (by decide +kernel) h23 ?_
    refine AT.blk (g := jok 4 (s a0 2) = true ∧ jok 5 (s a0 0) = true ∧ jok 3 (s a0 1) = true) [(176, .aload_n 0, 1, (0, 0, 0)), (177, .getfield 23, 3, (2099, 702, 0)), (180, .getfield 91, 3, (1076, 404, 0)), (183, .iload_n 2, 1, (0, 0, 0)), (184, .aload_n 0, 1, (0, 0, 0)), (185, .getfield 15, 3, (2097, 700, 0)), (188, .aload_n 0, 1, (0, 0, 0)), (189, .getfield 19, 3, (2098, 701, 0)), (192, .iconst 2, 1, (0, 0, 0))] (by decide +kernel) (show jrun _ (176, [(11, a0), (0, a1), (0, a2)], [], s) = some ([jok 4 (s a0 2) = true, jok 5 (s a0 0) = true, jok 3 (s a0 1) = true], (193, [(11, a0), (0, a1), (0, a2)], [(0, 2), (7, (s a0 1)), (9, (s a0 0)), (0, a2), (32, ((s a0 2) + 2))], s)) from rfl) (fun h => ⟨h.1, h.2.1, h.2.2⟩) H (fun H => ?_)
    obtain ⟨v24, s24, h24, H⟩ := jb_some H
    refine AT.callV (As := [(7, (s a0 1)), (0, 2)]) (cl := 5) (b := (s a0 0)) (st := [(0, a2), (32, ((s a0 2) + 2))]) (i := 94) (pos := 4007) kTe_takeThing (by decide +kernel) rfl (by decide +kernel) rfl rfl (by omega) (Te_takeThing_ok h24) ?_
    show AT sFr_takeRest 3 (196, [(11, a0), (0, a1), (0, a2)], [(0, v24), (0, a2), (32, ((s a0 2) + 2))], s24) o
    refine AT.blk (g := (0 ≤ (w32 a2) ∧ (w32 a2) < 60)) [(196, .iastore, 1, (0, 0, 0)), (197, .goto 114, 3, (0, 0, 0))] (by decide +kernel) (show jrun _ (196, [(11, a0), (0, a1), (0, a2)], [(0, v24), (0, a2), (32, ((s a0 2) + 2))], s24) = some ([(0 ≤ (w32 a2) ∧ (w32 a2) < 60)], (311, [(11, a0), (0, a1), (0, a2)], [], (jup s24 ((s a0 2) + 2) (w32 a2) v24))) from rfl) (fun h => h) H (fun H => ?_)
    exact AT.retvH (by decide +kernel) H
  rw [if_neg h23] at H
  by_cases h25 : (w32 a1) = 17
  · rw [if_pos h25] at H
    refine AT.sw (ins := .tableswitch 310 0 23 #[266, 310, 310, 310, 310, 310, 310, 310, 310, 310, 310, 310, 310, 111, 175, 175, 175, 199, 244, 310, 310, 310, 310, 288]) (n := 111) (v := 17) (t := 200) (by decide +kernel) h25 ?_
    refine AT.blk (g := jok 4 (s a0 2) = true ∧ jok 5 (s a0 0) = true ∧ jok 3 (s a0 1) = true) [(200, .aload_n 0, 1, (0, 0, 0)), (201, .getfield 23, 3, (2099, 702, 0)), (204, .getfield 91, 3, (1076, 404, 0)), (207, .iload_n 2, 1, (0, 0, 0)), (208, .aload_n 0, 1, (0, 0, 0)), (209, .getfield 15, 3, (2097, 700, 0)), (212, .aload_n 0, 1, (0, 0, 0)), (213, .getfield 19, 3, (2098, 701, 0)), (216, .iconst 2, 1, (0, 0, 0))] (by decide +kernel) (show jrun _ (200, [(11, a0), (0, a1), (0, a2)], [], s) = some ([jok 4 (s a0 2) = true, jok 5 (s a0 0) = true, jok 3 (s a0 1) = true], (217, [(11, a0), (0, a1), (0, a2)], [(0, 2), (7, (s a0 1)), (9, (s a0 0)), (0, a2), (32, ((s a0 2) + 2))], s)) from rfl) (fun h => ⟨h.1, h.2.1, h.2.2⟩) H (fun H => ?_)
    obtain ⟨v26, s26, h26, H⟩ := jb_some H
    refine AT.callV (As := [(7, (s a0 1)), (0, 2)]) (cl := 5) (b := (s a0 0)) (st := [(0, a2), (32, ((s a0 2) + 2))]) (i := 94) (pos := 4007) kTe_takeThing (by decide +kernel) rfl (by decide +kernel) rfl rfl (by omega) (Te_takeThing_ok h26) ?_
    show AT sFr_takeRest 3 (220, [(11, a0), (0, a1), (0, a2)], [(0, v26), (0, a2), (32, ((s a0 2) + 2))], s26) o
    refine AT.blk (g := (0 ≤ (w32 a2) ∧ (w32 a2) < 60) ∧ jok 4 ((jup s26 ((s a0 2) + 2) (w32 a2) v26) a0 2) = true ∧ jok 5 ((jup s26 ((s a0 2) + 2) (w32 a2) v26) a0 0) = true ∧ jok 3 ((jup s26 ((s a0 2) + 2) (w32 a2) v26) a0 1) = true) [(220, .iastore, 1, (0, 0, 0)), (221, .aload_n 0, 1, (0, 0, 0)), (222, .getfield 23, 3, (2099, 702, 0)), (225, .getfield 98, 3, (1079, 405, 0)), (228, .iload_n 2, 1, (0, 0, 0)), (229, .aload_n 0, 1, (0, 0, 0)), (230, .getfield 15, 3, (2097, 700, 0)), (233, .aload_n 0, 1, (0, 0, 0)), (234, .getfield 19, 3, (2098, 701, 0)), (237, .iconst 1, 1, (0, 0, 0))] (by decide +kernel) (show jrun _ (220, [(11, a0), (0, a1), (0, a2)], [(0, v26), (0, a2), (32, ((s a0 2) + 2))], s26) = some ([(0 ≤ (w32 a2) ∧ (w32 a2) < 60), jok 4 ((jup s26 ((s a0 2) + 2) (w32 a2) v26) a0 2) = true, jok 5 ((jup s26 ((s a0 2) + 2) (w32 a2) v26) a0 0) = true, jok 3 ((jup s26 ((s a0 2) + 2) (w32 a2) v26) a0 1) = true], (238, [(11, a0), (0, a1), (0, a2)], [(0, 1), (7, ((jup s26 ((s a0 2) + 2) (w32 a2) v26) a0 1)), (9, ((jup s26 ((s a0 2) + 2) (w32 a2) v26) a0 0)), (0, a2), (32, (((jup s26 ((s a0 2) + 2) (w32 a2) v26) a0 2) + 3))], (jup s26 ((s a0 2) + 2) (w32 a2) v26))) from rfl) (fun h => ⟨h.1, h.2.1, h.2.2.1, h.2.2.2⟩) H (fun H => ?_)
    obtain ⟨v27, s27, h27, H⟩ := jb_some H
    refine AT.callV (As := [(7, ((jup s26 ((s a0 2) + 2) (w32 a2) v26) a0 1)), (0, 1)]) (cl := 5) (b := ((jup s26 ((s a0 2) + 2) (w32 a2) v26) a0 0)) (st := [(0, a2), (32, (((jup s26 ((s a0 2) + 2) (w32 a2) v26) a0 2) + 3))]) (i := 94) (pos := 4007) kTe_takeThing (by decide +kernel) rfl (by decide +kernel) rfl rfl (by omega) (Te_takeThing_ok h27) ?_
    show AT sFr_takeRest 3 (241, [(11, a0), (0, a1), (0, a2)], [(0, v27), (0, a2), (32, (((jup s26 ((s a0 2) + 2) (w32 a2) v26) a0 2) + 3))], s27) o
    refine AT.blk (g := (0 ≤ (w32 a2) ∧ (w32 a2) < 60)) [(241, .iastore, 1, (0, 0, 0)), (242, .goto 69, 3, (0, 0, 0))] (by decide +kernel) (show jrun _ (241, [(11, a0), (0, a1), (0, a2)], [(0, v27), (0, a2), (32, (((jup s26 ((s a0 2) + 2) (w32 a2) v26) a0 2) + 3))], s27) = some ([(0 ≤ (w32 a2) ∧ (w32 a2) < 60)], (311, [(11, a0), (0, a1), (0, a2)], [], (jup s27 (((jup s26 ((s a0 2) + 2) (w32 a2) v26) a0 2) + 3) (w32 a2) v27))) from rfl) (fun h => h) H (fun H => ?_)
    exact AT.retvH (by decide +kernel) H
  rw [if_neg h25] at H
  by_cases h28 : (w32 a1) = 18
  · rw [if_pos h28] at H
    refine AT.sw (ins := .tableswitch 310 0 23 #[266, 310, 310, 310, 310, 310, 310, 310, 310, 310, 310, 310, 310, 111, 175, 175, 175, 199, 244, 310, 310, 310, 310, 288]) (n := 111) (v := 18) (t := 245) (by decide +kernel) h28 ?_
    refine AT.blk (g := jok 4 (s a0 2) = true ∧ jok 5 (s a0 0) = true) [(245, .aload_n 0, 1, (0, 0, 0)), (246, .getfield 23, 3, (2099, 702, 0)), (249, .getfield 101, 3, (1082, 406, 0)), (252, .iload_n 2, 1, (0, 0, 0)), (253, .aload_n 0, 1, (0, 0, 0)), (254, .getfield 15, 3, (2097, 700, 0)), (257, .iconst 1, 1, (0, 0, 0)), (258, .bipush 60, 2, (0, 0, 0))] (by decide +kernel) (show jrun _ (245, [(11, a0), (0, a1), (0, a2)], [], s) = some ([jok 4 (s a0 2) = true, jok 5 (s a0 0) = true], (260, [(11, a0), (0, a1), (0, a2)], [(0, 60), (0, 1), (9, (s a0 0)), (0, a2), (32, ((s a0 2) + 4))], s)) from rfl) (fun h => ⟨h.1, h.2⟩) H (fun H => ?_)
    obtain ⟨v29, s29, h29, H⟩ := jb_some H
    refine AT.callV (As := [(0, 1), (0, 60)]) (cl := 5) (b := (s a0 0)) (st := [(0, a2), (32, ((s a0 2) + 4))]) (i := 104) (pos := 4012) kTe_takeNumber (by decide +kernel) rfl (by decide +kernel) rfl rfl (by omega) (Te_takeNumber_ok h29) ?_
    show AT sFr_takeRest 3 (263, [(11, a0), (0, a1), (0, a2)], [(0, v29), (0, a2), (32, ((s a0 2) + 4))], s29) o
    refine AT.blk (g := (0 ≤ (w32 a2) ∧ (w32 a2) < 60)) [(263, .iastore, 1, (0, 0, 0)), (264, .goto 47, 3, (0, 0, 0))] (by decide +kernel) (show jrun _ (263, [(11, a0), (0, a1), (0, a2)], [(0, v29), (0, a2), (32, ((s a0 2) + 4))], s29) = some ([(0 ≤ (w32 a2) ∧ (w32 a2) < 60)], (311, [(11, a0), (0, a1), (0, a2)], [], (jup s29 ((s a0 2) + 4) (w32 a2) v29))) from rfl) (fun h => h) H (fun H => ?_)
    exact AT.retvH (by decide +kernel) H
  rw [if_neg h28] at H
  by_cases h30 : (w32 a1) = 19
  · rw [if_pos h30] at H
    refine AT.sw (ins := .tableswitch 310 0 23 #[266, 310, 310, 310, 310, 310, 310, 310, 310, 310, 310, 310, 310, 111, 175, 175, 175, 199, 244, 310, 310, 310, 310, 288]) (n := 111) (v := 19) (t := 311) (by decide +kernel) h30 ?_
    exact AT.retvH (by decide +kernel) H
  rw [if_neg h30] at H
  by_cases h31 : (w32 a1) = 20
  · rw [if_pos h31] at H
    refine AT.sw (ins := .tableswitch 310 0 23 #[266, 310, 310, 310, 310, 310, 310, 310, 310, 310, 310, 310, 310, 111, 175, 175, 175, 199, 244, 310, 310, 310, 310, 288]) (n := 111) (v := 20) (t := 311) (by decide +kernel) h31 ?_
    exact AT.retvH (by decide +kernel) H
  rw [if_neg h31] at H
  by_cases h32 : (w32 a1) = 21
  · rw [if_pos h32] at H
    refine AT.sw (ins := .tableswitch 310 0 23 #[266, 310, 310, 310, 310, 310, 310, 310, 310, 310, 310, 310, 310, 111, 175, 175, 175, 199, 244, 310, 310, 310, 310, 288]) (n := 111) (v := 21) (t := 311) (by decide +kernel) h32 ?_
    exact AT.retvH (by decide +kernel) H
  rw [if_neg h32] at H
  by_cases h33 : (w32 a1) = 22
  · rw [if_pos h33] at H
    refine AT.sw (ins := .tableswitch 310 0 23 #[266, 310, 310, 310, 310, 310, 310, 310, 310, 310, 310, 310, 310, 111, 175, 175, 175, 199, 244, 310, 310, 310, 310, 288]) (n := 111) (v := 22) (t := 311) (by decide +kernel) h33 ?_
    exact AT.retvH (by decide +kernel) H
  rw [if_neg h33] at H
  by_cases h34 : (w32 a1) = 23
  · rw [if_pos h34] at H
    refine AT.sw (ins := .tableswitch 310 0 23 #[266, 310, 310, 310, 310, 310, 310, 310, 310, 310, 310, 310, 310, 111, 175, 175, 175, 199, 244, 310, 310, 310, 310, 288]) (n := 111) (v := 23) (t := 289) (by decide +kernel) h34 ?_
    refine AT.blk (g := jok 4 (s a0 2) = true ∧ jok 5 (s a0 0) = true) [(289, .aload_n 0, 1, (0, 0, 0)), (290, .getfield 23, 3, (2099, 702, 0)), (293, .getfield 101, 3, (1082, 406, 0)), (296, .iload_n 2, 1, (0, 0, 0)), (297, .aload_n 0, 1, (0, 0, 0)), (298, .getfield 15, 3, (2097, 700, 0)), (301, .iconst 1, 1, (0, 0, 0)), (302, .bipush 99, 2, (0, 0, 0))] (by decide +kernel) (show jrun _ (289, [(11, a0), (0, a1), (0, a2)], [], s) = some ([jok 4 (s a0 2) = true, jok 5 (s a0 0) = true], (304, [(11, a0), (0, a1), (0, a2)], [(0, 99), (0, 1), (9, (s a0 0)), (0, a2), (32, ((s a0 2) + 4))], s)) from rfl) (fun h => ⟨h.1, h.2⟩) H (fun H => ?_)
    obtain ⟨v35, s35, h35, H⟩ := jb_some H
    refine AT.callV (As := [(0, 1), (0, 99)]) (cl := 5) (b := (s a0 0)) (st := [(0, a2), (32, ((s a0 2) + 4))]) (i := 104) (pos := 4012) kTe_takeNumber (by decide +kernel) rfl (by decide +kernel) rfl rfl (by omega) (Te_takeNumber_ok h35) ?_
    show AT sFr_takeRest 3 (307, [(11, a0), (0, a1), (0, a2)], [(0, v35), (0, a2), (32, ((s a0 2) + 4))], s35) o
    refine AT.blk (g := (0 ≤ (w32 a2) ∧ (w32 a2) < 60)) [(307, .iastore, 1, (0, 0, 0)), (308, .goto 3, 3, (0, 0, 0))] (by decide +kernel) (show jrun _ (307, [(11, a0), (0, a1), (0, a2)], [(0, v35), (0, a2), (32, ((s a0 2) + 4))], s35) = some ([(0 ≤ (w32 a2) ∧ (w32 a2) < 60)], (311, [(11, a0), (0, a1), (0, a2)], [], (jup s35 ((s a0 2) + 4) (w32 a2) v35))) from rfl) (fun h => h) H (fun H => ?_)
    exact AT.retvH (by decide +kernel) H
  rw [if_neg h34] at H
  refine AT.swd (df := 310) (lo := 0) (hi := 23) (offs := #[266, 310, 310, 310, 310, 310, 310, 310, 310, 310, 310, 310, 310, 111, 175, 175, 175, 199, 244, 310, 310, 310, 310, 288]) (n := 111) (t := 311) (by decide +kernel) (by omega) ?_
  exact AT.retvH (by decide +kernel) H
def sFr_takeStep : jS := (⟨"JellyCathedral$FeastsReader", "takeStep", "(II)V"⟩, prog_3_method_4_code, 4, 0, [11, 0, 0], 0)
theorem kFr_takeStep : jmk sFr_takeStep = true := jmk_of 3239 1008 3238 17 (by decide +kernel)
theorem Fr_takeStep_114_ok {o : Int × jM} {x0 x1 x2 : Int} {s : jM} (H : Fr_takeStep_114  x0 x1 x2 s = some o) : AT sFr_takeStep 4 (114, [(11, x0), (0, x1), (0, x2), (99, 0)], [], s) o := by
  unfold Fr_takeStep_114 at H
  refine AT.blk (g := jok 4 (s x0 2) = true ∧ (0 ≤ (w32 x2) ∧ (w32 x2) < 60) ∧ jok 4 ((jup s ((s x0 2) + 1) (w32 x2) x1) x0 2) = true) [(114, .aload_n 0, 1, (0, 0, 0)), (115, .getfield 23, 3, (2099, 702, 0)), (118, .getfield 69, 3, (1073, 403, 0)), (121, .iload_n 2, 1, (0, 0, 0)), (122, .iload_n 1, 1, (0, 0, 0)), (123, .iastore, 1, (0, 0, 0)), (124, .aload_n 0, 1, (0, 0, 0)), (125, .getfield 23, 3, (2099, 702, 0)), (128, .dup, 1, (0, 0, 0)), (129, .getfield 82, 3, (1066, 401, 0)), (132, .iconst 1, 1, (0, 0, 0)), (133, .iadd, 1, (0, 0, 0)), (134, .putfield 82, 3, (1066, 401, 0)), (137, .aload_n 0, 1, (0, 0, 0))] (by decide +kernel) (show jrun _ (114, [(11, x0), (0, x1), (0, x2), (99, 0)], [], s) = some ([jok 4 (s x0 2) = true, (0 ≤ (w32 x2) ∧ (w32 x2) < 60), jok 4 ((jup s ((s x0 2) + 1) (w32 x2) x1) x0 2) = true], (138, [(11, x0), (0, x1), (0, x2), (99, 0)], [(11, x0)], (jup (jup s ((s x0 2) + 1) (w32 x2) x1) ((jup s ((s x0 2) + 1) (w32 x2) x1) x0 2) 1 (((jup s ((s x0 2) + 1) (w32 x2) x1) ((jup s ((s x0 2) + 1) (w32 x2) x1) x0 2) 1) + 1)))) from rfl) (fun h => ⟨h.1, h.2.1, h.2.2⟩) H (fun H => ?_)
  obtain ⟨s1, e1, H⟩ := jm_some H
  rw [← e1]
  refine AT.blk (g := jok 4 (s1 x0 2) = true ∧ jok 5 ((jup s1 (s1 x0 2) 2 ((s1 (s1 x0 2) 2) + 1)) x0 0) = true) [(138, .getfield 23, 3, (2099, 702, 0)), (141, .dup, 1, (0, 0, 0)), (142, .getfield 52, 3, (1070, 402, 0)), (145, .iconst 1, 1, (0, 0, 0)), (146, .iadd, 1, (0, 0, 0)), (147, .putfield 52, 3, (1070, 402, 0)), (150, .aload_n 0, 1, (0, 0, 0)), (151, .getfield 15, 3, (2097, 700, 0))] (by decide +kernel) (show jrun _ (138, [(11, x0), (0, x1), (0, x2), (99, 0)], [(11, x0)], s1) = some ([jok 4 (s1 x0 2) = true, jok 5 ((jup s1 (s1 x0 2) 2 ((s1 (s1 x0 2) 2) + 1)) x0 0) = true], (154, [(11, x0), (0, x1), (0, x2), (99, 0)], [(9, ((jup s1 (s1 x0 2) 2 ((s1 (s1 x0 2) 2) + 1)) x0 0))], (jup s1 (s1 x0 2) 2 ((s1 (s1 x0 2) 2) + 1)))) from rfl) (fun h => ⟨h.1, h.2⟩) H (fun H => ?_)
  obtain ⟨v2, s2, h2, H⟩ := jb_some H
  refine AT.callV (As := []) (cl := 5) (b := ((jup s1 (s1 x0 2) 2 ((s1 (s1 x0 2) 2) + 1)) x0 0)) (st := []) (i := 72) (pos := 3234) kTe_advance (by decide +kernel) rfl (by decide +kernel) rfl rfl (by omega) (Te_advance_ok h2) ?_
  show AT sFr_takeStep 4 (157, [(11, x0), (0, x1), (0, x2), (99, 0)], [], s2) o
  refine AT.seq [(157, .iload_n 1, 1, (0, 0, 0)), (158, .bipush 20, 2, (0, 0, 0))] (by decide +kernel) (show jrun _ (157, [(11, x0), (0, x1), (0, x2), (99, 0)], [], s2) = some ([], (160, [(11, x0), (0, x1), (0, x2), (99, 0)], [(0, 20), (0, x1)], s2)) from rfl) ?_
  refine AT.ite (x := (0, 0, 0)) (by decide +kernel) (show jbr (.if_icmp .ne 18) (160, [(11, x0), (0, x1), (0, x2), (99, 0)], [(0, 20), (0, x1)], s2) = some ((w32 x1) = 20, (163, [(11, x0), (0, x1), (0, x2), (99, 0)], [], s2), (178, [(11, x0), (0, x1), (0, x2), (99, 0)], [], s2)) from rfl) H (fun H => ?_) (fun H => ?_)
  · refine AT.blk (g := jok 5 (s2 x0 0) = true) [(163, .aload_n 0, 1, (0, 0, 0)), (164, .aload_n 0, 1, (0, 0, 0)), (165, .getfield 15, 3, (2097, 700, 0)), (168, .getfield 49, 3, (2037, 505, 0)), (171, .iload_n 2, 1, (0, 0, 0))] (by decide +kernel) (show jrun _ (163, [(11, x0), (0, x1), (0, x2), (99, 0)], [], s2) = some ([jok 5 (s2 x0 0) = true], (172, [(11, x0), (0, x1), (0, x2), (99, 0)], [(0, x2), (0, (s2 (s2 x0 0) 5)), (11, x0)], s2)) from rfl) (fun h => h) H (fun H => ?_)
    obtain ⟨v3, s3, h3, H⟩ := jb_some H
    refine AT.callV (As := [(0, (s2 (s2 x0 0) 5)), (0, x2)]) (cl := 7) (b := x0) (st := []) (i := 85) (pos := 4003) kFr_takeTest (by decide +kernel) rfl (by decide +kernel) rfl rfl (by omega) (Fr_takeTest_ok h3) ?_
    show AT sFr_takeStep 4 (175, [(11, x0), (0, x1), (0, x2), (99, 0)], [], s3) o
    refine AT.blk (g := jok 5 (s3 x0 0) = true) [(175, .goto 9, 3, (0, 0, 0)), (184, .aload_n 0, 1, (0, 0, 0)), (185, .getfield 15, 3, (2097, 700, 0))] (by decide +kernel) (show jrun _ (175, [(11, x0), (0, x1), (0, x2), (99, 0)], [], s3) = some ([jok 5 (s3 x0 0) = true], (188, [(11, x0), (0, x1), (0, x2), (99, 0)], [(9, (s3 x0 0))], s3)) from rfl) (fun h => h) H (fun H => ?_)
    obtain ⟨v4, s4, h4, H⟩ := jb_some H
    refine AT.callV (As := []) (cl := 5) (b := (s3 x0 0)) (st := []) (i := 75) (pos := 3235) kTe_takeStop (by decide +kernel) rfl (by decide +kernel) rfl rfl (by omega) (Te_takeStop_ok h4) ?_
    show AT sFr_takeStep 4 (191, [(11, x0), (0, x1), (0, x2), (99, 0)], [], s4) o
    exact AT.retvH (by decide +kernel) H
  · refine AT.seq [(178, .aload_n 0, 1, (0, 0, 0)), (179, .iload_n 1, 1, (0, 0, 0)), (180, .iload_n 2, 1, (0, 0, 0))] (by decide +kernel) (show jrun _ (178, [(11, x0), (0, x1), (0, x2), (99, 0)], [], s2) = some ([], (181, [(11, x0), (0, x1), (0, x2), (99, 0)], [(0, x2), (0, x1), (11, x0)], s2)) from rfl) ?_
    obtain ⟨v5, s5, h5, H⟩ := jb_some H
    refine AT.callV (As := [(0, x1), (0, x2)]) (cl := 7) (b := x0) (st := []) (i := 88) (pos := 4013) kFr_takeRest (by decide +kernel) rfl (by decide +kernel) rfl rfl (by omega) (Fr_takeRest_ok h5) ?_
    show AT sFr_takeStep 4 (184, [(11, x0), (0, x1), (0, x2), (99, 0)], [], s5) o
    refine AT.blk (g := jok 5 (s5 x0 0) = true) [(184, .aload_n 0, 1, (0, 0, 0)), (185, .getfield 15, 3, (2097, 700, 0))] (by decide +kernel) (show jrun _ (184, [(11, x0), (0, x1), (0, x2), (99, 0)], [], s5) = some ([jok 5 (s5 x0 0) = true], (188, [(11, x0), (0, x1), (0, x2), (99, 0)], [(9, (s5 x0 0))], s5)) from rfl) (fun h => h) H (fun H => ?_)
    obtain ⟨v6, s6, h6, H⟩ := jb_some H
    refine AT.callV (As := []) (cl := 5) (b := (s5 x0 0)) (st := []) (i := 75) (pos := 3235) kTe_takeStop (by decide +kernel) rfl (by decide +kernel) rfl rfl (by omega) (Te_takeStop_ok h6) ?_
    show AT sFr_takeStep 4 (191, [(11, x0), (0, x1), (0, x2), (99, 0)], [], s6) o
    exact AT.retvH (by decide +kernel) H
theorem Fr_takeStep_90_ok {o : Int × jM} {x0 x1 x2 x3 : Int} {s : jM} (H : Fr_takeStep_90  x0 x1 x2 x3 s = some o) : AT sFr_takeStep 4 (90, [(11, x0), (0, x1), (0, x2), (0, x3)], [], s) o := by
  unfold Fr_takeStep_90 at H
  refine AT.seq [(90, .iload_n 3, 1, (0, 0, 0))] (by decide +kernel) (show jrun _ (90, [(11, x0), (0, x1), (0, x2), (0, x3)], [], s) = some ([], (91, [(11, x0), (0, x1), (0, x2), (0, x3)], [(0, x3)], s)) from rfl) ?_
  refine AT.ite (x := (0, 0, 0)) (by decide +kernel) (show jbr (.ifCond .eq 23) (91, [(11, x0), (0, x1), (0, x2), (0, x3)], [(0, x3)], s) = some ((w32 x3) = 0, (114, [(11, x0), (0, x1), (0, x2), (0, x3)], [], s), (94, [(11, x0), (0, x1), (0, x2), (0, x3)], [], s)) from rfl) H (fun H => ?_) (fun H => ?_)
  · exact AT.weak (L' := [(11, x0), (0, x1), (0, x2), (99, 0)]) (jleK (jleK (jleK (jleJ jle0)))) (Fr_takeStep_114_ok  H)
  · refine AT.blk (g := (0 ≤ (w32 (s x0 3)) ∧ (w32 (s x0 3)) < 3)) [(94, .aload_n 0, 1, (0, 0, 0)), (95, .getfield 9, 3, (2101, 704, 0)), (98, .aload_n 0, 1, (0, 0, 0)), (99, .getfield 36, 3, (2100, 703, 0)), (102, .iload_n 2, 1, (0, 0, 0)), (103, .iastore, 1, (0, 0, 0)), (104, .aload_n 0, 1, (0, 0, 0)), (105, .dup, 1, (0, 0, 0)), (106, .getfield 36, 3, (2100, 703, 0)), (109, .iconst 1, 1, (0, 0, 0)), (110, .iadd, 1, (0, 0, 0)), (111, .putfield 36, 3, (2100, 703, 0))] (by decide +kernel) (show jrun _ (94, [(11, x0), (0, x1), (0, x2), (0, x3)], [], s) = some ([(0 ≤ (w32 (s x0 3)) ∧ (w32 (s x0 3)) < 3)], (114, [(11, x0), (0, x1), (0, x2), (0, x3)], [], (jup (jup s (x0 + 1) (w32 (s x0 3)) x2) x0 3 (((jup s (x0 + 1) (w32 (s x0 3)) x2) x0 3) + 1)))) from rfl) (fun h => h) H (fun H => ?_)
    exact AT.weak (L' := [(11, x0), (0, x1), (0, x2), (99, 0)]) (jleK (jleK (jleK (jleJ jle0)))) (Fr_takeStep_114_ok  H)
theorem Fr_takeStep_17_ok {o : Int × jM} {x0 x1 x2 t0 : Int} {s : jM} (H : Fr_takeStep_17  x0 x1 x2 t0 s = some o) : AT sFr_takeStep 4 (17, [(11, x0), (0, x1), (0, x2), (99, 0)], [(0, t0)], s) o := by
  unfold Fr_takeStep_17 at H
  refine AT.seq [(17, .istore_n 3, 1, (0, 0, 0)), (18, .iload_n 1, 1, (0, 0, 0))] (by decide +kernel) (show jrun _ (17, [(11, x0), (0, x1), (0, x2), (99, 0)], [(0, t0)], s) = some ([], (19, [(11, x0), (0, x1), (0, x2), (0, t0)], [(0, x1)], s)) from rfl) ?_
  obtain ⟨v7, s7, h7, H⟩ := jb_some H
  refine AT.callS (As := [(0, x1)]) (st := []) (i := 78) (pos := 4000) kFr_beginsStep (by decide +kernel) rfl rfl rfl (by omega) (Fr_beginsStep_ok h7) ?_
  show AT sFr_takeStep 4 (22, [(11, x0), (0, x1), (0, x2), (0, t0)], [(0, v7)], s7) o
  refine AT.ite (x := (0, 0, 0)) (by decide +kernel) (show jbr (.ifCond .ne 14) (22, [(11, x0), (0, x1), (0, x2), (0, t0)], [(0, v7)], s7) = some ((w32 v7) = 0, (25, [(11, x0), (0, x1), (0, x2), (0, t0)], [], s7), (36, [(11, x0), (0, x1), (0, x2), (0, t0)], [], s7)) from rfl) H (fun H => ?_) (fun H => ?_)
  · refine AT.blk (g := jok 5 (s7 x0 0) = true) [(25, .aload_n 0, 1, (0, 0, 0)), (26, .getfield 15, 3, (2097, 700, 0)), (29, .iconst 2, 1, (0, 0, 0))] (by decide +kernel) (show jrun _ (25, [(11, x0), (0, x1), (0, x2), (0, t0)], [], s7) = some ([jok 5 (s7 x0 0) = true], (30, [(11, x0), (0, x1), (0, x2), (0, t0)], [(0, 2), (9, (s7 x0 0))], s7)) from rfl) (fun h => h) H (fun H => ?_)
    obtain ⟨v8, s8, h8, H⟩ := jb_some H
    refine AT.callV (As := [(0, 2)]) (cl := 5) (b := (s7 x0 0)) (st := []) (i := 63) (pos := 3233) kTe_fail (by decide +kernel) rfl (by decide +kernel) rfl rfl (by omega) (Te_fail_ok h8) ?_
    show AT sFr_takeStep 4 (33, [(11, x0), (0, x1), (0, x2), (0, t0)], [], s8) o
    refine AT.seq [(33, .goto 158, 3, (0, 0, 0))] (by decide +kernel) (show jrun _ (33, [(11, x0), (0, x1), (0, x2), (0, t0)], [], s8) = some ([], (191, [(11, x0), (0, x1), (0, x2), (0, t0)], [], s8)) from rfl) ?_
    exact AT.retvH (by decide +kernel) H
  · refine AT.blk (g := jok 4 (s7 x0 2) = true) [(36, .aload_n 0, 1, (0, 0, 0)), (37, .getfield 23, 3, (2099, 702, 0)), (40, .getfield 82, 3, (1066, 401, 0)), (43, .bipush 30, 2, (0, 0, 0))] (by decide +kernel) (show jrun _ (36, [(11, x0), (0, x1), (0, x2), (0, t0)], [], s7) = some ([jok 4 (s7 x0 2) = true], (45, [(11, x0), (0, x1), (0, x2), (0, t0)], [(0, 30), (0, (s7 (s7 x0 2) 1))], s7)) from rfl) (fun h => h) H (fun H => ?_)
    refine AT.ite (x := (0, 0, 0)) (by decide +kernel) (show jbr (.if_icmp .ge 9) (45, [(11, x0), (0, x1), (0, x2), (0, t0)], [(0, 30), (0, (s7 (s7 x0 2) 1))], s7) = some ((w32 (s7 (s7 x0 2) 1)) < 30, (48, [(11, x0), (0, x1), (0, x2), (0, t0)], [], s7), (54, [(11, x0), (0, x1), (0, x2), (0, t0)], [], s7)) from rfl) H (fun H => ?_) (fun H => ?_)
    · refine AT.seq [(48, .iload_n 2, 1, (0, 0, 0)), (49, .bipush 60, 2, (0, 0, 0))] (by decide +kernel) (show jrun _ (48, [(11, x0), (0, x1), (0, x2), (0, t0)], [], s7) = some ([], (51, [(11, x0), (0, x1), (0, x2), (0, t0)], [(0, 60), (0, x2)], s7)) from rfl) ?_
      refine AT.ite (x := (0, 0, 0)) (by decide +kernel) (show jbr (.if_icmp .lt 15) (51, [(11, x0), (0, x1), (0, x2), (0, t0)], [(0, 60), (0, x2)], s7) = some ((w32 x2) < 60, (66, [(11, x0), (0, x1), (0, x2), (0, t0)], [], s7), (54, [(11, x0), (0, x1), (0, x2), (0, t0)], [], s7)) from rfl) H (fun H => ?_) (fun H => ?_)
      · refine AT.seq [(66, .iload_n 3, 1, (0, 0, 0))] (by decide +kernel) (show jrun _ (66, [(11, x0), (0, x1), (0, x2), (0, t0)], [], s7) = some ([], (67, [(11, x0), (0, x1), (0, x2), (0, t0)], [(0, t0)], s7)) from rfl) ?_
        refine AT.ite (x := (0, 0, 0)) (by decide +kernel) (show jbr (.ifCond .eq 23) (67, [(11, x0), (0, x1), (0, x2), (0, t0)], [(0, t0)], s7) = some ((w32 t0) = 0, (90, [(11, x0), (0, x1), (0, x2), (0, t0)], [], s7), (70, [(11, x0), (0, x1), (0, x2), (0, t0)], [], s7)) from rfl) H (fun H => ?_) (fun H => ?_)
        · exact Fr_takeStep_90_ok  H
        · refine AT.seq [(70, .aload_n 0, 1, (0, 0, 0)), (71, .getfield 36, 3, (2100, 703, 0)), (74, .iconst 3, 1, (0, 0, 0))] (by decide +kernel) (show jrun _ (70, [(11, x0), (0, x1), (0, x2), (0, t0)], [], s7) = some ([], (75, [(11, x0), (0, x1), (0, x2), (0, t0)], [(0, 3), (0, (s7 x0 3))], s7)) from rfl) ?_
          refine AT.ite (x := (0, 0, 0)) (by decide +kernel) (show jbr (.if_icmp .lt 15) (75, [(11, x0), (0, x1), (0, x2), (0, t0)], [(0, 3), (0, (s7 x0 3))], s7) = some ((w32 (s7 x0 3)) < 3, (90, [(11, x0), (0, x1), (0, x2), (0, t0)], [], s7), (78, [(11, x0), (0, x1), (0, x2), (0, t0)], [], s7)) from rfl) H (fun H => ?_) (fun H => ?_)
          · exact Fr_takeStep_90_ok  H
          · refine AT.blk (g := jok 5 (s7 x0 0) = true) [(78, .aload_n 0, 1, (0, 0, 0)), (79, .getfield 15, 3, (2097, 700, 0)), (82, .bipush 7, 2, (0, 0, 0))] (by decide +kernel) (show jrun _ (78, [(11, x0), (0, x1), (0, x2), (0, t0)], [], s7) = some ([jok 5 (s7 x0 0) = true], (84, [(11, x0), (0, x1), (0, x2), (0, t0)], [(0, 7), (9, (s7 x0 0))], s7)) from rfl) (fun h => h) H (fun H => ?_)
            obtain ⟨v9, s9, h9, H⟩ := jb_some H
            refine AT.callV (As := [(0, 7)]) (cl := 5) (b := (s7 x0 0)) (st := []) (i := 63) (pos := 3233) kTe_fail (by decide +kernel) rfl (by decide +kernel) rfl rfl (by omega) (Te_fail_ok h9) ?_
            show AT sFr_takeStep 4 (87, [(11, x0), (0, x1), (0, x2), (0, t0)], [], s9) o
            refine AT.seq [(87, .goto 104, 3, (0, 0, 0))] (by decide +kernel) (show jrun _ (87, [(11, x0), (0, x1), (0, x2), (0, t0)], [], s9) = some ([], (191, [(11, x0), (0, x1), (0, x2), (0, t0)], [], s9)) from rfl) ?_
            exact AT.retvH (by decide +kernel) H
      · refine AT.blk (g := jok 5 (s7 x0 0) = true) [(54, .aload_n 0, 1, (0, 0, 0)), (55, .getfield 15, 3, (2097, 700, 0)), (58, .bipush 6, 2, (0, 0, 0))] (by decide +kernel) (show jrun _ (54, [(11, x0), (0, x1), (0, x2), (0, t0)], [], s7) = some ([jok 5 (s7 x0 0) = true], (60, [(11, x0), (0, x1), (0, x2), (0, t0)], [(0, 6), (9, (s7 x0 0))], s7)) from rfl) (fun h => h) H (fun H => ?_)
        obtain ⟨v10, s10, h10, H⟩ := jb_some H
        refine AT.callV (As := [(0, 6)]) (cl := 5) (b := (s7 x0 0)) (st := []) (i := 63) (pos := 3233) kTe_fail (by decide +kernel) rfl (by decide +kernel) rfl rfl (by omega) (Te_fail_ok h10) ?_
        show AT sFr_takeStep 4 (63, [(11, x0), (0, x1), (0, x2), (0, t0)], [], s10) o
        refine AT.seq [(63, .goto 128, 3, (0, 0, 0))] (by decide +kernel) (show jrun _ (63, [(11, x0), (0, x1), (0, x2), (0, t0)], [], s10) = some ([], (191, [(11, x0), (0, x1), (0, x2), (0, t0)], [], s10)) from rfl) ?_
        exact AT.retvH (by decide +kernel) H
    · refine AT.blk (g := jok 5 (s7 x0 0) = true) [(54, .aload_n 0, 1, (0, 0, 0)), (55, .getfield 15, 3, (2097, 700, 0)), (58, .bipush 6, 2, (0, 0, 0))] (by decide +kernel) (show jrun _ (54, [(11, x0), (0, x1), (0, x2), (0, t0)], [], s7) = some ([jok 5 (s7 x0 0) = true], (60, [(11, x0), (0, x1), (0, x2), (0, t0)], [(0, 6), (9, (s7 x0 0))], s7)) from rfl) (fun h => h) H (fun H => ?_)
      obtain ⟨v11, s11, h11, H⟩ := jb_some H
      refine AT.callV (As := [(0, 6)]) (cl := 5) (b := (s7 x0 0)) (st := []) (i := 63) (pos := 3233) kTe_fail (by decide +kernel) rfl (by decide +kernel) rfl rfl (by omega) (Te_fail_ok h11) ?_
      show AT sFr_takeStep 4 (63, [(11, x0), (0, x1), (0, x2), (0, t0)], [], s11) o
      refine AT.seq [(63, .goto 128, 3, (0, 0, 0))] (by decide +kernel) (show jrun _ (63, [(11, x0), (0, x1), (0, x2), (0, t0)], [], s11) = some ([], (191, [(11, x0), (0, x1), (0, x2), (0, t0)], [], s11)) from rfl) ?_
      exact AT.retvH (by decide +kernel) H
theorem Fr_takeStep_ok {a0 a1 a2 : Int} {s : jM} {o : Int × jM} (H : Fr_takeStep a0 a1 a2 s = some o) : MK sFr_takeStep 4 [(11, a0), (0, a1), (0, a2)] s o := by
  refine MK.of kFr_takeStep rfl ?_
  show AT sFr_takeStep 4 (0, [(11, a0), (0, a1), (0, a2), (99, 0)], [], s) o
  unfold Fr_takeStep at H
  refine AT.seq [(0, .iload_n 1, 1, (0, 0, 0)), (1, .bipush 20, 2, (0, 0, 0))] (by decide +kernel) (show jrun _ (0, [(11, a0), (0, a1), (0, a2), (99, 0)], [], s) = some ([], (3, [(11, a0), (0, a1), (0, a2), (99, 0)], [(0, 20), (0, a1)], s)) from rfl) ?_
  refine AT.ite (x := (0, 0, 0)) (by decide +kernel) (show jbr (.if_icmp .eq 9) (3, [(11, a0), (0, a1), (0, a2), (99, 0)], [(0, 20), (0, a1)], s) = some ((w32 a1) = 20, (12, [(11, a0), (0, a1), (0, a2), (99, 0)], [], s), (6, [(11, a0), (0, a1), (0, a2), (99, 0)], [], s)) from rfl) H (fun H => ?_) (fun H => ?_)
  · refine AT.seq [(12, .iconst 1, 1, (0, 0, 0)), (13, .goto 4, 3, (0, 0, 0))] (by decide +kernel) (show jrun _ (12, [(11, a0), (0, a1), (0, a2), (99, 0)], [], s) = some ([], (17, [(11, a0), (0, a1), (0, a2), (99, 0)], [(0, 1)], s)) from rfl) ?_
    exact Fr_takeStep_17_ok  H
  · refine AT.seq [(6, .iload_n 1, 1, (0, 0, 0)), (7, .bipush 23, 2, (0, 0, 0))] (by decide +kernel) (show jrun _ (6, [(11, a0), (0, a1), (0, a2), (99, 0)], [], s) = some ([], (9, [(11, a0), (0, a1), (0, a2), (99, 0)], [(0, 23), (0, a1)], s)) from rfl) ?_
    refine AT.ite (x := (0, 0, 0)) (by decide +kernel) (show jbr (.if_icmp .ne 7) (9, [(11, a0), (0, a1), (0, a2), (99, 0)], [(0, 23), (0, a1)], s) = some ((w32 a1) = 23, (12, [(11, a0), (0, a1), (0, a2), (99, 0)], [], s), (16, [(11, a0), (0, a1), (0, a2), (99, 0)], [], s)) from rfl) H (fun H => ?_) (fun H => ?_)
    · refine AT.seq [(12, .iconst 1, 1, (0, 0, 0)), (13, .goto 4, 3, (0, 0, 0))] (by decide +kernel) (show jrun _ (12, [(11, a0), (0, a1), (0, a2), (99, 0)], [], s) = some ([], (17, [(11, a0), (0, a1), (0, a2), (99, 0)], [(0, 1)], s)) from rfl) ?_
      exact Fr_takeStep_17_ok  H
    · refine AT.seq [(16, .iconst 0, 1, (0, 0, 0))] (by decide +kernel) (show jrun _ (16, [(11, a0), (0, a1), (0, a2), (99, 0)], [], s) = some ([], (17, [(11, a0), (0, a1), (0, a2), (99, 0)], [(0, 0)], s)) from rfl) ?_
      exact Fr_takeStep_17_ok  H
def sFr_take : jS := (⟨"JellyCathedral$FeastsReader", "take", "(LJellyCathedral$Text;LJellyCathedral$See;LJellyCathedral$Feasts;)Z"⟩, prog_3_method_2_code, 5, 3, [11, 9, 7, 8], 0)
theorem kFr_take : jmk sFr_take = true := jmk_of 3226 1008 3224 3225 (by decide +kernel)
theorem Fr_take_116_ok {o : Int × jM} {x0 : Int} {s : jM} (H : Fr_take_116  x0 s = some o) : AT sFr_take 5 (116, [(11, x0), (99, 0), (99, 0), (99, 0), (99, 0)], [], s) o := by
  unfold Fr_take_116 at H
  refine AT.seq [(116, .aload_n 0, 1, (0, 0, 0)), (117, .getfield 36, 3, (2100, 703, 0))] (by decide +kernel) (show jrun _ (116, [(11, x0), (99, 0), (99, 0), (99, 0), (99, 0)], [], s) = some ([], (120, [(11, x0), (99, 0), (99, 0), (99, 0), (99, 0)], [(0, (s x0 3))], s)) from rfl) ?_
  refine AT.ite (x := (0, 0, 0)) (by decide +kernel) (show jbr (.ifCond .le 11) (120, [(11, x0), (99, 0), (99, 0), (99, 0), (99, 0)], [(0, (s x0 3))], s) = some (0 < (w32 (s x0 3)), (123, [(11, x0), (99, 0), (99, 0), (99, 0), (99, 0)], [], s), (131, [(11, x0), (99, 0), (99, 0), (99, 0), (99, 0)], [], s)) from rfl) H (fun H => ?_) (fun H => ?_)
  · refine AT.blk (g := jok 5 (s x0 0) = true) [(123, .aload_n 0, 1, (0, 0, 0)), (124, .getfield 15, 3, (2097, 700, 0)), (127, .iconst 2, 1, (0, 0, 0))] (by decide +kernel) (show jrun _ (123, [(11, x0), (99, 0), (99, 0), (99, 0), (99, 0)], [], s) = some ([jok 5 (s x0 0) = true], (128, [(11, x0), (99, 0), (99, 0), (99, 0), (99, 0)], [(0, 2), (9, (s x0 0))], s)) from rfl) (fun h => h) H (fun H => ?_)
    obtain ⟨v1, s1, h1, H⟩ := jb_some H
    refine AT.callV (As := [(0, 2)]) (cl := 5) (b := (s x0 0)) (st := []) (i := 63) (pos := 3233) kTe_fail (by decide +kernel) rfl (by decide +kernel) rfl rfl (by omega) (Te_fail_ok h1) ?_
    show AT sFr_take 5 (131, [(11, x0), (99, 0), (99, 0), (99, 0), (99, 0)], [], s1) o
    refine AT.blk (g := jok 5 (s1 x0 0) = true) [(131, .aload_n 0, 1, (0, 0, 0)), (132, .getfield 15, 3, (2097, 700, 0))] (by decide +kernel) (show jrun _ (131, [(11, x0), (99, 0), (99, 0), (99, 0), (99, 0)], [], s1) = some ([jok 5 (s1 x0 0) = true], (135, [(11, x0), (99, 0), (99, 0), (99, 0), (99, 0)], [(9, (s1 x0 0))], s1)) from rfl) (fun h => h) H (fun H => ?_)
    obtain ⟨v2, s2, h2, H⟩ := jb_some H
    refine AT.callV (As := []) (cl := 5) (b := (s1 x0 0)) (st := []) (i := 40) (pos := 3228) kTe_isWell (by decide +kernel) rfl (by decide +kernel) rfl rfl (by omega) (Te_isWell_ok h2) ?_
    show AT sFr_take 5 (138, [(11, x0), (99, 0), (99, 0), (99, 0), (99, 0)], [(0, v2)], s2) o
    exact AT.retzH (by decide +kernel) H
  · refine AT.blk (g := jok 5 (s x0 0) = true) [(131, .aload_n 0, 1, (0, 0, 0)), (132, .getfield 15, 3, (2097, 700, 0))] (by decide +kernel) (show jrun _ (131, [(11, x0), (99, 0), (99, 0), (99, 0), (99, 0)], [], s) = some ([jok 5 (s x0 0) = true], (135, [(11, x0), (99, 0), (99, 0), (99, 0), (99, 0)], [(9, (s x0 0))], s)) from rfl) (fun h => h) H (fun H => ?_)
    obtain ⟨v3, s3, h3, H⟩ := jb_some H
    refine AT.callV (As := []) (cl := 5) (b := (s x0 0)) (st := []) (i := 40) (pos := 3228) kTe_isWell (by decide +kernel) rfl (by decide +kernel) rfl rfl (by omega) (Te_isWell_ok h3) ?_
    show AT sFr_take 5 (138, [(11, x0), (99, 0), (99, 0), (99, 0), (99, 0)], [(0, v3)], s3) o
    exact AT.retzH (by decide +kernel) H
theorem Fr_take_38_ok {o : Int × jM} : ∀ (n : Nat) (x0 x4 : Int) (s : jM), Fr_take_38  n x0 x4 s = some o → AT sFr_take 5 (38, [(11, x0), (99, 0), (99, 0), (99, 0), (0, x4)], [], s) o := by
  intro n
  induction n with
  | zero =>
    intro x0 x4 s H
    have H : (none : Option (Int × jM)) = some o := H
    cases H
  | succ n ih =>
    intro x0 x4 s H
    rw [Fr_take_38] at H
    refine AT.seq [(38, .iload 4, 2, (0, 0, 0)), (40, .sipush 900, 3, (0, 0, 0))] (by decide +kernel) (show jrun _ (38, [(11, x0), (99, 0), (99, 0), (99, 0), (0, x4)], [], s) = some ([], (43, [(11, x0), (99, 0), (99, 0), (99, 0), (0, x4)], [(0, 900), (0, x4)], s)) from rfl) ?_
    refine AT.ite (x := (0, 0, 0)) (by decide +kernel) (show jbr (.if_icmp .gt 73) (43, [(11, x0), (99, 0), (99, 0), (99, 0), (0, x4)], [(0, 900), (0, x4)], s) = some (900 < (w32 x4), (116, [(11, x0), (99, 0), (99, 0), (99, 0), (0, x4)], [], s), (46, [(11, x0), (99, 0), (99, 0), (99, 0), (0, x4)], [], s)) from rfl) H (fun H => ?_) (fun H => ?_)
    · exact AT.weak (L' := [(11, x0), (99, 0), (99, 0), (99, 0), (99, 0)]) (jleK (jleK (jleK (jleK (jleJ jle0))))) (Fr_take_116_ok  H)
    · refine AT.blk (g := jok 5 (s x0 0) = true) [(46, .aload_n 0, 1, (0, 0, 0)), (47, .getfield 15, 3, (2097, 700, 0))] (by decide +kernel) (show jrun _ (46, [(11, x0), (99, 0), (99, 0), (99, 0), (0, x4)], [], s) = some ([jok 5 (s x0 0) = true], (50, [(11, x0), (99, 0), (99, 0), (99, 0), (0, x4)], [(9, (s x0 0))], s)) from rfl) (fun h => h) H (fun H => ?_)
      obtain ⟨v4, s4, h4, H⟩ := jb_some H
      refine AT.callV (As := []) (cl := 5) (b := (s x0 0)) (st := []) (i := 40) (pos := 3228) kTe_isWell (by decide +kernel) rfl (by decide +kernel) rfl rfl (by omega) (Te_isWell_ok h4) ?_
      show AT sFr_take 5 (53, [(11, x0), (99, 0), (99, 0), (99, 0), (0, x4)], [(0, v4)], s4) o
      refine AT.ite (x := (0, 0, 0)) (by decide +kernel) (show jbr (.ifCond .eq 63) (53, [(11, x0), (99, 0), (99, 0), (99, 0), (0, x4)], [(0, v4)], s4) = some ((w32 v4) = 0, (116, [(11, x0), (99, 0), (99, 0), (99, 0), (0, x4)], [], s4), (56, [(11, x0), (99, 0), (99, 0), (99, 0), (0, x4)], [], s4)) from rfl) H (fun H => ?_) (fun H => ?_)
      · exact AT.weak (L' := [(11, x0), (99, 0), (99, 0), (99, 0), (99, 0)]) (jleK (jleK (jleK (jleK (jleJ jle0))))) (Fr_take_116_ok  H)
      · refine AT.blk (g := jok 5 (s4 x0 0) = true) [(56, .aload_n 0, 1, (0, 0, 0)), (57, .getfield 15, 3, (2097, 700, 0)), (60, .getfield 46, 3, (2035, 504, 0))] (by decide +kernel) (show jrun _ (56, [(11, x0), (99, 0), (99, 0), (99, 0), (0, x4)], [], s4) = some ([jok 5 (s4 x0 0) = true], (63, [(11, x0), (99, 0), (99, 0), (99, 0), (0, x4)], [(0, (s4 (s4 x0 0) 4))], s4)) from rfl) (fun h => h) H (fun H => ?_)
        refine AT.ite (x := (0, 0, 0)) (by decide +kernel) (show jbr (.ifCond .eq 53) (63, [(11, x0), (99, 0), (99, 0), (99, 0), (0, x4)], [(0, (s4 (s4 x0 0) 4))], s4) = some ((w32 (s4 (s4 x0 0) 4)) = 0, (116, [(11, x0), (99, 0), (99, 0), (99, 0), (0, x4)], [], s4), (66, [(11, x0), (99, 0), (99, 0), (99, 0), (0, x4)], [], s4)) from rfl) H (fun H => ?_) (fun H => ?_)
        · exact AT.weak (L' := [(11, x0), (99, 0), (99, 0), (99, 0), (99, 0)]) (jleK (jleK (jleK (jleK (jleJ jle0))))) (Fr_take_116_ok  H)
        · refine AT.blk (g := jok 5 (s4 x0 0) = true) [(66, .aload_n 0, 1, (0, 0, 0)), (67, .getfield 15, 3, (2097, 700, 0)), (70, .getfield 49, 3, (2037, 505, 0)), (73, .bipush 24, 2, (0, 0, 0))] (by decide +kernel) (show jrun _ (66, [(11, x0), (99, 0), (99, 0), (99, 0), (0, x4)], [], s4) = some ([jok 5 (s4 x0 0) = true], (75, [(11, x0), (99, 0), (99, 0), (99, 0), (0, x4)], [(0, 24), (0, (s4 (s4 x0 0) 5))], s4)) from rfl) (fun h => h) H (fun H => ?_)
          refine AT.ite (x := (0, 0, 0)) (by decide +kernel) (show jbr (.if_icmp .ne 17) (75, [(11, x0), (99, 0), (99, 0), (99, 0), (0, x4)], [(0, 24), (0, (s4 (s4 x0 0) 5))], s4) = some ((w32 (s4 (s4 x0 0) 5)) = 24, (78, [(11, x0), (99, 0), (99, 0), (99, 0), (0, x4)], [], s4), (92, [(11, x0), (99, 0), (99, 0), (99, 0), (0, x4)], [], s4)) from rfl) H (fun H => ?_) (fun H => ?_)
          · refine AT.blk (g := jok 4 (s4 x0 2) = true) [(78, .aload_n 0, 1, (0, 0, 0)), (79, .aload_n 0, 1, (0, 0, 0)), (80, .getfield 23, 3, (2099, 702, 0)), (83, .getfield 52, 3, (1070, 402, 0))] (by decide +kernel) (show jrun _ (78, [(11, x0), (99, 0), (99, 0), (99, 0), (0, x4)], [], s4) = some ([jok 4 (s4 x0 2) = true], (86, [(11, x0), (99, 0), (99, 0), (99, 0), (0, x4)], [(0, (s4 (s4 x0 2) 2)), (11, x0)], s4)) from rfl) (fun h => h) H (fun H => ?_)
            obtain ⟨v5, s5, h5, H⟩ := jb_some H
            refine AT.callV (As := [(0, (s4 (s4 x0 2) 2))]) (cl := 7) (b := x0) (st := []) (i := 55) (pos := 3229) kFr_takeClose (by decide +kernel) rfl (by decide +kernel) rfl rfl (by omega) (Fr_takeClose_ok h5) ?_
            show AT sFr_take 5 (89, [(11, x0), (99, 0), (99, 0), (99, 0), (0, x4)], [], s5) o
            refine AT.seq [(89, .goto 21, 3, (0, 0, 0)), (110, .iinc 4 1, 3, (0, 0, 0)), (113, .goto (-75), 3, (0, 0, 0))] (by decide +kernel) (show jrun _ (89, [(11, x0), (99, 0), (99, 0), (99, 0), (0, x4)], [], s5) = some ([], (38, [(11, x0), (99, 0), (99, 0), (99, 0), (0, (x4 + 1))], [], s5)) from rfl) ?_
            exact ih _ _ _ H
          · refine AT.blk (g := jok 5 (s4 x0 0) = true ∧ jok 4 (s4 x0 2) = true) [(92, .aload_n 0, 1, (0, 0, 0)), (93, .aload_n 0, 1, (0, 0, 0)), (94, .getfield 15, 3, (2097, 700, 0)), (97, .getfield 49, 3, (2037, 505, 0)), (100, .aload_n 0, 1, (0, 0, 0)), (101, .getfield 23, 3, (2099, 702, 0)), (104, .getfield 52, 3, (1070, 402, 0))] (by decide +kernel) (show jrun _ (92, [(11, x0), (99, 0), (99, 0), (99, 0), (0, x4)], [], s4) = some ([jok 5 (s4 x0 0) = true, jok 4 (s4 x0 2) = true], (107, [(11, x0), (99, 0), (99, 0), (99, 0), (0, x4)], [(0, (s4 (s4 x0 2) 2)), (0, (s4 (s4 x0 0) 5)), (11, x0)], s4)) from rfl) (fun h => ⟨h.1, h.2⟩) H (fun H => ?_)
            obtain ⟨v6, s6, h6, H⟩ := jb_some H
            refine AT.callV (As := [(0, (s4 (s4 x0 0) 5)), (0, (s4 (s4 x0 2) 2))]) (cl := 7) (b := x0) (st := []) (i := 59) (pos := 3236) kFr_takeStep (by decide +kernel) rfl (by decide +kernel) rfl rfl (by omega) (Fr_takeStep_ok h6) ?_
            show AT sFr_take 5 (110, [(11, x0), (99, 0), (99, 0), (99, 0), (0, x4)], [], s6) o
            refine AT.seq [(110, .iinc 4 1, 3, (0, 0, 0)), (113, .goto (-75), 3, (0, 0, 0))] (by decide +kernel) (show jrun _ (110, [(11, x0), (99, 0), (99, 0), (99, 0), (0, x4)], [], s6) = some ([], (38, [(11, x0), (99, 0), (99, 0), (99, 0), (0, (x4 + 1))], [], s6)) from rfl) ?_
            exact ih _ _ _ H
theorem Fr_take_ok {a0 a1 a2 a3 : Int} {s : jM} {o : Int × jM} (H : Fr_take a0 a1 a2 a3 s = some o) : MK sFr_take 5 [(11, a0), (9, a1), (7, a2), (8, a3)] s o := by
  refine MK.of kFr_take rfl ?_
  show AT sFr_take 5 (0, [(11, a0), (9, a1), (7, a2), (8, a3), (99, 0)], [], s) o
  unfold Fr_take at H
  refine AT.blk (g := jok 4 ((jup (jup (jup s a0 0 a1) a0 1 a2) a0 2 a3) a0 2) = true) [(0, .aload_n 0, 1, (0, 0, 0)), (1, .aload_n 1, 1, (0, 0, 0)), (2, .putfield 15, 3, (2097, 700, 0)), (5, .aload_n 0, 1, (0, 0, 0)), (6, .aload_n 2, 1, (0, 0, 0)), (7, .putfield 19, 3, (2098, 701, 0)), (10, .aload_n 0, 1, (0, 0, 0)), (11, .aload_n 3, 1, (0, 0, 0)), (12, .putfield 23, 3, (2099, 702, 0)), (15, .aload_n 0, 1, (0, 0, 0)), (16, .getfield 23, 3, (2099, 702, 0))] (by decide +kernel) (show jrun _ (0, [(11, a0), (9, a1), (7, a2), (8, a3), (99, 0)], [], s) = some ([jok 4 ((jup (jup (jup s a0 0 a1) a0 1 a2) a0 2 a3) a0 2) = true], (19, [(11, a0), (9, a1), (7, a2), (8, a3), (99, 0)], [(8, ((jup (jup (jup s a0 0 a1) a0 1 a2) a0 2 a3) a0 2))], (jup (jup (jup s a0 0 a1) a0 1 a2) a0 2 a3))) from rfl) (fun h => h) H (fun H => ?_)
  obtain ⟨v7, s7, h7, H⟩ := jb_some H
  refine AT.callV (As := []) (cl := 4) (b := ((jup (jup (jup s a0 0 a1) a0 1 a2) a0 2 a3) a0 2)) (st := []) (i := 27) (pos := 3227) kFe_clear (by decide +kernel) rfl (by decide +kernel) rfl rfl (by omega) (Fe_clear_ok h7) ?_
  show AT sFr_take 5 (22, [(11, a0), (9, a1), (7, a2), (8, a3), (99, 0)], [], s7) o
  refine AT.blk (g := jok 4 (s7 a0 2) = true) [(22, .aload_n 0, 1, (0, 0, 0)), (23, .getfield 23, 3, (2099, 702, 0)), (26, .iconst 1, 1, (0, 0, 0)), (27, .putfield 32, 3, (1063, 400, 0)), (30, .aload_n 0, 1, (0, 0, 0)), (31, .iconst 0, 1, (0, 0, 0)), (32, .putfield 36, 3, (2100, 703, 0)), (35, .iconst 0, 1, (0, 0, 0)), (36, .istore 4, 2, (0, 0, 0))] (by decide +kernel) (show jrun _ (22, [(11, a0), (9, a1), (7, a2), (8, a3), (99, 0)], [], s7) = some ([jok 4 (s7 a0 2) = true, ((1 : Int) = 0 ∨ (1 : Int) = 1)], (38, [(11, a0), (9, a1), (7, a2), (8, a3), (0, 0)], [], (jup (jup s7 (s7 a0 2) 0 1) a0 3 0))) from rfl) (fun h => ⟨h, (show ((1 : Int) = 0 ∨ (1 : Int) = 1) from by decide)⟩) H (fun H => ?_)
  exact AT.weak (L' := [(11, a0), (99, 0), (99, 0), (99, 0), (0, 0)]) (jleK (jleJ (jleJ (jleJ (jleK jle0))))) (Fr_take_38_ok  jFU _ _ _ H)
