/-! printed by wip/whole/gen_all.py: Jc_fitsBy, Jc_ask, Jc_gameTrouble, Jc_game, Jc_moveOf, Jc_power, Jc_commonDivisor, Jc_tell, Jc_bubbles, Jc_poise, Jc_live, Jc_lived, Jc_mean, Jc_mark, Jc_back -/
def sJc_fitsBy : jS := (⟨"JellyCathedral", "fitsBy", "(IIII)I"⟩, prog_1_method_39_code, 7, 1, [4, 0, 0, 0, 0], 0)
theorem kJc_fitsBy : jmk sJc_fitsBy = true := jmk_of 5040 1001 5038 5039 (by decide +kernel)
set_option maxRecDepth 100000 in
theorem Jc_fitsBy_67_ok {o : Int × jM} {x0 t0 : Int} {s : jM} (H : Jc_fitsBy_67  x0 t0 s = some o) : AT sJc_fitsBy 4 (67, [(4, x0), (99, 0), (99, 0), (99, 0), (99, 0), (99, 0), (99, 0)], [(0, t0)], s) o := by
  unfold Jc_fitsBy_67 at H
  refine AT.seq [(67, .istore 6, 2, (0, 0, 0)), (69, .iload 6, 2, (0, 0, 0)), (71, .iconst (-1), 1, (0, 0, 0))] (by decide +kernel) (show jrun _ (67, [(4, x0), (99, 0), (99, 0), (99, 0), (99, 0), (99, 0), (99, 0)], [(0, t0)], s) = some ([], (72, [(4, x0), (99, 0), (99, 0), (99, 0), (99, 0), (99, 0), (0, t0)], [(0, (-1)), (0, t0)], s)) from rfl) ?_
  refine AT.ite (x := (0, 0, 0)) (by decide +kernel) (show jbr (.if_icmp .ne 12) (72, [(4, x0), (99, 0), (99, 0), (99, 0), (99, 0), (99, 0), (0, t0)], [(0, (-1)), (0, t0)], s) = some ((w32 t0) = (-1), (75, [(4, x0), (99, 0), (99, 0), (99, 0), (99, 0), (99, 0), (0, t0)], [], s), (84, [(4, x0), (99, 0), (99, 0), (99, 0), (99, 0), (99, 0), (0, t0)], [], s)) from rfl) H (fun H => ?_) (fun H => ?_)
  · refine AT.seq [(75, .aload_n 0, 1, (0, 0, 0)), (76, .bipush 8, 2, (0, 0, 0))] (by decide +kernel) (show jrun _ (75, [(4, x0), (99, 0), (99, 0), (99, 0), (99, 0), (99, 0), (0, t0)], [], s) = some ([], (78, [(4, x0), (99, 0), (99, 0), (99, 0), (99, 0), (99, 0), (0, t0)], [(0, 8), (4, x0)], s)) from rfl) ?_
    obtain ⟨v1, s1, h1, H⟩ := jb_some H
    refine AT.callV (As := [(0, 8)]) (cl := 0) (b := x0) (st := []) (i := 123) (pos := 3066) kJc_refuse (by decide +kernel) rfl (by decide +kernel) rfl rfl (by omega) (Jc_refuse_ok h1) ?_
    show AT sJc_fitsBy 4 (81, [(4, x0), (99, 0), (99, 0), (99, 0), (99, 0), (99, 0), (0, t0)], [(0, v1)], s1) o
    refine AT.seq [(81, .goto 9, 3, (0, 0, 0))] (by decide +kernel) (show jrun _ (81, [(4, x0), (99, 0), (99, 0), (99, 0), (99, 0), (99, 0), (0, t0)], [(0, v1)], s1) = some ([], (90, [(4, x0), (99, 0), (99, 0), (99, 0), (99, 0), (99, 0), (0, t0)], [(0, v1)], s1)) from rfl) ?_
    exact AT.retiH (by decide +kernel) H
  · refine AT.seq [(84, .aload_n 0, 1, (0, 0, 0)), (85, .iload 6, 2, (0, 0, 0))] (by decide +kernel) (show jrun _ (84, [(4, x0), (99, 0), (99, 0), (99, 0), (99, 0), (99, 0), (0, t0)], [], s) = some ([], (87, [(4, x0), (99, 0), (99, 0), (99, 0), (99, 0), (99, 0), (0, t0)], [(0, t0), (4, x0)], s)) from rfl) ?_
    obtain ⟨v2, s2, h2, H⟩ := jb_some H
    refine AT.callV (As := [(0, t0)]) (cl := 0) (b := x0) (st := []) (i := 170) (pos := 3215) kJc_answer (by decide +kernel) rfl (by decide +kernel) rfl rfl (by omega) (Jc_answer_ok h2) ?_
    show AT sJc_fitsBy 4 (90, [(4, x0), (99, 0), (99, 0), (99, 0), (99, 0), (99, 0), (0, t0)], [(0, v2)], s2) o
    exact AT.retiH (by decide +kernel) H
set_option maxRecDepth 100000 in
theorem Jc_fitsBy_ok {a0 a1 a2 a3 a4 : Int} {s : jM} {o : Int × jM} (H : Jc_fitsBy a0 a1 a2 a3 a4 s = some o) : MK sJc_fitsBy 4 [(4, a0), (0, a1), (0, a2), (0, a3), (0, a4)] s o := by
  refine MK.of kJc_fitsBy rfl ?_
  show AT sJc_fitsBy 4 (0, [(4, a0), (0, a1), (0, a2), (0, a3), (0, a4), (99, 0), (99, 0)], [], s) o
  unfold Jc_fitsBy at H
  refine AT.seq [(0, .aload_n 0, 1, (0, 0, 0)), (1, .iload_n 1, 1, (0, 0, 0)), (2, .iload_n 2, 1, (0, 0, 0)), (3, .iload_n 3, 1, (0, 0, 0))] (by decide +kernel) (show jrun _ (0, [(4, a0), (0, a1), (0, a2), (0, a3), (0, a4), (99, 0), (99, 0)], [], s) = some ([], (4, [(4, a0), (0, a1), (0, a2), (0, a3), (0, a4), (99, 0), (99, 0)], [(0, a3), (0, a2), (0, a1), (4, a0)], s)) from rfl) ?_
  obtain ⟨v3, s3, h3, H⟩ := jb_some H
  refine AT.callV (As := [(0, a1), (0, a2), (0, a3)]) (cl := 0) (b := a0) (st := []) (i := 332) (pos := 5022) kJc_fitsTrouble (by decide +kernel) rfl (by decide +kernel) rfl rfl (by omega) (Jc_fitsTrouble_ok h3) ?_
  show AT sJc_fitsBy 4 (7, [(4, a0), (0, a1), (0, a2), (0, a3), (0, a4), (99, 0), (99, 0)], [(0, v3)], s3) o
  refine AT.seq [(7, .istore 5, 2, (0, 0, 0)), (9, .iload 5, 2, (0, 0, 0))] (by decide +kernel) (show jrun _ (7, [(4, a0), (0, a1), (0, a2), (0, a3), (0, a4), (99, 0), (99, 0)], [(0, v3)], s3) = some ([], (11, [(4, a0), (0, a1), (0, a2), (0, a3), (0, a4), (0, v3), (99, 0)], [(0, v3)], s3)) from rfl) ?_
  refine AT.ite (x := (0, 0, 0)) (by decide +kernel) (show jbr (.ifCond .eq 10) (11, [(4, a0), (0, a1), (0, a2), (0, a3), (0, a4), (0, v3), (99, 0)], [(0, v3)], s3) = some ((w32 v3) = 0, (21, [(4, a0), (0, a1), (0, a2), (0, a3), (0, a4), (0, v3), (99, 0)], [], s3), (14, [(4, a0), (0, a1), (0, a2), (0, a3), (0, a4), (0, v3), (99, 0)], [], s3)) from rfl) H (fun H => ?_) (fun H => ?_)
  · refine AT.seq [(21, .iload 4, 2, (0, 0, 0))] (by decide +kernel) (show jrun _ (21, [(4, a0), (0, a1), (0, a2), (0, a3), (0, a4), (0, v3), (99, 0)], [], s3) = some ([], (23, [(4, a0), (0, a1), (0, a2), (0, a3), (0, a4), (0, v3), (99, 0)], [(0, a4)], s3)) from rfl) ?_
    refine AT.ite (x := (0, 0, 0)) (by decide +kernel) (show jbr (.ifCond .lt 9) (23, [(4, a0), (0, a1), (0, a2), (0, a3), (0, a4), (0, v3), (99, 0)], [(0, a4)], s3) = some ((w32 a4) < 0, (32, [(4, a0), (0, a1), (0, a2), (0, a3), (0, a4), (0, v3), (99, 0)], [], s3), (26, [(4, a0), (0, a1), (0, a2), (0, a3), (0, a4), (0, v3), (99, 0)], [], s3)) from rfl) H (fun H => ?_) (fun H => ?_)
    · refine AT.seq [(32, .aload_n 0, 1, (0, 0, 0)), (33, .iconst 5, 1, (0, 0, 0))] (by decide +kernel) (show jrun _ (32, [(4, a0), (0, a1), (0, a2), (0, a3), (0, a4), (0, v3), (99, 0)], [], s3) = some ([], (34, [(4, a0), (0, a1), (0, a2), (0, a3), (0, a4), (0, v3), (99, 0)], [(0, 5), (4, a0)], s3)) from rfl) ?_
      obtain ⟨v4, s4, h4, H⟩ := jb_some H
      refine AT.callV (As := [(0, 5)]) (cl := 0) (b := a0) (st := []) (i := 123) (pos := 3066) kJc_refuse (by decide +kernel) rfl (by decide +kernel) rfl rfl (by omega) (Jc_refuse_ok h4) ?_
      show AT sJc_fitsBy 4 (37, [(4, a0), (0, a1), (0, a2), (0, a3), (0, a4), (0, v3), (99, 0)], [(0, v4)], s4) o
      exact AT.retiH (by decide +kernel) H
    · refine AT.seq [(26, .iload 4, 2, (0, 0, 0)), (28, .iconst 1, 1, (0, 0, 0))] (by decide +kernel) (show jrun _ (26, [(4, a0), (0, a1), (0, a2), (0, a3), (0, a4), (0, v3), (99, 0)], [], s3) = some ([], (29, [(4, a0), (0, a1), (0, a2), (0, a3), (0, a4), (0, v3), (99, 0)], [(0, 1), (0, a4)], s3)) from rfl) ?_
      refine AT.ite (x := (0, 0, 0)) (by decide +kernel) (show jbr (.if_icmp .le 9) (29, [(4, a0), (0, a1), (0, a2), (0, a3), (0, a4), (0, v3), (99, 0)], [(0, 1), (0, a4)], s3) = some (1 < (w32 a4), (32, [(4, a0), (0, a1), (0, a2), (0, a3), (0, a4), (0, v3), (99, 0)], [], s3), (38, [(4, a0), (0, a1), (0, a2), (0, a3), (0, a4), (0, v3), (99, 0)], [], s3)) from rfl) H (fun H => ?_) (fun H => ?_)
      · refine AT.seq [(32, .aload_n 0, 1, (0, 0, 0)), (33, .iconst 5, 1, (0, 0, 0))] (by decide +kernel) (show jrun _ (32, [(4, a0), (0, a1), (0, a2), (0, a3), (0, a4), (0, v3), (99, 0)], [], s3) = some ([], (34, [(4, a0), (0, a1), (0, a2), (0, a3), (0, a4), (0, v3), (99, 0)], [(0, 5), (4, a0)], s3)) from rfl) ?_
        obtain ⟨v5, s5, h5, H⟩ := jb_some H
        refine AT.callV (As := [(0, 5)]) (cl := 0) (b := a0) (st := []) (i := 123) (pos := 3066) kJc_refuse (by decide +kernel) rfl (by decide +kernel) rfl rfl (by omega) (Jc_refuse_ok h5) ?_
        show AT sJc_fitsBy 4 (37, [(4, a0), (0, a1), (0, a2), (0, a3), (0, a4), (0, v3), (99, 0)], [(0, v5)], s5) o
        exact AT.retiH (by decide +kernel) H
      · refine AT.seq [(38, .aload_n 0, 1, (0, 0, 0)), (39, .iload_n 1, 1, (0, 0, 0)), (40, .iload_n 2, 1, (0, 0, 0)), (41, .iload_n 3, 1, (0, 0, 0))] (by decide +kernel) (show jrun _ (38, [(4, a0), (0, a1), (0, a2), (0, a3), (0, a4), (0, v3), (99, 0)], [], s3) = some ([], (42, [(4, a0), (0, a1), (0, a2), (0, a3), (0, a4), (0, v3), (99, 0)], [(0, a3), (0, a2), (0, a1), (4, a0)], s3)) from rfl) ?_
        obtain ⟨v6, s6, h6, H⟩ := jb_some H
        refine AT.callV (As := [(0, a1), (0, a2), (0, a3)]) (cl := 0) (b := a0) (st := []) (i := 335) (pos := 5028) kJc_keepFits (by decide +kernel) rfl (by decide +kernel) rfl rfl (by omega) (Jc_keepFits_ok h6) ?_
        show AT sJc_fitsBy 4 (45, [(4, a0), (0, a1), (0, a2), (0, a3), (0, a4), (0, v3), (99, 0)], [], s6) o
        refine AT.seq [(45, .iload 4, 2, (0, 0, 0))] (by decide +kernel) (show jrun _ (45, [(4, a0), (0, a1), (0, a2), (0, a3), (0, a4), (0, v3), (99, 0)], [], s6) = some ([], (47, [(4, a0), (0, a1), (0, a2), (0, a3), (0, a4), (0, v3), (99, 0)], [(0, a4)], s6)) from rfl) ?_
        refine AT.ite (x := (0, 0, 0)) (by decide +kernel) (show jbr (.ifCond .ne 13) (47, [(4, a0), (0, a1), (0, a2), (0, a3), (0, a4), (0, v3), (99, 0)], [(0, a4)], s6) = some ((w32 a4) = 0, (50, [(4, a0), (0, a1), (0, a2), (0, a3), (0, a4), (0, v3), (99, 0)], [], s6), (60, [(4, a0), (0, a1), (0, a2), (0, a3), (0, a4), (0, v3), (99, 0)], [], s6)) from rfl) H (fun H => ?_) (fun H => ?_)
        · refine AT.seq [(50, .aload_n 0, 1, (0, 0, 0)), (51, .getfield 54, 3, (2214, 14, 0))] (by decide +kernel) (show jrun _ (50, [(4, a0), (0, a1), (0, a2), (0, a3), (0, a4), (0, v3), (99, 0)], [], s6) = some ([], (54, [(4, a0), (0, a1), (0, a2), (0, a3), (0, a4), (0, v3), (99, 0)], [(12, (a0 + 16))], s6)) from rfl) ?_
          obtain ⟨v7, s7, h7, H⟩ := jb_some H
          refine AT.callV (As := []) (cl := 8) (b := (a0 + 16)) (st := []) (i := 339) (pos := 5041) kFi_leastStrength (by decide +kernel) rfl (by decide +kernel) rfl rfl (by omega) (Fi_leastStrength_ok h7) ?_
          show AT sJc_fitsBy 4 (57, [(4, a0), (0, a1), (0, a2), (0, a3), (0, a4), (0, v3), (99, 0)], [(0, v7)], s7) o
          refine AT.seq [(57, .goto 10, 3, (0, 0, 0))] (by decide +kernel) (show jrun _ (57, [(4, a0), (0, a1), (0, a2), (0, a3), (0, a4), (0, v3), (99, 0)], [(0, v7)], s7) = some ([], (67, [(4, a0), (0, a1), (0, a2), (0, a3), (0, a4), (0, v3), (99, 0)], [(0, v7)], s7)) from rfl) ?_
          exact AT.weak (L' := [(4, a0), (99, 0), (99, 0), (99, 0), (99, 0), (99, 0), (99, 0)]) (jleK (jleJ (jleJ (jleJ (jleJ (jleJ (jleK jle0))))))) (Jc_fitsBy_67_ok  H)
        · refine AT.seq [(60, .aload_n 0, 1, (0, 0, 0)), (61, .getfield 54, 3, (2214, 14, 0))] (by decide +kernel) (show jrun _ (60, [(4, a0), (0, a1), (0, a2), (0, a3), (0, a4), (0, v3), (99, 0)], [], s6) = some ([], (64, [(4, a0), (0, a1), (0, a2), (0, a3), (0, a4), (0, v3), (99, 0)], [(12, (a0 + 16))], s6)) from rfl) ?_
          obtain ⟨v8, s8, h8, H⟩ := jb_some H
          refine AT.callV (As := []) (cl := 8) (b := (a0 + 16)) (st := []) (i := 323) (pos := 4226) kFi_greatestStrength (by decide +kernel) rfl (by decide +kernel) rfl rfl (by omega) (Fi_greatestStrength_ok h8) ?_
          show AT sJc_fitsBy 4 (67, [(4, a0), (0, a1), (0, a2), (0, a3), (0, a4), (0, v3), (99, 0)], [(0, v8)], s8) o
          exact AT.weak (L' := [(4, a0), (99, 0), (99, 0), (99, 0), (99, 0), (99, 0), (99, 0)]) (jleK (jleJ (jleJ (jleJ (jleJ (jleJ (jleK jle0))))))) (Jc_fitsBy_67_ok  H)
  · refine AT.seq [(14, .aload_n 0, 1, (0, 0, 0)), (15, .iload 5, 2, (0, 0, 0))] (by decide +kernel) (show jrun _ (14, [(4, a0), (0, a1), (0, a2), (0, a3), (0, a4), (0, v3), (99, 0)], [], s3) = some ([], (17, [(4, a0), (0, a1), (0, a2), (0, a3), (0, a4), (0, v3), (99, 0)], [(0, v3), (4, a0)], s3)) from rfl) ?_
    obtain ⟨v9, s9, h9, H⟩ := jb_some H
    refine AT.callV (As := [(0, v3)]) (cl := 0) (b := a0) (st := []) (i := 123) (pos := 3066) kJc_refuse (by decide +kernel) rfl (by decide +kernel) rfl rfl (by omega) (Jc_refuse_ok h9) ?_
    show AT sJc_fitsBy 4 (20, [(4, a0), (0, a1), (0, a2), (0, a3), (0, a4), (0, v3), (99, 0)], [(0, v9)], s9) o
    exact AT.retiH (by decide +kernel) H
def sJc_ask : jS := (⟨"JellyCathedral", "ask", "(III)I"⟩, prog_1_method_40_code, 5, 1, [4, 0, 0, 0], 0)
theorem kJc_ask : jmk sJc_ask = true := jmk_of 5048 1001 5046 5047 (by decide +kernel)
set_option maxRecDepth 100000 in
theorem Jc_ask_ok {a0 a1 a2 a3 : Int} {s : jM} {o : Int × jM} (H : Jc_ask a0 a1 a2 a3 s = some o) : MK sJc_ask 4 [(4, a0), (0, a1), (0, a2), (0, a3)] s o := by
  refine MK.of kJc_ask rfl ?_
  show AT sJc_ask 4 (0, [(4, a0), (0, a1), (0, a2), (0, a3), (99, 0)], [], s) o
  unfold Jc_ask at H
  refine AT.seq [(0, .aload_n 0, 1, (0, 0, 0)), (1, .iload_n 1, 1, (0, 0, 0)), (2, .iload_n 2, 1, (0, 0, 0)), (3, .iload_n 3, 1, (0, 0, 0))] (by decide +kernel) (show jrun _ (0, [(4, a0), (0, a1), (0, a2), (0, a3), (99, 0)], [], s) = some ([], (4, [(4, a0), (0, a1), (0, a2), (0, a3), (99, 0)], [(0, a3), (0, a2), (0, a1), (4, a0)], s)) from rfl) ?_
  obtain ⟨v1, s1, h1, H⟩ := jb_some H
  refine AT.callV (As := [(0, a1), (0, a2), (0, a3)]) (cl := 0) (b := a0) (st := []) (i := 332) (pos := 5022) kJc_fitsTrouble (by decide +kernel) rfl (by decide +kernel) rfl rfl (by omega) (Jc_fitsTrouble_ok h1) ?_
  show AT sJc_ask 4 (7, [(4, a0), (0, a1), (0, a2), (0, a3), (99, 0)], [(0, v1)], s1) o
  refine AT.seq [(7, .istore 4, 2, (0, 0, 0)), (9, .iload 4, 2, (0, 0, 0))] (by decide +kernel) (show jrun _ (7, [(4, a0), (0, a1), (0, a2), (0, a3), (99, 0)], [(0, v1)], s1) = some ([], (11, [(4, a0), (0, a1), (0, a2), (0, a3), (0, v1)], [(0, v1)], s1)) from rfl) ?_
  refine AT.ite (x := (0, 0, 0)) (by decide +kernel) (show jbr (.ifCond .eq 10) (11, [(4, a0), (0, a1), (0, a2), (0, a3), (0, v1)], [(0, v1)], s1) = some ((w32 v1) = 0, (21, [(4, a0), (0, a1), (0, a2), (0, a3), (0, v1)], [], s1), (14, [(4, a0), (0, a1), (0, a2), (0, a3), (0, v1)], [], s1)) from rfl) H (fun H => ?_) (fun H => ?_)
  · refine AT.seq [(21, .aload_n 0, 1, (0, 0, 0)), (22, .iload_n 1, 1, (0, 0, 0)), (23, .iload_n 2, 1, (0, 0, 0)), (24, .iload_n 3, 1, (0, 0, 0))] (by decide +kernel) (show jrun _ (21, [(4, a0), (0, a1), (0, a2), (0, a3), (0, v1)], [], s1) = some ([], (25, [(4, a0), (0, a1), (0, a2), (0, a3), (0, v1)], [(0, a3), (0, a2), (0, a1), (4, a0)], s1)) from rfl) ?_
    obtain ⟨v2, s2, h2, H⟩ := jb_some H
    refine AT.callV (As := [(0, a1), (0, a2), (0, a3)]) (cl := 0) (b := a0) (st := []) (i := 335) (pos := 5028) kJc_keepFits (by decide +kernel) rfl (by decide +kernel) rfl rfl (by omega) (Jc_keepFits_ok h2) ?_
    show AT sJc_ask 4 (28, [(4, a0), (0, a1), (0, a2), (0, a3), (0, v1)], [], s2) o
    refine AT.seq [(28, .aload_n 0, 1, (0, 0, 0)), (29, .getfield 54, 3, (2214, 14, 0))] (by decide +kernel) (show jrun _ (28, [(4, a0), (0, a1), (0, a2), (0, a3), (0, v1)], [], s2) = some ([], (32, [(4, a0), (0, a1), (0, a2), (0, a3), (0, v1)], [(12, (a0 + 16))], s2)) from rfl) ?_
    obtain ⟨v3, s3, h3, H⟩ := jb_some H
    refine AT.callV (As := []) (cl := 8) (b := (a0 + 16)) (st := []) (i := 326) (pos := 4234) kFi_allWays (by decide +kernel) rfl (by decide +kernel) rfl rfl (by omega) (Fi_allWays_ok h3) ?_
    show AT sJc_ask 4 (35, [(4, a0), (0, a1), (0, a2), (0, a3), (0, v1)], [(0, v3)], s3) o
    refine AT.seq [(35, .iconst 2, 1, (0, 0, 0))] (by decide +kernel) (show jrun _ (35, [(4, a0), (0, a1), (0, a2), (0, a3), (0, v1)], [(0, v3)], s3) = some ([], (36, [(4, a0), (0, a1), (0, a2), (0, a3), (0, v1)], [(0, 2), (0, v3)], s3)) from rfl) ?_
    refine AT.ite (x := (0, 0, 0)) (by decide +kernel) (show jbr (.if_icmp .ge 10) (36, [(4, a0), (0, a1), (0, a2), (0, a3), (0, v1)], [(0, 2), (0, v3)], s3) = some ((w32 v3) < 2, (39, [(4, a0), (0, a1), (0, a2), (0, a3), (0, v1)], [], s3), (46, [(4, a0), (0, a1), (0, a2), (0, a3), (0, v1)], [], s3)) from rfl) H (fun H => ?_) (fun H => ?_)
    · refine AT.seq [(39, .aload_n 0, 1, (0, 0, 0)), (40, .bipush 8, 2, (0, 0, 0))] (by decide +kernel) (show jrun _ (39, [(4, a0), (0, a1), (0, a2), (0, a3), (0, v1)], [], s3) = some ([], (42, [(4, a0), (0, a1), (0, a2), (0, a3), (0, v1)], [(0, 8), (4, a0)], s3)) from rfl) ?_
      obtain ⟨v4, s4, h4, H⟩ := jb_some H
      refine AT.callV (As := [(0, 8)]) (cl := 0) (b := a0) (st := []) (i := 123) (pos := 3066) kJc_refuse (by decide +kernel) rfl (by decide +kernel) rfl rfl (by omega) (Jc_refuse_ok h4) ?_
      show AT sJc_ask 4 (45, [(4, a0), (0, a1), (0, a2), (0, a3), (0, v1)], [(0, v4)], s4) o
      exact AT.retiH (by decide +kernel) H
    · refine AT.blk (g := jok 3 (s3 a0 5) = true ∧ (0 ≤ (w32 a1) ∧ (w32 a1) < 5)) [(46, .aload_n 0, 1, (0, 0, 0)), (47, .aload_n 0, 1, (0, 0, 0)), (48, .getfield 54, 3, (2214, 14, 0)), (51, .aload_n 0, 1, (0, 0, 0)), (52, .getfield 19, 3, (2205, 5, 0)), (55, .getfield 229, 3, (1217, 312, 0)), (58, .iload_n 1, 1, (0, 0, 0)), (59, .aaload, 1, (0, 0, 0)), (60, .getfield 233, 3, (1111, 200, 0))] (by decide +kernel) (show jrun _ (46, [(4, a0), (0, a1), (0, a2), (0, a3), (0, v1)], [], s3) = some ([jok 3 (s3 a0 5) = true, (0 ≤ (w32 a1) ∧ (w32 a1) < 5)], (63, [(4, a0), (0, a1), (0, a2), (0, a3), (0, v1)], [(0, (s3 (((s3 a0 5) + 4) + 11 + 2 * (w32 a1)) 0)), (12, (a0 + 16)), (4, a0)], s3)) from rfl) (fun h => ⟨h.1, h.2⟩) H (fun H => ?_)
      obtain ⟨v5, s5, h5, H⟩ := jb_some H
      refine AT.callV (As := [(0, (s3 (((s3 a0 5) + 4) + 11 + 2 * (w32 a1)) 0))]) (cl := 8) (b := (a0 + 16)) (st := [(4, a0)]) (i := 342) (pos := 5049) kFi_bestHeat (by decide +kernel) rfl (by decide +kernel) rfl rfl (by omega) (Fi_bestHeat_ok h5) ?_
      show AT sJc_ask 4 (66, [(4, a0), (0, a1), (0, a2), (0, a3), (0, v1)], [(0, v5), (4, a0)], s5) o
      obtain ⟨v6, s6, h6, H⟩ := jb_some H
      refine AT.callV (As := [(0, v5)]) (cl := 0) (b := a0) (st := []) (i := 170) (pos := 3215) kJc_answer (by decide +kernel) rfl (by decide +kernel) rfl rfl (by omega) (Jc_answer_ok h6) ?_
      show AT sJc_ask 4 (69, [(4, a0), (0, a1), (0, a2), (0, a3), (0, v1)], [(0, v6)], s6) o
      exact AT.retiH (by decide +kernel) H
  · refine AT.seq [(14, .aload_n 0, 1, (0, 0, 0)), (15, .iload 4, 2, (0, 0, 0))] (by decide +kernel) (show jrun _ (14, [(4, a0), (0, a1), (0, a2), (0, a3), (0, v1)], [], s1) = some ([], (17, [(4, a0), (0, a1), (0, a2), (0, a3), (0, v1)], [(0, v1), (4, a0)], s1)) from rfl) ?_
    obtain ⟨v7, s7, h7, H⟩ := jb_some H
    refine AT.callV (As := [(0, v1)]) (cl := 0) (b := a0) (st := []) (i := 123) (pos := 3066) kJc_refuse (by decide +kernel) rfl (by decide +kernel) rfl rfl (by omega) (Jc_refuse_ok h7) ?_
    show AT sJc_ask 4 (20, [(4, a0), (0, a1), (0, a2), (0, a3), (0, v1)], [(0, v7)], s7) o
    exact AT.retiH (by decide +kernel) H
def sJc_gameTrouble : jS := (⟨"JellyCathedral", "gameTrouble", "(III)I"⟩, prog_1_method_61_code, 4, 1, [4, 0, 0, 0], 0)
theorem kJc_gameTrouble : jmk sJc_gameTrouble = true := jmk_of 5065 1001 5064 28 (by decide +kernel)
set_option maxRecDepth 100000 in
theorem Jc_gameTrouble_ok {a0 a1 a2 a3 : Int} {s : jM} {o : Int × jM} (H : Jc_gameTrouble a0 a1 a2 a3 s = some o) : MK sJc_gameTrouble 1 [(4, a0), (0, a1), (0, a2), (0, a3)] s o := by
  refine MK.of kJc_gameTrouble rfl ?_
  show AT sJc_gameTrouble 1 (0, [(4, a0), (0, a1), (0, a2), (0, a3)], [], s) o
  unfold Jc_gameTrouble at H
  refine AT.blk (g := jok 3 (s a0 5) = true) [(0, .aload_n 0, 1, (0, 0, 0)), (1, .getfield 19, 3, (2205, 5, 0)), (4, .iload_n 1, 1, (0, 0, 0))] (by decide +kernel) (show jrun _ (0, [(4, a0), (0, a1), (0, a2), (0, a3)], [], s) = some ([jok 3 (s a0 5) = true], (5, [(4, a0), (0, a1), (0, a2), (0, a3)], [(0, a1), (7, (s a0 5))], s)) from rfl) (fun h => h) H (fun H => ?_)
  obtain ⟨v1, s1, h1, H⟩ := jb_some H
  refine AT.callV (As := [(0, a1)]) (cl := 3) (b := (s a0 5)) (st := []) (i := 226) (pos := 4050) kSe_isMould (by decide +kernel) rfl (by decide +kernel) rfl rfl (by omega) (Se_isMould_ok h1) ?_
  show AT sJc_gameTrouble 1 (8, [(4, a0), (0, a1), (0, a2), (0, a3)], [(0, v1)], s1) o
  refine AT.ite (x := (0, 0, 0)) (by decide +kernel) (show jbr (.ifCond .eq 14) (8, [(4, a0), (0, a1), (0, a2), (0, a3)], [(0, v1)], s1) = some ((w32 v1) = 0, (22, [(4, a0), (0, a1), (0, a2), (0, a3)], [], s1), (11, [(4, a0), (0, a1), (0, a2), (0, a3)], [], s1)) from rfl) H (fun H => ?_) (fun H => ?_)
  · refine AT.seq [(22, .iconst 2, 1, (0, 0, 0))] (by decide +kernel) (show jrun _ (22, [(4, a0), (0, a1), (0, a2), (0, a3)], [], s1) = some ([], (23, [(4, a0), (0, a1), (0, a2), (0, a3)], [(0, 2)], s1)) from rfl) ?_
    exact AT.retiH (by decide +kernel) H
  · refine AT.blk (g := jok 3 (s1 a0 5) = true) [(11, .aload_n 0, 1, (0, 0, 0)), (12, .getfield 19, 3, (2205, 5, 0)), (15, .iload_n 2, 1, (0, 0, 0))] (by decide +kernel) (show jrun _ (11, [(4, a0), (0, a1), (0, a2), (0, a3)], [], s1) = some ([jok 3 (s1 a0 5) = true], (16, [(4, a0), (0, a1), (0, a2), (0, a3)], [(0, a2), (7, (s1 a0 5))], s1)) from rfl) (fun h => h) H (fun H => ?_)
    obtain ⟨v2, s2, h2, H⟩ := jb_some H
    refine AT.callV (As := [(0, a2)]) (cl := 3) (b := (s1 a0 5)) (st := []) (i := 226) (pos := 4050) kSe_isMould (by decide +kernel) rfl (by decide +kernel) rfl rfl (by omega) (Se_isMould_ok h2) ?_
    show AT sJc_gameTrouble 1 (19, [(4, a0), (0, a1), (0, a2), (0, a3)], [(0, v2)], s2) o
    refine AT.ite (x := (0, 0, 0)) (by decide +kernel) (show jbr (.ifCond .ne 5) (19, [(4, a0), (0, a1), (0, a2), (0, a3)], [(0, v2)], s2) = some ((w32 v2) = 0, (22, [(4, a0), (0, a1), (0, a2), (0, a3)], [], s2), (24, [(4, a0), (0, a1), (0, a2), (0, a3)], [], s2)) from rfl) H (fun H => ?_) (fun H => ?_)
    · refine AT.seq [(22, .iconst 2, 1, (0, 0, 0))] (by decide +kernel) (show jrun _ (22, [(4, a0), (0, a1), (0, a2), (0, a3)], [], s2) = some ([], (23, [(4, a0), (0, a1), (0, a2), (0, a3)], [(0, 2)], s2)) from rfl) ?_
      exact AT.retiH (by decide +kernel) H
    · refine AT.seq [(24, .iload_n 1, 1, (0, 0, 0)), (25, .iload_n 2, 1, (0, 0, 0))] (by decide +kernel) (show jrun _ (24, [(4, a0), (0, a1), (0, a2), (0, a3)], [], s2) = some ([], (26, [(4, a0), (0, a1), (0, a2), (0, a3)], [(0, a2), (0, a1)], s2)) from rfl) ?_
      refine AT.ite (x := (0, 0, 0)) (by decide +kernel) (show jbr (.if_icmp .eq 12) (26, [(4, a0), (0, a1), (0, a2), (0, a3)], [(0, a2), (0, a1)], s2) = some ((w32 a1) = (w32 a2), (38, [(4, a0), (0, a1), (0, a2), (0, a3)], [], s2), (29, [(4, a0), (0, a1), (0, a2), (0, a3)], [], s2)) from rfl) H (fun H => ?_) (fun H => ?_)
      · refine AT.seq [(38, .iconst 5, 1, (0, 0, 0)), (39, .goto 4, 3, (0, 0, 0))] (by decide +kernel) (show jrun _ (38, [(4, a0), (0, a1), (0, a2), (0, a3)], [], s2) = some ([], (43, [(4, a0), (0, a1), (0, a2), (0, a3)], [(0, 5)], s2)) from rfl) ?_
        exact AT.retiH (by decide +kernel) H
      · refine AT.seq [(29, .iload_n 3, 1, (0, 0, 0))] (by decide +kernel) (show jrun _ (29, [(4, a0), (0, a1), (0, a2), (0, a3)], [], s2) = some ([], (30, [(4, a0), (0, a1), (0, a2), (0, a3)], [(0, a3)], s2)) from rfl) ?_
        refine AT.ite (x := (0, 0, 0)) (by decide +kernel) (show jbr (.ifCond .lt 8) (30, [(4, a0), (0, a1), (0, a2), (0, a3)], [(0, a3)], s2) = some ((w32 a3) < 0, (38, [(4, a0), (0, a1), (0, a2), (0, a3)], [], s2), (33, [(4, a0), (0, a1), (0, a2), (0, a3)], [], s2)) from rfl) H (fun H => ?_) (fun H => ?_)
        · refine AT.seq [(38, .iconst 5, 1, (0, 0, 0)), (39, .goto 4, 3, (0, 0, 0))] (by decide +kernel) (show jrun _ (38, [(4, a0), (0, a1), (0, a2), (0, a3)], [], s2) = some ([], (43, [(4, a0), (0, a1), (0, a2), (0, a3)], [(0, 5)], s2)) from rfl) ?_
          exact AT.retiH (by decide +kernel) H
        · refine AT.seq [(33, .iload_n 3, 1, (0, 0, 0)), (34, .iconst 4, 1, (0, 0, 0))] (by decide +kernel) (show jrun _ (33, [(4, a0), (0, a1), (0, a2), (0, a3)], [], s2) = some ([], (35, [(4, a0), (0, a1), (0, a2), (0, a3)], [(0, 4), (0, a3)], s2)) from rfl) ?_
          refine AT.ite (x := (0, 0, 0)) (by decide +kernel) (show jbr (.if_icmp .le 7) (35, [(4, a0), (0, a1), (0, a2), (0, a3)], [(0, 4), (0, a3)], s2) = some (4 < (w32 a3), (38, [(4, a0), (0, a1), (0, a2), (0, a3)], [], s2), (42, [(4, a0), (0, a1), (0, a2), (0, a3)], [], s2)) from rfl) H (fun H => ?_) (fun H => ?_)
          · refine AT.seq [(38, .iconst 5, 1, (0, 0, 0)), (39, .goto 4, 3, (0, 0, 0))] (by decide +kernel) (show jrun _ (38, [(4, a0), (0, a1), (0, a2), (0, a3)], [], s2) = some ([], (43, [(4, a0), (0, a1), (0, a2), (0, a3)], [(0, 5)], s2)) from rfl) ?_
            exact AT.retiH (by decide +kernel) H
          · refine AT.seq [(42, .iconst 0, 1, (0, 0, 0))] (by decide +kernel) (show jrun _ (42, [(4, a0), (0, a1), (0, a2), (0, a3)], [], s2) = some ([], (43, [(4, a0), (0, a1), (0, a2), (0, a3)], [(0, 0)], s2)) from rfl) ?_
            exact AT.retiH (by decide +kernel) H
def sJc_game : jS := (⟨"JellyCathedral", "game", "(III)I"⟩, prog_1_method_41_code, 5, 1, [4, 0, 0, 0], 0)
theorem kJc_game : jmk sJc_game = true := jmk_of 5061 1001 5059 5060 (by decide +kernel)
set_option maxRecDepth 100000 in
theorem Jc_game_ok {a0 a1 a2 a3 : Int} {s : jM} {o : Int × jM} (H : Jc_game a0 a1 a2 a3 s = some o) : MK sJc_game 15 [(4, a0), (0, a1), (0, a2), (0, a3)] s o := by
  refine MK.of kJc_game rfl ?_
  show AT sJc_game 15 (0, [(4, a0), (0, a1), (0, a2), (0, a3), (99, 0)], [], s) o
  unfold Jc_game at H
  refine AT.seq [(0, .aload_n 0, 1, (0, 0, 0)), (1, .iload_n 1, 1, (0, 0, 0)), (2, .iload_n 2, 1, (0, 0, 0)), (3, .iload_n 3, 1, (0, 0, 0))] (by decide +kernel) (show jrun _ (0, [(4, a0), (0, a1), (0, a2), (0, a3), (99, 0)], [], s) = some ([], (4, [(4, a0), (0, a1), (0, a2), (0, a3), (99, 0)], [(0, a3), (0, a2), (0, a1), (4, a0)], s)) from rfl) ?_
  obtain ⟨v1, s1, h1, H⟩ := jb_some H
  refine AT.callV (As := [(0, a1), (0, a2), (0, a3)]) (cl := 0) (b := a0) (st := []) (i := 345) (pos := 5062) kJc_gameTrouble (by decide +kernel) rfl (by decide +kernel) rfl rfl (by omega) (Jc_gameTrouble_ok h1) ?_
  show AT sJc_game 15 (7, [(4, a0), (0, a1), (0, a2), (0, a3), (99, 0)], [(0, v1)], s1) o
  refine AT.seq [(7, .istore 4, 2, (0, 0, 0)), (9, .iload 4, 2, (0, 0, 0))] (by decide +kernel) (show jrun _ (7, [(4, a0), (0, a1), (0, a2), (0, a3), (99, 0)], [(0, v1)], s1) = some ([], (11, [(4, a0), (0, a1), (0, a2), (0, a3), (0, v1)], [(0, v1)], s1)) from rfl) ?_
  refine AT.ite (x := (0, 0, 0)) (by decide +kernel) (show jbr (.ifCond .ne 24) (11, [(4, a0), (0, a1), (0, a2), (0, a3), (0, v1)], [(0, v1)], s1) = some ((w32 v1) = 0, (14, [(4, a0), (0, a1), (0, a2), (0, a3), (0, v1)], [], s1), (35, [(4, a0), (0, a1), (0, a2), (0, a3), (0, v1)], [], s1)) from rfl) H (fun H => ?_) (fun H => ?_)
  · refine AT.blk (g := jok 3 (s1 a0 5) = true) [(14, .aload_n 0, 1, (0, 0, 0)), (15, .aload_n 0, 1, (0, 0, 0)), (16, .getfield 61, 3, (2215, 15, 0)), (19, .aload_n 0, 1, (0, 0, 0)), (20, .getfield 19, 3, (2205, 5, 0)), (23, .iload_n 1, 1, (0, 0, 0)), (24, .iload_n 2, 1, (0, 0, 0)), (25, .iload_n 3, 1, (0, 0, 0))] (by decide +kernel) (show jrun _ (14, [(4, a0), (0, a1), (0, a2), (0, a3), (0, v1)], [], s1) = some ([jok 3 (s1 a0 5) = true], (26, [(4, a0), (0, a1), (0, a2), (0, a3), (0, v1)], [(0, a3), (0, a2), (0, a1), (7, (s1 a0 5)), (13, (a0 + 22)), (4, a0)], s1)) from rfl) (fun h => h) H (fun H => ?_)
    obtain ⟨v2, s2, h2, H⟩ := jb_some H
    refine AT.callV (As := [(7, (s1 a0 5)), (0, a1), (0, a2), (0, a3)]) (cl := 9) (b := (a0 + 22)) (st := [(4, a0)]) (i := 348) (pos := 5066) kGa_play (by decide +kernel) rfl (by decide +kernel) rfl rfl (by omega) (Ga_play_ok h2) ?_
    show AT sJc_game 15 (29, [(4, a0), (0, a1), (0, a2), (0, a3), (0, v1)], [(0, v2), (4, a0)], s2) o
    obtain ⟨v3, s3, h3, H⟩ := jb_some H
    refine AT.callV (As := [(0, v2)]) (cl := 0) (b := a0) (st := []) (i := 170) (pos := 3215) kJc_answer (by decide +kernel) rfl (by decide +kernel) rfl rfl (by omega) (Jc_answer_ok h3) ?_
    show AT sJc_game 15 (32, [(4, a0), (0, a1), (0, a2), (0, a3), (0, v1)], [(0, v3)], s3) o
    refine AT.seq [(32, .goto 9, 3, (0, 0, 0))] (by decide +kernel) (show jrun _ (32, [(4, a0), (0, a1), (0, a2), (0, a3), (0, v1)], [(0, v3)], s3) = some ([], (41, [(4, a0), (0, a1), (0, a2), (0, a3), (0, v1)], [(0, v3)], s3)) from rfl) ?_
    exact AT.retiH (by decide +kernel) H
  · refine AT.seq [(35, .aload_n 0, 1, (0, 0, 0)), (36, .iload 4, 2, (0, 0, 0))] (by decide +kernel) (show jrun _ (35, [(4, a0), (0, a1), (0, a2), (0, a3), (0, v1)], [], s1) = some ([], (38, [(4, a0), (0, a1), (0, a2), (0, a3), (0, v1)], [(0, v1), (4, a0)], s1)) from rfl) ?_
    obtain ⟨v4, s4, h4, H⟩ := jb_some H
    refine AT.callV (As := [(0, v1)]) (cl := 0) (b := a0) (st := []) (i := 123) (pos := 3066) kJc_refuse (by decide +kernel) rfl (by decide +kernel) rfl rfl (by omega) (Jc_refuse_ok h4) ?_
    show AT sJc_game 15 (41, [(4, a0), (0, a1), (0, a2), (0, a3), (0, v1)], [(0, v4)], s4) o
    exact AT.retiH (by decide +kernel) H
def sJc_moveOf : jS := (⟨"JellyCathedral", "moveOf", "(III)I"⟩, prog_1_method_42_code, 5, 1, [4, 0, 0, 0], 0)
theorem kJc_moveOf : jmk sJc_moveOf = true := jmk_of 5086 1001 5084 5085 (by decide +kernel)
set_option maxRecDepth 100000 in
theorem Jc_moveOf_ok {a0 a1 a2 a3 : Int} {s : jM} {o : Int × jM} (H : Jc_moveOf a0 a1 a2 a3 s = some o) : MK sJc_moveOf 15 [(4, a0), (0, a1), (0, a2), (0, a3)] s o := by
  refine MK.of kJc_moveOf rfl ?_
  show AT sJc_moveOf 15 (0, [(4, a0), (0, a1), (0, a2), (0, a3), (99, 0)], [], s) o
  unfold Jc_moveOf at H
  refine AT.seq [(0, .aload_n 0, 1, (0, 0, 0)), (1, .iload_n 1, 1, (0, 0, 0)), (2, .iload_n 2, 1, (0, 0, 0)), (3, .iload_n 3, 1, (0, 0, 0))] (by decide +kernel) (show jrun _ (0, [(4, a0), (0, a1), (0, a2), (0, a3), (99, 0)], [], s) = some ([], (4, [(4, a0), (0, a1), (0, a2), (0, a3), (99, 0)], [(0, a3), (0, a2), (0, a1), (4, a0)], s)) from rfl) ?_
  obtain ⟨v1, s1, h1, H⟩ := jb_some H
  refine AT.callV (As := [(0, a1), (0, a2), (0, a3)]) (cl := 0) (b := a0) (st := []) (i := 345) (pos := 5062) kJc_gameTrouble (by decide +kernel) rfl (by decide +kernel) rfl rfl (by omega) (Jc_gameTrouble_ok h1) ?_
  show AT sJc_moveOf 15 (7, [(4, a0), (0, a1), (0, a2), (0, a3), (99, 0)], [(0, v1)], s1) o
  refine AT.seq [(7, .istore 4, 2, (0, 0, 0)), (9, .iload 4, 2, (0, 0, 0))] (by decide +kernel) (show jrun _ (7, [(4, a0), (0, a1), (0, a2), (0, a3), (99, 0)], [(0, v1)], s1) = some ([], (11, [(4, a0), (0, a1), (0, a2), (0, a3), (0, v1)], [(0, v1)], s1)) from rfl) ?_
  refine AT.ite (x := (0, 0, 0)) (by decide +kernel) (show jbr (.ifCond .eq 10) (11, [(4, a0), (0, a1), (0, a2), (0, a3), (0, v1)], [(0, v1)], s1) = some ((w32 v1) = 0, (21, [(4, a0), (0, a1), (0, a2), (0, a3), (0, v1)], [], s1), (14, [(4, a0), (0, a1), (0, a2), (0, a3), (0, v1)], [], s1)) from rfl) H (fun H => ?_) (fun H => ?_)
  · refine AT.seq [(21, .iload_n 3, 1, (0, 0, 0))] (by decide +kernel) (show jrun _ (21, [(4, a0), (0, a1), (0, a2), (0, a3), (0, v1)], [], s1) = some ([], (22, [(4, a0), (0, a1), (0, a2), (0, a3), (0, v1)], [(0, a3)], s1)) from rfl) ?_
    refine AT.ite (x := (0, 0, 0)) (by decide +kernel) (show jbr (.ifCond .ne 9) (22, [(4, a0), (0, a1), (0, a2), (0, a3), (0, v1)], [(0, a3)], s1) = some ((w32 a3) = 0, (25, [(4, a0), (0, a1), (0, a2), (0, a3), (0, v1)], [], s1), (31, [(4, a0), (0, a1), (0, a2), (0, a3), (0, v1)], [], s1)) from rfl) H (fun H => ?_) (fun H => ?_)
    · refine AT.seq [(25, .aload_n 0, 1, (0, 0, 0)), (26, .iconst 5, 1, (0, 0, 0))] (by decide +kernel) (show jrun _ (25, [(4, a0), (0, a1), (0, a2), (0, a3), (0, v1)], [], s1) = some ([], (27, [(4, a0), (0, a1), (0, a2), (0, a3), (0, v1)], [(0, 5), (4, a0)], s1)) from rfl) ?_
      obtain ⟨v2, s2, h2, H⟩ := jb_some H
      refine AT.callV (As := [(0, 5)]) (cl := 0) (b := a0) (st := []) (i := 123) (pos := 3066) kJc_refuse (by decide +kernel) rfl (by decide +kernel) rfl rfl (by omega) (Jc_refuse_ok h2) ?_
      show AT sJc_moveOf 15 (30, [(4, a0), (0, a1), (0, a2), (0, a3), (0, v1)], [(0, v2)], s2) o
      exact AT.retiH (by decide +kernel) H
    · refine AT.blk (g := jok 3 (s1 a0 5) = true) [(31, .aload_n 0, 1, (0, 0, 0)), (32, .getfield 61, 3, (2215, 15, 0)), (35, .aload_n 0, 1, (0, 0, 0)), (36, .getfield 19, 3, (2205, 5, 0)), (39, .iload_n 1, 1, (0, 0, 0)), (40, .iload_n 2, 1, (0, 0, 0)), (41, .iload_n 3, 1, (0, 0, 0))] (by decide +kernel) (show jrun _ (31, [(4, a0), (0, a1), (0, a2), (0, a3), (0, v1)], [], s1) = some ([jok 3 (s1 a0 5) = true], (42, [(4, a0), (0, a1), (0, a2), (0, a3), (0, v1)], [(0, a3), (0, a2), (0, a1), (7, (s1 a0 5)), (13, (a0 + 22))], s1)) from rfl) (fun h => h) H (fun H => ?_)
      obtain ⟨v3, s3, h3, H⟩ := jb_some H
      refine AT.callV (As := [(7, (s1 a0 5)), (0, a1), (0, a2), (0, a3)]) (cl := 9) (b := (a0 + 22)) (st := []) (i := 348) (pos := 5066) kGa_play (by decide +kernel) rfl (by decide +kernel) rfl rfl (by omega) (Ga_play_ok h3) ?_
      show AT sJc_moveOf 15 (45, [(4, a0), (0, a1), (0, a2), (0, a3), (0, v1)], [(0, v3)], s3) o
      refine AT.seq [(45, .pop, 1, (0, 0, 0)), (46, .aload_n 0, 1, (0, 0, 0)), (47, .getfield 61, 3, (2215, 15, 0)), (50, .getfield 352, 3, (2151, 901, 0)), (53, .iconst (-1), 1, (0, 0, 0))] (by decide +kernel) (show jrun _ (45, [(4, a0), (0, a1), (0, a2), (0, a3), (0, v1)], [(0, v3)], s3) = some ([], (54, [(4, a0), (0, a1), (0, a2), (0, a3), (0, v1)], [(0, (-1)), (0, (s3 (a0 + 22) 1))], s3)) from rfl) ?_
      refine AT.ite (x := (0, 0, 0)) (by decide +kernel) (show jbr (.if_icmp .ne 12) (54, [(4, a0), (0, a1), (0, a2), (0, a3), (0, v1)], [(0, (-1)), (0, (s3 (a0 + 22) 1))], s3) = some ((w32 (s3 (a0 + 22) 1)) = (-1), (57, [(4, a0), (0, a1), (0, a2), (0, a3), (0, v1)], [], s3), (66, [(4, a0), (0, a1), (0, a2), (0, a3), (0, v1)], [], s3)) from rfl) H (fun H => ?_) (fun H => ?_)
      · refine AT.seq [(57, .aload_n 0, 1, (0, 0, 0)), (58, .bipush 8, 2, (0, 0, 0))] (by decide +kernel) (show jrun _ (57, [(4, a0), (0, a1), (0, a2), (0, a3), (0, v1)], [], s3) = some ([], (60, [(4, a0), (0, a1), (0, a2), (0, a3), (0, v1)], [(0, 8), (4, a0)], s3)) from rfl) ?_
        obtain ⟨v4, s4, h4, H⟩ := jb_some H
        refine AT.callV (As := [(0, 8)]) (cl := 0) (b := a0) (st := []) (i := 123) (pos := 3066) kJc_refuse (by decide +kernel) rfl (by decide +kernel) rfl rfl (by omega) (Jc_refuse_ok h4) ?_
        show AT sJc_moveOf 15 (63, [(4, a0), (0, a1), (0, a2), (0, a3), (0, v1)], [(0, v4)], s4) o
        refine AT.seq [(63, .goto 14, 3, (0, 0, 0))] (by decide +kernel) (show jrun _ (63, [(4, a0), (0, a1), (0, a2), (0, a3), (0, v1)], [(0, v4)], s4) = some ([], (77, [(4, a0), (0, a1), (0, a2), (0, a3), (0, v1)], [(0, v4)], s4)) from rfl) ?_
        exact AT.retiH (by decide +kernel) H
      · refine AT.seq [(66, .aload_n 0, 1, (0, 0, 0)), (67, .aload_n 0, 1, (0, 0, 0)), (68, .getfield 61, 3, (2215, 15, 0)), (71, .getfield 352, 3, (2151, 901, 0))] (by decide +kernel) (show jrun _ (66, [(4, a0), (0, a1), (0, a2), (0, a3), (0, v1)], [], s3) = some ([], (74, [(4, a0), (0, a1), (0, a2), (0, a3), (0, v1)], [(0, (s3 (a0 + 22) 1)), (4, a0)], s3)) from rfl) ?_
        obtain ⟨v5, s5, h5, H⟩ := jb_some H
        refine AT.callV (As := [(0, (s3 (a0 + 22) 1))]) (cl := 0) (b := a0) (st := []) (i := 170) (pos := 3215) kJc_answer (by decide +kernel) rfl (by decide +kernel) rfl rfl (by omega) (Jc_answer_ok h5) ?_
        show AT sJc_moveOf 15 (77, [(4, a0), (0, a1), (0, a2), (0, a3), (0, v1)], [(0, v5)], s5) o
        exact AT.retiH (by decide +kernel) H
  · refine AT.seq [(14, .aload_n 0, 1, (0, 0, 0)), (15, .iload 4, 2, (0, 0, 0))] (by decide +kernel) (show jrun _ (14, [(4, a0), (0, a1), (0, a2), (0, a3), (0, v1)], [], s1) = some ([], (17, [(4, a0), (0, a1), (0, a2), (0, a3), (0, v1)], [(0, v1), (4, a0)], s1)) from rfl) ?_
    obtain ⟨v6, s6, h6, H⟩ := jb_some H
    refine AT.callV (As := [(0, v1)]) (cl := 0) (b := a0) (st := []) (i := 123) (pos := 3066) kJc_refuse (by decide +kernel) rfl (by decide +kernel) rfl rfl (by omega) (Jc_refuse_ok h6) ?_
    show AT sJc_moveOf 15 (20, [(4, a0), (0, a1), (0, a2), (0, a3), (0, v1)], [(0, v6)], s6) o
    exact AT.retiH (by decide +kernel) H
def sJc_power : jS := (⟨"JellyCathedral", "power", "(II)J"⟩, prog_1_method_64_code, 5, 2, [0, 0], 1)
theorem kJc_power : jmk sJc_power = true := jmk_of 5093 1001 5092 0 (by decide +kernel)
set_option maxRecDepth 100000 in
theorem Jc_power_5_ok {o : Int × jM} : ∀ (n : Nat) (x0 x1 x2 x4 : Int) (s : jM), Jc_power_5  n x0 x1 x2 x4 s = some o → AT sJc_power 0 (5, [(0, x0), (0, x1), (1, x2), (99, 0), (0, x4)], [], s) o := by
  intro n
  induction n with
  | zero =>
    intro x0 x1 x2 x4 s H
    have H : (none : Option (Int × jM)) = some o := H
    cases H
  | succ n ih =>
    intro x0 x1 x2 x4 s H
    rw [Jc_power_5] at H
    refine AT.seq [(5, .iload 4, 2, (0, 0, 0)), (7, .iload_n 1, 1, (0, 0, 0))] (by decide +kernel) (show jrun _ (5, [(0, x0), (0, x1), (1, x2), (99, 0), (0, x4)], [], s) = some ([], (8, [(0, x0), (0, x1), (1, x2), (99, 0), (0, x4)], [(0, x1), (0, x4)], s)) from rfl) ?_
    refine AT.ite (x := (0, 0, 0)) (by decide +kernel) (show jbr (.if_icmp .ge 14) (8, [(0, x0), (0, x1), (1, x2), (99, 0), (0, x4)], [(0, x1), (0, x4)], s) = some ((w32 x4) < (w32 x1), (11, [(0, x0), (0, x1), (1, x2), (99, 0), (0, x4)], [], s), (22, [(0, x0), (0, x1), (1, x2), (99, 0), (0, x4)], [], s)) from rfl) H (fun H => ?_) (fun H => ?_)
    · refine AT.seq [(11, .lload_n 2, 1, (0, 0, 0)), (12, .iload_n 0, 1, (0, 0, 0)), (13, .i2l, 1, (0, 0, 0)), (14, .lmul, 1, (0, 0, 0)), (15, .lstore_n 2, 1, (0, 0, 0)), (16, .iinc 4 1, 3, (0, 0, 0)), (19, .goto (-14), 3, (0, 0, 0))] (by decide +kernel) (show jrun _ (11, [(0, x0), (0, x1), (1, x2), (99, 0), (0, x4)], [], s) = some ([], (5, [(0, x0), (0, x1), (1, (x2 * (w32 x0))), (99, 0), (0, (x4 + 1))], [], s)) from rfl) ?_
      exact ih _ _ _ _ _ H
    · refine AT.seq [(22, .lload_n 2, 1, (0, 0, 0))] (by decide +kernel) (show jrun _ (22, [(0, x0), (0, x1), (1, x2), (99, 0), (0, x4)], [], s) = some ([], (23, [(0, x0), (0, x1), (1, x2), (99, 0), (0, x4)], [(1, x2)], s)) from rfl) ?_
      exact AT.retlH (by decide +kernel) H
set_option maxRecDepth 100000 in
theorem Jc_power_ok {a0 a1 : Int} {s : jM} {o : Int × jM} (H : Jc_power a0 a1 s = some o) : MK sJc_power 0 [(0, a0), (0, a1)] s o := by
  refine MK.of kJc_power rfl ?_
  show AT sJc_power 0 (0, [(0, a0), (0, a1), (99, 0), (99, 0), (99, 0)], [], s) o
  unfold Jc_power at H
  refine AT.seq [(0, .lconst 1, 1, (0, 0, 0)), (1, .lstore_n 2, 1, (0, 0, 0)), (2, .iconst 0, 1, (0, 0, 0)), (3, .istore 4, 2, (0, 0, 0))] (by decide +kernel) (show jrun _ (0, [(0, a0), (0, a1), (99, 0), (99, 0), (99, 0)], [], s) = some ([], (5, [(0, a0), (0, a1), (1, 1), (99, 0), (0, 0)], [], s)) from rfl) ?_
  exact Jc_power_5_ok  jFU _ _ _ _ _ H
def sJc_commonDivisor : jS := (⟨"JellyCathedral", "commonDivisor", "(JJ)J"⟩, prog_1_method_65_code, 11, 2, [1, 1], 1)
theorem kJc_commonDivisor : jmk sJc_commonDivisor = true := jmk_of 5100 1001 5099 0 (by decide +kernel)
set_option maxRecDepth 100000 in
theorem Jc_commonDivisor_9_ok {o : Int × jM} : ∀ (n : Nat) (x4 x6 x8 : Int) (s : jM), Jc_commonDivisor_9  n x4 x6 x8 s = some o → AT sJc_commonDivisor 0 (9, [(99, 0), (99, 0), (99, 0), (99, 0), (1, x4), (99, 0), (1, x6), (99, 0), (0, x8), (99, 0), (99, 0)], [], s) o := by
  intro n
  induction n with
  | zero =>
    intro x4 x6 x8 s H
    have H : (none : Option (Int × jM)) = some o := H
    cases H
  | succ n ih =>
    intro x4 x6 x8 s H
    rw [Jc_commonDivisor_9] at H
    refine AT.seq [(9, .iload 8, 2, (0, 0, 0)), (11, .sipush 200, 3, (0, 0, 0))] (by decide +kernel) (show jrun _ (9, [(99, 0), (99, 0), (99, 0), (99, 0), (1, x4), (99, 0), (1, x6), (99, 0), (0, x8), (99, 0), (99, 0)], [], s) = some ([], (14, [(99, 0), (99, 0), (99, 0), (99, 0), (1, x4), (99, 0), (1, x6), (99, 0), (0, x8), (99, 0), (99, 0)], [(0, 200), (0, x8)], s)) from rfl) ?_
    refine AT.ite (x := (0, 0, 0)) (by decide +kernel) (show jbr (.if_icmp .ge 31) (14, [(99, 0), (99, 0), (99, 0), (99, 0), (1, x4), (99, 0), (1, x6), (99, 0), (0, x8), (99, 0), (99, 0)], [(0, 200), (0, x8)], s) = some ((w32 x8) < 200, (17, [(99, 0), (99, 0), (99, 0), (99, 0), (1, x4), (99, 0), (1, x6), (99, 0), (0, x8), (99, 0), (99, 0)], [], s), (45, [(99, 0), (99, 0), (99, 0), (99, 0), (1, x4), (99, 0), (1, x6), (99, 0), (0, x8), (99, 0), (99, 0)], [], s)) from rfl) H (fun H => ?_) (fun H => ?_)
    · refine AT.seq [(17, .lload 6, 2, (0, 0, 0)), (19, .lconst 0, 1, (0, 0, 0)), (20, .lcmp, 1, (0, 0, 0))] (by decide +kernel) (show jrun _ (17, [(99, 0), (99, 0), (99, 0), (99, 0), (1, x4), (99, 0), (1, x6), (99, 0), (0, x8), (99, 0), (99, 0)], [], s) = some ([], (21, [(99, 0), (99, 0), (99, 0), (99, 0), (1, x4), (99, 0), (1, x6), (99, 0), (0, x8), (99, 0), (99, 0)], [(0, (jlcmp x6 0))], s)) from rfl) ?_
      refine AT.ite (x := (0, 0, 0)) (by decide +kernel) (show jbr (.ifCond .eq 24) (21, [(99, 0), (99, 0), (99, 0), (99, 0), (1, x4), (99, 0), (1, x6), (99, 0), (0, x8), (99, 0), (99, 0)], [(0, (jlcmp x6 0))], s) = some ((w32 (jlcmp x6 0)) = 0, (45, [(99, 0), (99, 0), (99, 0), (99, 0), (1, x4), (99, 0), (1, x6), (99, 0), (0, x8), (99, 0), (99, 0)], [], s), (24, [(99, 0), (99, 0), (99, 0), (99, 0), (1, x4), (99, 0), (1, x6), (99, 0), (0, x8), (99, 0), (99, 0)], [], s)) from rfl) H (fun H => ?_) (fun H => ?_)
      · refine AT.seq [(45, .lload 4, 2, (0, 0, 0))] (by decide +kernel) (show jrun _ (45, [(99, 0), (99, 0), (99, 0), (99, 0), (1, x4), (99, 0), (1, x6), (99, 0), (0, x8), (99, 0), (99, 0)], [], s) = some ([], (47, [(99, 0), (99, 0), (99, 0), (99, 0), (1, x4), (99, 0), (1, x6), (99, 0), (0, x8), (99, 0), (99, 0)], [(1, x4)], s)) from rfl) ?_
        exact AT.retlH (by decide +kernel) H
      · refine AT.blk (g := ¬ w64 x6 = 0) [(24, .lload 4, 2, (0, 0, 0)), (26, .lload 6, 2, (0, 0, 0)), (28, .lrem, 1, (0, 0, 0)), (29, .lstore 9, 2, (0, 0, 0)), (31, .lload 6, 2, (0, 0, 0)), (33, .lstore 4, 2, (0, 0, 0)), (35, .lload 9, 2, (0, 0, 0)), (37, .lstore 6, 2, (0, 0, 0)), (39, .iinc 8 1, 3, (0, 0, 0)), (42, .goto (-33), 3, (0, 0, 0))] (by decide +kernel) (show jrun _ (24, [(99, 0), (99, 0), (99, 0), (99, 0), (1, x4), (99, 0), (1, x6), (99, 0), (0, x8), (99, 0), (99, 0)], [], s) = some ([¬ w64 x6 = 0], (9, [(99, 0), (99, 0), (99, 0), (99, 0), (1, x6), (99, 0), (1, (jlrem x4 x6)), (99, 0), (0, (x8 + 1)), (1, (jlrem x4 x6)), (99, 0)], [], s)) from rfl) (fun h => h) H (fun H => ?_)
        exact AT.weak (L' := [(99, 0), (99, 0), (99, 0), (99, 0), (1, x6), (99, 0), (1, (jlrem x4 x6)), (99, 0), (0, (x8 + 1)), (99, 0), (99, 0)]) (jleK (jleK (jleK (jleK (jleK (jleK (jleK (jleK (jleK (jleJ (jleK jle0))))))))))) (ih _ _ _ _ H)
    · refine AT.seq [(45, .lload 4, 2, (0, 0, 0))] (by decide +kernel) (show jrun _ (45, [(99, 0), (99, 0), (99, 0), (99, 0), (1, x4), (99, 0), (1, x6), (99, 0), (0, x8), (99, 0), (99, 0)], [], s) = some ([], (47, [(99, 0), (99, 0), (99, 0), (99, 0), (1, x4), (99, 0), (1, x6), (99, 0), (0, x8), (99, 0), (99, 0)], [(1, x4)], s)) from rfl) ?_
      exact AT.retlH (by decide +kernel) H
set_option maxRecDepth 100000 in
theorem Jc_commonDivisor_ok {a0 a1 : Int} {s : jM} {o : Int × jM} (H : Jc_commonDivisor a0 a1 s = some o) : MK sJc_commonDivisor 0 [(1, a0), (1, a1)] s o := by
  refine MK.of kJc_commonDivisor rfl ?_
  show AT sJc_commonDivisor 0 (0, [(1, a0), (99, 0), (1, a1), (99, 0), (99, 0), (99, 0), (99, 0), (99, 0), (99, 0), (99, 0), (99, 0)], [], s) o
  unfold Jc_commonDivisor at H
  refine AT.seq [(0, .lload_n 0, 1, (0, 0, 0)), (1, .lstore 4, 2, (0, 0, 0)), (3, .lload_n 2, 1, (0, 0, 0)), (4, .lstore 6, 2, (0, 0, 0)), (6, .iconst 0, 1, (0, 0, 0)), (7, .istore 8, 2, (0, 0, 0))] (by decide +kernel) (show jrun _ (0, [(1, a0), (99, 0), (1, a1), (99, 0), (99, 0), (99, 0), (99, 0), (99, 0), (99, 0), (99, 0), (99, 0)], [], s) = some ([], (9, [(1, a0), (99, 0), (1, a1), (99, 0), (1, a0), (99, 0), (1, a1), (99, 0), (0, 0), (99, 0), (99, 0)], [], s)) from rfl) ?_
  exact AT.weak (L' := [(99, 0), (99, 0), (99, 0), (99, 0), (1, a0), (99, 0), (1, a1), (99, 0), (0, 0), (99, 0), (99, 0)]) (jleJ (jleK (jleJ (jleK (jleK (jleK (jleK (jleK (jleK (jleK (jleK jle0))))))))))) (Jc_commonDivisor_9_ok  jFU _ _ _ _ H)
def sJc_tell : jS := (⟨"JellyCathedral", "tell", "(JJ)Z"⟩, prog_1_method_54_code, 7, 3, [4, 1, 1], 0)
theorem kJc_tell : jmk sJc_tell = true := jmk_of 5097 1001 5096 32 (by decide +kernel)
set_option maxRecDepth 100000 in
theorem Jc_tell_ok {a0 a1 a2 : Int} {s : jM} {o : Int × jM} (H : Jc_tell a0 a1 a2 s = some o) : MK sJc_tell 1 [(4, a0), (1, a1), (1, a2)] s o := by
  refine MK.of kJc_tell rfl ?_
  show AT sJc_tell 1 (0, [(4, a0), (1, a1), (99, 0), (1, a2), (99, 0), (99, 0), (99, 0)], [], s) o
  unfold Jc_tell at H
  refine AT.seq [(0, .lload_n 1, 1, (0, 0, 0)), (1, .lload_n 3, 1, (0, 0, 0))] (by decide +kernel) (show jrun _ (0, [(4, a0), (1, a1), (99, 0), (1, a2), (99, 0), (99, 0), (99, 0)], [], s) = some ([], (2, [(4, a0), (1, a1), (99, 0), (1, a2), (99, 0), (99, 0), (99, 0)], [(1, a2), (1, a1)], s)) from rfl) ?_
  obtain ⟨v1, s1, h1, H⟩ := jb_some H
  refine AT.callS (As := [(1, a1), (1, a2)]) (st := []) (i := 381) (pos := 5098) kJc_commonDivisor (by decide +kernel) rfl rfl rfl (by omega) (Jc_commonDivisor_ok h1) ?_
  show AT sJc_tell 1 (5, [(4, a0), (1, a1), (99, 0), (1, a2), (99, 0), (99, 0), (99, 0)], [(1, v1)], s1) o
  refine AT.seq [(5, .lstore 5, 2, (0, 0, 0)), (7, .lload 5, 2, (0, 0, 0)), (9, .lconst 0, 1, (0, 0, 0)), (10, .lcmp, 1, (0, 0, 0))] (by decide +kernel) (show jrun _ (5, [(4, a0), (1, a1), (99, 0), (1, a2), (99, 0), (99, 0), (99, 0)], [(1, v1)], s1) = some ([], (11, [(4, a0), (1, a1), (99, 0), (1, a2), (99, 0), (1, v1), (99, 0)], [(0, (jlcmp v1 0))], s1)) from rfl) ?_
  refine AT.ite (x := (0, 0, 0)) (by decide +kernel) (show jbr (.ifCond .le 19) (11, [(4, a0), (1, a1), (99, 0), (1, a2), (99, 0), (1, v1), (99, 0)], [(0, (jlcmp v1 0))], s1) = some (0 < (w32 (jlcmp v1 0)), (14, [(4, a0), (1, a1), (99, 0), (1, a2), (99, 0), (1, v1), (99, 0)], [], s1), (30, [(4, a0), (1, a1), (99, 0), (1, a2), (99, 0), (1, v1), (99, 0)], [], s1)) from rfl) H (fun H => ?_) (fun H => ?_)
  · refine AT.blk (g := ¬ w64 v1 = 0 ∧ ¬ w64 v1 = 0) [(14, .aload_n 0, 1, (0, 0, 0)), (15, .lload_n 1, 1, (0, 0, 0)), (16, .lload 5, 2, (0, 0, 0)), (18, .ldiv, 1, (0, 0, 0)), (19, .putfield 80, 3, (2201, 1, 0)), (22, .aload_n 0, 1, (0, 0, 0)), (23, .lload_n 3, 1, (0, 0, 0)), (24, .lload 5, 2, (0, 0, 0)), (26, .ldiv, 1, (0, 0, 0)), (27, .putfield 84, 3, (2202, 2, 0)), (30, .aload_n 0, 1, (0, 0, 0))] (by decide +kernel) (show jrun _ (14, [(4, a0), (1, a1), (99, 0), (1, a2), (99, 0), (1, v1), (99, 0)], [], s1) = some ([¬ w64 v1 = 0, ¬ w64 v1 = 0], (31, [(4, a0), (1, a1), (99, 0), (1, a2), (99, 0), (1, v1), (99, 0)], [(4, a0)], (jup (jup s1 a0 1 (jldiv a1 v1)) a0 2 (jldiv a2 v1)))) from rfl) (fun h => ⟨h.1, h.2⟩) H (fun H => ?_)
    obtain ⟨v2, s2, h2, H⟩ := jb_some H
    refine AT.callV (As := []) (cl := 0) (b := a0) (st := []) (i := 111) (pos := 3042) kJc_grant (by decide +kernel) rfl (by decide +kernel) rfl rfl (by omega) (Jc_grant_ok h2) ?_
    show AT sJc_tell 1 (34, [(4, a0), (1, a1), (99, 0), (1, a2), (99, 0), (1, v1), (99, 0)], [(0, v2)], s2) o
    exact AT.retzH (by decide +kernel) H
  · refine AT.seq [(30, .aload_n 0, 1, (0, 0, 0))] (by decide +kernel) (show jrun _ (30, [(4, a0), (1, a1), (99, 0), (1, a2), (99, 0), (1, v1), (99, 0)], [], s1) = some ([], (31, [(4, a0), (1, a1), (99, 0), (1, a2), (99, 0), (1, v1), (99, 0)], [(4, a0)], s1)) from rfl) ?_
    obtain ⟨v3, s3, h3, H⟩ := jb_some H
    refine AT.callV (As := []) (cl := 0) (b := a0) (st := []) (i := 111) (pos := 3042) kJc_grant (by decide +kernel) rfl (by decide +kernel) rfl rfl (by omega) (Jc_grant_ok h3) ?_
    show AT sJc_tell 1 (34, [(4, a0), (1, a1), (99, 0), (1, a2), (99, 0), (1, v1), (99, 0)], [(0, v3)], s3) o
    exact AT.retzH (by decide +kernel) H
def sJc_bubbles : jS := (⟨"JellyCathedral", "bubbles", "(II)Z"⟩, prog_1_method_43_code, 8, 3, [4, 0, 0], 0)
theorem kJc_bubbles : jmk sJc_bubbles = true := jmk_of 5090 1001 5088 5089 (by decide +kernel)
set_option maxRecDepth 100000 in
theorem Jc_bubbles_83_ok {o : Int × jM} {k34 : Int → Int → Int → Int → Int → Int → jM → Option (Int × jM)} (hk34 : ∀ (x0 x1 x2 x3 x5 x7 : Int) (s : jM), k34 x0 x1 x2 x3 x5 x7 s = some o → AT sJc_bubbles 2 (34, [(4, x0), (0, x1), (0, x2), (1, x3), (99, 0), (1, x5), (99, 0), (0, x7)], [], s) o) {x0 x1 x2 x3 x5 x7 : Int} {s : jM} (H : Jc_bubbles_83 k34 x0 x1 x2 x3 x5 x7 s = some o) : AT sJc_bubbles 2 (83, [(4, x0), (0, x1), (0, x2), (1, x3), (99, 0), (1, x5), (99, 0), (0, x7)], [], s) o := by
  unfold Jc_bubbles_83 at H
  refine AT.blk (g := ¬ w64 (w32 (x7 + 1)) = 0) [(83, .lload_n 3, 1, (0, 0, 0)), (84, .iload_n 1, 1, (0, 0, 0)), (85, .iload 7, 2, (0, 0, 0)), (87, .isub, 1, (0, 0, 0)), (88, .i2l, 1, (0, 0, 0)), (89, .lmul, 1, (0, 0, 0)), (90, .iload 7, 2, (0, 0, 0)), (92, .iconst 1, 1, (0, 0, 0)), (93, .iadd, 1, (0, 0, 0)), (94, .i2l, 1, (0, 0, 0)), (95, .ldiv, 1, (0, 0, 0)), (96, .lstore_n 3, 1, (0, 0, 0)), (97, .iinc 7 1, 3, (0, 0, 0)), (100, .goto (-66), 3, (0, 0, 0))] (by decide +kernel) (show jrun _ (83, [(4, x0), (0, x1), (0, x2), (1, x3), (99, 0), (1, x5), (99, 0), (0, x7)], [], s) = some ([¬ w64 (w32 (x7 + 1)) = 0], (34, [(4, x0), (0, x1), (0, x2), (1, (jldiv (x3 * (w32 (x1 - x7))) (w32 (x7 + 1)))), (99, 0), (1, x5), (99, 0), (0, (x7 + 1))], [], s)) from rfl) (fun h => h) H (fun H => ?_)
  exact hk34 _ _ _ _ _ _ _ H
set_option maxRecDepth 100000 in
theorem Jc_bubbles_34_ok {o : Int × jM} : ∀ (n : Nat) (x0 x1 x2 x3 x5 x7 : Int) (s : jM), Jc_bubbles_34  n x0 x1 x2 x3 x5 x7 s = some o → AT sJc_bubbles 2 (34, [(4, x0), (0, x1), (0, x2), (1, x3), (99, 0), (1, x5), (99, 0), (0, x7)], [], s) o := by
  intro n
  induction n with
  | zero =>
    intro x0 x1 x2 x3 x5 x7 s H
    have H : (none : Option (Int × jM)) = some o := H
    cases H
  | succ n ih =>
    intro x0 x1 x2 x3 x5 x7 s H
    rw [Jc_bubbles_34] at H
    refine AT.seq [(34, .iload 7, 2, (0, 0, 0)), (36, .iload_n 1, 1, (0, 0, 0))] (by decide +kernel) (show jrun _ (34, [(4, x0), (0, x1), (0, x2), (1, x3), (99, 0), (1, x5), (99, 0), (0, x7)], [], s) = some ([], (37, [(4, x0), (0, x1), (0, x2), (1, x3), (99, 0), (1, x5), (99, 0), (0, x7)], [(0, x1), (0, x7)], s)) from rfl) ?_
    refine AT.ite (x := (0, 0, 0)) (by decide +kernel) (show jbr (.if_icmp .gt 66) (37, [(4, x0), (0, x1), (0, x2), (1, x3), (99, 0), (1, x5), (99, 0), (0, x7)], [(0, x1), (0, x7)], s) = some ((w32 x1) < (w32 x7), (103, [(4, x0), (0, x1), (0, x2), (1, x3), (99, 0), (1, x5), (99, 0), (0, x7)], [], s), (40, [(4, x0), (0, x1), (0, x2), (1, x3), (99, 0), (1, x5), (99, 0), (0, x7)], [], s)) from rfl) H (fun H => ?_) (fun H => ?_)
    · refine AT.seq [(103, .aload_n 0, 1, (0, 0, 0)), (104, .lload 5, 2, (0, 0, 0)), (106, .bipush 16, 2, (0, 0, 0)), (108, .iload_n 1, 1, (0, 0, 0))] (by decide +kernel) (show jrun _ (103, [(4, x0), (0, x1), (0, x2), (1, x3), (99, 0), (1, x5), (99, 0), (0, x7)], [], s) = some ([], (109, [(4, x0), (0, x1), (0, x2), (1, x3), (99, 0), (1, x5), (99, 0), (0, x7)], [(0, x1), (0, 16), (1, x5), (4, x0)], s)) from rfl) ?_
      obtain ⟨v1, s1, h1, H⟩ := jb_some H
      refine AT.callS (As := [(0, 16), (0, x1)]) (st := [(1, x5), (4, x0)]) (i := 355) (pos := 5091) kJc_power (by decide +kernel) rfl rfl rfl (by omega) (Jc_power_ok h1) ?_
      show AT sJc_bubbles 2 (112, [(4, x0), (0, x1), (0, x2), (1, x3), (99, 0), (1, x5), (99, 0), (0, x7)], [(1, v1), (1, x5), (4, x0)], s1) o
      obtain ⟨v2, s2, h2, H⟩ := jb_some H
      refine AT.callV (As := [(1, x5), (1, v1)]) (cl := 0) (b := x0) (st := []) (i := 359) (pos := 5094) kJc_tell (by decide +kernel) rfl (by decide +kernel) rfl rfl (by omega) (Jc_tell_ok h2) ?_
      show AT sJc_bubbles 2 (115, [(4, x0), (0, x1), (0, x2), (1, x3), (99, 0), (1, x5), (99, 0), (0, x7)], [(0, v2)], s2) o
      exact AT.retzH (by decide +kernel) H
    · refine AT.seq [(40, .iload 7, 2, (0, 0, 0)), (42, .iload_n 2, 1, (0, 0, 0))] (by decide +kernel) (show jrun _ (40, [(4, x0), (0, x1), (0, x2), (1, x3), (99, 0), (1, x5), (99, 0), (0, x7)], [], s) = some ([], (43, [(4, x0), (0, x1), (0, x2), (1, x3), (99, 0), (1, x5), (99, 0), (0, x7)], [(0, x2), (0, x7)], s)) from rfl) ?_
      refine AT.ite (x := (0, 0, 0)) (by decide +kernel) (show jbr (.if_icmp .lt 40) (43, [(4, x0), (0, x1), (0, x2), (1, x3), (99, 0), (1, x5), (99, 0), (0, x7)], [(0, x2), (0, x7)], s) = some ((w32 x7) < (w32 x2), (83, [(4, x0), (0, x1), (0, x2), (1, x3), (99, 0), (1, x5), (99, 0), (0, x7)], [], s), (46, [(4, x0), (0, x1), (0, x2), (1, x3), (99, 0), (1, x5), (99, 0), (0, x7)], [], s)) from rfl) H (fun H => ?_) (fun H => ?_)
      · exact Jc_bubbles_83_ok ih H
      · refine AT.blk (g := jok 3 (s x0 5) = true) [(46, .lload 5, 2, (0, 0, 0)), (48, .lload_n 3, 1, (0, 0, 0)), (49, .aload_n 0, 1, (0, 0, 0)), (50, .getfield 19, 3, (2205, 5, 0)), (53, .getfield 198, 3, (1179, 301, 0)), (56, .iload 7, 2, (0, 0, 0))] (by decide +kernel) (show jrun _ (46, [(4, x0), (0, x1), (0, x2), (1, x3), (99, 0), (1, x5), (99, 0), (0, x7)], [], s) = some ([jok 3 (s x0 5) = true], (58, [(4, x0), (0, x1), (0, x2), (1, x3), (99, 0), (1, x5), (99, 0), (0, x7)], [(0, x7), (0, (s (s x0 5) 1)), (1, x3), (1, x5)], s)) from rfl) (fun h => h) H (fun H => ?_)
        obtain ⟨v3, s3, h3, H⟩ := jb_some H
        refine AT.callS (As := [(0, (s (s x0 5) 1)), (0, x7)]) (st := [(1, x3), (1, x5)]) (i := 355) (pos := 5091) kJc_power (by decide +kernel) rfl rfl rfl (by omega) (Jc_power_ok h3) ?_
        show AT sJc_bubbles 2 (61, [(4, x0), (0, x1), (0, x2), (1, x3), (99, 0), (1, x5), (99, 0), (0, x7)], [(1, v3), (1, x3), (1, x5)], s3) o
        refine AT.blk (g := jok 3 (s3 x0 5) = true) [(61, .lmul, 1, (0, 0, 0)), (62, .bipush 16, 2, (0, 0, 0)), (64, .aload_n 0, 1, (0, 0, 0)), (65, .getfield 19, 3, (2205, 5, 0)), (68, .getfield 198, 3, (1179, 301, 0)), (71, .isub, 1, (0, 0, 0)), (72, .iload_n 1, 1, (0, 0, 0)), (73, .iload 7, 2, (0, 0, 0)), (75, .isub, 1, (0, 0, 0))] (by decide +kernel) (show jrun _ (61, [(4, x0), (0, x1), (0, x2), (1, x3), (99, 0), (1, x5), (99, 0), (0, x7)], [(1, v3), (1, x3), (1, x5)], s3) = some ([jok 3 (s3 x0 5) = true], (76, [(4, x0), (0, x1), (0, x2), (1, x3), (99, 0), (1, x5), (99, 0), (0, x7)], [(0, (x1 - x7)), (0, (16 - (s3 (s3 x0 5) 1))), (1, (x3 * v3)), (1, x5)], s3)) from rfl) (fun h => h) H (fun H => ?_)
        obtain ⟨v4, s4, h4, H⟩ := jb_some H
        refine AT.callS (As := [(0, (16 - (s3 (s3 x0 5) 1))), (0, (x1 - x7))]) (st := [(1, (x3 * v3)), (1, x5)]) (i := 355) (pos := 5091) kJc_power (by decide +kernel) rfl rfl rfl (by omega) (Jc_power_ok h4) ?_
        show AT sJc_bubbles 2 (79, [(4, x0), (0, x1), (0, x2), (1, x3), (99, 0), (1, x5), (99, 0), (0, x7)], [(1, v4), (1, (x3 * v3)), (1, x5)], s4) o
        refine AT.seq [(79, .lmul, 1, (0, 0, 0)), (80, .ladd, 1, (0, 0, 0)), (81, .lstore 5, 2, (0, 0, 0))] (by decide +kernel) (show jrun _ (79, [(4, x0), (0, x1), (0, x2), (1, x3), (99, 0), (1, x5), (99, 0), (0, x7)], [(1, v4), (1, (x3 * v3)), (1, x5)], s4) = some ([], (83, [(4, x0), (0, x1), (0, x2), (1, x3), (99, 0), (1, (x5 + ((x3 * v3) * v4))), (99, 0), (0, x7)], [], s4)) from rfl) ?_
        exact Jc_bubbles_83_ok ih H
set_option maxRecDepth 100000 in
theorem Jc_bubbles_ok {a0 a1 a2 : Int} {s : jM} {o : Int × jM} (H : Jc_bubbles a0 a1 a2 s = some o) : MK sJc_bubbles 2 [(4, a0), (0, a1), (0, a2)] s o := by
  refine MK.of kJc_bubbles rfl ?_
  show AT sJc_bubbles 2 (0, [(4, a0), (0, a1), (0, a2), (99, 0), (99, 0), (99, 0), (99, 0), (99, 0)], [], s) o
  unfold Jc_bubbles at H
  refine AT.seq [(0, .iload_n 1, 1, (0, 0, 0))] (by decide +kernel) (show jrun _ (0, [(4, a0), (0, a1), (0, a2), (99, 0), (99, 0), (99, 0), (99, 0), (99, 0)], [], s) = some ([], (1, [(4, a0), (0, a1), (0, a2), (99, 0), (99, 0), (99, 0), (99, 0), (99, 0)], [(0, a1)], s)) from rfl) ?_
  refine AT.ite (x := (0, 0, 0)) (by decide +kernel) (show jbr (.ifCond .lt 19) (1, [(4, a0), (0, a1), (0, a2), (99, 0), (99, 0), (99, 0), (99, 0), (99, 0)], [(0, a1)], s) = some ((w32 a1) < 0, (20, [(4, a0), (0, a1), (0, a2), (99, 0), (99, 0), (99, 0), (99, 0), (99, 0)], [], s), (4, [(4, a0), (0, a1), (0, a2), (99, 0), (99, 0), (99, 0), (99, 0), (99, 0)], [], s)) from rfl) H (fun H => ?_) (fun H => ?_)
  · refine AT.seq [(20, .aload_n 0, 1, (0, 0, 0)), (21, .iconst 5, 1, (0, 0, 0))] (by decide +kernel) (show jrun _ (20, [(4, a0), (0, a1), (0, a2), (99, 0), (99, 0), (99, 0), (99, 0), (99, 0)], [], s) = some ([], (22, [(4, a0), (0, a1), (0, a2), (99, 0), (99, 0), (99, 0), (99, 0), (99, 0)], [(0, 5), (4, a0)], s)) from rfl) ?_
    obtain ⟨v5, s5, h5, H⟩ := jb_some H
    refine AT.callV (As := [(0, 5)]) (cl := 0) (b := a0) (st := []) (i := 104) (pos := 3034) kJc_deny (by decide +kernel) rfl (by decide +kernel) rfl rfl (by omega) (Jc_deny_ok h5) ?_
    show AT sJc_bubbles 2 (25, [(4, a0), (0, a1), (0, a2), (99, 0), (99, 0), (99, 0), (99, 0), (99, 0)], [(0, v5)], s5) o
    exact AT.retzH (by decide +kernel) H
  · refine AT.seq [(4, .iload_n 1, 1, (0, 0, 0)), (5, .bipush 12, 2, (0, 0, 0))] (by decide +kernel) (show jrun _ (4, [(4, a0), (0, a1), (0, a2), (99, 0), (99, 0), (99, 0), (99, 0), (99, 0)], [], s) = some ([], (7, [(4, a0), (0, a1), (0, a2), (99, 0), (99, 0), (99, 0), (99, 0), (99, 0)], [(0, 12), (0, a1)], s)) from rfl) ?_
    refine AT.ite (x := (0, 0, 0)) (by decide +kernel) (show jbr (.if_icmp .gt 13) (7, [(4, a0), (0, a1), (0, a2), (99, 0), (99, 0), (99, 0), (99, 0), (99, 0)], [(0, 12), (0, a1)], s) = some (12 < (w32 a1), (20, [(4, a0), (0, a1), (0, a2), (99, 0), (99, 0), (99, 0), (99, 0), (99, 0)], [], s), (10, [(4, a0), (0, a1), (0, a2), (99, 0), (99, 0), (99, 0), (99, 0), (99, 0)], [], s)) from rfl) H (fun H => ?_) (fun H => ?_)
    · refine AT.seq [(20, .aload_n 0, 1, (0, 0, 0)), (21, .iconst 5, 1, (0, 0, 0))] (by decide +kernel) (show jrun _ (20, [(4, a0), (0, a1), (0, a2), (99, 0), (99, 0), (99, 0), (99, 0), (99, 0)], [], s) = some ([], (22, [(4, a0), (0, a1), (0, a2), (99, 0), (99, 0), (99, 0), (99, 0), (99, 0)], [(0, 5), (4, a0)], s)) from rfl) ?_
      obtain ⟨v6, s6, h6, H⟩ := jb_some H
      refine AT.callV (As := [(0, 5)]) (cl := 0) (b := a0) (st := []) (i := 104) (pos := 3034) kJc_deny (by decide +kernel) rfl (by decide +kernel) rfl rfl (by omega) (Jc_deny_ok h6) ?_
      show AT sJc_bubbles 2 (25, [(4, a0), (0, a1), (0, a2), (99, 0), (99, 0), (99, 0), (99, 0), (99, 0)], [(0, v6)], s6) o
      exact AT.retzH (by decide +kernel) H
    · refine AT.seq [(10, .iload_n 2, 1, (0, 0, 0))] (by decide +kernel) (show jrun _ (10, [(4, a0), (0, a1), (0, a2), (99, 0), (99, 0), (99, 0), (99, 0), (99, 0)], [], s) = some ([], (11, [(4, a0), (0, a1), (0, a2), (99, 0), (99, 0), (99, 0), (99, 0), (99, 0)], [(0, a2)], s)) from rfl) ?_
      refine AT.ite (x := (0, 0, 0)) (by decide +kernel) (show jbr (.ifCond .lt 9) (11, [(4, a0), (0, a1), (0, a2), (99, 0), (99, 0), (99, 0), (99, 0), (99, 0)], [(0, a2)], s) = some ((w32 a2) < 0, (20, [(4, a0), (0, a1), (0, a2), (99, 0), (99, 0), (99, 0), (99, 0), (99, 0)], [], s), (14, [(4, a0), (0, a1), (0, a2), (99, 0), (99, 0), (99, 0), (99, 0), (99, 0)], [], s)) from rfl) H (fun H => ?_) (fun H => ?_)
      · refine AT.seq [(20, .aload_n 0, 1, (0, 0, 0)), (21, .iconst 5, 1, (0, 0, 0))] (by decide +kernel) (show jrun _ (20, [(4, a0), (0, a1), (0, a2), (99, 0), (99, 0), (99, 0), (99, 0), (99, 0)], [], s) = some ([], (22, [(4, a0), (0, a1), (0, a2), (99, 0), (99, 0), (99, 0), (99, 0), (99, 0)], [(0, 5), (4, a0)], s)) from rfl) ?_
        obtain ⟨v7, s7, h7, H⟩ := jb_some H
        refine AT.callV (As := [(0, 5)]) (cl := 0) (b := a0) (st := []) (i := 104) (pos := 3034) kJc_deny (by decide +kernel) rfl (by decide +kernel) rfl rfl (by omega) (Jc_deny_ok h7) ?_
        show AT sJc_bubbles 2 (25, [(4, a0), (0, a1), (0, a2), (99, 0), (99, 0), (99, 0), (99, 0), (99, 0)], [(0, v7)], s7) o
        exact AT.retzH (by decide +kernel) H
      · refine AT.seq [(14, .iload_n 2, 1, (0, 0, 0)), (15, .bipush 12, 2, (0, 0, 0))] (by decide +kernel) (show jrun _ (14, [(4, a0), (0, a1), (0, a2), (99, 0), (99, 0), (99, 0), (99, 0), (99, 0)], [], s) = some ([], (17, [(4, a0), (0, a1), (0, a2), (99, 0), (99, 0), (99, 0), (99, 0), (99, 0)], [(0, 12), (0, a2)], s)) from rfl) ?_
        refine AT.ite (x := (0, 0, 0)) (by decide +kernel) (show jbr (.if_icmp .le 9) (17, [(4, a0), (0, a1), (0, a2), (99, 0), (99, 0), (99, 0), (99, 0), (99, 0)], [(0, 12), (0, a2)], s) = some (12 < (w32 a2), (20, [(4, a0), (0, a1), (0, a2), (99, 0), (99, 0), (99, 0), (99, 0), (99, 0)], [], s), (26, [(4, a0), (0, a1), (0, a2), (99, 0), (99, 0), (99, 0), (99, 0), (99, 0)], [], s)) from rfl) H (fun H => ?_) (fun H => ?_)
        · refine AT.seq [(20, .aload_n 0, 1, (0, 0, 0)), (21, .iconst 5, 1, (0, 0, 0))] (by decide +kernel) (show jrun _ (20, [(4, a0), (0, a1), (0, a2), (99, 0), (99, 0), (99, 0), (99, 0), (99, 0)], [], s) = some ([], (22, [(4, a0), (0, a1), (0, a2), (99, 0), (99, 0), (99, 0), (99, 0), (99, 0)], [(0, 5), (4, a0)], s)) from rfl) ?_
          obtain ⟨v8, s8, h8, H⟩ := jb_some H
          refine AT.callV (As := [(0, 5)]) (cl := 0) (b := a0) (st := []) (i := 104) (pos := 3034) kJc_deny (by decide +kernel) rfl (by decide +kernel) rfl rfl (by omega) (Jc_deny_ok h8) ?_
          show AT sJc_bubbles 2 (25, [(4, a0), (0, a1), (0, a2), (99, 0), (99, 0), (99, 0), (99, 0), (99, 0)], [(0, v8)], s8) o
          exact AT.retzH (by decide +kernel) H
        · refine AT.seq [(26, .lconst 1, 1, (0, 0, 0)), (27, .lstore_n 3, 1, (0, 0, 0)), (28, .lconst 0, 1, (0, 0, 0)), (29, .lstore 5, 2, (0, 0, 0)), (31, .iconst 0, 1, (0, 0, 0)), (32, .istore 7, 2, (0, 0, 0))] (by decide +kernel) (show jrun _ (26, [(4, a0), (0, a1), (0, a2), (99, 0), (99, 0), (99, 0), (99, 0), (99, 0)], [], s) = some ([], (34, [(4, a0), (0, a1), (0, a2), (1, 1), (99, 0), (1, 0), (99, 0), (0, 0)], [], s)) from rfl) ?_
          exact Jc_bubbles_34_ok  jFU _ _ _ _ _ _ _ H
def sJc_poise : jS := (⟨"JellyCathedral", "poise", "(I)Z"⟩, prog_1_method_44_code, 3, 3, [4, 0], 0)
theorem kJc_poise : jmk sJc_poise = true := jmk_of 5104 1001 5102 5103 (by decide +kernel)
set_option maxRecDepth 100000 in
theorem Jc_poise_ok {a0 a1 : Int} {s : jM} {o : Int × jM} (H : Jc_poise a0 a1 s = some o) : MK sJc_poise 2 [(4, a0), (0, a1)] s o := by
  refine MK.of kJc_poise rfl ?_
  show AT sJc_poise 2 (0, [(4, a0), (0, a1), (99, 0)], [], s) o
  unfold Jc_poise at H
  refine AT.blk (g := jok 3 (s a0 5) = true) [(0, .aload_n 0, 1, (0, 0, 0)), (1, .getfield 19, 3, (2205, 5, 0)), (4, .iload_n 1, 1, (0, 0, 0))] (by decide +kernel) (show jrun _ (0, [(4, a0), (0, a1), (99, 0)], [], s) = some ([jok 3 (s a0 5) = true], (5, [(4, a0), (0, a1), (99, 0)], [(0, a1), (7, (s a0 5))], s)) from rfl) (fun h => h) H (fun H => ?_)
  obtain ⟨v1, s1, h1, H⟩ := jb_some H
  refine AT.callV (As := [(0, a1)]) (cl := 3) (b := (s a0 5)) (st := []) (i := 226) (pos := 4050) kSe_isMould (by decide +kernel) rfl (by decide +kernel) rfl rfl (by omega) (Se_isMould_ok h1) ?_
  show AT sJc_poise 2 (8, [(4, a0), (0, a1), (99, 0)], [(0, v1)], s1) o
  refine AT.ite (x := (0, 0, 0)) (by decide +kernel) (show jbr (.ifCond .ne 9) (8, [(4, a0), (0, a1), (99, 0)], [(0, v1)], s1) = some ((w32 v1) = 0, (11, [(4, a0), (0, a1), (99, 0)], [], s1), (17, [(4, a0), (0, a1), (99, 0)], [], s1)) from rfl) H (fun H => ?_) (fun H => ?_)
  · refine AT.seq [(11, .aload_n 0, 1, (0, 0, 0)), (12, .iconst 2, 1, (0, 0, 0))] (by decide +kernel) (show jrun _ (11, [(4, a0), (0, a1), (99, 0)], [], s1) = some ([], (13, [(4, a0), (0, a1), (99, 0)], [(0, 2), (4, a0)], s1)) from rfl) ?_
    obtain ⟨v2, s2, h2, H⟩ := jb_some H
    refine AT.callV (As := [(0, 2)]) (cl := 0) (b := a0) (st := []) (i := 104) (pos := 3034) kJc_deny (by decide +kernel) rfl (by decide +kernel) rfl rfl (by omega) (Jc_deny_ok h2) ?_
    show AT sJc_poise 2 (16, [(4, a0), (0, a1), (99, 0)], [(0, v2)], s2) o
    exact AT.retzH (by decide +kernel) H
  · refine AT.blk (g := jok 3 (s1 a0 5) = true ∧ (0 ≤ (w32 a1) ∧ (w32 a1) < 5)) [(17, .aload_n 0, 1, (0, 0, 0)), (18, .getfield 19, 3, (2205, 5, 0)), (21, .getfield 229, 3, (1217, 312, 0)), (24, .iload_n 1, 1, (0, 0, 0)), (25, .aaload, 1, (0, 0, 0)), (26, .astore_n 2, 1, (0, 0, 0)), (27, .aload_n 2, 1, (0, 0, 0)), (28, .getfield 244, 3, (1126, 203, 0)), (31, .iconst 2, 1, (0, 0, 0))] (by decide +kernel) (show jrun _ (17, [(4, a0), (0, a1), (99, 0)], [], s1) = some ([jok 3 (s1 a0 5) = true, (0 ≤ (w32 a1) ∧ (w32 a1) < 5)], (32, [(4, a0), (0, a1), (6, (((s1 a0 5) + 4) + 11 + 2 * (w32 a1)))], [(0, 2), (0, (s1 (((s1 a0 5) + 4) + 11 + 2 * (w32 a1)) 3))], s1)) from rfl) (fun h => ⟨h.1, h.2⟩) H (fun H => ?_)
    refine AT.ite (x := (0, 0, 0)) (by decide +kernel) (show jbr (.if_icmp .ne 20) (32, [(4, a0), (0, a1), (6, (((s1 a0 5) + 4) + 11 + 2 * (w32 a1)))], [(0, 2), (0, (s1 (((s1 a0 5) + 4) + 11 + 2 * (w32 a1)) 3))], s1) = some ((w32 (s1 (((s1 a0 5) + 4) + 11 + 2 * (w32 a1)) 3)) = 2, (35, [(4, a0), (0, a1), (6, (((s1 a0 5) + 4) + 11 + 2 * (w32 a1)))], [], s1), (52, [(4, a0), (0, a1), (6, (((s1 a0 5) + 4) + 11 + 2 * (w32 a1)))], [], s1)) from rfl) H (fun H => ?_) (fun H => ?_)
    · refine AT.seq [(35, .aload_n 0, 1, (0, 0, 0)), (36, .aload_n 2, 1, (0, 0, 0)), (37, .getfield 247, 3, (1130, 204, 0)), (40, .i2l, 1, (0, 0, 0)), (41, .aload_n 2, 1, (0, 0, 0)), (42, .getfield 233, 3, (1111, 200, 0)), (45, .i2l, 1, (0, 0, 0))] (by decide +kernel) (show jrun _ (35, [(4, a0), (0, a1), (6, (((s1 a0 5) + 4) + 11 + 2 * (w32 a1)))], [], s1) = some ([], (46, [(4, a0), (0, a1), (6, (((s1 a0 5) + 4) + 11 + 2 * (w32 a1)))], [(1, (w32 (s1 (((s1 a0 5) + 4) + 11 + 2 * (w32 a1)) 0))), (1, (w32 (s1 (((s1 a0 5) + 4) + 11 + 2 * (w32 a1)) 4))), (4, a0)], s1)) from rfl) ?_
      obtain ⟨v3, s3, h3, H⟩ := jb_some H
      refine AT.callV (As := [(1, (w32 (s1 (((s1 a0 5) + 4) + 11 + 2 * (w32 a1)) 4))), (1, (w32 (s1 (((s1 a0 5) + 4) + 11 + 2 * (w32 a1)) 0)))]) (cl := 0) (b := a0) (st := []) (i := 359) (pos := 5094) kJc_tell (by decide +kernel) rfl (by decide +kernel) rfl rfl (by omega) (Jc_tell_ok h3) ?_
      show AT sJc_poise 2 (49, [(4, a0), (0, a1), (6, (((s1 a0 5) + 4) + 11 + 2 * (w32 a1)))], [(0, v3)], s3) o
      refine AT.seq [(49, .goto 9, 3, (0, 0, 0))] (by decide +kernel) (show jrun _ (49, [(4, a0), (0, a1), (6, (((s1 a0 5) + 4) + 11 + 2 * (w32 a1)))], [(0, v3)], s3) = some ([], (58, [(4, a0), (0, a1), (6, (((s1 a0 5) + 4) + 11 + 2 * (w32 a1)))], [(0, v3)], s3)) from rfl) ?_
      exact AT.retzH (by decide +kernel) H
    · refine AT.seq [(52, .aload_n 0, 1, (0, 0, 0)), (53, .bipush 9, 2, (0, 0, 0))] (by decide +kernel) (show jrun _ (52, [(4, a0), (0, a1), (6, (((s1 a0 5) + 4) + 11 + 2 * (w32 a1)))], [], s1) = some ([], (55, [(4, a0), (0, a1), (6, (((s1 a0 5) + 4) + 11 + 2 * (w32 a1)))], [(0, 9), (4, a0)], s1)) from rfl) ?_
      obtain ⟨v4, s4, h4, H⟩ := jb_some H
      refine AT.callV (As := [(0, 9)]) (cl := 0) (b := a0) (st := []) (i := 104) (pos := 3034) kJc_deny (by decide +kernel) rfl (by decide +kernel) rfl rfl (by omega) (Jc_deny_ok h4) ?_
      show AT sJc_poise 2 (58, [(4, a0), (0, a1), (6, (((s1 a0 5) + 4) + 11 + 2 * (w32 a1)))], [(0, v4)], s4) o
      exact AT.retzH (by decide +kernel) H
def sJc_live : jS := (⟨"JellyCathedral", "live", "(I)I"⟩, prog_1_method_45_code, 5, 1, [4, 0], 0)
theorem kJc_live : jmk sJc_live = true := jmk_of 5108 1001 5106 5107 (by decide +kernel)
set_option maxRecDepth 100000 in
theorem Jc_live_ok {a0 a1 : Int} {s : jM} {o : Int × jM} (H : Jc_live a0 a1 s = some o) : MK sJc_live 6 [(4, a0), (0, a1)] s o := by
  refine MK.of kJc_live rfl ?_
  show AT sJc_live 6 (0, [(4, a0), (0, a1), (99, 0), (99, 0), (99, 0)], [], s) o
  unfold Jc_live at H
  refine AT.seq [(0, .iload_n 1, 1, (0, 0, 0))] (by decide +kernel) (show jrun _ (0, [(4, a0), (0, a1), (99, 0), (99, 0), (99, 0)], [], s) = some ([], (1, [(4, a0), (0, a1), (99, 0), (99, 0), (99, 0)], [(0, a1)], s)) from rfl) ?_
  refine AT.ite (x := (0, 0, 0)) (by decide +kernel) (show jbr (.ifCond .lt 10) (1, [(4, a0), (0, a1), (99, 0), (99, 0), (99, 0)], [(0, a1)], s) = some ((w32 a1) < 0, (11, [(4, a0), (0, a1), (99, 0), (99, 0), (99, 0)], [], s), (4, [(4, a0), (0, a1), (99, 0), (99, 0), (99, 0)], [], s)) from rfl) H (fun H => ?_) (fun H => ?_)
  · refine AT.seq [(11, .aload_n 0, 1, (0, 0, 0)), (12, .iconst 5, 1, (0, 0, 0))] (by decide +kernel) (show jrun _ (11, [(4, a0), (0, a1), (99, 0), (99, 0), (99, 0)], [], s) = some ([], (13, [(4, a0), (0, a1), (99, 0), (99, 0), (99, 0)], [(0, 5), (4, a0)], s)) from rfl) ?_
    obtain ⟨v1, s1, h1, H⟩ := jb_some H
    refine AT.callV (As := [(0, 5)]) (cl := 0) (b := a0) (st := []) (i := 123) (pos := 3066) kJc_refuse (by decide +kernel) rfl (by decide +kernel) rfl rfl (by omega) (Jc_refuse_ok h1) ?_
    show AT sJc_live 6 (16, [(4, a0), (0, a1), (99, 0), (99, 0), (99, 0)], [(0, v1)], s1) o
    exact AT.retiH (by decide +kernel) H
  · refine AT.seq [(4, .iload_n 1, 1, (0, 0, 0)), (5, .sipush 9999, 3, (0, 0, 0))] (by decide +kernel) (show jrun _ (4, [(4, a0), (0, a1), (99, 0), (99, 0), (99, 0)], [], s) = some ([], (8, [(4, a0), (0, a1), (99, 0), (99, 0), (99, 0)], [(0, 9999), (0, a1)], s)) from rfl) ?_
    refine AT.ite (x := (0, 0, 0)) (by decide +kernel) (show jbr (.if_icmp .le 9) (8, [(4, a0), (0, a1), (99, 0), (99, 0), (99, 0)], [(0, 9999), (0, a1)], s) = some (9999 < (w32 a1), (11, [(4, a0), (0, a1), (99, 0), (99, 0), (99, 0)], [], s), (17, [(4, a0), (0, a1), (99, 0), (99, 0), (99, 0)], [], s)) from rfl) H (fun H => ?_) (fun H => ?_)
    · refine AT.seq [(11, .aload_n 0, 1, (0, 0, 0)), (12, .iconst 5, 1, (0, 0, 0))] (by decide +kernel) (show jrun _ (11, [(4, a0), (0, a1), (99, 0), (99, 0), (99, 0)], [], s) = some ([], (13, [(4, a0), (0, a1), (99, 0), (99, 0), (99, 0)], [(0, 5), (4, a0)], s)) from rfl) ?_
      obtain ⟨v2, s2, h2, H⟩ := jb_some H
      refine AT.callV (As := [(0, 5)]) (cl := 0) (b := a0) (st := []) (i := 123) (pos := 3066) kJc_refuse (by decide +kernel) rfl (by decide +kernel) rfl rfl (by omega) (Jc_refuse_ok h2) ?_
      show AT sJc_live 6 (16, [(4, a0), (0, a1), (99, 0), (99, 0), (99, 0)], [(0, v2)], s2) o
      exact AT.retiH (by decide +kernel) H
    · refine AT.blk (g := jok 3 (s a0 5) = true) [(17, .aload_n 0, 1, (0, 0, 0)), (18, .getfield 19, 3, (2205, 5, 0)), (21, .getfield 173, 3, (1224, 317, 0)), (24, .getfield 363, 3, (1064, 400, 0))] (by decide +kernel) (show jrun _ (17, [(4, a0), (0, a1), (99, 0), (99, 0), (99, 0)], [], s) = some ([jok 3 (s a0 5) = true], (27, [(4, a0), (0, a1), (99, 0), (99, 0), (99, 0)], [(0, (s ((s a0 5) + 9) 0))], s)) from rfl) (fun h => h) H (fun H => ?_)
      refine AT.ite (x := (0, 0, 0)) (by decide +kernel) (show jbr (.ifCond .ne 10) (27, [(4, a0), (0, a1), (99, 0), (99, 0), (99, 0)], [(0, (s ((s a0 5) + 9) 0))], s) = some ((w32 (s ((s a0 5) + 9) 0)) = 0, (30, [(4, a0), (0, a1), (99, 0), (99, 0), (99, 0)], [], s), (37, [(4, a0), (0, a1), (99, 0), (99, 0), (99, 0)], [], s)) from rfl) H (fun H => ?_) (fun H => ?_)
      · refine AT.seq [(30, .aload_n 0, 1, (0, 0, 0)), (31, .bipush 8, 2, (0, 0, 0))] (by decide +kernel) (show jrun _ (30, [(4, a0), (0, a1), (99, 0), (99, 0), (99, 0)], [], s) = some ([], (33, [(4, a0), (0, a1), (99, 0), (99, 0), (99, 0)], [(0, 8), (4, a0)], s)) from rfl) ?_
        obtain ⟨v3, s3, h3, H⟩ := jb_some H
        refine AT.callV (As := [(0, 8)]) (cl := 0) (b := a0) (st := []) (i := 123) (pos := 3066) kJc_refuse (by decide +kernel) rfl (by decide +kernel) rfl rfl (by omega) (Jc_refuse_ok h3) ?_
        show AT sJc_live 6 (36, [(4, a0), (0, a1), (99, 0), (99, 0), (99, 0)], [(0, v3)], s3) o
        exact AT.retiH (by decide +kernel) H
      · refine AT.blk (g := jok 3 (s a0 5) = true ∧ jok 3 (s a0 5) = true) [(37, .aload_n 0, 1, (0, 0, 0)), (38, .getfield 19, 3, (2205, 5, 0)), (41, .getfield 201, 3, (1181, 302, 0)), (44, .istore_n 2, 1, (0, 0, 0)), (45, .aload_n 0, 1, (0, 0, 0)), (46, .getfield 19, 3, (2205, 5, 0))] (by decide +kernel) (show jrun _ (37, [(4, a0), (0, a1), (99, 0), (99, 0), (99, 0)], [], s) = some ([jok 3 (s a0 5) = true, jok 3 (s a0 5) = true], (49, [(4, a0), (0, a1), (0, (s (s a0 5) 2)), (99, 0), (99, 0)], [(7, (s a0 5))], s)) from rfl) (fun h => ⟨h.1, h.2⟩) H (fun H => ?_)
        obtain ⟨v4, s4, h4, H⟩ := jb_some H
        refine AT.callV (As := []) (cl := 3) (b := (s a0 5)) (st := []) (i := 207) (pos := 4030) kSe_fallen (by decide +kernel) rfl (by decide +kernel) rfl rfl (by omega) (Se_fallen_ok h4) ?_
        show AT sJc_live 6 (52, [(4, a0), (0, a1), (0, (s (s a0 5) 2)), (99, 0), (99, 0)], [(0, v4)], s4) o
        refine AT.blk (g := jok 3 (s4 a0 5) = true ∧ jok 3 (s4 a0 5) = true) [(52, .istore_n 3, 1, (0, 0, 0)), (53, .aload_n 0, 1, (0, 0, 0)), (54, .getfield 19, 3, (2205, 5, 0)), (57, .getfield 204, 3, (1183, 303, 0)), (60, .istore 4, 2, (0, 0, 0)), (62, .aload_n 0, 1, (0, 0, 0)), (63, .getfield 68, 3, (2216, 16, 0)), (66, .aload_n 0, 1, (0, 0, 0)), (67, .getfield 19, 3, (2205, 5, 0)), (70, .iload_n 1, 1, (0, 0, 0))] (by decide +kernel) (show jrun _ (52, [(4, a0), (0, a1), (0, (s (s a0 5) 2)), (99, 0), (99, 0)], [(0, v4)], s4) = some ([jok 3 (s4 a0 5) = true, jok 3 (s4 a0 5) = true], (71, [(4, a0), (0, a1), (0, (s (s a0 5) 2)), (0, v4), (0, (s4 (s4 a0 5) 3))], [(0, a1), (7, (s4 a0 5)), (14, (a0 + 27))], s4)) from rfl) (fun h => ⟨h.1, h.2⟩) H (fun H => ?_)
        obtain ⟨v5, s5, h5, H⟩ := jb_some H
        refine AT.callV (As := [(7, (s4 a0 5)), (0, a1)]) (cl := 10) (b := (a0 + 27)) (st := []) (i := 364) (pos := 5109) kLi_run (by decide +kernel) rfl (by decide +kernel) rfl rfl (by omega) (Li_run_ok h5) ?_
        show AT sJc_live 6 (74, [(4, a0), (0, a1), (0, (s (s a0 5) 2)), (0, v4), (0, (s4 (s4 a0 5) 3))], [], s5) o
        refine AT.blk (g := jok 3 ((jup s5 (a0 + 29) 0 (s5 (a0 + 27) 4)) a0 5) = true) [(74, .aload_n 0, 1, (0, 0, 0)), (75, .getfield 72, 3, (2217, 17, 0)), (78, .iconst 0, 1, (0, 0, 0)), (79, .aload_n 0, 1, (0, 0, 0)), (80, .getfield 68, 3, (2216, 16, 0)), (83, .getfield 368, 3, (2181, 1004, 0)), (86, .iastore, 1, (0, 0, 0)), (87, .aload_n 0, 1, (0, 0, 0)), (88, .getfield 72, 3, (2217, 17, 0)), (91, .iconst 1, 1, (0, 0, 0)), (92, .aload_n 0, 1, (0, 0, 0)), (93, .getfield 19, 3, (2205, 5, 0)), (96, .getfield 201, 3, (1181, 302, 0)), (99, .iload_n 2, 1, (0, 0, 0)), (100, .isub, 1, (0, 0, 0)), (101, .iastore, 1, (0, 0, 0)), (102, .aload_n 0, 1, (0, 0, 0)), (103, .getfield 72, 3, (2217, 17, 0)), (106, .iconst 2, 1, (0, 0, 0)), (107, .aload_n 0, 1, (0, 0, 0))] (by decide +kernel) (show jrun _ (74, [(4, a0), (0, a1), (0, (s (s a0 5) 2)), (0, v4), (0, (s4 (s4 a0 5) 3))], [], s5) = some ([(0 ≤ (0 : Int) ∧ (0 : Int) < 5), jok 3 ((jup s5 (a0 + 29) 0 (s5 (a0 + 27) 4)) a0 5) = true, (0 ≤ (1 : Int) ∧ (1 : Int) < 5)], (108, [(4, a0), (0, a1), (0, (s (s a0 5) 2)), (0, v4), (0, (s4 (s4 a0 5) 3))], [(4, a0), (0, 2), (26, (a0 + 29))], (jup (jup s5 (a0 + 29) 0 (s5 (a0 + 27) 4)) (a0 + 29) 1 (((jup s5 (a0 + 29) 0 (s5 (a0 + 27) 4)) ((jup s5 (a0 + 29) 0 (s5 (a0 + 27) 4)) a0 5) 2) - (s (s a0 5) 2))))) from rfl) (fun h => ⟨(show (0 ≤ (0 : Int) ∧ (0 : Int) < 5) from by decide), h, (show (0 ≤ (1 : Int) ∧ (1 : Int) < 5) from by decide)⟩) H (fun H => ?_)
        obtain ⟨s6, e6, H⟩ := jm_some H
        rw [← e6]
        refine AT.blk (g := jok 3 (s6 a0 5) = true) [(108, .getfield 19, 3, (2205, 5, 0))] (by decide +kernel) (show jrun _ (108, [(4, a0), (0, a1), (0, (s (s a0 5) 2)), (0, v4), (0, (s4 (s4 a0 5) 3))], [(4, a0), (0, 2), (26, (a0 + 29))], s6) = some ([jok 3 (s6 a0 5) = true], (111, [(4, a0), (0, a1), (0, (s (s a0 5) 2)), (0, v4), (0, (s4 (s4 a0 5) 3))], [(7, (s6 a0 5)), (0, 2), (26, (a0 + 29))], s6)) from rfl) (fun h => h) H (fun H => ?_)
        obtain ⟨v7, s7, h7, H⟩ := jb_some H
        refine AT.callV (As := []) (cl := 3) (b := (s6 a0 5)) (st := [(0, 2), (26, (a0 + 29))]) (i := 207) (pos := 4030) kSe_fallen (by decide +kernel) rfl (by decide +kernel) rfl rfl (by omega) (Se_fallen_ok h7) ?_
        show AT sJc_live 6 (114, [(4, a0), (0, a1), (0, (s (s a0 5) 2)), (0, v4), (0, (s4 (s4 a0 5) 3))], [(0, v7), (0, 2), (26, (a0 + 29))], s7) o
        refine AT.blk (g := jok 3 ((jup s7 (a0 + 29) 2 (v7 - v4)) a0 5) = true) [(114, .iload_n 3, 1, (0, 0, 0)), (115, .isub, 1, (0, 0, 0)), (116, .iastore, 1, (0, 0, 0)), (117, .aload_n 0, 1, (0, 0, 0)), (118, .getfield 72, 3, (2217, 17, 0)), (121, .iconst 3, 1, (0, 0, 0)), (122, .aload_n 0, 1, (0, 0, 0)), (123, .getfield 19, 3, (2205, 5, 0)), (126, .getfield 204, 3, (1183, 303, 0)), (129, .iload 4, 2, (0, 0, 0)), (131, .isub, 1, (0, 0, 0)), (132, .iastore, 1, (0, 0, 0)), (133, .aload_n 0, 1, (0, 0, 0)), (134, .getfield 72, 3, (2217, 17, 0)), (137, .iconst 4, 1, (0, 0, 0)), (138, .aload_n 0, 1, (0, 0, 0)), (139, .getfield 68, 3, (2216, 16, 0))] (by decide +kernel) (show jrun _ (114, [(4, a0), (0, a1), (0, (s (s a0 5) 2)), (0, v4), (0, (s4 (s4 a0 5) 3))], [(0, v7), (0, 2), (26, (a0 + 29))], s7) = some ([(0 ≤ (2 : Int) ∧ (2 : Int) < 5), jok 3 ((jup s7 (a0 + 29) 2 (v7 - v4)) a0 5) = true, (0 ≤ (3 : Int) ∧ (3 : Int) < 5)], (142, [(4, a0), (0, a1), (0, (s (s a0 5) 2)), (0, v4), (0, (s4 (s4 a0 5) 3))], [(14, (a0 + 27)), (0, 4), (26, (a0 + 29))], (jup (jup s7 (a0 + 29) 2 (v7 - v4)) (a0 + 29) 3 (((jup s7 (a0 + 29) 2 (v7 - v4)) ((jup s7 (a0 + 29) 2 (v7 - v4)) a0 5) 3) - (s4 (s4 a0 5) 3))))) from rfl) (fun h => ⟨(show (0 ≤ (2 : Int) ∧ (2 : Int) < 5) from by decide), h, (show (0 ≤ (3 : Int) ∧ (3 : Int) < 5) from by decide)⟩) H (fun H => ?_)
        obtain ⟨s8, e8, H⟩ := jm_some H
        rw [← e8]
        refine AT.row [(142, .getfield 371, 3, (2183, 1005, 0)), (145, .iastore, 1, (0, 0, 0)), (146, .aload_n 0, 1, (0, 0, 0)), (147, .iconst 1, 1, (0, 0, 0)), (148, .putfield 96, 3, (2208, 8, 0)), (151, .aload_n 0, 1, (0, 0, 0)), (152, .aload_n 0, 1, (0, 0, 0)), (153, .getfield 68, 3, (2216, 16, 0)), (156, .getfield 374, 3, (2179, 1003, 0))] (by decide +kernel) (show jrun _ (142, [(4, a0), (0, a1), (0, (s (s a0 5) 2)), (0, v4), (0, (s4 (s4 a0 5) 3))], [(14, (a0 + 27)), (0, 4), (26, (a0 + 29))], s8) = some ([(0 ≤ (4 : Int) ∧ (4 : Int) < 5), ((1 : Int) = 0 ∨ (1 : Int) = 1)], (159, [(4, a0), (0, a1), (0, (s (s a0 5) 2)), (0, v4), (0, (s4 (s4 a0 5) 3))], [(0, ((jup (jup s8 (a0 + 29) 4 (s8 (a0 + 27) 5)) a0 8 1) (a0 + 27) 3)), (4, a0)], (jup (jup s8 (a0 + 29) 4 (s8 (a0 + 27) 5)) a0 8 1))) from rfl) (show (0 ≤ (4 : Int) ∧ (4 : Int) < 5) ∧ ((1 : Int) = 0 ∨ (1 : Int) = 1) from by decide) ?_
        obtain ⟨v9, s9, h9, H⟩ := jb_some H
        refine AT.callV (As := [(0, ((jup (jup s8 (a0 + 29) 4 (s8 (a0 + 27) 5)) a0 8 1) (a0 + 27) 3))]) (cl := 0) (b := a0) (st := []) (i := 170) (pos := 3215) kJc_answer (by decide +kernel) rfl (by decide +kernel) rfl rfl (by omega) (Jc_answer_ok h9) ?_
        show AT sJc_live 6 (162, [(4, a0), (0, a1), (0, (s (s a0 5) 2)), (0, v4), (0, (s4 (s4 a0 5) 3))], [(0, v9)], s9) o
        exact AT.retiH (by decide +kernel) H
def sJc_lived : jS := (⟨"JellyCathedral", "lived", "(I)I"⟩, prog_1_method_46_code, 2, 1, [4, 0], 0)
theorem kJc_lived : jmk sJc_lived = true := jmk_of 5149 1001 5147 5148 (by decide +kernel)
set_option maxRecDepth 100000 in
theorem Jc_lived_ok {a0 a1 : Int} {s : jM} {o : Int × jM} (H : Jc_lived a0 a1 s = some o) : MK sJc_lived 1 [(4, a0), (0, a1)] s o := by
  refine MK.of kJc_lived rfl ?_
  show AT sJc_lived 1 (0, [(4, a0), (0, a1)], [], s) o
  unfold Jc_lived at H
  refine AT.seq [(0, .iload_n 1, 1, (0, 0, 0))] (by decide +kernel) (show jrun _ (0, [(4, a0), (0, a1)], [], s) = some ([], (1, [(4, a0), (0, a1)], [(0, a1)], s)) from rfl) ?_
  refine AT.ite (x := (0, 0, 0)) (by decide +kernel) (show jbr (.ifCond .lt 8) (1, [(4, a0), (0, a1)], [(0, a1)], s) = some ((w32 a1) < 0, (9, [(4, a0), (0, a1)], [], s), (4, [(4, a0), (0, a1)], [], s)) from rfl) H (fun H => ?_) (fun H => ?_)
  · refine AT.seq [(9, .aload_n 0, 1, (0, 0, 0)), (10, .iconst 5, 1, (0, 0, 0))] (by decide +kernel) (show jrun _ (9, [(4, a0), (0, a1)], [], s) = some ([], (11, [(4, a0), (0, a1)], [(0, 5), (4, a0)], s)) from rfl) ?_
    obtain ⟨v1, s1, h1, H⟩ := jb_some H
    refine AT.callV (As := [(0, 5)]) (cl := 0) (b := a0) (st := []) (i := 123) (pos := 3066) kJc_refuse (by decide +kernel) rfl (by decide +kernel) rfl rfl (by omega) (Jc_refuse_ok h1) ?_
    show AT sJc_lived 1 (14, [(4, a0), (0, a1)], [(0, v1)], s1) o
    exact AT.retiH (by decide +kernel) H
  · refine AT.seq [(4, .iload_n 1, 1, (0, 0, 0)), (5, .iconst 4, 1, (0, 0, 0))] (by decide +kernel) (show jrun _ (4, [(4, a0), (0, a1)], [], s) = some ([], (6, [(4, a0), (0, a1)], [(0, 4), (0, a1)], s)) from rfl) ?_
    refine AT.ite (x := (0, 0, 0)) (by decide +kernel) (show jbr (.if_icmp .le 9) (6, [(4, a0), (0, a1)], [(0, 4), (0, a1)], s) = some (4 < (w32 a1), (9, [(4, a0), (0, a1)], [], s), (15, [(4, a0), (0, a1)], [], s)) from rfl) H (fun H => ?_) (fun H => ?_)
    · refine AT.seq [(9, .aload_n 0, 1, (0, 0, 0)), (10, .iconst 5, 1, (0, 0, 0))] (by decide +kernel) (show jrun _ (9, [(4, a0), (0, a1)], [], s) = some ([], (11, [(4, a0), (0, a1)], [(0, 5), (4, a0)], s)) from rfl) ?_
      obtain ⟨v2, s2, h2, H⟩ := jb_some H
      refine AT.callV (As := [(0, 5)]) (cl := 0) (b := a0) (st := []) (i := 123) (pos := 3066) kJc_refuse (by decide +kernel) rfl (by decide +kernel) rfl rfl (by omega) (Jc_refuse_ok h2) ?_
      show AT sJc_lived 1 (14, [(4, a0), (0, a1)], [(0, v2)], s2) o
      exact AT.retiH (by decide +kernel) H
    · refine AT.seq [(15, .aload_n 0, 1, (0, 0, 0)), (16, .getfield 96, 3, (2208, 8, 0))] (by decide +kernel) (show jrun _ (15, [(4, a0), (0, a1)], [], s) = some ([], (19, [(4, a0), (0, a1)], [(0, (s a0 8))], s)) from rfl) ?_
      refine AT.ite (x := (0, 0, 0)) (by decide +kernel) (show jbr (.ifCond .eq 16) (19, [(4, a0), (0, a1)], [(0, (s a0 8))], s) = some ((w32 (s a0 8)) = 0, (35, [(4, a0), (0, a1)], [], s), (22, [(4, a0), (0, a1)], [], s)) from rfl) H (fun H => ?_) (fun H => ?_)
      · refine AT.seq [(35, .aload_n 0, 1, (0, 0, 0)), (36, .bipush 8, 2, (0, 0, 0))] (by decide +kernel) (show jrun _ (35, [(4, a0), (0, a1)], [], s) = some ([], (38, [(4, a0), (0, a1)], [(0, 8), (4, a0)], s)) from rfl) ?_
        obtain ⟨v3, s3, h3, H⟩ := jb_some H
        refine AT.callV (As := [(0, 8)]) (cl := 0) (b := a0) (st := []) (i := 123) (pos := 3066) kJc_refuse (by decide +kernel) rfl (by decide +kernel) rfl rfl (by omega) (Jc_refuse_ok h3) ?_
        show AT sJc_lived 1 (41, [(4, a0), (0, a1)], [(0, v3)], s3) o
        exact AT.retiH (by decide +kernel) H
      · refine AT.blk (g := (0 ≤ (w32 a1) ∧ (w32 a1) < 5)) [(22, .aload_n 0, 1, (0, 0, 0)), (23, .aload_n 0, 1, (0, 0, 0)), (24, .getfield 72, 3, (2217, 17, 0)), (27, .iload_n 1, 1, (0, 0, 0)), (28, .iaload, 1, (0, 0, 0))] (by decide +kernel) (show jrun _ (22, [(4, a0), (0, a1)], [], s) = some ([(0 ≤ (w32 a1) ∧ (w32 a1) < 5)], (29, [(4, a0), (0, a1)], [(0, (s (a0 + 29) (w32 a1))), (4, a0)], s)) from rfl) (fun h => h) H (fun H => ?_)
        obtain ⟨v4, s4, h4, H⟩ := jb_some H
        refine AT.callV (As := [(0, (s (a0 + 29) (w32 a1)))]) (cl := 0) (b := a0) (st := []) (i := 170) (pos := 3215) kJc_answer (by decide +kernel) rfl (by decide +kernel) rfl rfl (by omega) (Jc_answer_ok h4) ?_
        show AT sJc_lived 1 (32, [(4, a0), (0, a1)], [(0, v4)], s4) o
        refine AT.seq [(32, .goto 9, 3, (0, 0, 0))] (by decide +kernel) (show jrun _ (32, [(4, a0), (0, a1)], [(0, v4)], s4) = some ([], (41, [(4, a0), (0, a1)], [(0, v4)], s4)) from rfl) ?_
        exact AT.retiH (by decide +kernel) H
def sJc_mean : jS := (⟨"JellyCathedral", "mean", "(II)Z"⟩, prog_1_method_47_code, 5, 3, [4, 0, 0], 0)
theorem kJc_mean : jmk sJc_mean = true := jmk_of 5153 1001 5151 5152 (by decide +kernel)
set_option maxRecDepth 100000 in
theorem Jc_mean_64_ok {o : Int × jM} : ∀ (n : Nat) (x0 x1 x2 x3 x4 : Int) (s : jM), Jc_mean_64  n x0 x1 x2 x3 x4 s = some o → AT sJc_mean 6 (64, [(4, x0), (0, x1), (0, x2), (0, x3), (0, x4)], [], s) o := by
  intro n
  induction n with
  | zero =>
    intro x0 x1 x2 x3 x4 s H
    have H : (none : Option (Int × jM)) = some o := H
    cases H
  | succ n ih =>
    intro x0 x1 x2 x3 x4 s H
    rw [Jc_mean_64] at H
    refine AT.seq [(64, .iload 4, 2, (0, 0, 0)), (66, .iload_n 2, 1, (0, 0, 0))] (by decide +kernel) (show jrun _ (64, [(4, x0), (0, x1), (0, x2), (0, x3), (0, x4)], [], s) = some ([], (67, [(4, x0), (0, x1), (0, x2), (0, x3), (0, x4)], [(0, x2), (0, x4)], s)) from rfl) ?_
    refine AT.ite (x := (0, 0, 0)) (by decide +kernel) (show jbr (.if_icmp .ge 45) (67, [(4, x0), (0, x1), (0, x2), (0, x3), (0, x4)], [(0, x2), (0, x4)], s) = some ((w32 x4) < (w32 x2), (70, [(4, x0), (0, x1), (0, x2), (0, x3), (0, x4)], [], s), (112, [(4, x0), (0, x1), (0, x2), (0, x3), (0, x4)], [], s)) from rfl) H (fun H => ?_) (fun H => ?_)
    · refine AT.blk (g := jok 3 (s x0 6) = true ∧ jok 3 (s x0 5) = true) [(70, .aload_n 0, 1, (0, 0, 0)), (71, .getfield 23, 3, (2206, 6, 0)), (74, .aload_n 0, 1, (0, 0, 0)), (75, .getfield 19, 3, (2205, 5, 0))] (by decide +kernel) (show jrun _ (70, [(4, x0), (0, x1), (0, x2), (0, x3), (0, x4)], [], s) = some ([jok 3 (s x0 6) = true, jok 3 (s x0 5) = true], (78, [(4, x0), (0, x1), (0, x2), (0, x3), (0, x4)], [(7, (s x0 5)), (7, (s x0 6))], s)) from rfl) (fun h => ⟨h.1, h.2⟩) H (fun H => ?_)
      obtain ⟨v1, s1, h1, H⟩ := jb_some H
      refine AT.callV (As := [(7, (s x0 5))]) (cl := 3) (b := (s x0 6)) (st := []) (i := 375) (pos := 5154) kSe_copyOf (by decide +kernel) rfl (by decide +kernel) rfl rfl (by omega) (Se_copyOf_ok h1) ?_
      show AT sJc_mean 6 (81, [(4, x0), (0, x1), (0, x2), (0, x3), (0, x4)], [], s1) o
      refine AT.blk (g := jok 3 (s1 x0 6) = true) [(81, .aload_n 0, 1, (0, 0, 0)), (82, .getfield 68, 3, (2216, 16, 0)), (85, .aload_n 0, 1, (0, 0, 0)), (86, .getfield 23, 3, (2206, 6, 0)), (89, .iload_n 1, 1, (0, 0, 0)), (90, .iload 4, 2, (0, 0, 0)), (92, .iadd, 1, (0, 0, 0))] (by decide +kernel) (show jrun _ (81, [(4, x0), (0, x1), (0, x2), (0, x3), (0, x4)], [], s1) = some ([jok 3 (s1 x0 6) = true], (93, [(4, x0), (0, x1), (0, x2), (0, x3), (0, x4)], [(0, (x1 + x4)), (7, (s1 x0 6)), (14, (x0 + 27))], s1)) from rfl) (fun h => h) H (fun H => ?_)
      obtain ⟨v2, s2, h2, H⟩ := jb_some H
      refine AT.callV (As := [(7, (s1 x0 6)), (0, (x1 + x4))]) (cl := 10) (b := (x0 + 27)) (st := []) (i := 364) (pos := 5109) kLi_run (by decide +kernel) rfl (by decide +kernel) rfl rfl (by omega) (Li_run_ok h2) ?_
      show AT sJc_mean 6 (96, [(4, x0), (0, x1), (0, x2), (0, x3), (0, x4)], [], s2) o
      refine AT.blk (g := jok 3 (s2 x0 6) = true) [(96, .iload_n 3, 1, (0, 0, 0)), (97, .aload_n 0, 1, (0, 0, 0)), (98, .getfield 23, 3, (2206, 6, 0))] (by decide +kernel) (show jrun _ (96, [(4, x0), (0, x1), (0, x2), (0, x3), (0, x4)], [], s2) = some ([jok 3 (s2 x0 6) = true], (101, [(4, x0), (0, x1), (0, x2), (0, x3), (0, x4)], [(7, (s2 x0 6)), (0, x3)], s2)) from rfl) (fun h => h) H (fun H => ?_)
      obtain ⟨v3, s3, h3, H⟩ := jb_some H
      refine AT.callV (As := []) (cl := 3) (b := (s2 x0 6)) (st := [(0, x3)]) (i := 378) (pos := 5165) kSe_allFirm (by decide +kernel) rfl (by decide +kernel) rfl rfl (by omega) (Se_allFirm_ok h3) ?_
      show AT sJc_mean 6 (104, [(4, x0), (0, x1), (0, x2), (0, x3), (0, x4)], [(0, v3), (0, x3)], s3) o
      refine AT.seq [(104, .iadd, 1, (0, 0, 0)), (105, .istore_n 3, 1, (0, 0, 0)), (106, .iinc 4 1, 3, (0, 0, 0)), (109, .goto (-45), 3, (0, 0, 0))] (by decide +kernel) (show jrun _ (104, [(4, x0), (0, x1), (0, x2), (0, x3), (0, x4)], [(0, v3), (0, x3)], s3) = some ([], (64, [(4, x0), (0, x1), (0, x2), (0, (x3 + v3)), (0, (x4 + 1))], [], s3)) from rfl) ?_
      exact ih _ _ _ _ _ _ H
    · refine AT.seq [(112, .aload_n 0, 1, (0, 0, 0)), (113, .iload_n 3, 1, (0, 0, 0)), (114, .i2l, 1, (0, 0, 0)), (115, .iload_n 2, 1, (0, 0, 0)), (116, .i2l, 1, (0, 0, 0))] (by decide +kernel) (show jrun _ (112, [(4, x0), (0, x1), (0, x2), (0, x3), (0, x4)], [], s) = some ([], (117, [(4, x0), (0, x1), (0, x2), (0, x3), (0, x4)], [(1, (w32 x2)), (1, (w32 x3)), (4, x0)], s)) from rfl) ?_
      obtain ⟨v4, s4, h4, H⟩ := jb_some H
      refine AT.callV (As := [(1, (w32 x3)), (1, (w32 x2))]) (cl := 0) (b := x0) (st := []) (i := 359) (pos := 5094) kJc_tell (by decide +kernel) rfl (by decide +kernel) rfl rfl (by omega) (Jc_tell_ok h4) ?_
      show AT sJc_mean 6 (120, [(4, x0), (0, x1), (0, x2), (0, x3), (0, x4)], [(0, v4)], s4) o
      exact AT.retzH (by decide +kernel) H
set_option maxRecDepth 100000 in
theorem Jc_mean_ok {a0 a1 a2 : Int} {s : jM} {o : Int × jM} (H : Jc_mean a0 a1 a2 s = some o) : MK sJc_mean 6 [(4, a0), (0, a1), (0, a2)] s o := by
  refine MK.of kJc_mean rfl ?_
  show AT sJc_mean 6 (0, [(4, a0), (0, a1), (0, a2), (99, 0), (99, 0)], [], s) o
  unfold Jc_mean at H
  refine AT.seq [(0, .iload_n 1, 1, (0, 0, 0))] (by decide +kernel) (show jrun _ (0, [(4, a0), (0, a1), (0, a2), (99, 0), (99, 0)], [], s) = some ([], (1, [(4, a0), (0, a1), (0, a2), (99, 0), (99, 0)], [(0, a1)], s)) from rfl) ?_
  refine AT.ite (x := (0, 0, 0)) (by decide +kernel) (show jbr (.ifCond .lt 32) (1, [(4, a0), (0, a1), (0, a2), (99, 0), (99, 0)], [(0, a1)], s) = some ((w32 a1) < 0, (33, [(4, a0), (0, a1), (0, a2), (99, 0), (99, 0)], [], s), (4, [(4, a0), (0, a1), (0, a2), (99, 0), (99, 0)], [], s)) from rfl) H (fun H => ?_) (fun H => ?_)
  · refine AT.seq [(33, .aload_n 0, 1, (0, 0, 0)), (34, .iconst 5, 1, (0, 0, 0))] (by decide +kernel) (show jrun _ (33, [(4, a0), (0, a1), (0, a2), (99, 0), (99, 0)], [], s) = some ([], (35, [(4, a0), (0, a1), (0, a2), (99, 0), (99, 0)], [(0, 5), (4, a0)], s)) from rfl) ?_
    obtain ⟨v5, s5, h5, H⟩ := jb_some H
    refine AT.callV (As := [(0, 5)]) (cl := 0) (b := a0) (st := []) (i := 104) (pos := 3034) kJc_deny (by decide +kernel) rfl (by decide +kernel) rfl rfl (by omega) (Jc_deny_ok h5) ?_
    show AT sJc_mean 6 (38, [(4, a0), (0, a1), (0, a2), (99, 0), (99, 0)], [(0, v5)], s5) o
    exact AT.retzH (by decide +kernel) H
  · refine AT.seq [(4, .iload_n 1, 1, (0, 0, 0)), (5, .sipush 9999, 3, (0, 0, 0))] (by decide +kernel) (show jrun _ (4, [(4, a0), (0, a1), (0, a2), (99, 0), (99, 0)], [], s) = some ([], (8, [(4, a0), (0, a1), (0, a2), (99, 0), (99, 0)], [(0, 9999), (0, a1)], s)) from rfl) ?_
    refine AT.ite (x := (0, 0, 0)) (by decide +kernel) (show jbr (.if_icmp .gt 25) (8, [(4, a0), (0, a1), (0, a2), (99, 0), (99, 0)], [(0, 9999), (0, a1)], s) = some (9999 < (w32 a1), (33, [(4, a0), (0, a1), (0, a2), (99, 0), (99, 0)], [], s), (11, [(4, a0), (0, a1), (0, a2), (99, 0), (99, 0)], [], s)) from rfl) H (fun H => ?_) (fun H => ?_)
    · refine AT.seq [(33, .aload_n 0, 1, (0, 0, 0)), (34, .iconst 5, 1, (0, 0, 0))] (by decide +kernel) (show jrun _ (33, [(4, a0), (0, a1), (0, a2), (99, 0), (99, 0)], [], s) = some ([], (35, [(4, a0), (0, a1), (0, a2), (99, 0), (99, 0)], [(0, 5), (4, a0)], s)) from rfl) ?_
      obtain ⟨v6, s6, h6, H⟩ := jb_some H
      refine AT.callV (As := [(0, 5)]) (cl := 0) (b := a0) (st := []) (i := 104) (pos := 3034) kJc_deny (by decide +kernel) rfl (by decide +kernel) rfl rfl (by omega) (Jc_deny_ok h6) ?_
      show AT sJc_mean 6 (38, [(4, a0), (0, a1), (0, a2), (99, 0), (99, 0)], [(0, v6)], s6) o
      exact AT.retzH (by decide +kernel) H
    · refine AT.seq [(11, .iload_n 2, 1, (0, 0, 0)), (12, .iconst 1, 1, (0, 0, 0))] (by decide +kernel) (show jrun _ (11, [(4, a0), (0, a1), (0, a2), (99, 0), (99, 0)], [], s) = some ([], (13, [(4, a0), (0, a1), (0, a2), (99, 0), (99, 0)], [(0, 1), (0, a2)], s)) from rfl) ?_
      refine AT.ite (x := (0, 0, 0)) (by decide +kernel) (show jbr (.if_icmp .lt 20) (13, [(4, a0), (0, a1), (0, a2), (99, 0), (99, 0)], [(0, 1), (0, a2)], s) = some ((w32 a2) < 1, (33, [(4, a0), (0, a1), (0, a2), (99, 0), (99, 0)], [], s), (16, [(4, a0), (0, a1), (0, a2), (99, 0), (99, 0)], [], s)) from rfl) H (fun H => ?_) (fun H => ?_)
      · refine AT.seq [(33, .aload_n 0, 1, (0, 0, 0)), (34, .iconst 5, 1, (0, 0, 0))] (by decide +kernel) (show jrun _ (33, [(4, a0), (0, a1), (0, a2), (99, 0), (99, 0)], [], s) = some ([], (35, [(4, a0), (0, a1), (0, a2), (99, 0), (99, 0)], [(0, 5), (4, a0)], s)) from rfl) ?_
        obtain ⟨v7, s7, h7, H⟩ := jb_some H
        refine AT.callV (As := [(0, 5)]) (cl := 0) (b := a0) (st := []) (i := 104) (pos := 3034) kJc_deny (by decide +kernel) rfl (by decide +kernel) rfl rfl (by omega) (Jc_deny_ok h7) ?_
        show AT sJc_mean 6 (38, [(4, a0), (0, a1), (0, a2), (99, 0), (99, 0)], [(0, v7)], s7) o
        exact AT.retzH (by decide +kernel) H
      · refine AT.seq [(16, .iload_n 2, 1, (0, 0, 0)), (17, .bipush 20, 2, (0, 0, 0))] (by decide +kernel) (show jrun _ (16, [(4, a0), (0, a1), (0, a2), (99, 0), (99, 0)], [], s) = some ([], (19, [(4, a0), (0, a1), (0, a2), (99, 0), (99, 0)], [(0, 20), (0, a2)], s)) from rfl) ?_
        refine AT.ite (x := (0, 0, 0)) (by decide +kernel) (show jbr (.if_icmp .gt 14) (19, [(4, a0), (0, a1), (0, a2), (99, 0), (99, 0)], [(0, 20), (0, a2)], s) = some (20 < (w32 a2), (33, [(4, a0), (0, a1), (0, a2), (99, 0), (99, 0)], [], s), (22, [(4, a0), (0, a1), (0, a2), (99, 0), (99, 0)], [], s)) from rfl) H (fun H => ?_) (fun H => ?_)
        · refine AT.seq [(33, .aload_n 0, 1, (0, 0, 0)), (34, .iconst 5, 1, (0, 0, 0))] (by decide +kernel) (show jrun _ (33, [(4, a0), (0, a1), (0, a2), (99, 0), (99, 0)], [], s) = some ([], (35, [(4, a0), (0, a1), (0, a2), (99, 0), (99, 0)], [(0, 5), (4, a0)], s)) from rfl) ?_
          obtain ⟨v8, s8, h8, H⟩ := jb_some H
          refine AT.callV (As := [(0, 5)]) (cl := 0) (b := a0) (st := []) (i := 104) (pos := 3034) kJc_deny (by decide +kernel) rfl (by decide +kernel) rfl rfl (by omega) (Jc_deny_ok h8) ?_
          show AT sJc_mean 6 (38, [(4, a0), (0, a1), (0, a2), (99, 0), (99, 0)], [(0, v8)], s8) o
          exact AT.retzH (by decide +kernel) H
        · refine AT.seq [(22, .iload_n 1, 1, (0, 0, 0)), (23, .iload_n 2, 1, (0, 0, 0)), (24, .iadd, 1, (0, 0, 0)), (25, .iconst 1, 1, (0, 0, 0)), (26, .isub, 1, (0, 0, 0)), (27, .sipush 9999, 3, (0, 0, 0))] (by decide +kernel) (show jrun _ (22, [(4, a0), (0, a1), (0, a2), (99, 0), (99, 0)], [], s) = some ([], (30, [(4, a0), (0, a1), (0, a2), (99, 0), (99, 0)], [(0, 9999), (0, ((a1 + a2) - 1))], s)) from rfl) ?_
          refine AT.ite (x := (0, 0, 0)) (by decide +kernel) (show jbr (.if_icmp .le 9) (30, [(4, a0), (0, a1), (0, a2), (99, 0), (99, 0)], [(0, 9999), (0, ((a1 + a2) - 1))], s) = some (9999 < (w32 ((a1 + a2) - 1)), (33, [(4, a0), (0, a1), (0, a2), (99, 0), (99, 0)], [], s), (39, [(4, a0), (0, a1), (0, a2), (99, 0), (99, 0)], [], s)) from rfl) H (fun H => ?_) (fun H => ?_)
          · refine AT.seq [(33, .aload_n 0, 1, (0, 0, 0)), (34, .iconst 5, 1, (0, 0, 0))] (by decide +kernel) (show jrun _ (33, [(4, a0), (0, a1), (0, a2), (99, 0), (99, 0)], [], s) = some ([], (35, [(4, a0), (0, a1), (0, a2), (99, 0), (99, 0)], [(0, 5), (4, a0)], s)) from rfl) ?_
            obtain ⟨v9, s9, h9, H⟩ := jb_some H
            refine AT.callV (As := [(0, 5)]) (cl := 0) (b := a0) (st := []) (i := 104) (pos := 3034) kJc_deny (by decide +kernel) rfl (by decide +kernel) rfl rfl (by omega) (Jc_deny_ok h9) ?_
            show AT sJc_mean 6 (38, [(4, a0), (0, a1), (0, a2), (99, 0), (99, 0)], [(0, v9)], s9) o
            exact AT.retzH (by decide +kernel) H
          · refine AT.blk (g := jok 3 (s a0 5) = true) [(39, .aload_n 0, 1, (0, 0, 0)), (40, .getfield 19, 3, (2205, 5, 0)), (43, .getfield 173, 3, (1224, 317, 0)), (46, .getfield 363, 3, (1064, 400, 0))] (by decide +kernel) (show jrun _ (39, [(4, a0), (0, a1), (0, a2), (99, 0), (99, 0)], [], s) = some ([jok 3 (s a0 5) = true], (49, [(4, a0), (0, a1), (0, a2), (99, 0), (99, 0)], [(0, (s ((s a0 5) + 9) 0))], s)) from rfl) (fun h => h) H (fun H => ?_)
            refine AT.ite (x := (0, 0, 0)) (by decide +kernel) (show jbr (.ifCond .ne 10) (49, [(4, a0), (0, a1), (0, a2), (99, 0), (99, 0)], [(0, (s ((s a0 5) + 9) 0))], s) = some ((w32 (s ((s a0 5) + 9) 0)) = 0, (52, [(4, a0), (0, a1), (0, a2), (99, 0), (99, 0)], [], s), (59, [(4, a0), (0, a1), (0, a2), (99, 0), (99, 0)], [], s)) from rfl) H (fun H => ?_) (fun H => ?_)
            · refine AT.seq [(52, .aload_n 0, 1, (0, 0, 0)), (53, .bipush 8, 2, (0, 0, 0))] (by decide +kernel) (show jrun _ (52, [(4, a0), (0, a1), (0, a2), (99, 0), (99, 0)], [], s) = some ([], (55, [(4, a0), (0, a1), (0, a2), (99, 0), (99, 0)], [(0, 8), (4, a0)], s)) from rfl) ?_
              obtain ⟨v10, s10, h10, H⟩ := jb_some H
              refine AT.callV (As := [(0, 8)]) (cl := 0) (b := a0) (st := []) (i := 104) (pos := 3034) kJc_deny (by decide +kernel) rfl (by decide +kernel) rfl rfl (by omega) (Jc_deny_ok h10) ?_
              show AT sJc_mean 6 (58, [(4, a0), (0, a1), (0, a2), (99, 0), (99, 0)], [(0, v10)], s10) o
              exact AT.retzH (by decide +kernel) H
            · refine AT.seq [(59, .iconst 0, 1, (0, 0, 0)), (60, .istore_n 3, 1, (0, 0, 0)), (61, .iconst 0, 1, (0, 0, 0)), (62, .istore 4, 2, (0, 0, 0))] (by decide +kernel) (show jrun _ (59, [(4, a0), (0, a1), (0, a2), (99, 0), (99, 0)], [], s) = some ([], (64, [(4, a0), (0, a1), (0, a2), (0, 0), (0, 0)], [], s)) from rfl) ?_
              exact Jc_mean_64_ok  jFU _ _ _ _ _ _ H
def sJc_mark : jS := (⟨"JellyCathedral", "mark", "()I"⟩, prog_1_method_48_code, 1, 1, [4], 0)
theorem kJc_mark : jmk sJc_mark = true := jmk_of 5172 1001 5170 5171 (by decide +kernel)
set_option maxRecDepth 100000 in
theorem Jc_mark_ok {a0 : Int} {s : jM} {o : Int × jM} (H : Jc_mark a0 s = some o) : MK sJc_mark 2 [(4, a0)] s o := by
  refine MK.of kJc_mark rfl ?_
  show AT sJc_mark 2 (0, [(4, a0)], [], s) o
  unfold Jc_mark at H
  refine AT.seq [(0, .aload_n 0, 1, (0, 0, 0)), (1, .getfield 93, 3, (2207, 7, 0)), (4, .iconst 3, 1, (0, 0, 0))] (by decide +kernel) (show jrun _ (0, [(4, a0)], [], s) = some ([], (5, [(4, a0)], [(0, 3), (0, (s a0 7))], s)) from rfl) ?_
  refine AT.ite (x := (0, 0, 0)) (by decide +kernel) (show jbr (.if_icmp .lt 10) (5, [(4, a0)], [(0, 3), (0, (s a0 7))], s) = some ((w32 (s a0 7)) < 3, (15, [(4, a0)], [], s), (8, [(4, a0)], [], s)) from rfl) H (fun H => ?_) (fun H => ?_)
  · refine AT.blk (g := (0 ≤ (w32 (s a0 7)) ∧ (w32 (s a0 7)) < 3) ∧ jok 3 (s a0 5) = true) [(15, .aload_n 0, 1, (0, 0, 0)), (16, .getfield 26, 3, (2210, 10, 0)), (19, .aload_n 0, 1, (0, 0, 0)), (20, .getfield 93, 3, (2207, 7, 0)), (23, .aaload, 1, (0, 0, 0)), (24, .aload_n 0, 1, (0, 0, 0)), (25, .getfield 19, 3, (2205, 5, 0))] (by decide +kernel) (show jrun _ (15, [(4, a0)], [], s) = some ([(0 ≤ (w32 (s a0 7)) ∧ (w32 (s a0 7)) < 3), jok 3 (s a0 5) = true], (28, [(4, a0)], [(7, (s a0 5)), (7, ((a0 + 10) + 70 + 25 * (w32 (s a0 7))))], s)) from rfl) (fun h => ⟨h.1, h.2⟩) H (fun H => ?_)
    obtain ⟨v1, s1, h1, H⟩ := jb_some H
    refine AT.callV (As := [(7, (s a0 5))]) (cl := 3) (b := ((a0 + 10) + 70 + 25 * (w32 (s a0 7)))) (st := []) (i := 375) (pos := 5154) kSe_copyOf (by decide +kernel) rfl (by decide +kernel) rfl rfl (by omega) (Se_copyOf_ok h1) ?_
    show AT sJc_mark 2 (31, [(4, a0)], [], s1) o
    refine AT.seq [(31, .aload_n 0, 1, (0, 0, 0)), (32, .dup, 1, (0, 0, 0)), (33, .getfield 93, 3, (2207, 7, 0)), (36, .iconst 1, 1, (0, 0, 0)), (37, .iadd, 1, (0, 0, 0)), (38, .putfield 93, 3, (2207, 7, 0)), (41, .aload_n 0, 1, (0, 0, 0)), (42, .aload_n 0, 1, (0, 0, 0)), (43, .getfield 93, 3, (2207, 7, 0))] (by decide +kernel) (show jrun _ (31, [(4, a0)], [], s1) = some ([], (46, [(4, a0)], [(0, ((jup s1 a0 7 ((s1 a0 7) + 1)) a0 7)), (4, a0)], (jup s1 a0 7 ((s1 a0 7) + 1)))) from rfl) ?_
    obtain ⟨v2, s2, h2, H⟩ := jb_some H
    refine AT.callV (As := [(0, ((jup s1 a0 7 ((s1 a0 7) + 1)) a0 7))]) (cl := 0) (b := a0) (st := []) (i := 170) (pos := 3215) kJc_answer (by decide +kernel) rfl (by decide +kernel) rfl rfl (by omega) (Jc_answer_ok h2) ?_
    show AT sJc_mark 2 (49, [(4, a0)], [(0, v2)], s2) o
    exact AT.retiH (by decide +kernel) H
  · refine AT.seq [(8, .aload_n 0, 1, (0, 0, 0)), (9, .bipush 7, 2, (0, 0, 0))] (by decide +kernel) (show jrun _ (8, [(4, a0)], [], s) = some ([], (11, [(4, a0)], [(0, 7), (4, a0)], s)) from rfl) ?_
    obtain ⟨v3, s3, h3, H⟩ := jb_some H
    refine AT.callV (As := [(0, 7)]) (cl := 0) (b := a0) (st := []) (i := 123) (pos := 3066) kJc_refuse (by decide +kernel) rfl (by decide +kernel) rfl rfl (by omega) (Jc_refuse_ok h3) ?_
    show AT sJc_mark 2 (14, [(4, a0)], [(0, v3)], s3) o
    exact AT.retiH (by decide +kernel) H
def sJc_back : jS := (⟨"JellyCathedral", "back", "()I"⟩, prog_1_method_49_code, 1, 1, [4], 0)
theorem kJc_back : jmk sJc_back = true := jmk_of 5176 1001 5174 5175 (by decide +kernel)
set_option maxRecDepth 100000 in
theorem Jc_back_ok {a0 : Int} {s : jM} {o : Int × jM} (H : Jc_back a0 s = some o) : MK sJc_back 2 [(4, a0)] s o := by
  refine MK.of kJc_back rfl ?_
  show AT sJc_back 2 (0, [(4, a0)], [], s) o
  unfold Jc_back at H
  refine AT.seq [(0, .aload_n 0, 1, (0, 0, 0)), (1, .getfield 93, 3, (2207, 7, 0))] (by decide +kernel) (show jrun _ (0, [(4, a0)], [], s) = some ([], (4, [(4, a0)], [(0, (s a0 7))], s)) from rfl) ?_
  refine AT.ite (x := (0, 0, 0)) (by decide +kernel) (show jbr (.ifCond .gt 10) (4, [(4, a0)], [(0, (s a0 7))], s) = some (0 < (w32 (s a0 7)), (14, [(4, a0)], [], s), (7, [(4, a0)], [], s)) from rfl) H (fun H => ?_) (fun H => ?_)
  · refine AT.blk (g := jok 3 ((jup s a0 7 ((s a0 7) - 1)) a0 5) = true ∧ (0 ≤ (w32 ((jup s a0 7 ((s a0 7) - 1)) a0 7)) ∧ (w32 ((jup s a0 7 ((s a0 7) - 1)) a0 7)) < 3)) [(14, .aload_n 0, 1, (0, 0, 0)), (15, .dup, 1, (0, 0, 0)), (16, .getfield 93, 3, (2207, 7, 0)), (19, .iconst 1, 1, (0, 0, 0)), (20, .isub, 1, (0, 0, 0)), (21, .putfield 93, 3, (2207, 7, 0)), (24, .aload_n 0, 1, (0, 0, 0)), (25, .getfield 19, 3, (2205, 5, 0)), (28, .aload_n 0, 1, (0, 0, 0)), (29, .getfield 26, 3, (2210, 10, 0)), (32, .aload_n 0, 1, (0, 0, 0)), (33, .getfield 93, 3, (2207, 7, 0)), (36, .aaload, 1, (0, 0, 0))] (by decide +kernel) (show jrun _ (14, [(4, a0)], [], s) = some ([jok 3 ((jup s a0 7 ((s a0 7) - 1)) a0 5) = true, (0 ≤ (w32 ((jup s a0 7 ((s a0 7) - 1)) a0 7)) ∧ (w32 ((jup s a0 7 ((s a0 7) - 1)) a0 7)) < 3)], (37, [(4, a0)], [(7, ((a0 + 10) + 70 + 25 * (w32 ((jup s a0 7 ((s a0 7) - 1)) a0 7)))), (7, ((jup s a0 7 ((s a0 7) - 1)) a0 5))], (jup s a0 7 ((s a0 7) - 1)))) from rfl) (fun h => ⟨h.1, h.2⟩) H (fun H => ?_)
    obtain ⟨v1, s1, h1, H⟩ := jb_some H
    refine AT.callV (As := [(7, ((a0 + 10) + 70 + 25 * (w32 ((jup s a0 7 ((s a0 7) - 1)) a0 7))))]) (cl := 3) (b := ((jup s a0 7 ((s a0 7) - 1)) a0 5)) (st := []) (i := 375) (pos := 5154) kSe_copyOf (by decide +kernel) rfl (by decide +kernel) rfl rfl (by omega) (Se_copyOf_ok h1) ?_
    show AT sJc_back 2 (40, [(4, a0)], [], s1) o
    refine AT.seq [(40, .aload_n 0, 1, (0, 0, 0)), (41, .aload_n 0, 1, (0, 0, 0)), (42, .getfield 93, 3, (2207, 7, 0))] (by decide +kernel) (show jrun _ (40, [(4, a0)], [], s1) = some ([], (45, [(4, a0)], [(0, (s1 a0 7)), (4, a0)], s1)) from rfl) ?_
    obtain ⟨v2, s2, h2, H⟩ := jb_some H
    refine AT.callV (As := [(0, (s1 a0 7))]) (cl := 0) (b := a0) (st := []) (i := 170) (pos := 3215) kJc_answer (by decide +kernel) rfl (by decide +kernel) rfl rfl (by omega) (Jc_answer_ok h2) ?_
    show AT sJc_back 2 (48, [(4, a0)], [(0, v2)], s2) o
    exact AT.retiH (by decide +kernel) H
  · refine AT.seq [(7, .aload_n 0, 1, (0, 0, 0)), (8, .bipush 8, 2, (0, 0, 0))] (by decide +kernel) (show jrun _ (7, [(4, a0)], [], s) = some ([], (10, [(4, a0)], [(0, 8), (4, a0)], s)) from rfl) ?_
    obtain ⟨v3, s3, h3, H⟩ := jb_some H
    refine AT.callV (As := [(0, 8)]) (cl := 0) (b := a0) (st := []) (i := 123) (pos := 3066) kJc_refuse (by decide +kernel) rfl (by decide +kernel) rfl rfl (by omega) (Jc_refuse_ok h3) ?_
    show AT sJc_back 2 (13, [(4, a0)], [(0, v3)], s3) o
    exact AT.retiH (by decide +kernel) H
