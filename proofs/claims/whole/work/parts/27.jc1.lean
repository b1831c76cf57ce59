/-! printed by wip/whole/gen_all.py: Jc_carry, Jc_minute, Jc_warm, Jc_buy, Jc_rule, Jc_firmIn, Jc_lasts, Jc_waits, Jc_fallIn, Jc_mixTrouble, Jc_mix, Jc_mixPart, Jc_strongest, Jc_fillings, Jc_shaken, Jc_way, Jc_reach, Jc_fitsTrouble, Jc_keepFits, Jc_fits -/
def sJc_carry : jS := (⟨"JellyCathedral", "carry", "(II)I"⟩, prog_1_method_22_code, 4, 1, [4, 0, 0], 0)
theorem kJc_carry : jmk sJc_carry = true := jmk_of 4111 1001 4109 4110 (by decide +kernel)
set_option maxRecDepth 100000 in
theorem Jc_carry_ok {a0 a1 a2 : Int} {s : jM} {o : Int × jM} (H : Jc_carry a0 a1 a2 s = some o) : MK sJc_carry 3 [(4, a0), (0, a1), (0, a2)] s o := by
  refine MK.of kJc_carry rfl ?_
  show AT sJc_carry 3 (0, [(4, a0), (0, a1), (0, a2), (99, 0)], [], s) o
  unfold Jc_carry at H
  refine AT.blk (g := jok 3 (s a0 5) = true) [(0, .aload_n 0, 1, (0, 0, 0)), (1, .getfield 19, 3, (2205, 5, 0)), (4, .iload_n 1, 1, (0, 0, 0))] (by decide +kernel) (show jrun _ (0, [(4, a0), (0, a1), (0, a2), (99, 0)], [], s) = some ([jok 3 (s a0 5) = true], (5, [(4, a0), (0, a1), (0, a2), (99, 0)], [(0, a1), (7, (s a0 5))], s)) from rfl) (fun h => h) H (fun H => ?_)
  obtain ⟨v1, s1, h1, H⟩ := jb_some H
  refine AT.callV (As := [(0, a1)]) (cl := 3) (b := (s a0 5)) (st := []) (i := 226) (pos := 4050) kSe_isMould (by decide +kernel) rfl (by decide +kernel) rfl rfl (by omega) (Se_isMould_ok h1) ?_
  show AT sJc_carry 3 (8, [(4, a0), (0, a1), (0, a2), (99, 0)], [(0, v1)], s1) o
  refine AT.ite (x := (0, 0, 0)) (by decide +kernel) (show jbr (.ifCond .eq 14) (8, [(4, a0), (0, a1), (0, a2), (99, 0)], [(0, v1)], s1) = some ((w32 v1) = 0, (22, [(4, a0), (0, a1), (0, a2), (99, 0)], [], s1), (11, [(4, a0), (0, a1), (0, a2), (99, 0)], [], s1)) from rfl) H (fun H => ?_) (fun H => ?_)
  · refine AT.seq [(22, .aload_n 0, 1, (0, 0, 0)), (23, .iconst 2, 1, (0, 0, 0))] (by decide +kernel) (show jrun _ (22, [(4, a0), (0, a1), (0, a2), (99, 0)], [], s1) = some ([], (24, [(4, a0), (0, a1), (0, a2), (99, 0)], [(0, 2), (4, a0)], s1)) from rfl) ?_
    obtain ⟨v2, s2, h2, H⟩ := jb_some H
    refine AT.callV (As := [(0, 2)]) (cl := 0) (b := a0) (st := []) (i := 123) (pos := 3066) kJc_refuse (by decide +kernel) rfl (by decide +kernel) rfl rfl (by omega) (Jc_refuse_ok h2) ?_
    show AT sJc_carry 3 (27, [(4, a0), (0, a1), (0, a2), (99, 0)], [(0, v2)], s2) o
    exact AT.retiH (by decide +kernel) H
  · refine AT.blk (g := jok 3 (s1 a0 5) = true) [(11, .aload_n 0, 1, (0, 0, 0)), (12, .getfield 19, 3, (2205, 5, 0)), (15, .iload_n 2, 1, (0, 0, 0))] (by decide +kernel) (show jrun _ (11, [(4, a0), (0, a1), (0, a2), (99, 0)], [], s1) = some ([jok 3 (s1 a0 5) = true], (16, [(4, a0), (0, a1), (0, a2), (99, 0)], [(0, a2), (7, (s1 a0 5))], s1)) from rfl) (fun h => h) H (fun H => ?_)
    obtain ⟨v3, s3, h3, H⟩ := jb_some H
    refine AT.callV (As := [(0, a2)]) (cl := 3) (b := (s1 a0 5)) (st := []) (i := 278) (pos := 4112) kSe_isPlace (by decide +kernel) rfl (by decide +kernel) rfl rfl (by omega) (Se_isPlace_ok h3) ?_
    show AT sJc_carry 3 (19, [(4, a0), (0, a1), (0, a2), (99, 0)], [(0, v3)], s3) o
    refine AT.ite (x := (0, 0, 0)) (by decide +kernel) (show jbr (.ifCond .ne 9) (19, [(4, a0), (0, a1), (0, a2), (99, 0)], [(0, v3)], s3) = some ((w32 v3) = 0, (22, [(4, a0), (0, a1), (0, a2), (99, 0)], [], s3), (28, [(4, a0), (0, a1), (0, a2), (99, 0)], [], s3)) from rfl) H (fun H => ?_) (fun H => ?_)
    · refine AT.seq [(22, .aload_n 0, 1, (0, 0, 0)), (23, .iconst 2, 1, (0, 0, 0))] (by decide +kernel) (show jrun _ (22, [(4, a0), (0, a1), (0, a2), (99, 0)], [], s3) = some ([], (24, [(4, a0), (0, a1), (0, a2), (99, 0)], [(0, 2), (4, a0)], s3)) from rfl) ?_
      obtain ⟨v4, s4, h4, H⟩ := jb_some H
      refine AT.callV (As := [(0, 2)]) (cl := 0) (b := a0) (st := []) (i := 123) (pos := 3066) kJc_refuse (by decide +kernel) rfl (by decide +kernel) rfl rfl (by omega) (Jc_refuse_ok h4) ?_
      show AT sJc_carry 3 (27, [(4, a0), (0, a1), (0, a2), (99, 0)], [(0, v4)], s4) o
      exact AT.retiH (by decide +kernel) H
    · refine AT.blk (g := jok 3 (s3 a0 5) = true ∧ jok 3 (s3 a0 5) = true ∧ (0 ≤ (w32 a1) ∧ (w32 a1) < 5)) [(28, .aload_n 0, 1, (0, 0, 0)), (29, .getfield 19, 3, (2205, 5, 0)), (32, .aload_n 0, 1, (0, 0, 0)), (33, .getfield 19, 3, (2205, 5, 0)), (36, .getfield 229, 3, (1217, 312, 0)), (39, .iload_n 1, 1, (0, 0, 0)), (40, .aaload, 1, (0, 0, 0)), (41, .getfield 241, 3, (1121, 202, 0)), (44, .iload_n 2, 1, (0, 0, 0))] (by decide +kernel) (show jrun _ (28, [(4, a0), (0, a1), (0, a2), (99, 0)], [], s3) = some ([jok 3 (s3 a0 5) = true, jok 3 (s3 a0 5) = true, (0 ≤ (w32 a1) ∧ (w32 a1) < 5)], (45, [(4, a0), (0, a1), (0, a2), (99, 0)], [(0, a2), (0, (s3 (((s3 a0 5) + 4) + 11 + 2 * (w32 a1)) 2)), (7, (s3 a0 5))], s3)) from rfl) (fun h => ⟨h.1, h.2.1, h.2.2⟩) H (fun H => ?_)
      obtain ⟨v5, s5, h5, H⟩ := jb_some H
      refine AT.callV (As := [(0, (s3 (((s3 a0 5) + 4) + 11 + 2 * (w32 a1)) 2)), (0, a2)]) (cl := 3) (b := (s3 a0 5)) (st := []) (i := 281) (pos := 4116) kSe_shakesBetween (by decide +kernel) rfl (by decide +kernel) rfl rfl (by omega) (Se_shakesBetween_ok h5) ?_
      show AT sJc_carry 3 (48, [(4, a0), (0, a1), (0, a2), (99, 0)], [(0, v5)], s5) o
      refine AT.seq [(48, .istore_n 3, 1, (0, 0, 0)), (49, .iload_n 3, 1, (0, 0, 0)), (50, .iconst (-1), 1, (0, 0, 0))] (by decide +kernel) (show jrun _ (48, [(4, a0), (0, a1), (0, a2), (99, 0)], [(0, v5)], s5) = some ([], (51, [(4, a0), (0, a1), (0, a2), (0, v5)], [(0, (-1)), (0, v5)], s5)) from rfl) ?_
      refine AT.ite (x := (0, 0, 0)) (by decide +kernel) (show jbr (.if_icmp .ne 10) (51, [(4, a0), (0, a1), (0, a2), (0, v5)], [(0, (-1)), (0, v5)], s5) = some ((w32 v5) = (-1), (54, [(4, a0), (0, a1), (0, a2), (0, v5)], [], s5), (61, [(4, a0), (0, a1), (0, a2), (0, v5)], [], s5)) from rfl) H (fun H => ?_) (fun H => ?_)
      · refine AT.seq [(54, .aload_n 0, 1, (0, 0, 0)), (55, .bipush 8, 2, (0, 0, 0))] (by decide +kernel) (show jrun _ (54, [(4, a0), (0, a1), (0, a2), (0, v5)], [], s5) = some ([], (57, [(4, a0), (0, a1), (0, a2), (0, v5)], [(0, 8), (4, a0)], s5)) from rfl) ?_
        obtain ⟨v6, s6, h6, H⟩ := jb_some H
        refine AT.callV (As := [(0, 8)]) (cl := 0) (b := a0) (st := []) (i := 123) (pos := 3066) kJc_refuse (by decide +kernel) rfl (by decide +kernel) rfl rfl (by omega) (Jc_refuse_ok h6) ?_
        show AT sJc_carry 3 (60, [(4, a0), (0, a1), (0, a2), (0, v5)], [(0, v6)], s6) o
        exact AT.retiH (by decide +kernel) H
      · refine AT.blk (g := jok 3 (s5 a0 5) = true) [(61, .aload_n 0, 1, (0, 0, 0)), (62, .getfield 19, 3, (2205, 5, 0)), (65, .iload_n 1, 1, (0, 0, 0)), (66, .iload_n 2, 1, (0, 0, 0))] (by decide +kernel) (show jrun _ (61, [(4, a0), (0, a1), (0, a2), (0, v5)], [], s5) = some ([jok 3 (s5 a0 5) = true], (67, [(4, a0), (0, a1), (0, a2), (0, v5)], [(0, a2), (0, a1), (7, (s5 a0 5))], s5)) from rfl) (fun h => h) H (fun H => ?_)
        obtain ⟨v7, s7, h7, H⟩ := jb_some H
        refine AT.callV (As := [(0, a1), (0, a2)]) (cl := 3) (b := (s5 a0 5)) (st := []) (i := 284) (pos := 4120) kSe_bring (by decide +kernel) rfl (by decide +kernel) rfl rfl (by omega) (Se_bring_ok h7) ?_
        show AT sJc_carry 3 (70, [(4, a0), (0, a1), (0, a2), (0, v5)], [(0, v7)], s7) o
        refine AT.ite (x := (0, 0, 0)) (by decide +kernel) (show jbr (.ifCond .eq 11) (70, [(4, a0), (0, a1), (0, a2), (0, v5)], [(0, v7)], s7) = some ((w32 v7) = 0, (81, [(4, a0), (0, a1), (0, a2), (0, v5)], [], s7), (73, [(4, a0), (0, a1), (0, a2), (0, v5)], [], s7)) from rfl) H (fun H => ?_) (fun H => ?_)
        · refine AT.seq [(81, .aload_n 0, 1, (0, 0, 0)), (82, .bipush 9, 2, (0, 0, 0))] (by decide +kernel) (show jrun _ (81, [(4, a0), (0, a1), (0, a2), (0, v5)], [], s7) = some ([], (84, [(4, a0), (0, a1), (0, a2), (0, v5)], [(0, 9), (4, a0)], s7)) from rfl) ?_
          obtain ⟨v8, s8, h8, H⟩ := jb_some H
          refine AT.callV (As := [(0, 9)]) (cl := 0) (b := a0) (st := []) (i := 123) (pos := 3066) kJc_refuse (by decide +kernel) rfl (by decide +kernel) rfl rfl (by omega) (Jc_refuse_ok h8) ?_
          show AT sJc_carry 3 (87, [(4, a0), (0, a1), (0, a2), (0, v5)], [(0, v8)], s8) o
          exact AT.retiH (by decide +kernel) H
        · refine AT.seq [(73, .aload_n 0, 1, (0, 0, 0)), (74, .iload_n 3, 1, (0, 0, 0))] (by decide +kernel) (show jrun _ (73, [(4, a0), (0, a1), (0, a2), (0, v5)], [], s7) = some ([], (75, [(4, a0), (0, a1), (0, a2), (0, v5)], [(0, v5), (4, a0)], s7)) from rfl) ?_
          obtain ⟨v9, s9, h9, H⟩ := jb_some H
          refine AT.callV (As := [(0, v5)]) (cl := 0) (b := a0) (st := []) (i := 170) (pos := 3215) kJc_answer (by decide +kernel) rfl (by decide +kernel) rfl rfl (by omega) (Jc_answer_ok h9) ?_
          show AT sJc_carry 3 (78, [(4, a0), (0, a1), (0, a2), (0, v5)], [(0, v9)], s9) o
          refine AT.seq [(78, .goto 9, 3, (0, 0, 0))] (by decide +kernel) (show jrun _ (78, [(4, a0), (0, a1), (0, a2), (0, v5)], [(0, v9)], s9) = some ([], (87, [(4, a0), (0, a1), (0, a2), (0, v5)], [(0, v9)], s9)) from rfl) ?_
          exact AT.retiH (by decide +kernel) H
def sJc_minute : jS := (⟨"JellyCathedral", "minute", "(I)I"⟩, prog_1_method_23_code, 3, 1, [4, 0], 0)
theorem kJc_minute : jmk sJc_minute = true := jmk_of 4128 1001 4126 4127 (by decide +kernel)
set_option maxRecDepth 100000 in
theorem Jc_minute_ok {a0 a1 : Int} {s : jM} {o : Int × jM} (H : Jc_minute a0 a1 s = some o) : MK sJc_minute 4 [(4, a0), (0, a1)] s o := by
  refine MK.of kJc_minute rfl ?_
  show AT sJc_minute 4 (0, [(4, a0), (0, a1), (99, 0)], [], s) o
  unfold Jc_minute at H
  refine AT.seq [(0, .iload_n 1, 1, (0, 0, 0)), (1, .iconst 1, 1, (0, 0, 0))] (by decide +kernel) (show jrun _ (0, [(4, a0), (0, a1), (99, 0)], [], s) = some ([], (2, [(4, a0), (0, a1), (99, 0)], [(0, 1), (0, a1)], s)) from rfl) ?_
  refine AT.ite (x := (0, 0, 0)) (by decide +kernel) (show jbr (.if_icmp .lt 9) (2, [(4, a0), (0, a1), (99, 0)], [(0, 1), (0, a1)], s) = some ((w32 a1) < 1, (11, [(4, a0), (0, a1), (99, 0)], [], s), (5, [(4, a0), (0, a1), (99, 0)], [], s)) from rfl) H (fun H => ?_) (fun H => ?_)
  · refine AT.seq [(11, .aload_n 0, 1, (0, 0, 0)), (12, .iconst 5, 1, (0, 0, 0))] (by decide +kernel) (show jrun _ (11, [(4, a0), (0, a1), (99, 0)], [], s) = some ([], (13, [(4, a0), (0, a1), (99, 0)], [(0, 5), (4, a0)], s)) from rfl) ?_
    obtain ⟨v1, s1, h1, H⟩ := jb_some H
    refine AT.callV (As := [(0, 5)]) (cl := 0) (b := a0) (st := []) (i := 123) (pos := 3066) kJc_refuse (by decide +kernel) rfl (by decide +kernel) rfl rfl (by omega) (Jc_refuse_ok h1) ?_
    show AT sJc_minute 4 (16, [(4, a0), (0, a1), (99, 0)], [(0, v1)], s1) o
    exact AT.retiH (by decide +kernel) H
  · refine AT.seq [(5, .iload_n 1, 1, (0, 0, 0)), (6, .bipush 99, 2, (0, 0, 0))] (by decide +kernel) (show jrun _ (5, [(4, a0), (0, a1), (99, 0)], [], s) = some ([], (8, [(4, a0), (0, a1), (99, 0)], [(0, 99), (0, a1)], s)) from rfl) ?_
    refine AT.ite (x := (0, 0, 0)) (by decide +kernel) (show jbr (.if_icmp .le 9) (8, [(4, a0), (0, a1), (99, 0)], [(0, 99), (0, a1)], s) = some (99 < (w32 a1), (11, [(4, a0), (0, a1), (99, 0)], [], s), (17, [(4, a0), (0, a1), (99, 0)], [], s)) from rfl) H (fun H => ?_) (fun H => ?_)
    · refine AT.seq [(11, .aload_n 0, 1, (0, 0, 0)), (12, .iconst 5, 1, (0, 0, 0))] (by decide +kernel) (show jrun _ (11, [(4, a0), (0, a1), (99, 0)], [], s) = some ([], (13, [(4, a0), (0, a1), (99, 0)], [(0, 5), (4, a0)], s)) from rfl) ?_
      obtain ⟨v2, s2, h2, H⟩ := jb_some H
      refine AT.callV (As := [(0, 5)]) (cl := 0) (b := a0) (st := []) (i := 123) (pos := 3066) kJc_refuse (by decide +kernel) rfl (by decide +kernel) rfl rfl (by omega) (Jc_refuse_ok h2) ?_
      show AT sJc_minute 4 (16, [(4, a0), (0, a1), (99, 0)], [(0, v2)], s2) o
      exact AT.retiH (by decide +kernel) H
    · refine AT.blk (g := jok 3 (s a0 5) = true) [(17, .aload_n 0, 1, (0, 0, 0)), (18, .getfield 19, 3, (2205, 5, 0))] (by decide +kernel) (show jrun _ (17, [(4, a0), (0, a1), (99, 0)], [], s) = some ([jok 3 (s a0 5) = true], (21, [(4, a0), (0, a1), (99, 0)], [(7, (s a0 5))], s)) from rfl) (fun h => h) H (fun H => ?_)
      obtain ⟨v3, s3, h3, H⟩ := jb_some H
      refine AT.callV (As := []) (cl := 3) (b := (s a0 5)) (st := []) (i := 207) (pos := 4030) kSe_fallen (by decide +kernel) rfl (by decide +kernel) rfl rfl (by omega) (Se_fallen_ok h3) ?_
      show AT sJc_minute 4 (24, [(4, a0), (0, a1), (99, 0)], [(0, v3)], s3) o
      refine AT.blk (g := jok 3 (s3 a0 5) = true) [(24, .istore_n 2, 1, (0, 0, 0)), (25, .aload_n 0, 1, (0, 0, 0)), (26, .getfield 19, 3, (2205, 5, 0)), (29, .iload_n 1, 1, (0, 0, 0))] (by decide +kernel) (show jrun _ (24, [(4, a0), (0, a1), (99, 0)], [(0, v3)], s3) = some ([jok 3 (s3 a0 5) = true], (30, [(4, a0), (0, a1), (0, v3)], [(0, a1), (7, (s3 a0 5))], s3)) from rfl) (fun h => h) H (fun H => ?_)
      obtain ⟨v4, s4, h4, H⟩ := jb_some H
      refine AT.callV (As := [(0, a1)]) (cl := 3) (b := (s3 a0 5)) (st := []) (i := 288) (pos := 4129) kSe_passMinutes (by decide +kernel) rfl (by decide +kernel) rfl rfl (by omega) (Se_passMinutes_ok h4) ?_
      show AT sJc_minute 4 (33, [(4, a0), (0, a1), (0, v3)], [(0, v4)], s4) o
      refine AT.ite (x := (0, 0, 0)) (by decide +kernel) (show jbr (.ifCond .eq 19) (33, [(4, a0), (0, a1), (0, v3)], [(0, v4)], s4) = some ((w32 v4) = 0, (52, [(4, a0), (0, a1), (0, v3)], [], s4), (36, [(4, a0), (0, a1), (0, v3)], [], s4)) from rfl) H (fun H => ?_) (fun H => ?_)
      · refine AT.seq [(52, .aload_n 0, 1, (0, 0, 0)), (53, .bipush 7, 2, (0, 0, 0))] (by decide +kernel) (show jrun _ (52, [(4, a0), (0, a1), (0, v3)], [], s4) = some ([], (55, [(4, a0), (0, a1), (0, v3)], [(0, 7), (4, a0)], s4)) from rfl) ?_
        obtain ⟨v5, s5, h5, H⟩ := jb_some H
        refine AT.callV (As := [(0, 7)]) (cl := 0) (b := a0) (st := []) (i := 123) (pos := 3066) kJc_refuse (by decide +kernel) rfl (by decide +kernel) rfl rfl (by omega) (Jc_refuse_ok h5) ?_
        show AT sJc_minute 4 (58, [(4, a0), (0, a1), (0, v3)], [(0, v5)], s5) o
        exact AT.retiH (by decide +kernel) H
      · refine AT.blk (g := jok 3 (s4 a0 5) = true) [(36, .aload_n 0, 1, (0, 0, 0)), (37, .aload_n 0, 1, (0, 0, 0)), (38, .getfield 19, 3, (2205, 5, 0))] (by decide +kernel) (show jrun _ (36, [(4, a0), (0, a1), (0, v3)], [], s4) = some ([jok 3 (s4 a0 5) = true], (41, [(4, a0), (0, a1), (0, v3)], [(7, (s4 a0 5)), (4, a0)], s4)) from rfl) (fun h => h) H (fun H => ?_)
        obtain ⟨v6, s6, h6, H⟩ := jb_some H
        refine AT.callV (As := []) (cl := 3) (b := (s4 a0 5)) (st := [(4, a0)]) (i := 207) (pos := 4030) kSe_fallen (by decide +kernel) rfl (by decide +kernel) rfl rfl (by omega) (Se_fallen_ok h6) ?_
        show AT sJc_minute 4 (44, [(4, a0), (0, a1), (0, v3)], [(0, v6), (4, a0)], s6) o
        refine AT.seq [(44, .iload_n 2, 1, (0, 0, 0)), (45, .isub, 1, (0, 0, 0))] (by decide +kernel) (show jrun _ (44, [(4, a0), (0, a1), (0, v3)], [(0, v6), (4, a0)], s6) = some ([], (46, [(4, a0), (0, a1), (0, v3)], [(0, (v6 - v3)), (4, a0)], s6)) from rfl) ?_
        obtain ⟨v7, s7, h7, H⟩ := jb_some H
        refine AT.callV (As := [(0, (v6 - v3))]) (cl := 0) (b := a0) (st := []) (i := 170) (pos := 3215) kJc_answer (by decide +kernel) rfl (by decide +kernel) rfl rfl (by omega) (Jc_answer_ok h7) ?_
        show AT sJc_minute 4 (49, [(4, a0), (0, a1), (0, v3)], [(0, v7)], s7) o
        refine AT.seq [(49, .goto 9, 3, (0, 0, 0))] (by decide +kernel) (show jrun _ (49, [(4, a0), (0, a1), (0, v3)], [(0, v7)], s7) = some ([], (58, [(4, a0), (0, a1), (0, v3)], [(0, v7)], s7)) from rfl) ?_
        exact AT.retiH (by decide +kernel) H
def sJc_warm : jS := (⟨"JellyCathedral", "warm", "(I)I"⟩, prog_1_method_24_code, 3, 1, [4, 0], 0)
theorem kJc_warm : jmk sJc_warm = true := jmk_of 4146 1001 4144 4145 (by decide +kernel)
set_option maxRecDepth 100000 in
theorem Jc_warm_ok {a0 a1 : Int} {s : jM} {o : Int × jM} (H : Jc_warm a0 a1 s = some o) : MK sJc_warm 1 [(4, a0), (0, a1)] s o := by
  refine MK.of kJc_warm rfl ?_
  show AT sJc_warm 1 (0, [(4, a0), (0, a1), (99, 0)], [], s) o
  unfold Jc_warm at H
  refine AT.seq [(0, .iload_n 1, 1, (0, 0, 0))] (by decide +kernel) (show jrun _ (0, [(4, a0), (0, a1), (99, 0)], [], s) = some ([], (1, [(4, a0), (0, a1), (99, 0)], [(0, a1)], s)) from rfl) ?_
  refine AT.ite (x := (0, 0, 0)) (by decide +kernel) (show jbr (.ifCond .lt 9) (1, [(4, a0), (0, a1), (99, 0)], [(0, a1)], s) = some ((w32 a1) < 0, (10, [(4, a0), (0, a1), (99, 0)], [], s), (4, [(4, a0), (0, a1), (99, 0)], [], s)) from rfl) H (fun H => ?_) (fun H => ?_)
  · refine AT.seq [(10, .aload_n 0, 1, (0, 0, 0)), (11, .iconst 5, 1, (0, 0, 0))] (by decide +kernel) (show jrun _ (10, [(4, a0), (0, a1), (99, 0)], [], s) = some ([], (12, [(4, a0), (0, a1), (99, 0)], [(0, 5), (4, a0)], s)) from rfl) ?_
    obtain ⟨v1, s1, h1, H⟩ := jb_some H
    refine AT.callV (As := [(0, 5)]) (cl := 0) (b := a0) (st := []) (i := 123) (pos := 3066) kJc_refuse (by decide +kernel) rfl (by decide +kernel) rfl rfl (by omega) (Jc_refuse_ok h1) ?_
    show AT sJc_warm 1 (15, [(4, a0), (0, a1), (99, 0)], [(0, v1)], s1) o
    exact AT.retiH (by decide +kernel) H
  · refine AT.seq [(4, .iload_n 1, 1, (0, 0, 0)), (5, .bipush 9, 2, (0, 0, 0))] (by decide +kernel) (show jrun _ (4, [(4, a0), (0, a1), (99, 0)], [], s) = some ([], (7, [(4, a0), (0, a1), (99, 0)], [(0, 9), (0, a1)], s)) from rfl) ?_
    refine AT.ite (x := (0, 0, 0)) (by decide +kernel) (show jbr (.if_icmp .le 9) (7, [(4, a0), (0, a1), (99, 0)], [(0, 9), (0, a1)], s) = some (9 < (w32 a1), (10, [(4, a0), (0, a1), (99, 0)], [], s), (16, [(4, a0), (0, a1), (99, 0)], [], s)) from rfl) H (fun H => ?_) (fun H => ?_)
    · refine AT.seq [(10, .aload_n 0, 1, (0, 0, 0)), (11, .iconst 5, 1, (0, 0, 0))] (by decide +kernel) (show jrun _ (10, [(4, a0), (0, a1), (99, 0)], [], s) = some ([], (12, [(4, a0), (0, a1), (99, 0)], [(0, 5), (4, a0)], s)) from rfl) ?_
      obtain ⟨v2, s2, h2, H⟩ := jb_some H
      refine AT.callV (As := [(0, 5)]) (cl := 0) (b := a0) (st := []) (i := 123) (pos := 3066) kJc_refuse (by decide +kernel) rfl (by decide +kernel) rfl rfl (by omega) (Jc_refuse_ok h2) ?_
      show AT sJc_warm 1 (15, [(4, a0), (0, a1), (99, 0)], [(0, v2)], s2) o
      exact AT.retiH (by decide +kernel) H
    · refine AT.blk (g := jok 3 (s a0 5) = true ∧ jok 3 (s a0 5) = true) [(16, .aload_n 0, 1, (0, 0, 0)), (17, .getfield 19, 3, (2205, 5, 0)), (20, .getfield 195, 3, (1175, 300, 0)), (23, .istore_n 2, 1, (0, 0, 0)), (24, .aload_n 0, 1, (0, 0, 0)), (25, .getfield 19, 3, (2205, 5, 0)), (28, .iload_n 1, 1, (0, 0, 0))] (by decide +kernel) (show jrun _ (16, [(4, a0), (0, a1), (99, 0)], [], s) = some ([jok 3 (s a0 5) = true, jok 3 (s a0 5) = true], (29, [(4, a0), (0, a1), (0, (s (s a0 5) 0))], [(0, a1), (7, (s a0 5))], s)) from rfl) (fun h => ⟨h.1, h.2⟩) H (fun H => ?_)
      obtain ⟨v3, s3, h3, H⟩ := jb_some H
      refine AT.callV (As := [(0, a1)]) (cl := 3) (b := (s a0 5)) (st := []) (i := 291) (pos := 4147) kSe_heatTo (by decide +kernel) rfl (by decide +kernel) rfl rfl (by omega) (Se_heatTo_ok h3) ?_
      show AT sJc_warm 1 (32, [(4, a0), (0, a1), (0, (s (s a0 5) 0))], [(0, v3)], s3) o
      refine AT.ite (x := (0, 0, 0)) (by decide +kernel) (show jbr (.ifCond .eq 11) (32, [(4, a0), (0, a1), (0, (s (s a0 5) 0))], [(0, v3)], s3) = some ((w32 v3) = 0, (43, [(4, a0), (0, a1), (0, (s (s a0 5) 0))], [], s3), (35, [(4, a0), (0, a1), (0, (s (s a0 5) 0))], [], s3)) from rfl) H (fun H => ?_) (fun H => ?_)
      · refine AT.seq [(43, .aload_n 0, 1, (0, 0, 0)), (44, .bipush 9, 2, (0, 0, 0))] (by decide +kernel) (show jrun _ (43, [(4, a0), (0, a1), (0, (s (s a0 5) 0))], [], s3) = some ([], (46, [(4, a0), (0, a1), (0, (s (s a0 5) 0))], [(0, 9), (4, a0)], s3)) from rfl) ?_
        obtain ⟨v4, s4, h4, H⟩ := jb_some H
        refine AT.callV (As := [(0, 9)]) (cl := 0) (b := a0) (st := []) (i := 123) (pos := 3066) kJc_refuse (by decide +kernel) rfl (by decide +kernel) rfl rfl (by omega) (Jc_refuse_ok h4) ?_
        show AT sJc_warm 1 (49, [(4, a0), (0, a1), (0, (s (s a0 5) 0))], [(0, v4)], s4) o
        exact AT.retiH (by decide +kernel) H
      · refine AT.seq [(35, .aload_n 0, 1, (0, 0, 0)), (36, .iload_n 2, 1, (0, 0, 0))] (by decide +kernel) (show jrun _ (35, [(4, a0), (0, a1), (0, (s (s a0 5) 0))], [], s3) = some ([], (37, [(4, a0), (0, a1), (0, (s (s a0 5) 0))], [(0, (s (s a0 5) 0)), (4, a0)], s3)) from rfl) ?_
        obtain ⟨v5, s5, h5, H⟩ := jb_some H
        refine AT.callV (As := [(0, (s (s a0 5) 0))]) (cl := 0) (b := a0) (st := []) (i := 170) (pos := 3215) kJc_answer (by decide +kernel) rfl (by decide +kernel) rfl rfl (by omega) (Jc_answer_ok h5) ?_
        show AT sJc_warm 1 (40, [(4, a0), (0, a1), (0, (s (s a0 5) 0))], [(0, v5)], s5) o
        refine AT.seq [(40, .goto 9, 3, (0, 0, 0))] (by decide +kernel) (show jrun _ (40, [(4, a0), (0, a1), (0, (s (s a0 5) 0))], [(0, v5)], s5) = some ([], (49, [(4, a0), (0, a1), (0, (s (s a0 5) 0))], [(0, v5)], s5)) from rfl) ?_
        exact AT.retiH (by decide +kernel) H
def sJc_buy : jS := (⟨"JellyCathedral", "buy", "(II)I"⟩, prog_1_method_25_code, 3, 1, [4, 0, 0], 0)
theorem kJc_buy : jmk sJc_buy = true := jmk_of 4154 1001 4152 4153 (by decide +kernel)
set_option maxRecDepth 100000 in
theorem Jc_buy_ok {a0 a1 a2 : Int} {s : jM} {o : Int × jM} (H : Jc_buy a0 a1 a2 s = some o) : MK sJc_buy 1 [(4, a0), (0, a1), (0, a2)] s o := by
  refine MK.of kJc_buy rfl ?_
  show AT sJc_buy 1 (0, [(4, a0), (0, a1), (0, a2)], [], s) o
  unfold Jc_buy at H
  refine AT.blk (g := jok 3 (s a0 5) = true) [(0, .aload_n 0, 1, (0, 0, 0)), (1, .getfield 19, 3, (2205, 5, 0)), (4, .iload_n 1, 1, (0, 0, 0))] (by decide +kernel) (show jrun _ (0, [(4, a0), (0, a1), (0, a2)], [], s) = some ([jok 3 (s a0 5) = true], (5, [(4, a0), (0, a1), (0, a2)], [(0, a1), (7, (s a0 5))], s)) from rfl) (fun h => h) H (fun H => ?_)
  obtain ⟨v1, s1, h1, H⟩ := jb_some H
  refine AT.callV (As := [(0, a1)]) (cl := 3) (b := (s a0 5)) (st := []) (i := 214) (pos := 4042) kSe_isStuff (by decide +kernel) rfl (by decide +kernel) rfl rfl (by omega) (Se_isStuff_ok h1) ?_
  show AT sJc_buy 1 (8, [(4, a0), (0, a1), (0, a2)], [(0, v1)], s1) o
  refine AT.ite (x := (0, 0, 0)) (by decide +kernel) (show jbr (.ifCond .ne 9) (8, [(4, a0), (0, a1), (0, a2)], [(0, v1)], s1) = some ((w32 v1) = 0, (11, [(4, a0), (0, a1), (0, a2)], [], s1), (17, [(4, a0), (0, a1), (0, a2)], [], s1)) from rfl) H (fun H => ?_) (fun H => ?_)
  · refine AT.seq [(11, .aload_n 0, 1, (0, 0, 0)), (12, .iconst 2, 1, (0, 0, 0))] (by decide +kernel) (show jrun _ (11, [(4, a0), (0, a1), (0, a2)], [], s1) = some ([], (13, [(4, a0), (0, a1), (0, a2)], [(0, 2), (4, a0)], s1)) from rfl) ?_
    obtain ⟨v2, s2, h2, H⟩ := jb_some H
    refine AT.callV (As := [(0, 2)]) (cl := 0) (b := a0) (st := []) (i := 123) (pos := 3066) kJc_refuse (by decide +kernel) rfl (by decide +kernel) rfl rfl (by omega) (Jc_refuse_ok h2) ?_
    show AT sJc_buy 1 (16, [(4, a0), (0, a1), (0, a2)], [(0, v2)], s2) o
    exact AT.retiH (by decide +kernel) H
  · refine AT.seq [(17, .iload_n 2, 1, (0, 0, 0)), (18, .iconst 1, 1, (0, 0, 0))] (by decide +kernel) (show jrun _ (17, [(4, a0), (0, a1), (0, a2)], [], s1) = some ([], (19, [(4, a0), (0, a1), (0, a2)], [(0, 1), (0, a2)], s1)) from rfl) ?_
    refine AT.ite (x := (0, 0, 0)) (by decide +kernel) (show jbr (.if_icmp .lt 9) (19, [(4, a0), (0, a1), (0, a2)], [(0, 1), (0, a2)], s1) = some ((w32 a2) < 1, (28, [(4, a0), (0, a1), (0, a2)], [], s1), (22, [(4, a0), (0, a1), (0, a2)], [], s1)) from rfl) H (fun H => ?_) (fun H => ?_)
    · refine AT.seq [(28, .aload_n 0, 1, (0, 0, 0)), (29, .iconst 5, 1, (0, 0, 0))] (by decide +kernel) (show jrun _ (28, [(4, a0), (0, a1), (0, a2)], [], s1) = some ([], (30, [(4, a0), (0, a1), (0, a2)], [(0, 5), (4, a0)], s1)) from rfl) ?_
      obtain ⟨v3, s3, h3, H⟩ := jb_some H
      refine AT.callV (As := [(0, 5)]) (cl := 0) (b := a0) (st := []) (i := 123) (pos := 3066) kJc_refuse (by decide +kernel) rfl (by decide +kernel) rfl rfl (by omega) (Jc_refuse_ok h3) ?_
      show AT sJc_buy 1 (33, [(4, a0), (0, a1), (0, a2)], [(0, v3)], s3) o
      exact AT.retiH (by decide +kernel) H
    · refine AT.seq [(22, .iload_n 2, 1, (0, 0, 0)), (23, .bipush 99, 2, (0, 0, 0))] (by decide +kernel) (show jrun _ (22, [(4, a0), (0, a1), (0, a2)], [], s1) = some ([], (25, [(4, a0), (0, a1), (0, a2)], [(0, 99), (0, a2)], s1)) from rfl) ?_
      refine AT.ite (x := (0, 0, 0)) (by decide +kernel) (show jbr (.if_icmp .le 9) (25, [(4, a0), (0, a1), (0, a2)], [(0, 99), (0, a2)], s1) = some (99 < (w32 a2), (28, [(4, a0), (0, a1), (0, a2)], [], s1), (34, [(4, a0), (0, a1), (0, a2)], [], s1)) from rfl) H (fun H => ?_) (fun H => ?_)
      · refine AT.seq [(28, .aload_n 0, 1, (0, 0, 0)), (29, .iconst 5, 1, (0, 0, 0))] (by decide +kernel) (show jrun _ (28, [(4, a0), (0, a1), (0, a2)], [], s1) = some ([], (30, [(4, a0), (0, a1), (0, a2)], [(0, 5), (4, a0)], s1)) from rfl) ?_
        obtain ⟨v4, s4, h4, H⟩ := jb_some H
        refine AT.callV (As := [(0, 5)]) (cl := 0) (b := a0) (st := []) (i := 123) (pos := 3066) kJc_refuse (by decide +kernel) rfl (by decide +kernel) rfl rfl (by omega) (Jc_refuse_ok h4) ?_
        show AT sJc_buy 1 (33, [(4, a0), (0, a1), (0, a2)], [(0, v4)], s4) o
        exact AT.retiH (by decide +kernel) H
      · refine AT.blk (g := jok 3 (s1 a0 5) = true ∧ (0 ≤ (w32 a1) ∧ (w32 a1) < 5)) [(34, .aload_n 0, 1, (0, 0, 0)), (35, .getfield 19, 3, (2205, 5, 0)), (38, .getfield 223, 3, (1212, 311, 0)), (41, .iload_n 1, 1, (0, 0, 0)), (42, .iaload, 1, (0, 0, 0)), (43, .iload_n 2, 1, (0, 0, 0)), (44, .iadd, 1, (0, 0, 0)), (45, .sipush 999, 3, (0, 0, 0))] (by decide +kernel) (show jrun _ (34, [(4, a0), (0, a1), (0, a2)], [], s1) = some ([jok 3 (s1 a0 5) = true, (0 ≤ (w32 a1) ∧ (w32 a1) < 5)], (48, [(4, a0), (0, a1), (0, a2)], [(0, 999), (0, ((s1 ((s1 a0 5) + 3) (w32 a1)) + a2))], s1)) from rfl) (fun h => ⟨h.1, h.2⟩) H (fun H => ?_)
        refine AT.ite (x := (0, 0, 0)) (by decide +kernel) (show jbr (.if_icmp .le 10) (48, [(4, a0), (0, a1), (0, a2)], [(0, 999), (0, ((s1 ((s1 a0 5) + 3) (w32 a1)) + a2))], s1) = some (999 < (w32 ((s1 ((s1 a0 5) + 3) (w32 a1)) + a2)), (51, [(4, a0), (0, a1), (0, a2)], [], s1), (58, [(4, a0), (0, a1), (0, a2)], [], s1)) from rfl) H (fun H => ?_) (fun H => ?_)
        · refine AT.seq [(51, .aload_n 0, 1, (0, 0, 0)), (52, .bipush 7, 2, (0, 0, 0))] (by decide +kernel) (show jrun _ (51, [(4, a0), (0, a1), (0, a2)], [], s1) = some ([], (54, [(4, a0), (0, a1), (0, a2)], [(0, 7), (4, a0)], s1)) from rfl) ?_
          obtain ⟨v5, s5, h5, H⟩ := jb_some H
          refine AT.callV (As := [(0, 7)]) (cl := 0) (b := a0) (st := []) (i := 123) (pos := 3066) kJc_refuse (by decide +kernel) rfl (by decide +kernel) rfl rfl (by omega) (Jc_refuse_ok h5) ?_
          show AT sJc_buy 1 (57, [(4, a0), (0, a1), (0, a2)], [(0, v5)], s5) o
          exact AT.retiH (by decide +kernel) H
        · refine AT.blk (g := jok 3 (s1 a0 5) = true ∧ (0 ≤ (w32 a1) ∧ (w32 a1) < 5) ∧ (0 ≤ (w32 a1) ∧ (w32 a1) < 5) ∧ jok 3 ((jup s1 ((s1 a0 5) + 3) (w32 a1) ((s1 ((s1 a0 5) + 3) (w32 a1)) + a2)) a0 5) = true ∧ (0 ≤ (w32 a1) ∧ (w32 a1) < 5)) [(58, .aload_n 0, 1, (0, 0, 0)), (59, .getfield 19, 3, (2205, 5, 0)), (62, .getfield 223, 3, (1212, 311, 0)), (65, .iload_n 1, 1, (0, 0, 0)), (66, .dup2, 1, (0, 0, 0)), (67, .iaload, 1, (0, 0, 0)), (68, .iload_n 2, 1, (0, 0, 0)), (69, .iadd, 1, (0, 0, 0)), (70, .iastore, 1, (0, 0, 0)), (71, .aload_n 0, 1, (0, 0, 0)), (72, .aload_n 0, 1, (0, 0, 0)), (73, .getfield 19, 3, (2205, 5, 0)), (76, .getfield 223, 3, (1212, 311, 0)), (79, .iload_n 1, 1, (0, 0, 0)), (80, .iaload, 1, (0, 0, 0))] (by decide +kernel) (show jrun _ (58, [(4, a0), (0, a1), (0, a2)], [], s1) = some ([jok 3 (s1 a0 5) = true, (0 ≤ (w32 a1) ∧ (w32 a1) < 5), (0 ≤ (w32 a1) ∧ (w32 a1) < 5), jok 3 ((jup s1 ((s1 a0 5) + 3) (w32 a1) ((s1 ((s1 a0 5) + 3) (w32 a1)) + a2)) a0 5) = true, (0 ≤ (w32 a1) ∧ (w32 a1) < 5)], (81, [(4, a0), (0, a1), (0, a2)], [(0, ((jup s1 ((s1 a0 5) + 3) (w32 a1) ((s1 ((s1 a0 5) + 3) (w32 a1)) + a2)) (((jup s1 ((s1 a0 5) + 3) (w32 a1) ((s1 ((s1 a0 5) + 3) (w32 a1)) + a2)) a0 5) + 3) (w32 a1))), (4, a0)], (jup s1 ((s1 a0 5) + 3) (w32 a1) ((s1 ((s1 a0 5) + 3) (w32 a1)) + a2)))) from rfl) (fun h => ⟨h.1, h.2.1, h.2.2.1, h.2.2.2.1, h.2.2.2.2⟩) H (fun H => ?_)
          obtain ⟨v6, s6, h6, H⟩ := jb_some H
          refine AT.callV (As := [(0, ((jup s1 ((s1 a0 5) + 3) (w32 a1) ((s1 ((s1 a0 5) + 3) (w32 a1)) + a2)) (((jup s1 ((s1 a0 5) + 3) (w32 a1) ((s1 ((s1 a0 5) + 3) (w32 a1)) + a2)) a0 5) + 3) (w32 a1)))]) (cl := 0) (b := a0) (st := []) (i := 170) (pos := 3215) kJc_answer (by decide +kernel) rfl (by decide +kernel) rfl rfl (by omega) (Jc_answer_ok h6) ?_
          show AT sJc_buy 1 (84, [(4, a0), (0, a1), (0, a2)], [(0, v6)], s6) o
          exact AT.retiH (by decide +kernel) H
def sJc_rule : jS := (⟨"JellyCathedral", "rule", "(I)Z"⟩, prog_1_method_26_code, 2, 3, [4, 0], 0)
theorem kJc_rule : jmk sJc_rule = true := jmk_of 4158 1001 4156 4157 (by decide +kernel)
set_option maxRecDepth 100000 in
theorem Jc_rule_ok {a0 a1 : Int} {s : jM} {o : Int × jM} (H : Jc_rule a0 a1 s = some o) : MK sJc_rule 1 [(4, a0), (0, a1)] s o := by
  refine MK.of kJc_rule rfl ?_
  show AT sJc_rule 1 (0, [(4, a0), (0, a1)], [], s) o
  unfold Jc_rule at H
  refine AT.seq [(0, .iload_n 1, 1, (0, 0, 0))] (by decide +kernel) (show jrun _ (0, [(4, a0), (0, a1)], [], s) = some ([], (1, [(4, a0), (0, a1)], [(0, a1)], s)) from rfl) ?_
  refine AT.ite (x := (0, 0, 0)) (by decide +kernel) (show jbr (.ifCond .lt 9) (1, [(4, a0), (0, a1)], [(0, a1)], s) = some ((w32 a1) < 0, (10, [(4, a0), (0, a1)], [], s), (4, [(4, a0), (0, a1)], [], s)) from rfl) H (fun H => ?_) (fun H => ?_)
  · refine AT.seq [(10, .aload_n 0, 1, (0, 0, 0)), (11, .iconst 5, 1, (0, 0, 0))] (by decide +kernel) (show jrun _ (10, [(4, a0), (0, a1)], [], s) = some ([], (12, [(4, a0), (0, a1)], [(0, 5), (4, a0)], s)) from rfl) ?_
    obtain ⟨v1, s1, h1, H⟩ := jb_some H
    refine AT.callV (As := [(0, 5)]) (cl := 0) (b := a0) (st := []) (i := 104) (pos := 3034) kJc_deny (by decide +kernel) rfl (by decide +kernel) rfl rfl (by omega) (Jc_deny_ok h1) ?_
    show AT sJc_rule 1 (15, [(4, a0), (0, a1)], [(0, v1)], s1) o
    exact AT.retzH (by decide +kernel) H
  · refine AT.seq [(4, .iload_n 1, 1, (0, 0, 0)), (5, .bipush 16, 2, (0, 0, 0))] (by decide +kernel) (show jrun _ (4, [(4, a0), (0, a1)], [], s) = some ([], (7, [(4, a0), (0, a1)], [(0, 16), (0, a1)], s)) from rfl) ?_
    refine AT.ite (x := (0, 0, 0)) (by decide +kernel) (show jbr (.if_icmp .le 9) (7, [(4, a0), (0, a1)], [(0, 16), (0, a1)], s) = some (16 < (w32 a1), (10, [(4, a0), (0, a1)], [], s), (16, [(4, a0), (0, a1)], [], s)) from rfl) H (fun H => ?_) (fun H => ?_)
    · refine AT.seq [(10, .aload_n 0, 1, (0, 0, 0)), (11, .iconst 5, 1, (0, 0, 0))] (by decide +kernel) (show jrun _ (10, [(4, a0), (0, a1)], [], s) = some ([], (12, [(4, a0), (0, a1)], [(0, 5), (4, a0)], s)) from rfl) ?_
      obtain ⟨v2, s2, h2, H⟩ := jb_some H
      refine AT.callV (As := [(0, 5)]) (cl := 0) (b := a0) (st := []) (i := 104) (pos := 3034) kJc_deny (by decide +kernel) rfl (by decide +kernel) rfl rfl (by omega) (Jc_deny_ok h2) ?_
      show AT sJc_rule 1 (15, [(4, a0), (0, a1)], [(0, v2)], s2) o
      exact AT.retzH (by decide +kernel) H
    · refine AT.blk (g := jok 3 (s a0 5) = true) [(16, .aload_n 0, 1, (0, 0, 0)), (17, .getfield 19, 3, (2205, 5, 0)), (20, .iload_n 1, 1, (0, 0, 0)), (21, .putfield 198, 3, (1179, 301, 0)), (24, .aload_n 0, 1, (0, 0, 0))] (by decide +kernel) (show jrun _ (16, [(4, a0), (0, a1)], [], s) = some ([jok 3 (s a0 5) = true], (25, [(4, a0), (0, a1)], [(4, a0)], (jup s (s a0 5) 1 a1))) from rfl) (fun h => h) H (fun H => ?_)
      obtain ⟨v3, s3, h3, H⟩ := jb_some H
      refine AT.callV (As := []) (cl := 0) (b := a0) (st := []) (i := 111) (pos := 3042) kJc_grant (by decide +kernel) rfl (by decide +kernel) rfl rfl (by omega) (Jc_grant_ok h3) ?_
      show AT sJc_rule 1 (28, [(4, a0), (0, a1)], [(0, v3)], s3) o
      exact AT.retzH (by decide +kernel) H
def sJc_firmIn : jS := (⟨"JellyCathedral", "firmIn", "(II)I"⟩, prog_1_method_27_code, 3, 1, [4, 0, 0], 0)
theorem kJc_firmIn : jmk sJc_firmIn = true := jmk_of 4162 1001 4160 4161 (by decide +kernel)
set_option maxRecDepth 100000 in
theorem Jc_firmIn_ok {a0 a1 a2 : Int} {s : jM} {o : Int × jM} (H : Jc_firmIn a0 a1 a2 s = some o) : MK sJc_firmIn 1 [(4, a0), (0, a1), (0, a2)] s o := by
  refine MK.of kJc_firmIn rfl ?_
  show AT sJc_firmIn 1 (0, [(4, a0), (0, a1), (0, a2)], [], s) o
  unfold Jc_firmIn at H
  refine AT.blk (g := jok 3 (s a0 5) = true) [(0, .aload_n 0, 1, (0, 0, 0)), (1, .getfield 19, 3, (2205, 5, 0)), (4, .iload_n 1, 1, (0, 0, 0))] (by decide +kernel) (show jrun _ (0, [(4, a0), (0, a1), (0, a2)], [], s) = some ([jok 3 (s a0 5) = true], (5, [(4, a0), (0, a1), (0, a2)], [(0, a1), (7, (s a0 5))], s)) from rfl) (fun h => h) H (fun H => ?_)
  obtain ⟨v1, s1, h1, H⟩ := jb_some H
  refine AT.callV (As := [(0, a1)]) (cl := 3) (b := (s a0 5)) (st := []) (i := 226) (pos := 4050) kSe_isMould (by decide +kernel) rfl (by decide +kernel) rfl rfl (by omega) (Se_isMould_ok h1) ?_
  show AT sJc_firmIn 1 (8, [(4, a0), (0, a1), (0, a2)], [(0, v1)], s1) o
  refine AT.ite (x := (0, 0, 0)) (by decide +kernel) (show jbr (.ifCond .ne 9) (8, [(4, a0), (0, a1), (0, a2)], [(0, v1)], s1) = some ((w32 v1) = 0, (11, [(4, a0), (0, a1), (0, a2)], [], s1), (17, [(4, a0), (0, a1), (0, a2)], [], s1)) from rfl) H (fun H => ?_) (fun H => ?_)
  · refine AT.seq [(11, .aload_n 0, 1, (0, 0, 0)), (12, .iconst 2, 1, (0, 0, 0))] (by decide +kernel) (show jrun _ (11, [(4, a0), (0, a1), (0, a2)], [], s1) = some ([], (13, [(4, a0), (0, a1), (0, a2)], [(0, 2), (4, a0)], s1)) from rfl) ?_
    obtain ⟨v2, s2, h2, H⟩ := jb_some H
    refine AT.callV (As := [(0, 2)]) (cl := 0) (b := a0) (st := []) (i := 123) (pos := 3066) kJc_refuse (by decide +kernel) rfl (by decide +kernel) rfl rfl (by omega) (Jc_refuse_ok h2) ?_
    show AT sJc_firmIn 1 (16, [(4, a0), (0, a1), (0, a2)], [(0, v2)], s2) o
    exact AT.retiH (by decide +kernel) H
  · refine AT.seq [(17, .iload_n 2, 1, (0, 0, 0))] (by decide +kernel) (show jrun _ (17, [(4, a0), (0, a1), (0, a2)], [], s1) = some ([], (18, [(4, a0), (0, a1), (0, a2)], [(0, a2)], s1)) from rfl) ?_
    refine AT.ite (x := (0, 0, 0)) (by decide +kernel) (show jbr (.ifCond .lt 10) (18, [(4, a0), (0, a1), (0, a2)], [(0, a2)], s1) = some ((w32 a2) < 0, (28, [(4, a0), (0, a1), (0, a2)], [], s1), (21, [(4, a0), (0, a1), (0, a2)], [], s1)) from rfl) H (fun H => ?_) (fun H => ?_)
    · refine AT.seq [(28, .aload_n 0, 1, (0, 0, 0)), (29, .iconst 5, 1, (0, 0, 0))] (by decide +kernel) (show jrun _ (28, [(4, a0), (0, a1), (0, a2)], [], s1) = some ([], (30, [(4, a0), (0, a1), (0, a2)], [(0, 5), (4, a0)], s1)) from rfl) ?_
      obtain ⟨v3, s3, h3, H⟩ := jb_some H
      refine AT.callV (As := [(0, 5)]) (cl := 0) (b := a0) (st := []) (i := 123) (pos := 3066) kJc_refuse (by decide +kernel) rfl (by decide +kernel) rfl rfl (by omega) (Jc_refuse_ok h3) ?_
      show AT sJc_firmIn 1 (33, [(4, a0), (0, a1), (0, a2)], [(0, v3)], s3) o
      exact AT.retiH (by decide +kernel) H
    · refine AT.seq [(21, .iload_n 2, 1, (0, 0, 0)), (22, .sipush 300, 3, (0, 0, 0))] (by decide +kernel) (show jrun _ (21, [(4, a0), (0, a1), (0, a2)], [], s1) = some ([], (25, [(4, a0), (0, a1), (0, a2)], [(0, 300), (0, a2)], s1)) from rfl) ?_
      refine AT.ite (x := (0, 0, 0)) (by decide +kernel) (show jbr (.if_icmp .le 9) (25, [(4, a0), (0, a1), (0, a2)], [(0, 300), (0, a2)], s1) = some (300 < (w32 a2), (28, [(4, a0), (0, a1), (0, a2)], [], s1), (34, [(4, a0), (0, a1), (0, a2)], [], s1)) from rfl) H (fun H => ?_) (fun H => ?_)
      · refine AT.seq [(28, .aload_n 0, 1, (0, 0, 0)), (29, .iconst 5, 1, (0, 0, 0))] (by decide +kernel) (show jrun _ (28, [(4, a0), (0, a1), (0, a2)], [], s1) = some ([], (30, [(4, a0), (0, a1), (0, a2)], [(0, 5), (4, a0)], s1)) from rfl) ?_
        obtain ⟨v4, s4, h4, H⟩ := jb_some H
        refine AT.callV (As := [(0, 5)]) (cl := 0) (b := a0) (st := []) (i := 123) (pos := 3066) kJc_refuse (by decide +kernel) rfl (by decide +kernel) rfl rfl (by omega) (Jc_refuse_ok h4) ?_
        show AT sJc_firmIn 1 (33, [(4, a0), (0, a1), (0, a2)], [(0, v4)], s4) o
        exact AT.retiH (by decide +kernel) H
      · refine AT.blk (g := jok 3 (s1 a0 5) = true ∧ (0 ≤ (w32 a1) ∧ (w32 a1) < 5) ∧ jok 3 (s1 a0 5) = true) [(34, .aload_n 0, 1, (0, 0, 0)), (35, .aload_n 0, 1, (0, 0, 0)), (36, .getfield 19, 3, (2205, 5, 0)), (39, .getfield 229, 3, (1217, 312, 0)), (42, .iload_n 1, 1, (0, 0, 0)), (43, .aaload, 1, (0, 0, 0)), (44, .aload_n 0, 1, (0, 0, 0)), (45, .getfield 19, 3, (2205, 5, 0)), (48, .getfield 195, 3, (1175, 300, 0)), (51, .iload_n 2, 1, (0, 0, 0))] (by decide +kernel) (show jrun _ (34, [(4, a0), (0, a1), (0, a2)], [], s1) = some ([jok 3 (s1 a0 5) = true, (0 ≤ (w32 a1) ∧ (w32 a1) < 5), jok 3 (s1 a0 5) = true], (52, [(4, a0), (0, a1), (0, a2)], [(0, a2), (0, (s1 (s1 a0 5) 0)), (6, (((s1 a0 5) + 4) + 11 + 2 * (w32 a1))), (4, a0)], s1)) from rfl) (fun h => ⟨h.1, h.2.1, h.2.2⟩) H (fun H => ?_)
        obtain ⟨v5, s5, h5, H⟩ := jb_some H
        refine AT.callV (As := [(0, (s1 (s1 a0 5) 0)), (0, a2)]) (cl := 2) (b := (((s1 a0 5) + 4) + 11 + 2 * (w32 a1))) (st := [(4, a0)]) (i := 294) (pos := 4163) kMo_firmAfter (by decide +kernel) rfl (by decide +kernel) rfl rfl (by omega) (Mo_firmAfter_ok h5) ?_
        show AT sJc_firmIn 1 (55, [(4, a0), (0, a1), (0, a2)], [(0, v5), (4, a0)], s5) o
        obtain ⟨v6, s6, h6, H⟩ := jb_some H
        refine AT.callV (As := [(0, v5)]) (cl := 0) (b := a0) (st := []) (i := 170) (pos := 3215) kJc_answer (by decide +kernel) rfl (by decide +kernel) rfl rfl (by omega) (Jc_answer_ok h6) ?_
        show AT sJc_firmIn 1 (58, [(4, a0), (0, a1), (0, a2)], [(0, v6)], s6) o
        exact AT.retiH (by decide +kernel) H
def sJc_lasts : jS := (⟨"JellyCathedral", "lasts", "(I)I"⟩, prog_1_method_28_code, 4, 1, [4, 0], 0)
theorem kJc_lasts : jmk sJc_lasts = true := jmk_of 4167 1001 4165 4166 (by decide +kernel)
set_option maxRecDepth 100000 in
theorem Jc_lasts_49_ok {o : Int × jM} {x0 x2 : Int} {s : jM} (H : Jc_lasts_49  x0 x2 s = some o) : AT sJc_lasts 1 (49, [(4, x0), (99, 0), (6, x2), (99, 0)], [], s) o := by
  unfold Jc_lasts_49 at H
  refine AT.blk (g := jok 3 (s x0 5) = true) [(49, .aload_n 2, 1, (0, 0, 0)), (50, .getfield 247, 3, (1130, 204, 0)), (53, .aload_n 2, 1, (0, 0, 0)), (54, .getfield 233, 3, (1111, 200, 0)), (57, .aload_n 0, 1, (0, 0, 0)), (58, .getfield 19, 3, (2205, 5, 0)), (61, .getfield 195, 3, (1175, 300, 0))] (by decide +kernel) (show jrun _ (49, [(4, x0), (99, 0), (6, x2), (99, 0)], [], s) = some ([jok 3 (s x0 5) = true], (64, [(4, x0), (99, 0), (6, x2), (99, 0)], [(0, (s (s x0 5) 0)), (0, (s x2 0)), (0, (s x2 4))], s)) from rfl) (fun h => h) H (fun H => ?_)
  obtain ⟨v1, s1, h1, H⟩ := jb_some H
  refine AT.callS (As := [(0, (s x2 4)), (0, (s x2 0)), (0, (s (s x0 5) 0))]) (st := []) (i := 300) (pos := 4169) kJc_lasting (by decide +kernel) rfl rfl rfl (by omega) (Jc_lasting_ok h1) ?_
  show AT sJc_lasts 1 (67, [(4, x0), (99, 0), (6, x2), (99, 0)], [(0, v1)], s1) o
  refine AT.seq [(67, .istore_n 3, 1, (0, 0, 0)), (68, .iload_n 3, 1, (0, 0, 0)), (69, .ldc_w 304, 3, (4172, 0, 1000000))] (by decide +kernel) (show jrun _ (67, [(4, x0), (99, 0), (6, x2), (99, 0)], [(0, v1)], s1) = some ([], (72, [(4, x0), (99, 0), (6, x2), (0, v1)], [(0, 1000000), (0, v1)], s1)) from rfl) ?_
  refine AT.ite (x := (0, 0, 0)) (by decide +kernel) (show jbr (.if_icmp .ne 12) (72, [(4, x0), (99, 0), (6, x2), (0, v1)], [(0, 1000000), (0, v1)], s1) = some ((w32 v1) = 1000000, (75, [(4, x0), (99, 0), (6, x2), (0, v1)], [], s1), (84, [(4, x0), (99, 0), (6, x2), (0, v1)], [], s1)) from rfl) H (fun H => ?_) (fun H => ?_)
  · refine AT.seq [(75, .aload_n 0, 1, (0, 0, 0)), (76, .bipush 8, 2, (0, 0, 0))] (by decide +kernel) (show jrun _ (75, [(4, x0), (99, 0), (6, x2), (0, v1)], [], s1) = some ([], (78, [(4, x0), (99, 0), (6, x2), (0, v1)], [(0, 8), (4, x0)], s1)) from rfl) ?_
    obtain ⟨v2, s2, h2, H⟩ := jb_some H
    refine AT.callV (As := [(0, 8)]) (cl := 0) (b := x0) (st := []) (i := 123) (pos := 3066) kJc_refuse (by decide +kernel) rfl (by decide +kernel) rfl rfl (by omega) (Jc_refuse_ok h2) ?_
    show AT sJc_lasts 1 (81, [(4, x0), (99, 0), (6, x2), (0, v1)], [(0, v2)], s2) o
    refine AT.seq [(81, .goto 8, 3, (0, 0, 0))] (by decide +kernel) (show jrun _ (81, [(4, x0), (99, 0), (6, x2), (0, v1)], [(0, v2)], s2) = some ([], (89, [(4, x0), (99, 0), (6, x2), (0, v1)], [(0, v2)], s2)) from rfl) ?_
    exact AT.retiH (by decide +kernel) H
  · refine AT.seq [(84, .aload_n 0, 1, (0, 0, 0)), (85, .iload_n 3, 1, (0, 0, 0))] (by decide +kernel) (show jrun _ (84, [(4, x0), (99, 0), (6, x2), (0, v1)], [], s1) = some ([], (86, [(4, x0), (99, 0), (6, x2), (0, v1)], [(0, v1), (4, x0)], s1)) from rfl) ?_
    obtain ⟨v3, s3, h3, H⟩ := jb_some H
    refine AT.callV (As := [(0, v1)]) (cl := 0) (b := x0) (st := []) (i := 170) (pos := 3215) kJc_answer (by decide +kernel) rfl (by decide +kernel) rfl rfl (by omega) (Jc_answer_ok h3) ?_
    show AT sJc_lasts 1 (89, [(4, x0), (99, 0), (6, x2), (0, v1)], [(0, v3)], s3) o
    exact AT.retiH (by decide +kernel) H
set_option maxRecDepth 100000 in
theorem Jc_lasts_ok {a0 a1 : Int} {s : jM} {o : Int × jM} (H : Jc_lasts a0 a1 s = some o) : MK sJc_lasts 1 [(4, a0), (0, a1)] s o := by
  refine MK.of kJc_lasts rfl ?_
  show AT sJc_lasts 1 (0, [(4, a0), (0, a1), (99, 0), (99, 0)], [], s) o
  unfold Jc_lasts at H
  refine AT.blk (g := jok 3 (s a0 5) = true) [(0, .aload_n 0, 1, (0, 0, 0)), (1, .getfield 19, 3, (2205, 5, 0)), (4, .iload_n 1, 1, (0, 0, 0))] (by decide +kernel) (show jrun _ (0, [(4, a0), (0, a1), (99, 0), (99, 0)], [], s) = some ([jok 3 (s a0 5) = true], (5, [(4, a0), (0, a1), (99, 0), (99, 0)], [(0, a1), (7, (s a0 5))], s)) from rfl) (fun h => h) H (fun H => ?_)
  obtain ⟨v4, s4, h4, H⟩ := jb_some H
  refine AT.callV (As := [(0, a1)]) (cl := 3) (b := (s a0 5)) (st := []) (i := 226) (pos := 4050) kSe_isMould (by decide +kernel) rfl (by decide +kernel) rfl rfl (by omega) (Se_isMould_ok h4) ?_
  show AT sJc_lasts 1 (8, [(4, a0), (0, a1), (99, 0), (99, 0)], [(0, v4)], s4) o
  refine AT.ite (x := (0, 0, 0)) (by decide +kernel) (show jbr (.ifCond .ne 9) (8, [(4, a0), (0, a1), (99, 0), (99, 0)], [(0, v4)], s4) = some ((w32 v4) = 0, (11, [(4, a0), (0, a1), (99, 0), (99, 0)], [], s4), (17, [(4, a0), (0, a1), (99, 0), (99, 0)], [], s4)) from rfl) H (fun H => ?_) (fun H => ?_)
  · refine AT.seq [(11, .aload_n 0, 1, (0, 0, 0)), (12, .iconst 2, 1, (0, 0, 0))] (by decide +kernel) (show jrun _ (11, [(4, a0), (0, a1), (99, 0), (99, 0)], [], s4) = some ([], (13, [(4, a0), (0, a1), (99, 0), (99, 0)], [(0, 2), (4, a0)], s4)) from rfl) ?_
    obtain ⟨v5, s5, h5, H⟩ := jb_some H
    refine AT.callV (As := [(0, 2)]) (cl := 0) (b := a0) (st := []) (i := 123) (pos := 3066) kJc_refuse (by decide +kernel) rfl (by decide +kernel) rfl rfl (by omega) (Jc_refuse_ok h5) ?_
    show AT sJc_lasts 1 (16, [(4, a0), (0, a1), (99, 0), (99, 0)], [(0, v5)], s5) o
    exact AT.retiH (by decide +kernel) H
  · refine AT.blk (g := jok 3 (s4 a0 5) = true ∧ (0 ≤ (w32 a1) ∧ (w32 a1) < 5)) [(17, .aload_n 0, 1, (0, 0, 0)), (18, .getfield 19, 3, (2205, 5, 0)), (21, .getfield 229, 3, (1217, 312, 0)), (24, .iload_n 1, 1, (0, 0, 0)), (25, .aaload, 1, (0, 0, 0)), (26, .astore_n 2, 1, (0, 0, 0)), (27, .aload_n 2, 1, (0, 0, 0)), (28, .getfield 244, 3, (1126, 203, 0)), (31, .iconst 2, 1, (0, 0, 0))] (by decide +kernel) (show jrun _ (17, [(4, a0), (0, a1), (99, 0), (99, 0)], [], s4) = some ([jok 3 (s4 a0 5) = true, (0 ≤ (w32 a1) ∧ (w32 a1) < 5)], (32, [(4, a0), (0, a1), (6, (((s4 a0 5) + 4) + 11 + 2 * (w32 a1))), (99, 0)], [(0, 2), (0, (s4 (((s4 a0 5) + 4) + 11 + 2 * (w32 a1)) 3))], s4)) from rfl) (fun h => ⟨h.1, h.2⟩) H (fun H => ?_)
    refine AT.ite (x := (0, 0, 0)) (by decide +kernel) (show jbr (.if_icmp .eq 17) (32, [(4, a0), (0, a1), (6, (((s4 a0 5) + 4) + 11 + 2 * (w32 a1))), (99, 0)], [(0, 2), (0, (s4 (((s4 a0 5) + 4) + 11 + 2 * (w32 a1)) 3))], s4) = some ((w32 (s4 (((s4 a0 5) + 4) + 11 + 2 * (w32 a1)) 3)) = 2, (49, [(4, a0), (0, a1), (6, (((s4 a0 5) + 4) + 11 + 2 * (w32 a1))), (99, 0)], [], s4), (35, [(4, a0), (0, a1), (6, (((s4 a0 5) + 4) + 11 + 2 * (w32 a1))), (99, 0)], [], s4)) from rfl) H (fun H => ?_) (fun H => ?_)
    · exact AT.weak (L' := [(4, a0), (99, 0), (6, (((s4 a0 5) + 4) + 11 + 2 * (w32 a1))), (99, 0)]) (jleK (jleJ (jleK (jleK jle0)))) (Jc_lasts_49_ok  H)
    · refine AT.seq [(35, .aload_n 2, 1, (0, 0, 0))] (by decide +kernel) (show jrun _ (35, [(4, a0), (0, a1), (6, (((s4 a0 5) + 4) + 11 + 2 * (w32 a1))), (99, 0)], [], s4) = some ([], (36, [(4, a0), (0, a1), (6, (((s4 a0 5) + 4) + 11 + 2 * (w32 a1))), (99, 0)], [(6, (((s4 a0 5) + 4) + 11 + 2 * (w32 a1)))], s4)) from rfl) ?_
      obtain ⟨v6, s6, h6, H⟩ := jb_some H
      refine AT.callV (As := []) (cl := 2) (b := (((s4 a0 5) + 4) + 11 + 2 * (w32 a1))) (st := []) (i := 297) (pos := 4168) kMo_canBeTurnedOut (by decide +kernel) rfl (by decide +kernel) rfl rfl (by omega) (Mo_canBeTurnedOut_ok h6) ?_
      show AT sJc_lasts 1 (39, [(4, a0), (0, a1), (6, (((s4 a0 5) + 4) + 11 + 2 * (w32 a1))), (99, 0)], [(0, v6)], s6) o
      refine AT.ite (x := (0, 0, 0)) (by decide +kernel) (show jbr (.ifCond .ne 10) (39, [(4, a0), (0, a1), (6, (((s4 a0 5) + 4) + 11 + 2 * (w32 a1))), (99, 0)], [(0, v6)], s6) = some ((w32 v6) = 0, (42, [(4, a0), (0, a1), (6, (((s4 a0 5) + 4) + 11 + 2 * (w32 a1))), (99, 0)], [], s6), (49, [(4, a0), (0, a1), (6, (((s4 a0 5) + 4) + 11 + 2 * (w32 a1))), (99, 0)], [], s6)) from rfl) H (fun H => ?_) (fun H => ?_)
      · refine AT.seq [(42, .aload_n 0, 1, (0, 0, 0)), (43, .bipush 9, 2, (0, 0, 0))] (by decide +kernel) (show jrun _ (42, [(4, a0), (0, a1), (6, (((s4 a0 5) + 4) + 11 + 2 * (w32 a1))), (99, 0)], [], s6) = some ([], (45, [(4, a0), (0, a1), (6, (((s4 a0 5) + 4) + 11 + 2 * (w32 a1))), (99, 0)], [(0, 9), (4, a0)], s6)) from rfl) ?_
        obtain ⟨v7, s7, h7, H⟩ := jb_some H
        refine AT.callV (As := [(0, 9)]) (cl := 0) (b := a0) (st := []) (i := 123) (pos := 3066) kJc_refuse (by decide +kernel) rfl (by decide +kernel) rfl rfl (by omega) (Jc_refuse_ok h7) ?_
        show AT sJc_lasts 1 (48, [(4, a0), (0, a1), (6, (((s4 a0 5) + 4) + 11 + 2 * (w32 a1))), (99, 0)], [(0, v7)], s7) o
        exact AT.retiH (by decide +kernel) H
      · exact AT.weak (L' := [(4, a0), (99, 0), (6, (((s4 a0 5) + 4) + 11 + 2 * (w32 a1))), (99, 0)]) (jleK (jleJ (jleK (jleK jle0)))) (Jc_lasts_49_ok  H)
def sJc_waits : jS := (⟨"JellyCathedral", "waits", "(II)I"⟩, prog_1_method_29_code, 5, 1, [4, 0, 0], 0)
theorem kJc_waits : jmk sJc_waits = true := jmk_of 4176 1001 4174 4175 (by decide +kernel)
set_option maxRecDepth 100000 in
theorem Jc_waits_60_ok {o : Int × jM} : ∀ (n : Nat) (x0 x2 x3 x4 : Int) (s : jM), Jc_waits_60  n x0 x2 x3 x4 s = some o → AT sJc_waits 1 (60, [(4, x0), (99, 0), (0, x2), (6, x3), (0, x4)], [], s) o := by
  intro n
  induction n with
  | zero =>
    intro x0 x2 x3 x4 s H
    have H : (none : Option (Int × jM)) = some o := H
    cases H
  | succ n ih =>
    intro x0 x2 x3 x4 s H
    rw [Jc_waits_60] at H
    refine AT.seq [(60, .iload 4, 2, (0, 0, 0)), (62, .sipush 300, 3, (0, 0, 0))] (by decide +kernel) (show jrun _ (60, [(4, x0), (99, 0), (0, x2), (6, x3), (0, x4)], [], s) = some ([], (65, [(4, x0), (99, 0), (0, x2), (6, x3), (0, x4)], [(0, 300), (0, x4)], s)) from rfl) ?_
    refine AT.ite (x := (0, 0, 0)) (by decide +kernel) (show jbr (.if_icmp .gt 47) (65, [(4, x0), (99, 0), (0, x2), (6, x3), (0, x4)], [(0, 300), (0, x4)], s) = some (300 < (w32 x4), (112, [(4, x0), (99, 0), (0, x2), (6, x3), (0, x4)], [], s), (68, [(4, x0), (99, 0), (0, x2), (6, x3), (0, x4)], [], s)) from rfl) H (fun H => ?_) (fun H => ?_)
    · refine AT.seq [(112, .aload_n 0, 1, (0, 0, 0)), (113, .bipush 8, 2, (0, 0, 0))] (by decide +kernel) (show jrun _ (112, [(4, x0), (99, 0), (0, x2), (6, x3), (0, x4)], [], s) = some ([], (115, [(4, x0), (99, 0), (0, x2), (6, x3), (0, x4)], [(0, 8), (4, x0)], s)) from rfl) ?_
      obtain ⟨v1, s1, h1, H⟩ := jb_some H
      refine AT.callV (As := [(0, 8)]) (cl := 0) (b := x0) (st := []) (i := 123) (pos := 3066) kJc_refuse (by decide +kernel) rfl (by decide +kernel) rfl rfl (by omega) (Jc_refuse_ok h1) ?_
      show AT sJc_waits 1 (118, [(4, x0), (99, 0), (0, x2), (6, x3), (0, x4)], [(0, v1)], s1) o
      exact AT.retiH (by decide +kernel) H
    · refine AT.blk (g := jok 3 (s x0 5) = true) [(68, .aload_n 3, 1, (0, 0, 0)), (69, .aload_n 0, 1, (0, 0, 0)), (70, .getfield 19, 3, (2205, 5, 0)), (73, .getfield 195, 3, (1175, 300, 0)), (76, .iload 4, 2, (0, 0, 0))] (by decide +kernel) (show jrun _ (68, [(4, x0), (99, 0), (0, x2), (6, x3), (0, x4)], [], s) = some ([jok 3 (s x0 5) = true], (78, [(4, x0), (99, 0), (0, x2), (6, x3), (0, x4)], [(0, x4), (0, (s (s x0 5) 0)), (6, x3)], s)) from rfl) (fun h => h) H (fun H => ?_)
      obtain ⟨v2, s2, h2, H⟩ := jb_some H
      refine AT.callV (As := [(0, (s (s x0 5) 0)), (0, x4)]) (cl := 2) (b := x3) (st := []) (i := 294) (pos := 4163) kMo_firmAfter (by decide +kernel) rfl (by decide +kernel) rfl rfl (by omega) (Mo_firmAfter_ok h2) ?_
      show AT sJc_waits 1 (81, [(4, x0), (99, 0), (0, x2), (6, x3), (0, x4)], [(0, v2)], s2) o
      refine AT.blk (g := jok 3 (s2 x0 5) = true) [(81, .aload_n 3, 1, (0, 0, 0)), (82, .getfield 233, 3, (1111, 200, 0)), (85, .aload_n 0, 1, (0, 0, 0)), (86, .getfield 19, 3, (2205, 5, 0)), (89, .getfield 195, 3, (1175, 300, 0))] (by decide +kernel) (show jrun _ (81, [(4, x0), (99, 0), (0, x2), (6, x3), (0, x4)], [(0, v2)], s2) = some ([jok 3 (s2 x0 5) = true], (92, [(4, x0), (99, 0), (0, x2), (6, x3), (0, x4)], [(0, (s2 (s2 x0 5) 0)), (0, (s2 x3 0)), (0, v2)], s2)) from rfl) (fun h => h) H (fun H => ?_)
      obtain ⟨v3, s3, h3, H⟩ := jb_some H
      refine AT.callS (As := [(0, v2), (0, (s2 x3 0)), (0, (s2 (s2 x0 5) 0))]) (st := []) (i := 300) (pos := 4169) kJc_lasting (by decide +kernel) rfl rfl rfl (by omega) (Jc_lasting_ok h3) ?_
      show AT sJc_waits 1 (95, [(4, x0), (99, 0), (0, x2), (6, x3), (0, x4)], [(0, v3)], s3) o
      refine AT.seq [(95, .iload_n 2, 1, (0, 0, 0))] (by decide +kernel) (show jrun _ (95, [(4, x0), (99, 0), (0, x2), (6, x3), (0, x4)], [(0, v3)], s3) = some ([], (96, [(4, x0), (99, 0), (0, x2), (6, x3), (0, x4)], [(0, x2), (0, v3)], s3)) from rfl) ?_
      refine AT.ite (x := (0, 0, 0)) (by decide +kernel) (show jbr (.if_icmp .le 10) (96, [(4, x0), (99, 0), (0, x2), (6, x3), (0, x4)], [(0, x2), (0, v3)], s3) = some ((w32 x2) < (w32 v3), (99, [(4, x0), (99, 0), (0, x2), (6, x3), (0, x4)], [], s3), (106, [(4, x0), (99, 0), (0, x2), (6, x3), (0, x4)], [], s3)) from rfl) H (fun H => ?_) (fun H => ?_)
      · refine AT.seq [(99, .aload_n 0, 1, (0, 0, 0)), (100, .iload 4, 2, (0, 0, 0))] (by decide +kernel) (show jrun _ (99, [(4, x0), (99, 0), (0, x2), (6, x3), (0, x4)], [], s3) = some ([], (102, [(4, x0), (99, 0), (0, x2), (6, x3), (0, x4)], [(0, x4), (4, x0)], s3)) from rfl) ?_
        obtain ⟨v4, s4, h4, H⟩ := jb_some H
        refine AT.callV (As := [(0, x4)]) (cl := 0) (b := x0) (st := []) (i := 170) (pos := 3215) kJc_answer (by decide +kernel) rfl (by decide +kernel) rfl rfl (by omega) (Jc_answer_ok h4) ?_
        show AT sJc_waits 1 (105, [(4, x0), (99, 0), (0, x2), (6, x3), (0, x4)], [(0, v4)], s4) o
        exact AT.retiH (by decide +kernel) H
      · refine AT.seq [(106, .iinc 4 1, 3, (0, 0, 0)), (109, .goto (-49), 3, (0, 0, 0))] (by decide +kernel) (show jrun _ (106, [(4, x0), (99, 0), (0, x2), (6, x3), (0, x4)], [], s3) = some ([], (60, [(4, x0), (99, 0), (0, x2), (6, x3), (0, (x4 + 1))], [], s3)) from rfl) ?_
        exact ih _ _ _ _ _ H
set_option maxRecDepth 100000 in
theorem Jc_waits_ok {a0 a1 a2 : Int} {s : jM} {o : Int × jM} (H : Jc_waits a0 a1 a2 s = some o) : MK sJc_waits 1 [(4, a0), (0, a1), (0, a2)] s o := by
  refine MK.of kJc_waits rfl ?_
  show AT sJc_waits 1 (0, [(4, a0), (0, a1), (0, a2), (99, 0), (99, 0)], [], s) o
  unfold Jc_waits at H
  refine AT.blk (g := jok 3 (s a0 5) = true) [(0, .aload_n 0, 1, (0, 0, 0)), (1, .getfield 19, 3, (2205, 5, 0)), (4, .iload_n 1, 1, (0, 0, 0))] (by decide +kernel) (show jrun _ (0, [(4, a0), (0, a1), (0, a2), (99, 0), (99, 0)], [], s) = some ([jok 3 (s a0 5) = true], (5, [(4, a0), (0, a1), (0, a2), (99, 0), (99, 0)], [(0, a1), (7, (s a0 5))], s)) from rfl) (fun h => h) H (fun H => ?_)
  obtain ⟨v5, s5, h5, H⟩ := jb_some H
  refine AT.callV (As := [(0, a1)]) (cl := 3) (b := (s a0 5)) (st := []) (i := 226) (pos := 4050) kSe_isMould (by decide +kernel) rfl (by decide +kernel) rfl rfl (by omega) (Se_isMould_ok h5) ?_
  show AT sJc_waits 1 (8, [(4, a0), (0, a1), (0, a2), (99, 0), (99, 0)], [(0, v5)], s5) o
  refine AT.ite (x := (0, 0, 0)) (by decide +kernel) (show jbr (.ifCond .ne 9) (8, [(4, a0), (0, a1), (0, a2), (99, 0), (99, 0)], [(0, v5)], s5) = some ((w32 v5) = 0, (11, [(4, a0), (0, a1), (0, a2), (99, 0), (99, 0)], [], s5), (17, [(4, a0), (0, a1), (0, a2), (99, 0), (99, 0)], [], s5)) from rfl) H (fun H => ?_) (fun H => ?_)
  · refine AT.seq [(11, .aload_n 0, 1, (0, 0, 0)), (12, .iconst 2, 1, (0, 0, 0))] (by decide +kernel) (show jrun _ (11, [(4, a0), (0, a1), (0, a2), (99, 0), (99, 0)], [], s5) = some ([], (13, [(4, a0), (0, a1), (0, a2), (99, 0), (99, 0)], [(0, 2), (4, a0)], s5)) from rfl) ?_
    obtain ⟨v6, s6, h6, H⟩ := jb_some H
    refine AT.callV (As := [(0, 2)]) (cl := 0) (b := a0) (st := []) (i := 123) (pos := 3066) kJc_refuse (by decide +kernel) rfl (by decide +kernel) rfl rfl (by omega) (Jc_refuse_ok h6) ?_
    show AT sJc_waits 1 (16, [(4, a0), (0, a1), (0, a2), (99, 0), (99, 0)], [(0, v6)], s6) o
    exact AT.retiH (by decide +kernel) H
  · refine AT.seq [(17, .iload_n 2, 1, (0, 0, 0))] (by decide +kernel) (show jrun _ (17, [(4, a0), (0, a1), (0, a2), (99, 0), (99, 0)], [], s5) = some ([], (18, [(4, a0), (0, a1), (0, a2), (99, 0), (99, 0)], [(0, a2)], s5)) from rfl) ?_
    refine AT.ite (x := (0, 0, 0)) (by decide +kernel) (show jbr (.ifCond .lt 9) (18, [(4, a0), (0, a1), (0, a2), (99, 0), (99, 0)], [(0, a2)], s5) = some ((w32 a2) < 0, (27, [(4, a0), (0, a1), (0, a2), (99, 0), (99, 0)], [], s5), (21, [(4, a0), (0, a1), (0, a2), (99, 0), (99, 0)], [], s5)) from rfl) H (fun H => ?_) (fun H => ?_)
    · refine AT.seq [(27, .aload_n 0, 1, (0, 0, 0)), (28, .iconst 5, 1, (0, 0, 0))] (by decide +kernel) (show jrun _ (27, [(4, a0), (0, a1), (0, a2), (99, 0), (99, 0)], [], s5) = some ([], (29, [(4, a0), (0, a1), (0, a2), (99, 0), (99, 0)], [(0, 5), (4, a0)], s5)) from rfl) ?_
      obtain ⟨v7, s7, h7, H⟩ := jb_some H
      refine AT.callV (As := [(0, 5)]) (cl := 0) (b := a0) (st := []) (i := 123) (pos := 3066) kJc_refuse (by decide +kernel) rfl (by decide +kernel) rfl rfl (by omega) (Jc_refuse_ok h7) ?_
      show AT sJc_waits 1 (32, [(4, a0), (0, a1), (0, a2), (99, 0), (99, 0)], [(0, v7)], s7) o
      exact AT.retiH (by decide +kernel) H
    · refine AT.seq [(21, .iload_n 2, 1, (0, 0, 0)), (22, .bipush 99, 2, (0, 0, 0))] (by decide +kernel) (show jrun _ (21, [(4, a0), (0, a1), (0, a2), (99, 0), (99, 0)], [], s5) = some ([], (24, [(4, a0), (0, a1), (0, a2), (99, 0), (99, 0)], [(0, 99), (0, a2)], s5)) from rfl) ?_
      refine AT.ite (x := (0, 0, 0)) (by decide +kernel) (show jbr (.if_icmp .le 9) (24, [(4, a0), (0, a1), (0, a2), (99, 0), (99, 0)], [(0, 99), (0, a2)], s5) = some (99 < (w32 a2), (27, [(4, a0), (0, a1), (0, a2), (99, 0), (99, 0)], [], s5), (33, [(4, a0), (0, a1), (0, a2), (99, 0), (99, 0)], [], s5)) from rfl) H (fun H => ?_) (fun H => ?_)
      · refine AT.seq [(27, .aload_n 0, 1, (0, 0, 0)), (28, .iconst 5, 1, (0, 0, 0))] (by decide +kernel) (show jrun _ (27, [(4, a0), (0, a1), (0, a2), (99, 0), (99, 0)], [], s5) = some ([], (29, [(4, a0), (0, a1), (0, a2), (99, 0), (99, 0)], [(0, 5), (4, a0)], s5)) from rfl) ?_
        obtain ⟨v8, s8, h8, H⟩ := jb_some H
        refine AT.callV (As := [(0, 5)]) (cl := 0) (b := a0) (st := []) (i := 123) (pos := 3066) kJc_refuse (by decide +kernel) rfl (by decide +kernel) rfl rfl (by omega) (Jc_refuse_ok h8) ?_
        show AT sJc_waits 1 (32, [(4, a0), (0, a1), (0, a2), (99, 0), (99, 0)], [(0, v8)], s8) o
        exact AT.retiH (by decide +kernel) H
      · refine AT.blk (g := jok 3 (s5 a0 5) = true ∧ (0 ≤ (w32 a1) ∧ (w32 a1) < 5)) [(33, .aload_n 0, 1, (0, 0, 0)), (34, .getfield 19, 3, (2205, 5, 0)), (37, .getfield 229, 3, (1217, 312, 0)), (40, .iload_n 1, 1, (0, 0, 0)), (41, .aaload, 1, (0, 0, 0)), (42, .astore_n 3, 1, (0, 0, 0)), (43, .aload_n 3, 1, (0, 0, 0))] (by decide +kernel) (show jrun _ (33, [(4, a0), (0, a1), (0, a2), (99, 0), (99, 0)], [], s5) = some ([jok 3 (s5 a0 5) = true, (0 ≤ (w32 a1) ∧ (w32 a1) < 5)], (44, [(4, a0), (0, a1), (0, a2), (6, (((s5 a0 5) + 4) + 11 + 2 * (w32 a1))), (99, 0)], [(6, (((s5 a0 5) + 4) + 11 + 2 * (w32 a1)))], s5)) from rfl) (fun h => ⟨h.1, h.2⟩) H (fun H => ?_)
        obtain ⟨v9, s9, h9, H⟩ := jb_some H
        refine AT.callV (As := []) (cl := 2) (b := (((s5 a0 5) + 4) + 11 + 2 * (w32 a1))) (st := []) (i := 297) (pos := 4168) kMo_canBeTurnedOut (by decide +kernel) rfl (by decide +kernel) rfl rfl (by omega) (Mo_canBeTurnedOut_ok h9) ?_
        show AT sJc_waits 1 (47, [(4, a0), (0, a1), (0, a2), (6, (((s5 a0 5) + 4) + 11 + 2 * (w32 a1))), (99, 0)], [(0, v9)], s9) o
        refine AT.ite (x := (0, 0, 0)) (by decide +kernel) (show jbr (.ifCond .ne 10) (47, [(4, a0), (0, a1), (0, a2), (6, (((s5 a0 5) + 4) + 11 + 2 * (w32 a1))), (99, 0)], [(0, v9)], s9) = some ((w32 v9) = 0, (50, [(4, a0), (0, a1), (0, a2), (6, (((s5 a0 5) + 4) + 11 + 2 * (w32 a1))), (99, 0)], [], s9), (57, [(4, a0), (0, a1), (0, a2), (6, (((s5 a0 5) + 4) + 11 + 2 * (w32 a1))), (99, 0)], [], s9)) from rfl) H (fun H => ?_) (fun H => ?_)
        · refine AT.seq [(50, .aload_n 0, 1, (0, 0, 0)), (51, .bipush 9, 2, (0, 0, 0))] (by decide +kernel) (show jrun _ (50, [(4, a0), (0, a1), (0, a2), (6, (((s5 a0 5) + 4) + 11 + 2 * (w32 a1))), (99, 0)], [], s9) = some ([], (53, [(4, a0), (0, a1), (0, a2), (6, (((s5 a0 5) + 4) + 11 + 2 * (w32 a1))), (99, 0)], [(0, 9), (4, a0)], s9)) from rfl) ?_
          obtain ⟨v10, s10, h10, H⟩ := jb_some H
          refine AT.callV (As := [(0, 9)]) (cl := 0) (b := a0) (st := []) (i := 123) (pos := 3066) kJc_refuse (by decide +kernel) rfl (by decide +kernel) rfl rfl (by omega) (Jc_refuse_ok h10) ?_
          show AT sJc_waits 1 (56, [(4, a0), (0, a1), (0, a2), (6, (((s5 a0 5) + 4) + 11 + 2 * (w32 a1))), (99, 0)], [(0, v10)], s10) o
          exact AT.retiH (by decide +kernel) H
        · refine AT.seq [(57, .iconst 0, 1, (0, 0, 0)), (58, .istore 4, 2, (0, 0, 0))] (by decide +kernel) (show jrun _ (57, [(4, a0), (0, a1), (0, a2), (6, (((s5 a0 5) + 4) + 11 + 2 * (w32 a1))), (99, 0)], [], s9) = some ([], (60, [(4, a0), (0, a1), (0, a2), (6, (((s5 a0 5) + 4) + 11 + 2 * (w32 a1))), (0, 0)], [], s9)) from rfl) ?_
          exact AT.weak (L' := [(4, a0), (99, 0), (0, a2), (6, (((s5 a0 5) + 4) + 11 + 2 * (w32 a1))), (0, 0)]) (jleK (jleJ (jleK (jleK (jleK jle0))))) (Jc_waits_60_ok  jFU _ _ _ _ _ H)
def sJc_fallIn : jS := (⟨"JellyCathedral", "fallIn", "()I"⟩, prog_1_method_30_code, 4, 1, [4], 0)
theorem kJc_fallIn : jmk sJc_fallIn = true := jmk_of 4180 1001 4178 4179 (by decide +kernel)
set_option maxRecDepth 100000 in
theorem Jc_fallIn_4_ok {o : Int × jM} : ∀ (n : Nat) (x0 x1 x2 : Int) (s : jM), Jc_fallIn_4  n x0 x1 x2 s = some o → AT sJc_fallIn 1 (4, [(4, x0), (0, x1), (0, x2), (99, 0)], [], s) o := by
  intro n
  induction n with
  | zero =>
    intro x0 x1 x2 s H
    have H : (none : Option (Int × jM)) = some o := H
    cases H
  | succ n ih =>
    intro x0 x1 x2 s H
    rw [Jc_fallIn_4] at H
    refine AT.blk (g := jok 3 (s x0 5) = true) [(4, .iload_n 2, 1, (0, 0, 0)), (5, .aload_n 0, 1, (0, 0, 0)), (6, .getfield 19, 3, (2205, 5, 0)), (9, .getfield 167, 3, (1195, 306, 0))] (by decide +kernel) (show jrun _ (4, [(4, x0), (0, x1), (0, x2), (99, 0)], [], s) = some ([jok 3 (s x0 5) = true], (12, [(4, x0), (0, x1), (0, x2), (99, 0)], [(0, (s (s x0 5) 6)), (0, x2)], s)) from rfl) (fun h => h) H (fun H => ?_)
    refine AT.ite (x := (0, 0, 0)) (by decide +kernel) (show jbr (.if_icmp .ge 50) (12, [(4, x0), (0, x1), (0, x2), (99, 0)], [(0, (s (s x0 5) 6)), (0, x2)], s) = some ((w32 x2) < (w32 (s (s x0 5) 6)), (15, [(4, x0), (0, x1), (0, x2), (99, 0)], [], s), (62, [(4, x0), (0, x1), (0, x2), (99, 0)], [], s)) from rfl) H (fun H => ?_) (fun H => ?_)
    · refine AT.blk (g := jok 3 (s x0 5) = true ∧ (0 ≤ (w32 x2) ∧ (w32 x2) < 5)) [(15, .aload_n 0, 1, (0, 0, 0)), (16, .getfield 19, 3, (2205, 5, 0)), (19, .getfield 229, 3, (1217, 312, 0)), (22, .iload_n 2, 1, (0, 0, 0)), (23, .aaload, 1, (0, 0, 0)), (24, .astore_n 3, 1, (0, 0, 0)), (25, .aload_n 3, 1, (0, 0, 0)), (26, .getfield 244, 3, (1126, 203, 0)), (29, .iconst 2, 1, (0, 0, 0))] (by decide +kernel) (show jrun _ (15, [(4, x0), (0, x1), (0, x2), (99, 0)], [], s) = some ([jok 3 (s x0 5) = true, (0 ≤ (w32 x2) ∧ (w32 x2) < 5)], (30, [(4, x0), (0, x1), (0, x2), (6, (((s x0 5) + 4) + 11 + 2 * (w32 x2)))], [(0, 2), (0, (s (((s x0 5) + 4) + 11 + 2 * (w32 x2)) 3))], s)) from rfl) (fun h => ⟨h.1, h.2⟩) H (fun H => ?_)
      refine AT.ite (x := (0, 0, 0)) (by decide +kernel) (show jbr (.if_icmp .ne 26) (30, [(4, x0), (0, x1), (0, x2), (6, (((s x0 5) + 4) + 11 + 2 * (w32 x2)))], [(0, 2), (0, (s (((s x0 5) + 4) + 11 + 2 * (w32 x2)) 3))], s) = some ((w32 (s (((s x0 5) + 4) + 11 + 2 * (w32 x2)) 3)) = 2, (33, [(4, x0), (0, x1), (0, x2), (6, (((s x0 5) + 4) + 11 + 2 * (w32 x2)))], [], s), (56, [(4, x0), (0, x1), (0, x2), (6, (((s x0 5) + 4) + 11 + 2 * (w32 x2)))], [], s)) from rfl) H (fun H => ?_) (fun H => ?_)
      · refine AT.blk (g := jok 3 (s x0 5) = true) [(33, .iload_n 1, 1, (0, 0, 0)), (34, .aload_n 3, 1, (0, 0, 0)), (35, .getfield 247, 3, (1130, 204, 0)), (38, .aload_n 3, 1, (0, 0, 0)), (39, .getfield 233, 3, (1111, 200, 0)), (42, .aload_n 0, 1, (0, 0, 0)), (43, .getfield 19, 3, (2205, 5, 0)), (46, .getfield 195, 3, (1175, 300, 0))] (by decide +kernel) (show jrun _ (33, [(4, x0), (0, x1), (0, x2), (6, (((s x0 5) + 4) + 11 + 2 * (w32 x2)))], [], s) = some ([jok 3 (s x0 5) = true], (49, [(4, x0), (0, x1), (0, x2), (6, (((s x0 5) + 4) + 11 + 2 * (w32 x2)))], [(0, (s (s x0 5) 0)), (0, (s (((s x0 5) + 4) + 11 + 2 * (w32 x2)) 0)), (0, (s (((s x0 5) + 4) + 11 + 2 * (w32 x2)) 4)), (0, x1)], s)) from rfl) (fun h => h) H (fun H => ?_)
        obtain ⟨v1, s1, h1, H⟩ := jb_some H
        refine AT.callS (As := [(0, (s (((s x0 5) + 4) + 11 + 2 * (w32 x2)) 4)), (0, (s (((s x0 5) + 4) + 11 + 2 * (w32 x2)) 0)), (0, (s (s x0 5) 0))]) (st := [(0, x1)]) (i := 300) (pos := 4169) kJc_lasting (by decide +kernel) rfl rfl rfl (by omega) (Jc_lasting_ok h1) ?_
        show AT sJc_fallIn 1 (52, [(4, x0), (0, x1), (0, x2), (6, (((s x0 5) + 4) + 11 + 2 * (w32 x2)))], [(0, v1), (0, x1)], s1) o
        refine AT.seq [(52, .invokestatic 305, 3, (4181, 1, 0)), (55, .istore_n 1, 1, (0, 0, 0)), (56, .iinc 2 1, 3, (0, 0, 0)), (59, .goto (-55), 3, (0, 0, 0))] (by decide +kernel) (show jrun _ (52, [(4, x0), (0, x1), (0, x2), (6, (((s x0 5) + 4) + 11 + 2 * (w32 x2)))], [(0, v1), (0, x1)], s1) = some ([], (4, [(4, x0), (0, (jmax x1 v1)), (0, (x2 + 1)), (6, (((s x0 5) + 4) + 11 + 2 * (w32 x2)))], [], s1)) from rfl) ?_
        exact AT.weak (L' := [(4, x0), (0, (jmax x1 v1)), (0, (x2 + 1)), (99, 0)]) (jleK (jleK (jleK (jleJ jle0)))) (ih _ _ _ _ H)
      · refine AT.seq [(56, .iinc 2 1, 3, (0, 0, 0)), (59, .goto (-55), 3, (0, 0, 0))] (by decide +kernel) (show jrun _ (56, [(4, x0), (0, x1), (0, x2), (6, (((s x0 5) + 4) + 11 + 2 * (w32 x2)))], [], s) = some ([], (4, [(4, x0), (0, x1), (0, (x2 + 1)), (6, (((s x0 5) + 4) + 11 + 2 * (w32 x2)))], [], s)) from rfl) ?_
        exact AT.weak (L' := [(4, x0), (0, x1), (0, (x2 + 1)), (99, 0)]) (jleK (jleK (jleK (jleJ jle0)))) (ih _ _ _ _ H)
    · refine AT.seq [(62, .iload_n 1, 1, (0, 0, 0)), (63, .sipush 300, 3, (0, 0, 0))] (by decide +kernel) (show jrun _ (62, [(4, x0), (0, x1), (0, x2), (99, 0)], [], s) = some ([], (66, [(4, x0), (0, x1), (0, x2), (99, 0)], [(0, 300), (0, x1)], s)) from rfl) ?_
      refine AT.ite (x := (0, 0, 0)) (by decide +kernel) (show jbr (.if_icmp .le 12) (66, [(4, x0), (0, x1), (0, x2), (99, 0)], [(0, 300), (0, x1)], s) = some (300 < (w32 x1), (69, [(4, x0), (0, x1), (0, x2), (99, 0)], [], s), (78, [(4, x0), (0, x1), (0, x2), (99, 0)], [], s)) from rfl) H (fun H => ?_) (fun H => ?_)
      · refine AT.seq [(69, .aload_n 0, 1, (0, 0, 0)), (70, .bipush 8, 2, (0, 0, 0))] (by decide +kernel) (show jrun _ (69, [(4, x0), (0, x1), (0, x2), (99, 0)], [], s) = some ([], (72, [(4, x0), (0, x1), (0, x2), (99, 0)], [(0, 8), (4, x0)], s)) from rfl) ?_
        obtain ⟨v2, s2, h2, H⟩ := jb_some H
        refine AT.callV (As := [(0, 8)]) (cl := 0) (b := x0) (st := []) (i := 123) (pos := 3066) kJc_refuse (by decide +kernel) rfl (by decide +kernel) rfl rfl (by omega) (Jc_refuse_ok h2) ?_
        show AT sJc_fallIn 1 (75, [(4, x0), (0, x1), (0, x2), (99, 0)], [(0, v2)], s2) o
        refine AT.seq [(75, .goto 8, 3, (0, 0, 0))] (by decide +kernel) (show jrun _ (75, [(4, x0), (0, x1), (0, x2), (99, 0)], [(0, v2)], s2) = some ([], (83, [(4, x0), (0, x1), (0, x2), (99, 0)], [(0, v2)], s2)) from rfl) ?_
        exact AT.retiH (by decide +kernel) H
      · refine AT.seq [(78, .aload_n 0, 1, (0, 0, 0)), (79, .iload_n 1, 1, (0, 0, 0))] (by decide +kernel) (show jrun _ (78, [(4, x0), (0, x1), (0, x2), (99, 0)], [], s) = some ([], (80, [(4, x0), (0, x1), (0, x2), (99, 0)], [(0, x1), (4, x0)], s)) from rfl) ?_
        obtain ⟨v3, s3, h3, H⟩ := jb_some H
        refine AT.callV (As := [(0, x1)]) (cl := 0) (b := x0) (st := []) (i := 170) (pos := 3215) kJc_answer (by decide +kernel) rfl (by decide +kernel) rfl rfl (by omega) (Jc_answer_ok h3) ?_
        show AT sJc_fallIn 1 (83, [(4, x0), (0, x1), (0, x2), (99, 0)], [(0, v3)], s3) o
        exact AT.retiH (by decide +kernel) H
set_option maxRecDepth 100000 in
theorem Jc_fallIn_ok {a0 : Int} {s : jM} {o : Int × jM} (H : Jc_fallIn a0 s = some o) : MK sJc_fallIn 1 [(4, a0)] s o := by
  refine MK.of kJc_fallIn rfl ?_
  show AT sJc_fallIn 1 (0, [(4, a0), (99, 0), (99, 0), (99, 0)], [], s) o
  unfold Jc_fallIn at H
  refine AT.seq [(0, .iconst 0, 1, (0, 0, 0)), (1, .istore_n 1, 1, (0, 0, 0)), (2, .iconst 0, 1, (0, 0, 0)), (3, .istore_n 2, 1, (0, 0, 0))] (by decide +kernel) (show jrun _ (0, [(4, a0), (99, 0), (99, 0), (99, 0)], [], s) = some ([], (4, [(4, a0), (0, 0), (0, 0), (99, 0)], [], s)) from rfl) ?_
  exact Jc_fallIn_4_ok  jFU _ _ _ _ H
def sJc_mixTrouble : jS := (⟨"JellyCathedral", "mixTrouble", "(II)I"⟩, prog_1_method_58_code, 3, 1, [4, 0, 0], 0)
theorem kJc_mixTrouble : jmk sJc_mixTrouble = true := jmk_of 4191 1001 4190 20 (by decide +kernel)
set_option maxRecDepth 100000 in
theorem Jc_mixTrouble_ok {a0 a1 a2 : Int} {s : jM} {o : Int × jM} (H : Jc_mixTrouble a0 a1 a2 s = some o) : MK sJc_mixTrouble 3 [(4, a0), (0, a1), (0, a2)] s o := by
  refine MK.of kJc_mixTrouble rfl ?_
  show AT sJc_mixTrouble 3 (0, [(4, a0), (0, a1), (0, a2)], [], s) o
  unfold Jc_mixTrouble at H
  refine AT.blk (g := jok 3 (s a0 5) = true) [(0, .aload_n 0, 1, (0, 0, 0)), (1, .getfield 19, 3, (2205, 5, 0)), (4, .iload_n 1, 1, (0, 0, 0))] (by decide +kernel) (show jrun _ (0, [(4, a0), (0, a1), (0, a2)], [], s) = some ([jok 3 (s a0 5) = true], (5, [(4, a0), (0, a1), (0, a2)], [(0, a1), (7, (s a0 5))], s)) from rfl) (fun h => h) H (fun H => ?_)
  obtain ⟨v1, s1, h1, H⟩ := jb_some H
  refine AT.callV (As := [(0, a1)]) (cl := 3) (b := (s a0 5)) (st := []) (i := 226) (pos := 4050) kSe_isMould (by decide +kernel) rfl (by decide +kernel) rfl rfl (by omega) (Se_isMould_ok h1) ?_
  show AT sJc_mixTrouble 3 (8, [(4, a0), (0, a1), (0, a2)], [(0, v1)], s1) o
  refine AT.ite (x := (0, 0, 0)) (by decide +kernel) (show jbr (.ifCond .ne 5) (8, [(4, a0), (0, a1), (0, a2)], [(0, v1)], s1) = some ((w32 v1) = 0, (11, [(4, a0), (0, a1), (0, a2)], [], s1), (13, [(4, a0), (0, a1), (0, a2)], [], s1)) from rfl) H (fun H => ?_) (fun H => ?_)
  · refine AT.seq [(11, .iconst 2, 1, (0, 0, 0))] (by decide +kernel) (show jrun _ (11, [(4, a0), (0, a1), (0, a2)], [], s1) = some ([], (12, [(4, a0), (0, a1), (0, a2)], [(0, 2)], s1)) from rfl) ?_
    exact AT.retiH (by decide +kernel) H
  · refine AT.seq [(13, .iload_n 2, 1, (0, 0, 0))] (by decide +kernel) (show jrun _ (13, [(4, a0), (0, a1), (0, a2)], [], s1) = some ([], (14, [(4, a0), (0, a1), (0, a2)], [(0, a2)], s1)) from rfl) ?_
    refine AT.ite (x := (0, 0, 0)) (by decide +kernel) (show jbr (.ifCond .lt 9) (14, [(4, a0), (0, a1), (0, a2)], [(0, a2)], s1) = some ((w32 a2) < 0, (23, [(4, a0), (0, a1), (0, a2)], [], s1), (17, [(4, a0), (0, a1), (0, a2)], [], s1)) from rfl) H (fun H => ?_) (fun H => ?_)
    · refine AT.seq [(23, .iconst 5, 1, (0, 0, 0))] (by decide +kernel) (show jrun _ (23, [(4, a0), (0, a1), (0, a2)], [], s1) = some ([], (24, [(4, a0), (0, a1), (0, a2)], [(0, 5)], s1)) from rfl) ?_
      exact AT.retiH (by decide +kernel) H
    · refine AT.seq [(17, .iload_n 2, 1, (0, 0, 0)), (18, .bipush 81, 2, (0, 0, 0))] (by decide +kernel) (show jrun _ (17, [(4, a0), (0, a1), (0, a2)], [], s1) = some ([], (20, [(4, a0), (0, a1), (0, a2)], [(0, 81), (0, a2)], s1)) from rfl) ?_
      refine AT.ite (x := (0, 0, 0)) (by decide +kernel) (show jbr (.if_icmp .le 5) (20, [(4, a0), (0, a1), (0, a2)], [(0, 81), (0, a2)], s1) = some (81 < (w32 a2), (23, [(4, a0), (0, a1), (0, a2)], [], s1), (25, [(4, a0), (0, a1), (0, a2)], [], s1)) from rfl) H (fun H => ?_) (fun H => ?_)
      · refine AT.seq [(23, .iconst 5, 1, (0, 0, 0))] (by decide +kernel) (show jrun _ (23, [(4, a0), (0, a1), (0, a2)], [], s1) = some ([], (24, [(4, a0), (0, a1), (0, a2)], [(0, 5)], s1)) from rfl) ?_
        exact AT.retiH (by decide +kernel) H
      · refine AT.blk (g := jok 3 (s1 a0 5) = true ∧ jok 3 (s1 a0 5) = true ∧ (0 ≤ (w32 a1) ∧ (w32 a1) < 5)) [(25, .aload_n 0, 1, (0, 0, 0)), (26, .getfield 54, 3, (2214, 14, 0)), (29, .aload_n 0, 1, (0, 0, 0)), (30, .getfield 19, 3, (2205, 5, 0)), (33, .aload_n 0, 1, (0, 0, 0)), (34, .getfield 19, 3, (2205, 5, 0)), (37, .getfield 229, 3, (1217, 312, 0)), (40, .iload_n 1, 1, (0, 0, 0)), (41, .aaload, 1, (0, 0, 0)), (42, .getfield 238, 3, (1116, 201, 0)), (45, .iload_n 2, 1, (0, 0, 0))] (by decide +kernel) (show jrun _ (25, [(4, a0), (0, a1), (0, a2)], [], s1) = some ([jok 3 (s1 a0 5) = true, jok 3 (s1 a0 5) = true, (0 ≤ (w32 a1) ∧ (w32 a1) < 5)], (46, [(4, a0), (0, a1), (0, a2)], [(0, a2), (0, (s1 (((s1 a0 5) + 4) + 11 + 2 * (w32 a1)) 1)), (7, (s1 a0 5)), (12, (a0 + 16))], s1)) from rfl) (fun h => ⟨h.1, h.2.1, h.2.2⟩) H (fun H => ?_)
        obtain ⟨v2, s2, h2, H⟩ := jb_some H
        refine AT.callV (As := [(7, (s1 a0 5)), (0, (s1 (((s1 a0 5) + 4) + 11 + 2 * (w32 a1)) 1)), (0, a2)]) (cl := 8) (b := (a0 + 16)) (st := []) (i := 389) (pos := 4192) kFi_cheapest (by decide +kernel) rfl (by decide +kernel) rfl rfl (by omega) (Fi_cheapest_ok h2) ?_
        show AT sJc_mixTrouble 3 (49, [(4, a0), (0, a1), (0, a2)], [(0, v2)], s2) o
        refine AT.ite (x := (0, 0, 0)) (by decide +kernel) (show jbr (.ifCond .eq 7) (49, [(4, a0), (0, a1), (0, a2)], [(0, v2)], s2) = some ((w32 v2) = 0, (56, [(4, a0), (0, a1), (0, a2)], [], s2), (52, [(4, a0), (0, a1), (0, a2)], [], s2)) from rfl) H (fun H => ?_) (fun H => ?_)
        · refine AT.seq [(56, .bipush 8, 2, (0, 0, 0))] (by decide +kernel) (show jrun _ (56, [(4, a0), (0, a1), (0, a2)], [], s2) = some ([], (58, [(4, a0), (0, a1), (0, a2)], [(0, 8)], s2)) from rfl) ?_
          exact AT.retiH (by decide +kernel) H
        · refine AT.seq [(52, .iconst 0, 1, (0, 0, 0)), (53, .goto 5, 3, (0, 0, 0))] (by decide +kernel) (show jrun _ (52, [(4, a0), (0, a1), (0, a2)], [], s2) = some ([], (58, [(4, a0), (0, a1), (0, a2)], [(0, 0)], s2)) from rfl) ?_
          exact AT.retiH (by decide +kernel) H
def sJc_mix : jS := (⟨"JellyCathedral", "mix", "(II)I"⟩, prog_1_method_31_code, 4, 1, [4, 0, 0], 0)
theorem kJc_mix : jmk sJc_mix = true := jmk_of 4187 1001 4185 4186 (by decide +kernel)
set_option maxRecDepth 100000 in
theorem Jc_mix_ok {a0 a1 a2 : Int} {s : jM} {o : Int × jM} (H : Jc_mix a0 a1 a2 s = some o) : MK sJc_mix 4 [(4, a0), (0, a1), (0, a2)] s o := by
  refine MK.of kJc_mix rfl ?_
  show AT sJc_mix 4 (0, [(4, a0), (0, a1), (0, a2), (99, 0)], [], s) o
  unfold Jc_mix at H
  refine AT.seq [(0, .aload_n 0, 1, (0, 0, 0)), (1, .iload_n 1, 1, (0, 0, 0)), (2, .iload_n 2, 1, (0, 0, 0))] (by decide +kernel) (show jrun _ (0, [(4, a0), (0, a1), (0, a2), (99, 0)], [], s) = some ([], (3, [(4, a0), (0, a1), (0, a2), (99, 0)], [(0, a2), (0, a1), (4, a0)], s)) from rfl) ?_
  obtain ⟨v1, s1, h1, H⟩ := jb_some H
  refine AT.callV (As := [(0, a1), (0, a2)]) (cl := 0) (b := a0) (st := []) (i := 310) (pos := 4188) kJc_mixTrouble (by decide +kernel) rfl (by decide +kernel) rfl rfl (by omega) (Jc_mixTrouble_ok h1) ?_
  show AT sJc_mix 4 (6, [(4, a0), (0, a1), (0, a2), (99, 0)], [(0, v1)], s1) o
  refine AT.seq [(6, .istore_n 3, 1, (0, 0, 0)), (7, .iload_n 3, 1, (0, 0, 0))] (by decide +kernel) (show jrun _ (6, [(4, a0), (0, a1), (0, a2), (99, 0)], [(0, v1)], s1) = some ([], (8, [(4, a0), (0, a1), (0, a2), (0, v1)], [(0, v1)], s1)) from rfl) ?_
  refine AT.ite (x := (0, 0, 0)) (by decide +kernel) (show jbr (.ifCond .ne 17) (8, [(4, a0), (0, a1), (0, a2), (0, v1)], [(0, v1)], s1) = some ((w32 v1) = 0, (11, [(4, a0), (0, a1), (0, a2), (0, v1)], [], s1), (25, [(4, a0), (0, a1), (0, a2), (0, v1)], [], s1)) from rfl) H (fun H => ?_) (fun H => ?_)
  · refine AT.seq [(11, .aload_n 0, 1, (0, 0, 0)), (12, .aload_n 0, 1, (0, 0, 0)), (13, .getfield 54, 3, (2214, 14, 0)), (16, .getfield 313, 3, (2121, 801, 0))] (by decide +kernel) (show jrun _ (11, [(4, a0), (0, a1), (0, a2), (0, v1)], [], s1) = some ([], (19, [(4, a0), (0, a1), (0, a2), (0, v1)], [(0, (s1 (a0 + 16) 1)), (4, a0)], s1)) from rfl) ?_
    obtain ⟨v2, s2, h2, H⟩ := jb_some H
    refine AT.callV (As := [(0, (s1 (a0 + 16) 1))]) (cl := 0) (b := a0) (st := []) (i := 170) (pos := 3215) kJc_answer (by decide +kernel) rfl (by decide +kernel) rfl rfl (by omega) (Jc_answer_ok h2) ?_
    show AT sJc_mix 4 (22, [(4, a0), (0, a1), (0, a2), (0, v1)], [(0, v2)], s2) o
    refine AT.seq [(22, .goto 8, 3, (0, 0, 0))] (by decide +kernel) (show jrun _ (22, [(4, a0), (0, a1), (0, a2), (0, v1)], [(0, v2)], s2) = some ([], (30, [(4, a0), (0, a1), (0, a2), (0, v1)], [(0, v2)], s2)) from rfl) ?_
    exact AT.retiH (by decide +kernel) H
  · refine AT.seq [(25, .aload_n 0, 1, (0, 0, 0)), (26, .iload_n 3, 1, (0, 0, 0))] (by decide +kernel) (show jrun _ (25, [(4, a0), (0, a1), (0, a2), (0, v1)], [], s1) = some ([], (27, [(4, a0), (0, a1), (0, a2), (0, v1)], [(0, v1), (4, a0)], s1)) from rfl) ?_
    obtain ⟨v3, s3, h3, H⟩ := jb_some H
    refine AT.callV (As := [(0, v1)]) (cl := 0) (b := a0) (st := []) (i := 123) (pos := 3066) kJc_refuse (by decide +kernel) rfl (by decide +kernel) rfl rfl (by omega) (Jc_refuse_ok h3) ?_
    show AT sJc_mix 4 (30, [(4, a0), (0, a1), (0, a2), (0, v1)], [(0, v3)], s3) o
    exact AT.retiH (by decide +kernel) H
def sJc_mixPart : jS := (⟨"JellyCathedral", "mixPart", "(III)I"⟩, prog_1_method_32_code, 5, 1, [4, 0, 0, 0], 0)
theorem kJc_mixPart : jmk sJc_mixPart = true := jmk_of 4217 1001 4215 4216 (by decide +kernel)
set_option maxRecDepth 100000 in
theorem Jc_mixPart_ok {a0 a1 a2 a3 : Int} {s : jM} {o : Int × jM} (H : Jc_mixPart a0 a1 a2 a3 s = some o) : MK sJc_mixPart 4 [(4, a0), (0, a1), (0, a2), (0, a3)] s o := by
  refine MK.of kJc_mixPart rfl ?_
  show AT sJc_mixPart 4 (0, [(4, a0), (0, a1), (0, a2), (0, a3), (99, 0)], [], s) o
  unfold Jc_mixPart at H
  refine AT.blk (g := jok 3 (s a0 5) = true) [(0, .aload_n 0, 1, (0, 0, 0)), (1, .getfield 19, 3, (2205, 5, 0)), (4, .iload_n 3, 1, (0, 0, 0))] (by decide +kernel) (show jrun _ (0, [(4, a0), (0, a1), (0, a2), (0, a3), (99, 0)], [], s) = some ([jok 3 (s a0 5) = true], (5, [(4, a0), (0, a1), (0, a2), (0, a3), (99, 0)], [(0, a3), (7, (s a0 5))], s)) from rfl) (fun h => h) H (fun H => ?_)
  obtain ⟨v1, s1, h1, H⟩ := jb_some H
  refine AT.callV (As := [(0, a3)]) (cl := 3) (b := (s a0 5)) (st := []) (i := 214) (pos := 4042) kSe_isStuff (by decide +kernel) rfl (by decide +kernel) rfl rfl (by omega) (Se_isStuff_ok h1) ?_
  show AT sJc_mixPart 4 (8, [(4, a0), (0, a1), (0, a2), (0, a3), (99, 0)], [(0, v1)], s1) o
  refine AT.ite (x := (0, 0, 0)) (by decide +kernel) (show jbr (.ifCond .ne 9) (8, [(4, a0), (0, a1), (0, a2), (0, a3), (99, 0)], [(0, v1)], s1) = some ((w32 v1) = 0, (11, [(4, a0), (0, a1), (0, a2), (0, a3), (99, 0)], [], s1), (17, [(4, a0), (0, a1), (0, a2), (0, a3), (99, 0)], [], s1)) from rfl) H (fun H => ?_) (fun H => ?_)
  · refine AT.seq [(11, .aload_n 0, 1, (0, 0, 0)), (12, .iconst 2, 1, (0, 0, 0))] (by decide +kernel) (show jrun _ (11, [(4, a0), (0, a1), (0, a2), (0, a3), (99, 0)], [], s1) = some ([], (13, [(4, a0), (0, a1), (0, a2), (0, a3), (99, 0)], [(0, 2), (4, a0)], s1)) from rfl) ?_
    obtain ⟨v2, s2, h2, H⟩ := jb_some H
    refine AT.callV (As := [(0, 2)]) (cl := 0) (b := a0) (st := []) (i := 123) (pos := 3066) kJc_refuse (by decide +kernel) rfl (by decide +kernel) rfl rfl (by omega) (Jc_refuse_ok h2) ?_
    show AT sJc_mixPart 4 (16, [(4, a0), (0, a1), (0, a2), (0, a3), (99, 0)], [(0, v2)], s2) o
    exact AT.retiH (by decide +kernel) H
  · refine AT.seq [(17, .aload_n 0, 1, (0, 0, 0)), (18, .iload_n 1, 1, (0, 0, 0)), (19, .iload_n 2, 1, (0, 0, 0))] (by decide +kernel) (show jrun _ (17, [(4, a0), (0, a1), (0, a2), (0, a3), (99, 0)], [], s1) = some ([], (20, [(4, a0), (0, a1), (0, a2), (0, a3), (99, 0)], [(0, a2), (0, a1), (4, a0)], s1)) from rfl) ?_
    obtain ⟨v3, s3, h3, H⟩ := jb_some H
    refine AT.callV (As := [(0, a1), (0, a2)]) (cl := 0) (b := a0) (st := []) (i := 310) (pos := 4188) kJc_mixTrouble (by decide +kernel) rfl (by decide +kernel) rfl rfl (by omega) (Jc_mixTrouble_ok h3) ?_
    show AT sJc_mixPart 4 (23, [(4, a0), (0, a1), (0, a2), (0, a3), (99, 0)], [(0, v3)], s3) o
    refine AT.seq [(23, .istore 4, 2, (0, 0, 0)), (25, .iload 4, 2, (0, 0, 0))] (by decide +kernel) (show jrun _ (23, [(4, a0), (0, a1), (0, a2), (0, a3), (99, 0)], [(0, v3)], s3) = some ([], (27, [(4, a0), (0, a1), (0, a2), (0, a3), (0, v3)], [(0, v3)], s3)) from rfl) ?_
    refine AT.ite (x := (0, 0, 0)) (by decide +kernel) (show jbr (.ifCond .ne 19) (27, [(4, a0), (0, a1), (0, a2), (0, a3), (0, v3)], [(0, v3)], s3) = some ((w32 v3) = 0, (30, [(4, a0), (0, a1), (0, a2), (0, a3), (0, v3)], [], s3), (46, [(4, a0), (0, a1), (0, a2), (0, a3), (0, v3)], [], s3)) from rfl) H (fun H => ?_) (fun H => ?_)
    · refine AT.blk (g := (0 ≤ (w32 a3) ∧ (w32 a3) < 5)) [(30, .aload_n 0, 1, (0, 0, 0)), (31, .aload_n 0, 1, (0, 0, 0)), (32, .getfield 54, 3, (2214, 14, 0)), (35, .getfield 316, 3, (2125, 804, 0)), (38, .iload_n 3, 1, (0, 0, 0)), (39, .iaload, 1, (0, 0, 0))] (by decide +kernel) (show jrun _ (30, [(4, a0), (0, a1), (0, a2), (0, a3), (0, v3)], [], s3) = some ([(0 ≤ (w32 a3) ∧ (w32 a3) < 5)], (40, [(4, a0), (0, a1), (0, a2), (0, a3), (0, v3)], [(0, (s3 ((a0 + 16) + 3) (w32 a3))), (4, a0)], s3)) from rfl) (fun h => h) H (fun H => ?_)
      obtain ⟨v4, s4, h4, H⟩ := jb_some H
      refine AT.callV (As := [(0, (s3 ((a0 + 16) + 3) (w32 a3)))]) (cl := 0) (b := a0) (st := []) (i := 170) (pos := 3215) kJc_answer (by decide +kernel) rfl (by decide +kernel) rfl rfl (by omega) (Jc_answer_ok h4) ?_
      show AT sJc_mixPart 4 (43, [(4, a0), (0, a1), (0, a2), (0, a3), (0, v3)], [(0, v4)], s4) o
      refine AT.seq [(43, .goto 9, 3, (0, 0, 0))] (by decide +kernel) (show jrun _ (43, [(4, a0), (0, a1), (0, a2), (0, a3), (0, v3)], [(0, v4)], s4) = some ([], (52, [(4, a0), (0, a1), (0, a2), (0, a3), (0, v3)], [(0, v4)], s4)) from rfl) ?_
      exact AT.retiH (by decide +kernel) H
    · refine AT.seq [(46, .aload_n 0, 1, (0, 0, 0)), (47, .iload 4, 2, (0, 0, 0))] (by decide +kernel) (show jrun _ (46, [(4, a0), (0, a1), (0, a2), (0, a3), (0, v3)], [], s3) = some ([], (49, [(4, a0), (0, a1), (0, a2), (0, a3), (0, v3)], [(0, v3), (4, a0)], s3)) from rfl) ?_
      obtain ⟨v5, s5, h5, H⟩ := jb_some H
      refine AT.callV (As := [(0, v3)]) (cl := 0) (b := a0) (st := []) (i := 123) (pos := 3066) kJc_refuse (by decide +kernel) rfl (by decide +kernel) rfl rfl (by omega) (Jc_refuse_ok h5) ?_
      show AT sJc_mixPart 4 (52, [(4, a0), (0, a1), (0, a2), (0, a3), (0, v3)], [(0, v5)], s5) o
      exact AT.retiH (by decide +kernel) H
def sJc_strongest : jS := (⟨"JellyCathedral", "strongest", "(I)I"⟩, prog_1_method_33_code, 3, 1, [4, 0], 0)
theorem kJc_strongest : jmk sJc_strongest = true := jmk_of 4221 1001 4219 4220 (by decide +kernel)
set_option maxRecDepth 100000 in
theorem Jc_strongest_ok {a0 a1 : Int} {s : jM} {o : Int × jM} (H : Jc_strongest a0 a1 s = some o) : MK sJc_strongest 3 [(4, a0), (0, a1)] s o := by
  refine MK.of kJc_strongest rfl ?_
  show AT sJc_strongest 3 (0, [(4, a0), (0, a1), (99, 0)], [], s) o
  unfold Jc_strongest at H
  refine AT.blk (g := jok 3 (s a0 5) = true) [(0, .aload_n 0, 1, (0, 0, 0)), (1, .getfield 19, 3, (2205, 5, 0)), (4, .iload_n 1, 1, (0, 0, 0))] (by decide +kernel) (show jrun _ (0, [(4, a0), (0, a1), (99, 0)], [], s) = some ([jok 3 (s a0 5) = true], (5, [(4, a0), (0, a1), (99, 0)], [(0, a1), (7, (s a0 5))], s)) from rfl) (fun h => h) H (fun H => ?_)
  obtain ⟨v1, s1, h1, H⟩ := jb_some H
  refine AT.callV (As := [(0, a1)]) (cl := 3) (b := (s a0 5)) (st := []) (i := 226) (pos := 4050) kSe_isMould (by decide +kernel) rfl (by decide +kernel) rfl rfl (by omega) (Se_isMould_ok h1) ?_
  show AT sJc_strongest 3 (8, [(4, a0), (0, a1), (99, 0)], [(0, v1)], s1) o
  refine AT.ite (x := (0, 0, 0)) (by decide +kernel) (show jbr (.ifCond .ne 9) (8, [(4, a0), (0, a1), (99, 0)], [(0, v1)], s1) = some ((w32 v1) = 0, (11, [(4, a0), (0, a1), (99, 0)], [], s1), (17, [(4, a0), (0, a1), (99, 0)], [], s1)) from rfl) H (fun H => ?_) (fun H => ?_)
  · refine AT.seq [(11, .aload_n 0, 1, (0, 0, 0)), (12, .iconst 2, 1, (0, 0, 0))] (by decide +kernel) (show jrun _ (11, [(4, a0), (0, a1), (99, 0)], [], s1) = some ([], (13, [(4, a0), (0, a1), (99, 0)], [(0, 2), (4, a0)], s1)) from rfl) ?_
    obtain ⟨v2, s2, h2, H⟩ := jb_some H
    refine AT.callV (As := [(0, 2)]) (cl := 0) (b := a0) (st := []) (i := 123) (pos := 3066) kJc_refuse (by decide +kernel) rfl (by decide +kernel) rfl rfl (by omega) (Jc_refuse_ok h2) ?_
    show AT sJc_strongest 3 (16, [(4, a0), (0, a1), (99, 0)], [(0, v2)], s2) o
    exact AT.retiH (by decide +kernel) H
  · refine AT.blk (g := jok 3 (s1 a0 5) = true ∧ jok 3 (s1 a0 5) = true ∧ (0 ≤ (w32 a1) ∧ (w32 a1) < 5)) [(17, .aload_n 0, 1, (0, 0, 0)), (18, .getfield 54, 3, (2214, 14, 0)), (21, .aload_n 0, 1, (0, 0, 0)), (22, .getfield 19, 3, (2205, 5, 0)), (25, .aload_n 0, 1, (0, 0, 0)), (26, .getfield 19, 3, (2205, 5, 0)), (29, .getfield 229, 3, (1217, 312, 0)), (32, .iload_n 1, 1, (0, 0, 0)), (33, .aaload, 1, (0, 0, 0)), (34, .getfield 238, 3, (1116, 201, 0)), (37, .iconst 1, 1, (0, 0, 0))] (by decide +kernel) (show jrun _ (17, [(4, a0), (0, a1), (99, 0)], [], s1) = some ([jok 3 (s1 a0 5) = true, jok 3 (s1 a0 5) = true, (0 ≤ (w32 a1) ∧ (w32 a1) < 5)], (38, [(4, a0), (0, a1), (99, 0)], [(0, 1), (0, (s1 (((s1 a0 5) + 4) + 11 + 2 * (w32 a1)) 1)), (7, (s1 a0 5)), (12, (a0 + 16))], s1)) from rfl) (fun h => ⟨h.1, h.2.1, h.2.2⟩) H (fun H => ?_)
    obtain ⟨v3, s3, h3, H⟩ := jb_some H
    refine AT.callV (As := [(7, (s1 a0 5)), (0, (s1 (((s1 a0 5) + 4) + 11 + 2 * (w32 a1)) 1)), (0, 1)]) (cl := 8) (b := (a0 + 16)) (st := []) (i := 319) (pos := 4222) kFi_countWays (by decide +kernel) rfl (by decide +kernel) rfl rfl (by omega) (Fi_countWays_ok h3) ?_
    show AT sJc_strongest 3 (41, [(4, a0), (0, a1), (99, 0)], [], s3) o
    refine AT.seq [(41, .aload_n 0, 1, (0, 0, 0)), (42, .getfield 54, 3, (2214, 14, 0))] (by decide +kernel) (show jrun _ (41, [(4, a0), (0, a1), (99, 0)], [], s3) = some ([], (45, [(4, a0), (0, a1), (99, 0)], [(12, (a0 + 16))], s3)) from rfl) ?_
    obtain ⟨v4, s4, h4, H⟩ := jb_some H
    refine AT.callV (As := []) (cl := 8) (b := (a0 + 16)) (st := []) (i := 323) (pos := 4226) kFi_greatestStrength (by decide +kernel) rfl (by decide +kernel) rfl rfl (by omega) (Fi_greatestStrength_ok h4) ?_
    show AT sJc_strongest 3 (48, [(4, a0), (0, a1), (99, 0)], [(0, v4)], s4) o
    refine AT.seq [(48, .istore_n 2, 1, (0, 0, 0)), (49, .iload_n 2, 1, (0, 0, 0)), (50, .iconst (-1), 1, (0, 0, 0))] (by decide +kernel) (show jrun _ (48, [(4, a0), (0, a1), (99, 0)], [(0, v4)], s4) = some ([], (51, [(4, a0), (0, a1), (0, v4)], [(0, (-1)), (0, v4)], s4)) from rfl) ?_
    refine AT.ite (x := (0, 0, 0)) (by decide +kernel) (show jbr (.if_icmp .ne 12) (51, [(4, a0), (0, a1), (0, v4)], [(0, (-1)), (0, v4)], s4) = some ((w32 v4) = (-1), (54, [(4, a0), (0, a1), (0, v4)], [], s4), (63, [(4, a0), (0, a1), (0, v4)], [], s4)) from rfl) H (fun H => ?_) (fun H => ?_)
    · refine AT.seq [(54, .aload_n 0, 1, (0, 0, 0)), (55, .bipush 8, 2, (0, 0, 0))] (by decide +kernel) (show jrun _ (54, [(4, a0), (0, a1), (0, v4)], [], s4) = some ([], (57, [(4, a0), (0, a1), (0, v4)], [(0, 8), (4, a0)], s4)) from rfl) ?_
      obtain ⟨v5, s5, h5, H⟩ := jb_some H
      refine AT.callV (As := [(0, 8)]) (cl := 0) (b := a0) (st := []) (i := 123) (pos := 3066) kJc_refuse (by decide +kernel) rfl (by decide +kernel) rfl rfl (by omega) (Jc_refuse_ok h5) ?_
      show AT sJc_strongest 3 (60, [(4, a0), (0, a1), (0, v4)], [(0, v5)], s5) o
      refine AT.seq [(60, .goto 8, 3, (0, 0, 0))] (by decide +kernel) (show jrun _ (60, [(4, a0), (0, a1), (0, v4)], [(0, v5)], s5) = some ([], (68, [(4, a0), (0, a1), (0, v4)], [(0, v5)], s5)) from rfl) ?_
      exact AT.retiH (by decide +kernel) H
    · refine AT.seq [(63, .aload_n 0, 1, (0, 0, 0)), (64, .iload_n 2, 1, (0, 0, 0))] (by decide +kernel) (show jrun _ (63, [(4, a0), (0, a1), (0, v4)], [], s4) = some ([], (65, [(4, a0), (0, a1), (0, v4)], [(0, v4), (4, a0)], s4)) from rfl) ?_
      obtain ⟨v6, s6, h6, H⟩ := jb_some H
      refine AT.callV (As := [(0, v4)]) (cl := 0) (b := a0) (st := []) (i := 170) (pos := 3215) kJc_answer (by decide +kernel) rfl (by decide +kernel) rfl rfl (by omega) (Jc_answer_ok h6) ?_
      show AT sJc_strongest 3 (68, [(4, a0), (0, a1), (0, v4)], [(0, v6)], s6) o
      exact AT.retiH (by decide +kernel) H
def sJc_fillings : jS := (⟨"JellyCathedral", "fillings", "(I)I"⟩, prog_1_method_34_code, 2, 1, [4, 0], 0)
theorem kJc_fillings : jmk sJc_fillings = true := jmk_of 4233 1001 4231 4232 (by decide +kernel)
set_option maxRecDepth 100000 in
theorem Jc_fillings_ok {a0 a1 : Int} {s : jM} {o : Int × jM} (H : Jc_fillings a0 a1 s = some o) : MK sJc_fillings 3 [(4, a0), (0, a1)] s o := by
  refine MK.of kJc_fillings rfl ?_
  show AT sJc_fillings 3 (0, [(4, a0), (0, a1)], [], s) o
  unfold Jc_fillings at H
  refine AT.blk (g := jok 3 (s a0 5) = true) [(0, .aload_n 0, 1, (0, 0, 0)), (1, .getfield 19, 3, (2205, 5, 0)), (4, .iload_n 1, 1, (0, 0, 0))] (by decide +kernel) (show jrun _ (0, [(4, a0), (0, a1)], [], s) = some ([jok 3 (s a0 5) = true], (5, [(4, a0), (0, a1)], [(0, a1), (7, (s a0 5))], s)) from rfl) (fun h => h) H (fun H => ?_)
  obtain ⟨v1, s1, h1, H⟩ := jb_some H
  refine AT.callV (As := [(0, a1)]) (cl := 3) (b := (s a0 5)) (st := []) (i := 226) (pos := 4050) kSe_isMould (by decide +kernel) rfl (by decide +kernel) rfl rfl (by omega) (Se_isMould_ok h1) ?_
  show AT sJc_fillings 3 (8, [(4, a0), (0, a1)], [(0, v1)], s1) o
  refine AT.ite (x := (0, 0, 0)) (by decide +kernel) (show jbr (.ifCond .ne 9) (8, [(4, a0), (0, a1)], [(0, v1)], s1) = some ((w32 v1) = 0, (11, [(4, a0), (0, a1)], [], s1), (17, [(4, a0), (0, a1)], [], s1)) from rfl) H (fun H => ?_) (fun H => ?_)
  · refine AT.seq [(11, .aload_n 0, 1, (0, 0, 0)), (12, .iconst 2, 1, (0, 0, 0))] (by decide +kernel) (show jrun _ (11, [(4, a0), (0, a1)], [], s1) = some ([], (13, [(4, a0), (0, a1)], [(0, 2), (4, a0)], s1)) from rfl) ?_
    obtain ⟨v2, s2, h2, H⟩ := jb_some H
    refine AT.callV (As := [(0, 2)]) (cl := 0) (b := a0) (st := []) (i := 123) (pos := 3066) kJc_refuse (by decide +kernel) rfl (by decide +kernel) rfl rfl (by omega) (Jc_refuse_ok h2) ?_
    show AT sJc_fillings 3 (16, [(4, a0), (0, a1)], [(0, v2)], s2) o
    exact AT.retiH (by decide +kernel) H
  · refine AT.blk (g := jok 3 (s1 a0 5) = true ∧ jok 3 (s1 a0 5) = true ∧ (0 ≤ (w32 a1) ∧ (w32 a1) < 5)) [(17, .aload_n 0, 1, (0, 0, 0)), (18, .getfield 54, 3, (2214, 14, 0)), (21, .aload_n 0, 1, (0, 0, 0)), (22, .getfield 19, 3, (2205, 5, 0)), (25, .aload_n 0, 1, (0, 0, 0)), (26, .getfield 19, 3, (2205, 5, 0)), (29, .getfield 229, 3, (1217, 312, 0)), (32, .iload_n 1, 1, (0, 0, 0)), (33, .aaload, 1, (0, 0, 0)), (34, .getfield 238, 3, (1116, 201, 0)), (37, .iconst 1, 1, (0, 0, 0))] (by decide +kernel) (show jrun _ (17, [(4, a0), (0, a1)], [], s1) = some ([jok 3 (s1 a0 5) = true, jok 3 (s1 a0 5) = true, (0 ≤ (w32 a1) ∧ (w32 a1) < 5)], (38, [(4, a0), (0, a1)], [(0, 1), (0, (s1 (((s1 a0 5) + 4) + 11 + 2 * (w32 a1)) 1)), (7, (s1 a0 5)), (12, (a0 + 16))], s1)) from rfl) (fun h => ⟨h.1, h.2.1, h.2.2⟩) H (fun H => ?_)
    obtain ⟨v3, s3, h3, H⟩ := jb_some H
    refine AT.callV (As := [(7, (s1 a0 5)), (0, (s1 (((s1 a0 5) + 4) + 11 + 2 * (w32 a1)) 1)), (0, 1)]) (cl := 8) (b := (a0 + 16)) (st := []) (i := 319) (pos := 4222) kFi_countWays (by decide +kernel) rfl (by decide +kernel) rfl rfl (by omega) (Fi_countWays_ok h3) ?_
    show AT sJc_fillings 3 (41, [(4, a0), (0, a1)], [], s3) o
    refine AT.seq [(41, .aload_n 0, 1, (0, 0, 0)), (42, .aload_n 0, 1, (0, 0, 0)), (43, .getfield 54, 3, (2214, 14, 0))] (by decide +kernel) (show jrun _ (41, [(4, a0), (0, a1)], [], s3) = some ([], (46, [(4, a0), (0, a1)], [(12, (a0 + 16)), (4, a0)], s3)) from rfl) ?_
    obtain ⟨v4, s4, h4, H⟩ := jb_some H
    refine AT.callV (As := []) (cl := 8) (b := (a0 + 16)) (st := [(4, a0)]) (i := 326) (pos := 4234) kFi_allWays (by decide +kernel) rfl (by decide +kernel) rfl rfl (by omega) (Fi_allWays_ok h4) ?_
    show AT sJc_fillings 3 (49, [(4, a0), (0, a1)], [(0, v4), (4, a0)], s4) o
    obtain ⟨v5, s5, h5, H⟩ := jb_some H
    refine AT.callV (As := [(0, v4)]) (cl := 0) (b := a0) (st := []) (i := 170) (pos := 3215) kJc_answer (by decide +kernel) rfl (by decide +kernel) rfl rfl (by omega) (Jc_answer_ok h5) ?_
    show AT sJc_fillings 3 (52, [(4, a0), (0, a1)], [(0, v5)], s5) o
    exact AT.retiH (by decide +kernel) H
def sJc_shaken : jS := (⟨"JellyCathedral", "shaken", "(II)I"⟩, prog_1_method_35_code, 4, 1, [4, 0, 0], 0)
theorem kJc_shaken : jmk sJc_shaken = true := jmk_of 5001 1001 4239 5000 (by decide +kernel)
set_option maxRecDepth 100000 in
theorem Jc_shaken_ok {a0 a1 a2 : Int} {s : jM} {o : Int × jM} (H : Jc_shaken a0 a1 a2 s = some o) : MK sJc_shaken 2 [(4, a0), (0, a1), (0, a2)] s o := by
  refine MK.of kJc_shaken rfl ?_
  show AT sJc_shaken 2 (0, [(4, a0), (0, a1), (0, a2), (99, 0)], [], s) o
  unfold Jc_shaken at H
  refine AT.blk (g := jok 3 (s a0 5) = true) [(0, .aload_n 0, 1, (0, 0, 0)), (1, .getfield 19, 3, (2205, 5, 0)), (4, .iload_n 1, 1, (0, 0, 0))] (by decide +kernel) (show jrun _ (0, [(4, a0), (0, a1), (0, a2), (99, 0)], [], s) = some ([jok 3 (s a0 5) = true], (5, [(4, a0), (0, a1), (0, a2), (99, 0)], [(0, a1), (7, (s a0 5))], s)) from rfl) (fun h => h) H (fun H => ?_)
  obtain ⟨v1, s1, h1, H⟩ := jb_some H
  refine AT.callV (As := [(0, a1)]) (cl := 3) (b := (s a0 5)) (st := []) (i := 278) (pos := 4112) kSe_isPlace (by decide +kernel) rfl (by decide +kernel) rfl rfl (by omega) (Se_isPlace_ok h1) ?_
  show AT sJc_shaken 2 (8, [(4, a0), (0, a1), (0, a2), (99, 0)], [(0, v1)], s1) o
  refine AT.ite (x := (0, 0, 0)) (by decide +kernel) (show jbr (.ifCond .eq 14) (8, [(4, a0), (0, a1), (0, a2), (99, 0)], [(0, v1)], s1) = some ((w32 v1) = 0, (22, [(4, a0), (0, a1), (0, a2), (99, 0)], [], s1), (11, [(4, a0), (0, a1), (0, a2), (99, 0)], [], s1)) from rfl) H (fun H => ?_) (fun H => ?_)
  · refine AT.seq [(22, .aload_n 0, 1, (0, 0, 0)), (23, .iconst 2, 1, (0, 0, 0))] (by decide +kernel) (show jrun _ (22, [(4, a0), (0, a1), (0, a2), (99, 0)], [], s1) = some ([], (24, [(4, a0), (0, a1), (0, a2), (99, 0)], [(0, 2), (4, a0)], s1)) from rfl) ?_
    obtain ⟨v2, s2, h2, H⟩ := jb_some H
    refine AT.callV (As := [(0, 2)]) (cl := 0) (b := a0) (st := []) (i := 123) (pos := 3066) kJc_refuse (by decide +kernel) rfl (by decide +kernel) rfl rfl (by omega) (Jc_refuse_ok h2) ?_
    show AT sJc_shaken 2 (27, [(4, a0), (0, a1), (0, a2), (99, 0)], [(0, v2)], s2) o
    exact AT.retiH (by decide +kernel) H
  · refine AT.blk (g := jok 3 (s1 a0 5) = true) [(11, .aload_n 0, 1, (0, 0, 0)), (12, .getfield 19, 3, (2205, 5, 0)), (15, .iload_n 2, 1, (0, 0, 0))] (by decide +kernel) (show jrun _ (11, [(4, a0), (0, a1), (0, a2), (99, 0)], [], s1) = some ([jok 3 (s1 a0 5) = true], (16, [(4, a0), (0, a1), (0, a2), (99, 0)], [(0, a2), (7, (s1 a0 5))], s1)) from rfl) (fun h => h) H (fun H => ?_)
    obtain ⟨v3, s3, h3, H⟩ := jb_some H
    refine AT.callV (As := [(0, a2)]) (cl := 3) (b := (s1 a0 5)) (st := []) (i := 278) (pos := 4112) kSe_isPlace (by decide +kernel) rfl (by decide +kernel) rfl rfl (by omega) (Se_isPlace_ok h3) ?_
    show AT sJc_shaken 2 (19, [(4, a0), (0, a1), (0, a2), (99, 0)], [(0, v3)], s3) o
    refine AT.ite (x := (0, 0, 0)) (by decide +kernel) (show jbr (.ifCond .ne 9) (19, [(4, a0), (0, a1), (0, a2), (99, 0)], [(0, v3)], s3) = some ((w32 v3) = 0, (22, [(4, a0), (0, a1), (0, a2), (99, 0)], [], s3), (28, [(4, a0), (0, a1), (0, a2), (99, 0)], [], s3)) from rfl) H (fun H => ?_) (fun H => ?_)
    · refine AT.seq [(22, .aload_n 0, 1, (0, 0, 0)), (23, .iconst 2, 1, (0, 0, 0))] (by decide +kernel) (show jrun _ (22, [(4, a0), (0, a1), (0, a2), (99, 0)], [], s3) = some ([], (24, [(4, a0), (0, a1), (0, a2), (99, 0)], [(0, 2), (4, a0)], s3)) from rfl) ?_
      obtain ⟨v4, s4, h4, H⟩ := jb_some H
      refine AT.callV (As := [(0, 2)]) (cl := 0) (b := a0) (st := []) (i := 123) (pos := 3066) kJc_refuse (by decide +kernel) rfl (by decide +kernel) rfl rfl (by omega) (Jc_refuse_ok h4) ?_
      show AT sJc_shaken 2 (27, [(4, a0), (0, a1), (0, a2), (99, 0)], [(0, v4)], s4) o
      exact AT.retiH (by decide +kernel) H
    · refine AT.blk (g := jok 3 (s3 a0 5) = true) [(28, .aload_n 0, 1, (0, 0, 0)), (29, .getfield 19, 3, (2205, 5, 0)), (32, .iload_n 1, 1, (0, 0, 0)), (33, .iload_n 2, 1, (0, 0, 0))] (by decide +kernel) (show jrun _ (28, [(4, a0), (0, a1), (0, a2), (99, 0)], [], s3) = some ([jok 3 (s3 a0 5) = true], (34, [(4, a0), (0, a1), (0, a2), (99, 0)], [(0, a2), (0, a1), (7, (s3 a0 5))], s3)) from rfl) (fun h => h) H (fun H => ?_)
      obtain ⟨v5, s5, h5, H⟩ := jb_some H
      refine AT.callV (As := [(0, a1), (0, a2)]) (cl := 3) (b := (s3 a0 5)) (st := []) (i := 281) (pos := 4116) kSe_shakesBetween (by decide +kernel) rfl (by decide +kernel) rfl rfl (by omega) (Se_shakesBetween_ok h5) ?_
      show AT sJc_shaken 2 (37, [(4, a0), (0, a1), (0, a2), (99, 0)], [(0, v5)], s5) o
      refine AT.seq [(37, .istore_n 3, 1, (0, 0, 0)), (38, .iload_n 3, 1, (0, 0, 0)), (39, .iconst (-1), 1, (0, 0, 0))] (by decide +kernel) (show jrun _ (37, [(4, a0), (0, a1), (0, a2), (99, 0)], [(0, v5)], s5) = some ([], (40, [(4, a0), (0, a1), (0, a2), (0, v5)], [(0, (-1)), (0, v5)], s5)) from rfl) ?_
      refine AT.ite (x := (0, 0, 0)) (by decide +kernel) (show jbr (.if_icmp .ne 12) (40, [(4, a0), (0, a1), (0, a2), (0, v5)], [(0, (-1)), (0, v5)], s5) = some ((w32 v5) = (-1), (43, [(4, a0), (0, a1), (0, a2), (0, v5)], [], s5), (52, [(4, a0), (0, a1), (0, a2), (0, v5)], [], s5)) from rfl) H (fun H => ?_) (fun H => ?_)
      · refine AT.seq [(43, .aload_n 0, 1, (0, 0, 0)), (44, .bipush 8, 2, (0, 0, 0))] (by decide +kernel) (show jrun _ (43, [(4, a0), (0, a1), (0, a2), (0, v5)], [], s5) = some ([], (46, [(4, a0), (0, a1), (0, a2), (0, v5)], [(0, 8), (4, a0)], s5)) from rfl) ?_
        obtain ⟨v6, s6, h6, H⟩ := jb_some H
        refine AT.callV (As := [(0, 8)]) (cl := 0) (b := a0) (st := []) (i := 123) (pos := 3066) kJc_refuse (by decide +kernel) rfl (by decide +kernel) rfl rfl (by omega) (Jc_refuse_ok h6) ?_
        show AT sJc_shaken 2 (49, [(4, a0), (0, a1), (0, a2), (0, v5)], [(0, v6)], s6) o
        refine AT.seq [(49, .goto 8, 3, (0, 0, 0))] (by decide +kernel) (show jrun _ (49, [(4, a0), (0, a1), (0, a2), (0, v5)], [(0, v6)], s6) = some ([], (57, [(4, a0), (0, a1), (0, a2), (0, v5)], [(0, v6)], s6)) from rfl) ?_
        exact AT.retiH (by decide +kernel) H
      · refine AT.seq [(52, .aload_n 0, 1, (0, 0, 0)), (53, .iload_n 3, 1, (0, 0, 0))] (by decide +kernel) (show jrun _ (52, [(4, a0), (0, a1), (0, a2), (0, v5)], [], s5) = some ([], (54, [(4, a0), (0, a1), (0, a2), (0, v5)], [(0, v5), (4, a0)], s5)) from rfl) ?_
        obtain ⟨v7, s7, h7, H⟩ := jb_some H
        refine AT.callV (As := [(0, v5)]) (cl := 0) (b := a0) (st := []) (i := 170) (pos := 3215) kJc_answer (by decide +kernel) rfl (by decide +kernel) rfl rfl (by omega) (Jc_answer_ok h7) ?_
        show AT sJc_shaken 2 (57, [(4, a0), (0, a1), (0, a2), (0, v5)], [(0, v7)], s7) o
        exact AT.retiH (by decide +kernel) H
def sJc_way : jS := (⟨"JellyCathedral", "way", "(III)I"⟩, prog_1_method_36_code, 5, 1, [4, 0, 0, 0], 0)
theorem kJc_way : jmk sJc_way = true := jmk_of 5005 1001 5003 5004 (by decide +kernel)
set_option maxRecDepth 100000 in
theorem Jc_way_ok {a0 a1 a2 a3 : Int} {s : jM} {o : Int × jM} (H : Jc_way a0 a1 a2 a3 s = some o) : MK sJc_way 3 [(4, a0), (0, a1), (0, a2), (0, a3)] s o := by
  refine MK.of kJc_way rfl ?_
  show AT sJc_way 3 (0, [(4, a0), (0, a1), (0, a2), (0, a3), (99, 0)], [], s) o
  unfold Jc_way at H
  refine AT.blk (g := jok 3 (s a0 5) = true) [(0, .aload_n 0, 1, (0, 0, 0)), (1, .getfield 19, 3, (2205, 5, 0)), (4, .iload_n 1, 1, (0, 0, 0))] (by decide +kernel) (show jrun _ (0, [(4, a0), (0, a1), (0, a2), (0, a3), (99, 0)], [], s) = some ([jok 3 (s a0 5) = true], (5, [(4, a0), (0, a1), (0, a2), (0, a3), (99, 0)], [(0, a1), (7, (s a0 5))], s)) from rfl) (fun h => h) H (fun H => ?_)
  obtain ⟨v1, s1, h1, H⟩ := jb_some H
  refine AT.callV (As := [(0, a1)]) (cl := 3) (b := (s a0 5)) (st := []) (i := 278) (pos := 4112) kSe_isPlace (by decide +kernel) rfl (by decide +kernel) rfl rfl (by omega) (Se_isPlace_ok h1) ?_
  show AT sJc_way 3 (8, [(4, a0), (0, a1), (0, a2), (0, a3), (99, 0)], [(0, v1)], s1) o
  refine AT.ite (x := (0, 0, 0)) (by decide +kernel) (show jbr (.ifCond .eq 14) (8, [(4, a0), (0, a1), (0, a2), (0, a3), (99, 0)], [(0, v1)], s1) = some ((w32 v1) = 0, (22, [(4, a0), (0, a1), (0, a2), (0, a3), (99, 0)], [], s1), (11, [(4, a0), (0, a1), (0, a2), (0, a3), (99, 0)], [], s1)) from rfl) H (fun H => ?_) (fun H => ?_)
  · refine AT.seq [(22, .aload_n 0, 1, (0, 0, 0)), (23, .iconst 2, 1, (0, 0, 0))] (by decide +kernel) (show jrun _ (22, [(4, a0), (0, a1), (0, a2), (0, a3), (99, 0)], [], s1) = some ([], (24, [(4, a0), (0, a1), (0, a2), (0, a3), (99, 0)], [(0, 2), (4, a0)], s1)) from rfl) ?_
    obtain ⟨v2, s2, h2, H⟩ := jb_some H
    refine AT.callV (As := [(0, 2)]) (cl := 0) (b := a0) (st := []) (i := 123) (pos := 3066) kJc_refuse (by decide +kernel) rfl (by decide +kernel) rfl rfl (by omega) (Jc_refuse_ok h2) ?_
    show AT sJc_way 3 (27, [(4, a0), (0, a1), (0, a2), (0, a3), (99, 0)], [(0, v2)], s2) o
    exact AT.retiH (by decide +kernel) H
  · refine AT.blk (g := jok 3 (s1 a0 5) = true) [(11, .aload_n 0, 1, (0, 0, 0)), (12, .getfield 19, 3, (2205, 5, 0)), (15, .iload_n 2, 1, (0, 0, 0))] (by decide +kernel) (show jrun _ (11, [(4, a0), (0, a1), (0, a2), (0, a3), (99, 0)], [], s1) = some ([jok 3 (s1 a0 5) = true], (16, [(4, a0), (0, a1), (0, a2), (0, a3), (99, 0)], [(0, a2), (7, (s1 a0 5))], s1)) from rfl) (fun h => h) H (fun H => ?_)
    obtain ⟨v3, s3, h3, H⟩ := jb_some H
    refine AT.callV (As := [(0, a2)]) (cl := 3) (b := (s1 a0 5)) (st := []) (i := 278) (pos := 4112) kSe_isPlace (by decide +kernel) rfl (by decide +kernel) rfl rfl (by omega) (Se_isPlace_ok h3) ?_
    show AT sJc_way 3 (19, [(4, a0), (0, a1), (0, a2), (0, a3), (99, 0)], [(0, v3)], s3) o
    refine AT.ite (x := (0, 0, 0)) (by decide +kernel) (show jbr (.ifCond .ne 9) (19, [(4, a0), (0, a1), (0, a2), (0, a3), (99, 0)], [(0, v3)], s3) = some ((w32 v3) = 0, (22, [(4, a0), (0, a1), (0, a2), (0, a3), (99, 0)], [], s3), (28, [(4, a0), (0, a1), (0, a2), (0, a3), (99, 0)], [], s3)) from rfl) H (fun H => ?_) (fun H => ?_)
    · refine AT.seq [(22, .aload_n 0, 1, (0, 0, 0)), (23, .iconst 2, 1, (0, 0, 0))] (by decide +kernel) (show jrun _ (22, [(4, a0), (0, a1), (0, a2), (0, a3), (99, 0)], [], s3) = some ([], (24, [(4, a0), (0, a1), (0, a2), (0, a3), (99, 0)], [(0, 2), (4, a0)], s3)) from rfl) ?_
      obtain ⟨v4, s4, h4, H⟩ := jb_some H
      refine AT.callV (As := [(0, 2)]) (cl := 0) (b := a0) (st := []) (i := 123) (pos := 3066) kJc_refuse (by decide +kernel) rfl (by decide +kernel) rfl rfl (by omega) (Jc_refuse_ok h4) ?_
      show AT sJc_way 3 (27, [(4, a0), (0, a1), (0, a2), (0, a3), (99, 0)], [(0, v4)], s4) o
      exact AT.retiH (by decide +kernel) H
    · refine AT.blk (g := jok 3 (s3 a0 5) = true) [(28, .aload_n 0, 1, (0, 0, 0)), (29, .getfield 19, 3, (2205, 5, 0)), (32, .iload_n 1, 1, (0, 0, 0)), (33, .iload_n 2, 1, (0, 0, 0)), (34, .iload_n 3, 1, (0, 0, 0))] (by decide +kernel) (show jrun _ (28, [(4, a0), (0, a1), (0, a2), (0, a3), (99, 0)], [], s3) = some ([jok 3 (s3 a0 5) = true], (35, [(4, a0), (0, a1), (0, a2), (0, a3), (99, 0)], [(0, a3), (0, a2), (0, a1), (7, (s3 a0 5))], s3)) from rfl) (fun h => h) H (fun H => ?_)
      obtain ⟨v5, s5, h5, H⟩ := jb_some H
      refine AT.callV (As := [(0, a1), (0, a2), (0, a3)]) (cl := 3) (b := (s3 a0 5)) (st := []) (i := 329) (pos := 5006) kSe_placeOnWay (by decide +kernel) rfl (by decide +kernel) rfl rfl (by omega) (Se_placeOnWay_ok h5) ?_
      show AT sJc_way 3 (38, [(4, a0), (0, a1), (0, a2), (0, a3), (99, 0)], [(0, v5)], s5) o
      refine AT.seq [(38, .istore 4, 2, (0, 0, 0)), (40, .iload 4, 2, (0, 0, 0)), (42, .iconst (-1), 1, (0, 0, 0))] (by decide +kernel) (show jrun _ (38, [(4, a0), (0, a1), (0, a2), (0, a3), (99, 0)], [(0, v5)], s5) = some ([], (43, [(4, a0), (0, a1), (0, a2), (0, a3), (0, v5)], [(0, (-1)), (0, v5)], s5)) from rfl) ?_
      refine AT.ite (x := (0, 0, 0)) (by decide +kernel) (show jbr (.if_icmp .ne 12) (43, [(4, a0), (0, a1), (0, a2), (0, a3), (0, v5)], [(0, (-1)), (0, v5)], s5) = some ((w32 v5) = (-1), (46, [(4, a0), (0, a1), (0, a2), (0, a3), (0, v5)], [], s5), (55, [(4, a0), (0, a1), (0, a2), (0, a3), (0, v5)], [], s5)) from rfl) H (fun H => ?_) (fun H => ?_)
      · refine AT.seq [(46, .aload_n 0, 1, (0, 0, 0)), (47, .bipush 8, 2, (0, 0, 0))] (by decide +kernel) (show jrun _ (46, [(4, a0), (0, a1), (0, a2), (0, a3), (0, v5)], [], s5) = some ([], (49, [(4, a0), (0, a1), (0, a2), (0, a3), (0, v5)], [(0, 8), (4, a0)], s5)) from rfl) ?_
        obtain ⟨v6, s6, h6, H⟩ := jb_some H
        refine AT.callV (As := [(0, 8)]) (cl := 0) (b := a0) (st := []) (i := 123) (pos := 3066) kJc_refuse (by decide +kernel) rfl (by decide +kernel) rfl rfl (by omega) (Jc_refuse_ok h6) ?_
        show AT sJc_way 3 (52, [(4, a0), (0, a1), (0, a2), (0, a3), (0, v5)], [(0, v6)], s6) o
        refine AT.seq [(52, .goto 9, 3, (0, 0, 0))] (by decide +kernel) (show jrun _ (52, [(4, a0), (0, a1), (0, a2), (0, a3), (0, v5)], [(0, v6)], s6) = some ([], (61, [(4, a0), (0, a1), (0, a2), (0, a3), (0, v5)], [(0, v6)], s6)) from rfl) ?_
        exact AT.retiH (by decide +kernel) H
      · refine AT.seq [(55, .aload_n 0, 1, (0, 0, 0)), (56, .iload 4, 2, (0, 0, 0))] (by decide +kernel) (show jrun _ (55, [(4, a0), (0, a1), (0, a2), (0, a3), (0, v5)], [], s5) = some ([], (58, [(4, a0), (0, a1), (0, a2), (0, a3), (0, v5)], [(0, v5), (4, a0)], s5)) from rfl) ?_
        obtain ⟨v7, s7, h7, H⟩ := jb_some H
        refine AT.callV (As := [(0, v5)]) (cl := 0) (b := a0) (st := []) (i := 170) (pos := 3215) kJc_answer (by decide +kernel) rfl (by decide +kernel) rfl rfl (by omega) (Jc_answer_ok h7) ?_
        show AT sJc_way 3 (61, [(4, a0), (0, a1), (0, a2), (0, a3), (0, v5)], [(0, v7)], s7) o
        exact AT.retiH (by decide +kernel) H
def sJc_reach : jS := (⟨"JellyCathedral", "reach", "(I)I"⟩, prog_1_method_37_code, 6, 1, [4, 0], 0)
theorem kJc_reach : jmk sJc_reach = true := jmk_of 5017 1001 5015 5016 (by decide +kernel)
set_option maxRecDepth 100000 in
theorem Jc_reach_47_ok {o : Int × jM} : ∀ (n : Nat) (x0 x2 x3 x4 : Int) (s : jM), Jc_reach_47  n x0 x2 x3 x4 s = some o → AT sJc_reach 2 (47, [(4, x0), (99, 0), (6, x2), (0, x3), (0, x4), (99, 0)], [], s) o := by
  intro n
  induction n with
  | zero =>
    intro x0 x2 x3 x4 s H
    have H : (none : Option (Int × jM)) = some o := H
    cases H
  | succ n ih =>
    intro x0 x2 x3 x4 s H
    rw [Jc_reach_47] at H
    refine AT.blk (g := jok 3 (s x0 5) = true) [(47, .iload 4, 2, (0, 0, 0)), (49, .aload_n 0, 1, (0, 0, 0)), (50, .getfield 19, 3, (2205, 5, 0)), (53, .getfield 192, 3, (1191, 305, 0))] (by decide +kernel) (show jrun _ (47, [(4, x0), (99, 0), (6, x2), (0, x3), (0, x4), (99, 0)], [], s) = some ([jok 3 (s x0 5) = true], (56, [(4, x0), (99, 0), (6, x2), (0, x3), (0, x4), (99, 0)], [(0, (s (s x0 5) 5)), (0, x4)], s)) from rfl) (fun h => h) H (fun H => ?_)
    refine AT.ite (x := (0, 0, 0)) (by decide +kernel) (show jbr (.if_icmp .ge 51) (56, [(4, x0), (99, 0), (6, x2), (0, x3), (0, x4), (99, 0)], [(0, (s (s x0 5) 5)), (0, x4)], s) = some ((w32 x4) < (w32 (s (s x0 5) 5)), (59, [(4, x0), (99, 0), (6, x2), (0, x3), (0, x4), (99, 0)], [], s), (107, [(4, x0), (99, 0), (6, x2), (0, x3), (0, x4), (99, 0)], [], s)) from rfl) H (fun H => ?_) (fun H => ?_)
    · refine AT.blk (g := jok 3 (s x0 5) = true) [(59, .aload_n 0, 1, (0, 0, 0)), (60, .getfield 19, 3, (2205, 5, 0)), (63, .aload_n 2, 1, (0, 0, 0)), (64, .getfield 241, 3, (1121, 202, 0)), (67, .iload 4, 2, (0, 0, 0))] (by decide +kernel) (show jrun _ (59, [(4, x0), (99, 0), (6, x2), (0, x3), (0, x4), (99, 0)], [], s) = some ([jok 3 (s x0 5) = true], (69, [(4, x0), (99, 0), (6, x2), (0, x3), (0, x4), (99, 0)], [(0, x4), (0, (s x2 2)), (7, (s x0 5))], s)) from rfl) (fun h => h) H (fun H => ?_)
      obtain ⟨v1, s1, h1, H⟩ := jb_some H
      refine AT.callV (As := [(0, (s x2 2)), (0, x4)]) (cl := 3) (b := (s x0 5)) (st := []) (i := 281) (pos := 4116) kSe_shakesBetween (by decide +kernel) rfl (by decide +kernel) rfl rfl (by omega) (Se_shakesBetween_ok h1) ?_
      show AT sJc_reach 2 (72, [(4, x0), (99, 0), (6, x2), (0, x3), (0, x4), (99, 0)], [(0, v1)], s1) o
      refine AT.seq [(72, .istore 5, 2, (0, 0, 0)), (74, .iload 5, 2, (0, 0, 0)), (76, .iconst (-1), 1, (0, 0, 0))] (by decide +kernel) (show jrun _ (72, [(4, x0), (99, 0), (6, x2), (0, x3), (0, x4), (99, 0)], [(0, v1)], s1) = some ([], (77, [(4, x0), (99, 0), (6, x2), (0, x3), (0, x4), (0, v1)], [(0, (-1)), (0, v1)], s1)) from rfl) ?_
      refine AT.ite (x := (0, 0, 0)) (by decide +kernel) (show jbr (.if_icmp .eq 24) (77, [(4, x0), (99, 0), (6, x2), (0, x3), (0, x4), (0, v1)], [(0, (-1)), (0, v1)], s1) = some ((w32 v1) = (-1), (101, [(4, x0), (99, 0), (6, x2), (0, x3), (0, x4), (0, v1)], [], s1), (80, [(4, x0), (99, 0), (6, x2), (0, x3), (0, x4), (0, v1)], [], s1)) from rfl) H (fun H => ?_) (fun H => ?_)
      · refine AT.seq [(101, .iinc 4 1, 3, (0, 0, 0)), (104, .goto (-57), 3, (0, 0, 0))] (by decide +kernel) (show jrun _ (101, [(4, x0), (99, 0), (6, x2), (0, x3), (0, x4), (0, v1)], [], s1) = some ([], (47, [(4, x0), (99, 0), (6, x2), (0, x3), (0, (x4 + 1)), (0, v1)], [], s1)) from rfl) ?_
        exact AT.weak (L' := [(4, x0), (99, 0), (6, x2), (0, x3), (0, (x4 + 1)), (99, 0)]) (jleK (jleK (jleK (jleK (jleK (jleJ jle0)))))) (ih _ _ _ _ _ H)
      · refine AT.seq [(80, .aload_n 2, 1, (0, 0, 0)), (81, .getfield 247, 3, (1130, 204, 0)), (84, .iload 5, 2, (0, 0, 0)), (86, .isub, 1, (0, 0, 0)), (87, .aload_n 2, 1, (0, 0, 0)), (88, .getfield 233, 3, (1111, 200, 0))] (by decide +kernel) (show jrun _ (80, [(4, x0), (99, 0), (6, x2), (0, x3), (0, x4), (0, v1)], [], s1) = some ([], (91, [(4, x0), (99, 0), (6, x2), (0, x3), (0, x4), (0, v1)], [(0, (s1 x2 0)), (0, ((s1 x2 4) - v1))], s1)) from rfl) ?_
        refine AT.ite (x := (0, 0, 0)) (by decide +kernel) (show jbr (.if_icmp .lt 10) (91, [(4, x0), (99, 0), (6, x2), (0, x3), (0, x4), (0, v1)], [(0, (s1 x2 0)), (0, ((s1 x2 4) - v1))], s1) = some ((w32 ((s1 x2 4) - v1)) < (w32 (s1 x2 0)), (101, [(4, x0), (99, 0), (6, x2), (0, x3), (0, x4), (0, v1)], [], s1), (94, [(4, x0), (99, 0), (6, x2), (0, x3), (0, x4), (0, v1)], [], s1)) from rfl) H (fun H => ?_) (fun H => ?_)
        · refine AT.seq [(101, .iinc 4 1, 3, (0, 0, 0)), (104, .goto (-57), 3, (0, 0, 0))] (by decide +kernel) (show jrun _ (101, [(4, x0), (99, 0), (6, x2), (0, x3), (0, x4), (0, v1)], [], s1) = some ([], (47, [(4, x0), (99, 0), (6, x2), (0, x3), (0, (x4 + 1)), (0, v1)], [], s1)) from rfl) ?_
          exact AT.weak (L' := [(4, x0), (99, 0), (6, x2), (0, x3), (0, (x4 + 1)), (99, 0)]) (jleK (jleK (jleK (jleK (jleK (jleJ jle0)))))) (ih _ _ _ _ _ H)
        · refine AT.seq [(94, .iload_n 3, 1, (0, 0, 0)), (95, .iconst 1, 1, (0, 0, 0)), (96, .iload 4, 2, (0, 0, 0)), (98, .ishl, 1, (0, 0, 0)), (99, .ior, 1, (0, 0, 0)), (100, .istore_n 3, 1, (0, 0, 0)), (101, .iinc 4 1, 3, (0, 0, 0)), (104, .goto (-57), 3, (0, 0, 0))] (by decide +kernel) (show jrun _ (94, [(4, x0), (99, 0), (6, x2), (0, x3), (0, x4), (0, v1)], [], s1) = some ([], (47, [(4, x0), (99, 0), (6, x2), (0, (jior x3 (jishl 1 x4))), (0, (x4 + 1)), (0, v1)], [], s1)) from rfl) ?_
          exact AT.weak (L' := [(4, x0), (99, 0), (6, x2), (0, (jior x3 (jishl 1 x4))), (0, (x4 + 1)), (99, 0)]) (jleK (jleK (jleK (jleK (jleK (jleJ jle0)))))) (ih _ _ _ _ _ H)
    · refine AT.seq [(107, .aload_n 0, 1, (0, 0, 0)), (108, .iload_n 3, 1, (0, 0, 0))] (by decide +kernel) (show jrun _ (107, [(4, x0), (99, 0), (6, x2), (0, x3), (0, x4), (99, 0)], [], s) = some ([], (109, [(4, x0), (99, 0), (6, x2), (0, x3), (0, x4), (99, 0)], [(0, x3), (4, x0)], s)) from rfl) ?_
      obtain ⟨v2, s2, h2, H⟩ := jb_some H
      refine AT.callV (As := [(0, x3)]) (cl := 0) (b := x0) (st := []) (i := 170) (pos := 3215) kJc_answer (by decide +kernel) rfl (by decide +kernel) rfl rfl (by omega) (Jc_answer_ok h2) ?_
      show AT sJc_reach 2 (112, [(4, x0), (99, 0), (6, x2), (0, x3), (0, x4), (99, 0)], [(0, v2)], s2) o
      exact AT.retiH (by decide +kernel) H
set_option maxRecDepth 100000 in
theorem Jc_reach_ok {a0 a1 : Int} {s : jM} {o : Int × jM} (H : Jc_reach a0 a1 s = some o) : MK sJc_reach 2 [(4, a0), (0, a1)] s o := by
  refine MK.of kJc_reach rfl ?_
  show AT sJc_reach 2 (0, [(4, a0), (0, a1), (99, 0), (99, 0), (99, 0), (99, 0)], [], s) o
  unfold Jc_reach at H
  refine AT.blk (g := jok 3 (s a0 5) = true) [(0, .aload_n 0, 1, (0, 0, 0)), (1, .getfield 19, 3, (2205, 5, 0)), (4, .iload_n 1, 1, (0, 0, 0))] (by decide +kernel) (show jrun _ (0, [(4, a0), (0, a1), (99, 0), (99, 0), (99, 0), (99, 0)], [], s) = some ([jok 3 (s a0 5) = true], (5, [(4, a0), (0, a1), (99, 0), (99, 0), (99, 0), (99, 0)], [(0, a1), (7, (s a0 5))], s)) from rfl) (fun h => h) H (fun H => ?_)
  obtain ⟨v3, s3, h3, H⟩ := jb_some H
  refine AT.callV (As := [(0, a1)]) (cl := 3) (b := (s a0 5)) (st := []) (i := 226) (pos := 4050) kSe_isMould (by decide +kernel) rfl (by decide +kernel) rfl rfl (by omega) (Se_isMould_ok h3) ?_
  show AT sJc_reach 2 (8, [(4, a0), (0, a1), (99, 0), (99, 0), (99, 0), (99, 0)], [(0, v3)], s3) o
  refine AT.ite (x := (0, 0, 0)) (by decide +kernel) (show jbr (.ifCond .ne 9) (8, [(4, a0), (0, a1), (99, 0), (99, 0), (99, 0), (99, 0)], [(0, v3)], s3) = some ((w32 v3) = 0, (11, [(4, a0), (0, a1), (99, 0), (99, 0), (99, 0), (99, 0)], [], s3), (17, [(4, a0), (0, a1), (99, 0), (99, 0), (99, 0), (99, 0)], [], s3)) from rfl) H (fun H => ?_) (fun H => ?_)
  · refine AT.seq [(11, .aload_n 0, 1, (0, 0, 0)), (12, .iconst 2, 1, (0, 0, 0))] (by decide +kernel) (show jrun _ (11, [(4, a0), (0, a1), (99, 0), (99, 0), (99, 0), (99, 0)], [], s3) = some ([], (13, [(4, a0), (0, a1), (99, 0), (99, 0), (99, 0), (99, 0)], [(0, 2), (4, a0)], s3)) from rfl) ?_
    obtain ⟨v4, s4, h4, H⟩ := jb_some H
    refine AT.callV (As := [(0, 2)]) (cl := 0) (b := a0) (st := []) (i := 123) (pos := 3066) kJc_refuse (by decide +kernel) rfl (by decide +kernel) rfl rfl (by omega) (Jc_refuse_ok h4) ?_
    show AT sJc_reach 2 (16, [(4, a0), (0, a1), (99, 0), (99, 0), (99, 0), (99, 0)], [(0, v4)], s4) o
    exact AT.retiH (by decide +kernel) H
  · refine AT.blk (g := jok 3 (s3 a0 5) = true ∧ (0 ≤ (w32 a1) ∧ (w32 a1) < 5)) [(17, .aload_n 0, 1, (0, 0, 0)), (18, .getfield 19, 3, (2205, 5, 0)), (21, .getfield 229, 3, (1217, 312, 0)), (24, .iload_n 1, 1, (0, 0, 0)), (25, .aaload, 1, (0, 0, 0)), (26, .astore_n 2, 1, (0, 0, 0)), (27, .aload_n 2, 1, (0, 0, 0)), (28, .getfield 244, 3, (1126, 203, 0)), (31, .iconst 2, 1, (0, 0, 0))] (by decide +kernel) (show jrun _ (17, [(4, a0), (0, a1), (99, 0), (99, 0), (99, 0), (99, 0)], [], s3) = some ([jok 3 (s3 a0 5) = true, (0 ≤ (w32 a1) ∧ (w32 a1) < 5)], (32, [(4, a0), (0, a1), (6, (((s3 a0 5) + 4) + 11 + 2 * (w32 a1))), (99, 0), (99, 0), (99, 0)], [(0, 2), (0, (s3 (((s3 a0 5) + 4) + 11 + 2 * (w32 a1)) 3))], s3)) from rfl) (fun h => ⟨h.1, h.2⟩) H (fun H => ?_)
    refine AT.ite (x := (0, 0, 0)) (by decide +kernel) (show jbr (.if_icmp .eq 10) (32, [(4, a0), (0, a1), (6, (((s3 a0 5) + 4) + 11 + 2 * (w32 a1))), (99, 0), (99, 0), (99, 0)], [(0, 2), (0, (s3 (((s3 a0 5) + 4) + 11 + 2 * (w32 a1)) 3))], s3) = some ((w32 (s3 (((s3 a0 5) + 4) + 11 + 2 * (w32 a1)) 3)) = 2, (42, [(4, a0), (0, a1), (6, (((s3 a0 5) + 4) + 11 + 2 * (w32 a1))), (99, 0), (99, 0), (99, 0)], [], s3), (35, [(4, a0), (0, a1), (6, (((s3 a0 5) + 4) + 11 + 2 * (w32 a1))), (99, 0), (99, 0), (99, 0)], [], s3)) from rfl) H (fun H => ?_) (fun H => ?_)
    · refine AT.seq [(42, .iconst 0, 1, (0, 0, 0)), (43, .istore_n 3, 1, (0, 0, 0)), (44, .iconst 0, 1, (0, 0, 0)), (45, .istore 4, 2, (0, 0, 0))] (by decide +kernel) (show jrun _ (42, [(4, a0), (0, a1), (6, (((s3 a0 5) + 4) + 11 + 2 * (w32 a1))), (99, 0), (99, 0), (99, 0)], [], s3) = some ([], (47, [(4, a0), (0, a1), (6, (((s3 a0 5) + 4) + 11 + 2 * (w32 a1))), (0, 0), (0, 0), (99, 0)], [], s3)) from rfl) ?_
      exact AT.weak (L' := [(4, a0), (99, 0), (6, (((s3 a0 5) + 4) + 11 + 2 * (w32 a1))), (0, 0), (0, 0), (99, 0)]) (jleK (jleJ (jleK (jleK (jleK (jleK jle0)))))) (Jc_reach_47_ok  jFU _ _ _ _ _ H)
    · refine AT.seq [(35, .aload_n 0, 1, (0, 0, 0)), (36, .bipush 9, 2, (0, 0, 0))] (by decide +kernel) (show jrun _ (35, [(4, a0), (0, a1), (6, (((s3 a0 5) + 4) + 11 + 2 * (w32 a1))), (99, 0), (99, 0), (99, 0)], [], s3) = some ([], (38, [(4, a0), (0, a1), (6, (((s3 a0 5) + 4) + 11 + 2 * (w32 a1))), (99, 0), (99, 0), (99, 0)], [(0, 9), (4, a0)], s3)) from rfl) ?_
      obtain ⟨v5, s5, h5, H⟩ := jb_some H
      refine AT.callV (As := [(0, 9)]) (cl := 0) (b := a0) (st := []) (i := 123) (pos := 3066) kJc_refuse (by decide +kernel) rfl (by decide +kernel) rfl rfl (by omega) (Jc_refuse_ok h5) ?_
      show AT sJc_reach 2 (41, [(4, a0), (0, a1), (6, (((s3 a0 5) + 4) + 11 + 2 * (w32 a1))), (99, 0), (99, 0), (99, 0)], [(0, v5)], s5) o
      exact AT.retiH (by decide +kernel) H
def sJc_fitsTrouble : jS := (⟨"JellyCathedral", "fitsTrouble", "(III)I"⟩, prog_1_method_59_code, 10, 1, [4, 0, 0, 0], 0)
theorem kJc_fitsTrouble : jmk sJc_fitsTrouble = true := jmk_of 5025 1001 5024 25 (by decide +kernel)
set_option maxRecDepth 100000 in
theorem Jc_fitsTrouble_68_ok {o : Int × jM} : ∀ (n : Nat) (x3 x4 x5 : Int) (s : jM), Jc_fitsTrouble_68  n x3 x4 x5 s = some o → AT sJc_fitsTrouble 1 (68, [(99, 0), (99, 0), (99, 0), (0, x3), (5, x4), (0, x5), (99, 0), (99, 0), (99, 0), (99, 0)], [], s) o := by
  intro n
  induction n with
  | zero =>
    intro x3 x4 x5 s H
    have H : (none : Option (Int × jM)) = some o := H
    cases H
  | succ n ih =>
    intro x3 x4 x5 s H
    rw [Jc_fitsTrouble_68] at H
    refine AT.seq [(68, .iload 5, 2, (0, 0, 0)), (70, .iload_n 3, 1, (0, 0, 0))] (by decide +kernel) (show jrun _ (68, [(99, 0), (99, 0), (99, 0), (0, x3), (5, x4), (0, x5), (99, 0), (99, 0), (99, 0), (99, 0)], [], s) = some ([], (71, [(99, 0), (99, 0), (99, 0), (0, x3), (5, x4), (0, x5), (99, 0), (99, 0), (99, 0), (99, 0)], [(0, x3), (0, x5)], s)) from rfl) ?_
    refine AT.ite (x := (0, 0, 0)) (by decide +kernel) (show jbr (.if_icmp .ge 69) (71, [(99, 0), (99, 0), (99, 0), (0, x3), (5, x4), (0, x5), (99, 0), (99, 0), (99, 0), (99, 0)], [(0, x3), (0, x5)], s) = some ((w32 x5) < (w32 x3), (74, [(99, 0), (99, 0), (99, 0), (0, x3), (5, x4), (0, x5), (99, 0), (99, 0), (99, 0), (99, 0)], [], s), (140, [(99, 0), (99, 0), (99, 0), (0, x3), (5, x4), (0, x5), (99, 0), (99, 0), (99, 0), (99, 0)], [], s)) from rfl) H (fun H => ?_) (fun H => ?_)
    · refine AT.blk (g := (0 ≤ (w32 (2 * x5)) ∧ (w32 (2 * x5)) < 60) ∧ (0 ≤ (w32 ((2 * x5) + 1)) ∧ (w32 ((2 * x5) + 1)) < 60)) [(74, .aload 4, 2, (0, 0, 0)), (76, .getfield 127, 3, (1037, 103, 0)), (79, .iconst 2, 1, (0, 0, 0)), (80, .iload 5, 2, (0, 0, 0)), (82, .imul, 1, (0, 0, 0)), (83, .laload, 1, (0, 0, 0)), (84, .lstore 6, 2, (0, 0, 0)), (86, .aload 4, 2, (0, 0, 0)), (88, .getfield 127, 3, (1037, 103, 0)), (91, .iconst 2, 1, (0, 0, 0)), (92, .iload 5, 2, (0, 0, 0)), (94, .imul, 1, (0, 0, 0)), (95, .iconst 1, 1, (0, 0, 0)), (96, .iadd, 1, (0, 0, 0)), (97, .laload, 1, (0, 0, 0)), (98, .lstore 8, 2, (0, 0, 0)), (100, .lload 6, 2, (0, 0, 0)), (102, .lconst 1, 1, (0, 0, 0)), (103, .lcmp, 1, (0, 0, 0))] (by decide +kernel) (show jrun _ (74, [(99, 0), (99, 0), (99, 0), (0, x3), (5, x4), (0, x5), (99, 0), (99, 0), (99, 0), (99, 0)], [], s) = some ([(0 ≤ (w32 (2 * x5)) ∧ (w32 (2 * x5)) < 60), (0 ≤ (w32 ((2 * x5) + 1)) ∧ (w32 ((2 * x5) + 1)) < 60)], (104, [(99, 0), (99, 0), (99, 0), (0, x3), (5, x4), (0, x5), (1, (s (x4 + 1) (w32 (2 * x5)))), (99, 0), (1, (s (x4 + 1) (w32 ((2 * x5) + 1)))), (99, 0)], [(0, (jlcmp (s (x4 + 1) (w32 (2 * x5))) 1))], s)) from rfl) (fun h => ⟨h.1, h.2⟩) H (fun H => ?_)
      refine AT.ite (x := (0, 0, 0)) (by decide +kernel) (show jbr (.ifCond .lt 28) (104, [(99, 0), (99, 0), (99, 0), (0, x3), (5, x4), (0, x5), (1, (s (x4 + 1) (w32 (2 * x5)))), (99, 0), (1, (s (x4 + 1) (w32 ((2 * x5) + 1)))), (99, 0)], [(0, (jlcmp (s (x4 + 1) (w32 (2 * x5))) 1))], s) = some ((w32 (jlcmp (s (x4 + 1) (w32 (2 * x5))) 1)) < 0, (132, [(99, 0), (99, 0), (99, 0), (0, x3), (5, x4), (0, x5), (1, (s (x4 + 1) (w32 (2 * x5)))), (99, 0), (1, (s (x4 + 1) (w32 ((2 * x5) + 1)))), (99, 0)], [], s), (107, [(99, 0), (99, 0), (99, 0), (0, x3), (5, x4), (0, x5), (1, (s (x4 + 1) (w32 (2 * x5)))), (99, 0), (1, (s (x4 + 1) (w32 ((2 * x5) + 1)))), (99, 0)], [], s)) from rfl) H (fun H => ?_) (fun H => ?_)
      · refine AT.seq [(132, .iconst 5, 1, (0, 0, 0))] (by decide +kernel) (show jrun _ (132, [(99, 0), (99, 0), (99, 0), (0, x3), (5, x4), (0, x5), (1, (s (x4 + 1) (w32 (2 * x5)))), (99, 0), (1, (s (x4 + 1) (w32 ((2 * x5) + 1)))), (99, 0)], [], s) = some ([], (133, [(99, 0), (99, 0), (99, 0), (0, x3), (5, x4), (0, x5), (1, (s (x4 + 1) (w32 (2 * x5)))), (99, 0), (1, (s (x4 + 1) (w32 ((2 * x5) + 1)))), (99, 0)], [(0, 5)], s)) from rfl) ?_
        exact AT.retiH (by decide +kernel) H
      · refine AT.seq [(107, .lload 6, 2, (0, 0, 0)), (109, .ldc2_w 393, 3, (5026, 0, 9)), (112, .lcmp, 1, (0, 0, 0))] (by decide +kernel) (show jrun _ (107, [(99, 0), (99, 0), (99, 0), (0, x3), (5, x4), (0, x5), (1, (s (x4 + 1) (w32 (2 * x5)))), (99, 0), (1, (s (x4 + 1) (w32 ((2 * x5) + 1)))), (99, 0)], [], s) = some ([], (113, [(99, 0), (99, 0), (99, 0), (0, x3), (5, x4), (0, x5), (1, (s (x4 + 1) (w32 (2 * x5)))), (99, 0), (1, (s (x4 + 1) (w32 ((2 * x5) + 1)))), (99, 0)], [(0, (jlcmp (s (x4 + 1) (w32 (2 * x5))) 9))], s)) from rfl) ?_
        refine AT.ite (x := (0, 0, 0)) (by decide +kernel) (show jbr (.ifCond .gt 19) (113, [(99, 0), (99, 0), (99, 0), (0, x3), (5, x4), (0, x5), (1, (s (x4 + 1) (w32 (2 * x5)))), (99, 0), (1, (s (x4 + 1) (w32 ((2 * x5) + 1)))), (99, 0)], [(0, (jlcmp (s (x4 + 1) (w32 (2 * x5))) 9))], s) = some (0 < (w32 (jlcmp (s (x4 + 1) (w32 (2 * x5))) 9)), (132, [(99, 0), (99, 0), (99, 0), (0, x3), (5, x4), (0, x5), (1, (s (x4 + 1) (w32 (2 * x5)))), (99, 0), (1, (s (x4 + 1) (w32 ((2 * x5) + 1)))), (99, 0)], [], s), (116, [(99, 0), (99, 0), (99, 0), (0, x3), (5, x4), (0, x5), (1, (s (x4 + 1) (w32 (2 * x5)))), (99, 0), (1, (s (x4 + 1) (w32 ((2 * x5) + 1)))), (99, 0)], [], s)) from rfl) H (fun H => ?_) (fun H => ?_)
        · refine AT.seq [(132, .iconst 5, 1, (0, 0, 0))] (by decide +kernel) (show jrun _ (132, [(99, 0), (99, 0), (99, 0), (0, x3), (5, x4), (0, x5), (1, (s (x4 + 1) (w32 (2 * x5)))), (99, 0), (1, (s (x4 + 1) (w32 ((2 * x5) + 1)))), (99, 0)], [], s) = some ([], (133, [(99, 0), (99, 0), (99, 0), (0, x3), (5, x4), (0, x5), (1, (s (x4 + 1) (w32 (2 * x5)))), (99, 0), (1, (s (x4 + 1) (w32 ((2 * x5) + 1)))), (99, 0)], [(0, 5)], s)) from rfl) ?_
          exact AT.retiH (by decide +kernel) H
        · refine AT.seq [(116, .lload 8, 2, (0, 0, 0)), (118, .lconst 0, 1, (0, 0, 0)), (119, .lcmp, 1, (0, 0, 0))] (by decide +kernel) (show jrun _ (116, [(99, 0), (99, 0), (99, 0), (0, x3), (5, x4), (0, x5), (1, (s (x4 + 1) (w32 (2 * x5)))), (99, 0), (1, (s (x4 + 1) (w32 ((2 * x5) + 1)))), (99, 0)], [], s) = some ([], (120, [(99, 0), (99, 0), (99, 0), (0, x3), (5, x4), (0, x5), (1, (s (x4 + 1) (w32 (2 * x5)))), (99, 0), (1, (s (x4 + 1) (w32 ((2 * x5) + 1)))), (99, 0)], [(0, (jlcmp (s (x4 + 1) (w32 ((2 * x5) + 1))) 0))], s)) from rfl) ?_
          refine AT.ite (x := (0, 0, 0)) (by decide +kernel) (show jbr (.ifCond .lt 12) (120, [(99, 0), (99, 0), (99, 0), (0, x3), (5, x4), (0, x5), (1, (s (x4 + 1) (w32 (2 * x5)))), (99, 0), (1, (s (x4 + 1) (w32 ((2 * x5) + 1)))), (99, 0)], [(0, (jlcmp (s (x4 + 1) (w32 ((2 * x5) + 1))) 0))], s) = some ((w32 (jlcmp (s (x4 + 1) (w32 ((2 * x5) + 1))) 0)) < 0, (132, [(99, 0), (99, 0), (99, 0), (0, x3), (5, x4), (0, x5), (1, (s (x4 + 1) (w32 (2 * x5)))), (99, 0), (1, (s (x4 + 1) (w32 ((2 * x5) + 1)))), (99, 0)], [], s), (123, [(99, 0), (99, 0), (99, 0), (0, x3), (5, x4), (0, x5), (1, (s (x4 + 1) (w32 (2 * x5)))), (99, 0), (1, (s (x4 + 1) (w32 ((2 * x5) + 1)))), (99, 0)], [], s)) from rfl) H (fun H => ?_) (fun H => ?_)
          · refine AT.seq [(132, .iconst 5, 1, (0, 0, 0))] (by decide +kernel) (show jrun _ (132, [(99, 0), (99, 0), (99, 0), (0, x3), (5, x4), (0, x5), (1, (s (x4 + 1) (w32 (2 * x5)))), (99, 0), (1, (s (x4 + 1) (w32 ((2 * x5) + 1)))), (99, 0)], [], s) = some ([], (133, [(99, 0), (99, 0), (99, 0), (0, x3), (5, x4), (0, x5), (1, (s (x4 + 1) (w32 (2 * x5)))), (99, 0), (1, (s (x4 + 1) (w32 ((2 * x5) + 1)))), (99, 0)], [(0, 5)], s)) from rfl) ?_
            exact AT.retiH (by decide +kernel) H
          · refine AT.seq [(123, .lload 8, 2, (0, 0, 0)), (125, .ldc2_w 395, 3, (5027, 0, 99)), (128, .lcmp, 1, (0, 0, 0))] (by decide +kernel) (show jrun _ (123, [(99, 0), (99, 0), (99, 0), (0, x3), (5, x4), (0, x5), (1, (s (x4 + 1) (w32 (2 * x5)))), (99, 0), (1, (s (x4 + 1) (w32 ((2 * x5) + 1)))), (99, 0)], [], s) = some ([], (129, [(99, 0), (99, 0), (99, 0), (0, x3), (5, x4), (0, x5), (1, (s (x4 + 1) (w32 (2 * x5)))), (99, 0), (1, (s (x4 + 1) (w32 ((2 * x5) + 1)))), (99, 0)], [(0, (jlcmp (s (x4 + 1) (w32 ((2 * x5) + 1))) 99))], s)) from rfl) ?_
            refine AT.ite (x := (0, 0, 0)) (by decide +kernel) (show jbr (.ifCond .le 5) (129, [(99, 0), (99, 0), (99, 0), (0, x3), (5, x4), (0, x5), (1, (s (x4 + 1) (w32 (2 * x5)))), (99, 0), (1, (s (x4 + 1) (w32 ((2 * x5) + 1)))), (99, 0)], [(0, (jlcmp (s (x4 + 1) (w32 ((2 * x5) + 1))) 99))], s) = some (0 < (w32 (jlcmp (s (x4 + 1) (w32 ((2 * x5) + 1))) 99)), (132, [(99, 0), (99, 0), (99, 0), (0, x3), (5, x4), (0, x5), (1, (s (x4 + 1) (w32 (2 * x5)))), (99, 0), (1, (s (x4 + 1) (w32 ((2 * x5) + 1)))), (99, 0)], [], s), (134, [(99, 0), (99, 0), (99, 0), (0, x3), (5, x4), (0, x5), (1, (s (x4 + 1) (w32 (2 * x5)))), (99, 0), (1, (s (x4 + 1) (w32 ((2 * x5) + 1)))), (99, 0)], [], s)) from rfl) H (fun H => ?_) (fun H => ?_)
            · refine AT.seq [(132, .iconst 5, 1, (0, 0, 0))] (by decide +kernel) (show jrun _ (132, [(99, 0), (99, 0), (99, 0), (0, x3), (5, x4), (0, x5), (1, (s (x4 + 1) (w32 (2 * x5)))), (99, 0), (1, (s (x4 + 1) (w32 ((2 * x5) + 1)))), (99, 0)], [], s) = some ([], (133, [(99, 0), (99, 0), (99, 0), (0, x3), (5, x4), (0, x5), (1, (s (x4 + 1) (w32 (2 * x5)))), (99, 0), (1, (s (x4 + 1) (w32 ((2 * x5) + 1)))), (99, 0)], [(0, 5)], s)) from rfl) ?_
              exact AT.retiH (by decide +kernel) H
            · refine AT.seq [(134, .iinc 5 1, 3, (0, 0, 0)), (137, .goto (-69), 3, (0, 0, 0))] (by decide +kernel) (show jrun _ (134, [(99, 0), (99, 0), (99, 0), (0, x3), (5, x4), (0, x5), (1, (s (x4 + 1) (w32 (2 * x5)))), (99, 0), (1, (s (x4 + 1) (w32 ((2 * x5) + 1)))), (99, 0)], [], s) = some ([], (68, [(99, 0), (99, 0), (99, 0), (0, x3), (5, x4), (0, (x5 + 1)), (1, (s (x4 + 1) (w32 (2 * x5)))), (99, 0), (1, (s (x4 + 1) (w32 ((2 * x5) + 1)))), (99, 0)], [], s)) from rfl) ?_
              exact AT.weak (L' := [(99, 0), (99, 0), (99, 0), (0, x3), (5, x4), (0, (x5 + 1)), (99, 0), (99, 0), (99, 0), (99, 0)]) (jleK (jleK (jleK (jleK (jleK (jleK (jleJ (jleK (jleJ (jleK jle0)))))))))) (ih _ _ _ _ H)
    · refine AT.seq [(140, .iconst 0, 1, (0, 0, 0))] (by decide +kernel) (show jrun _ (140, [(99, 0), (99, 0), (99, 0), (0, x3), (5, x4), (0, x5), (99, 0), (99, 0), (99, 0), (99, 0)], [], s) = some ([], (141, [(99, 0), (99, 0), (99, 0), (0, x3), (5, x4), (0, x5), (99, 0), (99, 0), (99, 0), (99, 0)], [(0, 0)], s)) from rfl) ?_
      exact AT.retiH (by decide +kernel) H
set_option maxRecDepth 100000 in
theorem Jc_fitsTrouble_ok {a0 a1 a2 a3 : Int} {s : jM} {o : Int × jM} (H : Jc_fitsTrouble a0 a1 a2 a3 s = some o) : MK sJc_fitsTrouble 1 [(4, a0), (0, a1), (0, a2), (0, a3)] s o := by
  refine MK.of kJc_fitsTrouble rfl ?_
  show AT sJc_fitsTrouble 1 (0, [(4, a0), (0, a1), (0, a2), (0, a3), (99, 0), (99, 0), (99, 0), (99, 0), (99, 0), (99, 0)], [], s) o
  unfold Jc_fitsTrouble at H
  refine AT.seq [(0, .iload_n 2, 1, (0, 0, 0))] (by decide +kernel) (show jrun _ (0, [(4, a0), (0, a1), (0, a2), (0, a3), (99, 0), (99, 0), (99, 0), (99, 0), (99, 0), (99, 0)], [], s) = some ([], (1, [(4, a0), (0, a1), (0, a2), (0, a3), (99, 0), (99, 0), (99, 0), (99, 0), (99, 0), (99, 0)], [(0, a2)], s)) from rfl) ?_
  obtain ⟨v1, s1, h1, H⟩ := jb_some H
  refine AT.callS (As := [(0, a2)]) (st := []) (i := 100) (pos := 3031) kJc_isTray (by decide +kernel) rfl rfl rfl (by omega) (Jc_isTray_ok h1) ?_
  show AT sJc_fitsTrouble 1 (4, [(4, a0), (0, a1), (0, a2), (0, a3), (99, 0), (99, 0), (99, 0), (99, 0), (99, 0), (99, 0)], [(0, v1)], s1) o
  refine AT.ite (x := (0, 0, 0)) (by decide +kernel) (show jbr (.ifCond .ne 5) (4, [(4, a0), (0, a1), (0, a2), (0, a3), (99, 0), (99, 0), (99, 0), (99, 0), (99, 0), (99, 0)], [(0, v1)], s1) = some ((w32 v1) = 0, (7, [(4, a0), (0, a1), (0, a2), (0, a3), (99, 0), (99, 0), (99, 0), (99, 0), (99, 0), (99, 0)], [], s1), (9, [(4, a0), (0, a1), (0, a2), (0, a3), (99, 0), (99, 0), (99, 0), (99, 0), (99, 0), (99, 0)], [], s1)) from rfl) H (fun H => ?_) (fun H => ?_)
  · refine AT.seq [(7, .iconst 1, 1, (0, 0, 0))] (by decide +kernel) (show jrun _ (7, [(4, a0), (0, a1), (0, a2), (0, a3), (99, 0), (99, 0), (99, 0), (99, 0), (99, 0), (99, 0)], [], s1) = some ([], (8, [(4, a0), (0, a1), (0, a2), (0, a3), (99, 0), (99, 0), (99, 0), (99, 0), (99, 0), (99, 0)], [(0, 1)], s1)) from rfl) ?_
    exact AT.retiH (by decide +kernel) H
  · refine AT.blk (g := jok 3 (s1 a0 5) = true) [(9, .aload_n 0, 1, (0, 0, 0)), (10, .getfield 19, 3, (2205, 5, 0)), (13, .iload_n 1, 1, (0, 0, 0))] (by decide +kernel) (show jrun _ (9, [(4, a0), (0, a1), (0, a2), (0, a3), (99, 0), (99, 0), (99, 0), (99, 0), (99, 0), (99, 0)], [], s1) = some ([jok 3 (s1 a0 5) = true], (14, [(4, a0), (0, a1), (0, a2), (0, a3), (99, 0), (99, 0), (99, 0), (99, 0), (99, 0), (99, 0)], [(0, a1), (7, (s1 a0 5))], s1)) from rfl) (fun h => h) H (fun H => ?_)
    obtain ⟨v2, s2, h2, H⟩ := jb_some H
    refine AT.callV (As := [(0, a1)]) (cl := 3) (b := (s1 a0 5)) (st := []) (i := 226) (pos := 4050) kSe_isMould (by decide +kernel) rfl (by decide +kernel) rfl rfl (by omega) (Se_isMould_ok h2) ?_
    show AT sJc_fitsTrouble 1 (17, [(4, a0), (0, a1), (0, a2), (0, a3), (99, 0), (99, 0), (99, 0), (99, 0), (99, 0), (99, 0)], [(0, v2)], s2) o
    refine AT.ite (x := (0, 0, 0)) (by decide +kernel) (show jbr (.ifCond .ne 5) (17, [(4, a0), (0, a1), (0, a2), (0, a3), (99, 0), (99, 0), (99, 0), (99, 0), (99, 0), (99, 0)], [(0, v2)], s2) = some ((w32 v2) = 0, (20, [(4, a0), (0, a1), (0, a2), (0, a3), (99, 0), (99, 0), (99, 0), (99, 0), (99, 0), (99, 0)], [], s2), (22, [(4, a0), (0, a1), (0, a2), (0, a3), (99, 0), (99, 0), (99, 0), (99, 0), (99, 0), (99, 0)], [], s2)) from rfl) H (fun H => ?_) (fun H => ?_)
    · refine AT.seq [(20, .iconst 2, 1, (0, 0, 0))] (by decide +kernel) (show jrun _ (20, [(4, a0), (0, a1), (0, a2), (0, a3), (99, 0), (99, 0), (99, 0), (99, 0), (99, 0), (99, 0)], [], s2) = some ([], (21, [(4, a0), (0, a1), (0, a2), (0, a3), (99, 0), (99, 0), (99, 0), (99, 0), (99, 0), (99, 0)], [(0, 2)], s2)) from rfl) ?_
      exact AT.retiH (by decide +kernel) H
    · refine AT.blk (g := (0 ≤ (w32 a2) ∧ (w32 a2) < 4)) [(22, .aload_n 0, 1, (0, 0, 0)), (23, .getfield 11, 3, (2209, 9, 0)), (26, .iload_n 2, 1, (0, 0, 0)), (27, .aaload, 1, (0, 0, 0)), (28, .astore 4, 2, (0, 0, 0)), (30, .aload 4, 2, (0, 0, 0)), (32, .getfield 131, 3, (1031, 100, 0))] (by decide +kernel) (show jrun _ (22, [(4, a0), (0, a1), (0, a2), (0, a3), (99, 0), (99, 0), (99, 0), (99, 0), (99, 0), (99, 0)], [], s2) = some ([(0 ≤ (w32 a2) ∧ (w32 a2) < 4)], (35, [(4, a0), (0, a1), (0, a2), (0, a3), (5, ((a0 + 1) + 1 + 2 * (w32 a2))), (99, 0), (99, 0), (99, 0), (99, 0), (99, 0)], [(0, (s2 ((a0 + 1) + 1 + 2 * (w32 a2)) 0))], s2)) from rfl) (fun h => h) H (fun H => ?_)
      refine AT.ite (x := (0, 0, 0)) (by decide +kernel) (show jbr (.ifCond .ne 5) (35, [(4, a0), (0, a1), (0, a2), (0, a3), (5, ((a0 + 1) + 1 + 2 * (w32 a2))), (99, 0), (99, 0), (99, 0), (99, 0), (99, 0)], [(0, (s2 ((a0 + 1) + 1 + 2 * (w32 a2)) 0))], s2) = some ((w32 (s2 ((a0 + 1) + 1 + 2 * (w32 a2)) 0)) = 0, (38, [(4, a0), (0, a1), (0, a2), (0, a3), (5, ((a0 + 1) + 1 + 2 * (w32 a2))), (99, 0), (99, 0), (99, 0), (99, 0), (99, 0)], [], s2), (40, [(4, a0), (0, a1), (0, a2), (0, a3), (5, ((a0 + 1) + 1 + 2 * (w32 a2))), (99, 0), (99, 0), (99, 0), (99, 0), (99, 0)], [], s2)) from rfl) H (fun H => ?_) (fun H => ?_)
      · refine AT.seq [(38, .iconst 3, 1, (0, 0, 0))] (by decide +kernel) (show jrun _ (38, [(4, a0), (0, a1), (0, a2), (0, a3), (5, ((a0 + 1) + 1 + 2 * (w32 a2))), (99, 0), (99, 0), (99, 0), (99, 0), (99, 0)], [], s2) = some ([], (39, [(4, a0), (0, a1), (0, a2), (0, a3), (5, ((a0 + 1) + 1 + 2 * (w32 a2))), (99, 0), (99, 0), (99, 0), (99, 0), (99, 0)], [(0, 3)], s2)) from rfl) ?_
        exact AT.retiH (by decide +kernel) H
      · refine AT.row [(40, .iload_n 3, 1, (0, 0, 0)), (41, .aload 4, 2, (0, 0, 0)), (43, .getfield 137, 3, (1035, 102, 0)), (46, .iconst 2, 1, (0, 0, 0)), (47, .idiv, 1, (0, 0, 0))] (by decide +kernel) (show jrun _ (40, [(4, a0), (0, a1), (0, a2), (0, a3), (5, ((a0 + 1) + 1 + 2 * (w32 a2))), (99, 0), (99, 0), (99, 0), (99, 0), (99, 0)], [], s2) = some ([¬ (2 : Int) = 0], (48, [(4, a0), (0, a1), (0, a2), (0, a3), (5, ((a0 + 1) + 1 + 2 * (w32 a2))), (99, 0), (99, 0), (99, 0), (99, 0), (99, 0)], [(0, (jdiv (s2 ((a0 + 1) + 1 + 2 * (w32 a2)) 2) 2)), (0, a3)], s2)) from rfl) (show ¬ (2 : Int) = 0 from by decide) ?_
        refine AT.ite (x := (0, 0, 0)) (by decide +kernel) (show jbr (.if_icmp .le 5) (48, [(4, a0), (0, a1), (0, a2), (0, a3), (5, ((a0 + 1) + 1 + 2 * (w32 a2))), (99, 0), (99, 0), (99, 0), (99, 0), (99, 0)], [(0, (jdiv (s2 ((a0 + 1) + 1 + 2 * (w32 a2)) 2) 2)), (0, a3)], s2) = some ((w32 (jdiv (s2 ((a0 + 1) + 1 + 2 * (w32 a2)) 2) 2)) < (w32 a3), (51, [(4, a0), (0, a1), (0, a2), (0, a3), (5, ((a0 + 1) + 1 + 2 * (w32 a2))), (99, 0), (99, 0), (99, 0), (99, 0), (99, 0)], [], s2), (53, [(4, a0), (0, a1), (0, a2), (0, a3), (5, ((a0 + 1) + 1 + 2 * (w32 a2))), (99, 0), (99, 0), (99, 0), (99, 0), (99, 0)], [], s2)) from rfl) H (fun H => ?_) (fun H => ?_)
        · refine AT.seq [(51, .iconst 4, 1, (0, 0, 0))] (by decide +kernel) (show jrun _ (51, [(4, a0), (0, a1), (0, a2), (0, a3), (5, ((a0 + 1) + 1 + 2 * (w32 a2))), (99, 0), (99, 0), (99, 0), (99, 0), (99, 0)], [], s2) = some ([], (52, [(4, a0), (0, a1), (0, a2), (0, a3), (5, ((a0 + 1) + 1 + 2 * (w32 a2))), (99, 0), (99, 0), (99, 0), (99, 0), (99, 0)], [(0, 4)], s2)) from rfl) ?_
          exact AT.retiH (by decide +kernel) H
        · refine AT.seq [(53, .iload_n 3, 1, (0, 0, 0))] (by decide +kernel) (show jrun _ (53, [(4, a0), (0, a1), (0, a2), (0, a3), (5, ((a0 + 1) + 1 + 2 * (w32 a2))), (99, 0), (99, 0), (99, 0), (99, 0), (99, 0)], [], s2) = some ([], (54, [(4, a0), (0, a1), (0, a2), (0, a3), (5, ((a0 + 1) + 1 + 2 * (w32 a2))), (99, 0), (99, 0), (99, 0), (99, 0), (99, 0)], [(0, a3)], s2)) from rfl) ?_
          refine AT.ite (x := (0, 0, 0)) (by decide +kernel) (show jbr (.ifCond .lt 9) (54, [(4, a0), (0, a1), (0, a2), (0, a3), (5, ((a0 + 1) + 1 + 2 * (w32 a2))), (99, 0), (99, 0), (99, 0), (99, 0), (99, 0)], [(0, a3)], s2) = some ((w32 a3) < 0, (63, [(4, a0), (0, a1), (0, a2), (0, a3), (5, ((a0 + 1) + 1 + 2 * (w32 a2))), (99, 0), (99, 0), (99, 0), (99, 0), (99, 0)], [], s2), (57, [(4, a0), (0, a1), (0, a2), (0, a3), (5, ((a0 + 1) + 1 + 2 * (w32 a2))), (99, 0), (99, 0), (99, 0), (99, 0), (99, 0)], [], s2)) from rfl) H (fun H => ?_) (fun H => ?_)
          · refine AT.seq [(63, .iconst 5, 1, (0, 0, 0))] (by decide +kernel) (show jrun _ (63, [(4, a0), (0, a1), (0, a2), (0, a3), (5, ((a0 + 1) + 1 + 2 * (w32 a2))), (99, 0), (99, 0), (99, 0), (99, 0), (99, 0)], [], s2) = some ([], (64, [(4, a0), (0, a1), (0, a2), (0, a3), (5, ((a0 + 1) + 1 + 2 * (w32 a2))), (99, 0), (99, 0), (99, 0), (99, 0), (99, 0)], [(0, 5)], s2)) from rfl) ?_
            exact AT.retiH (by decide +kernel) H
          · refine AT.seq [(57, .iload_n 3, 1, (0, 0, 0)), (58, .bipush 20, 2, (0, 0, 0))] (by decide +kernel) (show jrun _ (57, [(4, a0), (0, a1), (0, a2), (0, a3), (5, ((a0 + 1) + 1 + 2 * (w32 a2))), (99, 0), (99, 0), (99, 0), (99, 0), (99, 0)], [], s2) = some ([], (60, [(4, a0), (0, a1), (0, a2), (0, a3), (5, ((a0 + 1) + 1 + 2 * (w32 a2))), (99, 0), (99, 0), (99, 0), (99, 0), (99, 0)], [(0, 20), (0, a3)], s2)) from rfl) ?_
            refine AT.ite (x := (0, 0, 0)) (by decide +kernel) (show jbr (.if_icmp .le 5) (60, [(4, a0), (0, a1), (0, a2), (0, a3), (5, ((a0 + 1) + 1 + 2 * (w32 a2))), (99, 0), (99, 0), (99, 0), (99, 0), (99, 0)], [(0, 20), (0, a3)], s2) = some (20 < (w32 a3), (63, [(4, a0), (0, a1), (0, a2), (0, a3), (5, ((a0 + 1) + 1 + 2 * (w32 a2))), (99, 0), (99, 0), (99, 0), (99, 0), (99, 0)], [], s2), (65, [(4, a0), (0, a1), (0, a2), (0, a3), (5, ((a0 + 1) + 1 + 2 * (w32 a2))), (99, 0), (99, 0), (99, 0), (99, 0), (99, 0)], [], s2)) from rfl) H (fun H => ?_) (fun H => ?_)
            · refine AT.seq [(63, .iconst 5, 1, (0, 0, 0))] (by decide +kernel) (show jrun _ (63, [(4, a0), (0, a1), (0, a2), (0, a3), (5, ((a0 + 1) + 1 + 2 * (w32 a2))), (99, 0), (99, 0), (99, 0), (99, 0), (99, 0)], [], s2) = some ([], (64, [(4, a0), (0, a1), (0, a2), (0, a3), (5, ((a0 + 1) + 1 + 2 * (w32 a2))), (99, 0), (99, 0), (99, 0), (99, 0), (99, 0)], [(0, 5)], s2)) from rfl) ?_
              exact AT.retiH (by decide +kernel) H
            · refine AT.seq [(65, .iconst 0, 1, (0, 0, 0)), (66, .istore 5, 2, (0, 0, 0))] (by decide +kernel) (show jrun _ (65, [(4, a0), (0, a1), (0, a2), (0, a3), (5, ((a0 + 1) + 1 + 2 * (w32 a2))), (99, 0), (99, 0), (99, 0), (99, 0), (99, 0)], [], s2) = some ([], (68, [(4, a0), (0, a1), (0, a2), (0, a3), (5, ((a0 + 1) + 1 + 2 * (w32 a2))), (0, 0), (99, 0), (99, 0), (99, 0), (99, 0)], [], s2)) from rfl) ?_
              exact AT.weak (L' := [(99, 0), (99, 0), (99, 0), (0, a3), (5, ((a0 + 1) + 1 + 2 * (w32 a2))), (0, 0), (99, 0), (99, 0), (99, 0), (99, 0)]) (jleJ (jleJ (jleJ (jleK (jleK (jleK (jleK (jleK (jleK (jleK jle0)))))))))) (Jc_fitsTrouble_68_ok  jFU _ _ _ _ H)
def sJc_keepFits : jS := (⟨"JellyCathedral", "keepFits", "(III)V"⟩, prog_1_method_60_code, 8, 0, [4, 0, 0, 0], 0)
theorem kJc_keepFits : jmk sJc_keepFits = true := jmk_of 5031 1001 5030 26 (by decide +kernel)
set_option maxRecDepth 100000 in
theorem Jc_keepFits_31_ok {o : Int × jM} : ∀ (n : Nat) (x0 x2 x3 x4 x5 : Int) (s : jM), Jc_keepFits_31  n x0 x2 x3 x4 x5 s = some o → AT sJc_keepFits 3 (31, [(4, x0), (99, 0), (0, x2), (0, x3), (6, x4), (0, x5), (99, 0), (99, 0)], [], s) o := by
  intro n
  induction n with
  | zero =>
    intro x0 x2 x3 x4 x5 s H
    have H : (none : Option (Int × jM)) = some o := H
    cases H
  | succ n ih =>
    intro x0 x2 x3 x4 x5 s H
    rw [Jc_keepFits_31] at H
    refine AT.seq [(31, .iload 5, 2, (0, 0, 0)), (33, .iload_n 3, 1, (0, 0, 0))] (by decide +kernel) (show jrun _ (31, [(4, x0), (99, 0), (0, x2), (0, x3), (6, x4), (0, x5), (99, 0), (99, 0)], [], s) = some ([], (34, [(4, x0), (99, 0), (0, x2), (0, x3), (6, x4), (0, x5), (99, 0), (99, 0)], [(0, x3), (0, x5)], s)) from rfl) ?_
    refine AT.ite (x := (0, 0, 0)) (by decide +kernel) (show jbr (.if_icmp .ge 61) (34, [(4, x0), (99, 0), (0, x2), (0, x3), (6, x4), (0, x5), (99, 0), (99, 0)], [(0, x3), (0, x5)], s) = some ((w32 x5) < (w32 x3), (37, [(4, x0), (99, 0), (0, x2), (0, x3), (6, x4), (0, x5), (99, 0), (99, 0)], [], s), (95, [(4, x0), (99, 0), (0, x2), (0, x3), (6, x4), (0, x5), (99, 0), (99, 0)], [], s)) from rfl) H (fun H => ?_) (fun H => ?_)
    · refine AT.blk (g := (0 ≤ (w32 x2) ∧ (w32 x2) < 4) ∧ (0 ≤ (w32 (2 * x5)) ∧ (w32 (2 * x5)) < 60) ∧ (0 ≤ (w32 x2) ∧ (w32 x2) < 4) ∧ (0 ≤ (w32 ((2 * x5) + 1)) ∧ (w32 ((2 * x5) + 1)) < 60)) [(37, .aload_n 0, 1, (0, 0, 0)), (38, .getfield 11, 3, (2209, 9, 0)), (41, .iload_n 2, 1, (0, 0, 0)), (42, .aaload, 1, (0, 0, 0)), (43, .getfield 127, 3, (1037, 103, 0)), (46, .iconst 2, 1, (0, 0, 0)), (47, .iload 5, 2, (0, 0, 0)), (49, .imul, 1, (0, 0, 0)), (50, .laload, 1, (0, 0, 0)), (51, .l2i, 1, (0, 0, 0)), (52, .istore 6, 2, (0, 0, 0)), (54, .aload_n 0, 1, (0, 0, 0)), (55, .getfield 11, 3, (2209, 9, 0)), (58, .iload_n 2, 1, (0, 0, 0)), (59, .aaload, 1, (0, 0, 0)), (60, .getfield 127, 3, (1037, 103, 0)), (63, .iconst 2, 1, (0, 0, 0)), (64, .iload 5, 2, (0, 0, 0)), (66, .imul, 1, (0, 0, 0)), (67, .iconst 1, 1, (0, 0, 0)), (68, .iadd, 1, (0, 0, 0)), (69, .laload, 1, (0, 0, 0)), (70, .l2i, 1, (0, 0, 0)), (71, .istore 7, 2, (0, 0, 0)), (73, .aload_n 0, 1, (0, 0, 0)), (74, .getfield 54, 3, (2214, 14, 0)), (77, .aload 4, 2, (0, 0, 0)), (79, .getfield 233, 3, (1111, 200, 0)), (82, .iload 6, 2, (0, 0, 0)), (84, .iload 7, 2, (0, 0, 0))] (by decide +kernel) (show jrun _ (37, [(4, x0), (99, 0), (0, x2), (0, x3), (6, x4), (0, x5), (99, 0), (99, 0)], [], s) = some ([(0 ≤ (w32 x2) ∧ (w32 x2) < 4), (0 ≤ (w32 (2 * x5)) ∧ (w32 (2 * x5)) < 60), (0 ≤ (w32 x2) ∧ (w32 x2) < 4), (0 ≤ (w32 ((2 * x5) + 1)) ∧ (w32 ((2 * x5) + 1)) < 60)], (86, [(4, x0), (99, 0), (0, x2), (0, x3), (6, x4), (0, x5), (0, (s (((x0 + 1) + 1 + 2 * (w32 x2)) + 1) (w32 (2 * x5)))), (0, (s (((x0 + 1) + 1 + 2 * (w32 x2)) + 1) (w32 ((2 * x5) + 1))))], [(0, (s (((x0 + 1) + 1 + 2 * (w32 x2)) + 1) (w32 ((2 * x5) + 1)))), (0, (s (((x0 + 1) + 1 + 2 * (w32 x2)) + 1) (w32 (2 * x5)))), (0, (s x4 0)), (12, (x0 + 16))], s)) from rfl) (fun h => ⟨h.1, h.2.1, h.2.2.1, h.2.2.2⟩) H (fun H => ?_)
      obtain ⟨v1, s1, h1, H⟩ := jb_some H
      refine AT.callV (As := [(0, (s x4 0)), (0, (s (((x0 + 1) + 1 + 2 * (w32 x2)) + 1) (w32 (2 * x5)))), (0, (s (((x0 + 1) + 1 + 2 * (w32 x2)) + 1) (w32 ((2 * x5) + 1))))]) (cl := 8) (b := (x0 + 16)) (st := []) (i := 397) (pos := 5032) kFi_keepLasting (by decide +kernel) rfl (by decide +kernel) rfl rfl (by omega) (Fi_keepLasting_ok h1) ?_
      show AT sJc_keepFits 3 (89, [(4, x0), (99, 0), (0, x2), (0, x3), (6, x4), (0, x5), (0, (s (((x0 + 1) + 1 + 2 * (w32 x2)) + 1) (w32 (2 * x5)))), (0, (s (((x0 + 1) + 1 + 2 * (w32 x2)) + 1) (w32 ((2 * x5) + 1))))], [], s1) o
      refine AT.seq [(89, .iinc 5 1, 3, (0, 0, 0)), (92, .goto (-61), 3, (0, 0, 0))] (by decide +kernel) (show jrun _ (89, [(4, x0), (99, 0), (0, x2), (0, x3), (6, x4), (0, x5), (0, (s (((x0 + 1) + 1 + 2 * (w32 x2)) + 1) (w32 (2 * x5)))), (0, (s (((x0 + 1) + 1 + 2 * (w32 x2)) + 1) (w32 ((2 * x5) + 1))))], [], s1) = some ([], (31, [(4, x0), (99, 0), (0, x2), (0, x3), (6, x4), (0, (x5 + 1)), (0, (s (((x0 + 1) + 1 + 2 * (w32 x2)) + 1) (w32 (2 * x5)))), (0, (s (((x0 + 1) + 1 + 2 * (w32 x2)) + 1) (w32 ((2 * x5) + 1))))], [], s1)) from rfl) ?_
      exact AT.weak (L' := [(4, x0), (99, 0), (0, x2), (0, x3), (6, x4), (0, (x5 + 1)), (99, 0), (99, 0)]) (jleK (jleK (jleK (jleK (jleK (jleK (jleJ (jleJ jle0)))))))) (ih _ _ _ _ _ _ H)
    · exact AT.retvH (by decide +kernel) H
set_option maxRecDepth 100000 in
theorem Jc_keepFits_ok {a0 a1 a2 a3 : Int} {s : jM} {o : Int × jM} (H : Jc_keepFits a0 a1 a2 a3 s = some o) : MK sJc_keepFits 3 [(4, a0), (0, a1), (0, a2), (0, a3)] s o := by
  refine MK.of kJc_keepFits rfl ?_
  show AT sJc_keepFits 3 (0, [(4, a0), (0, a1), (0, a2), (0, a3), (99, 0), (99, 0), (99, 0), (99, 0)], [], s) o
  unfold Jc_keepFits at H
  refine AT.blk (g := jok 3 (s a0 5) = true ∧ (0 ≤ (w32 a1) ∧ (w32 a1) < 5) ∧ jok 3 (s a0 5) = true) [(0, .aload_n 0, 1, (0, 0, 0)), (1, .getfield 19, 3, (2205, 5, 0)), (4, .getfield 229, 3, (1217, 312, 0)), (7, .iload_n 1, 1, (0, 0, 0)), (8, .aaload, 1, (0, 0, 0)), (9, .astore 4, 2, (0, 0, 0)), (11, .aload_n 0, 1, (0, 0, 0)), (12, .getfield 54, 3, (2214, 14, 0)), (15, .aload_n 0, 1, (0, 0, 0)), (16, .getfield 19, 3, (2205, 5, 0)), (19, .aload 4, 2, (0, 0, 0)), (21, .getfield 238, 3, (1116, 201, 0)), (24, .iconst 0, 1, (0, 0, 0))] (by decide +kernel) (show jrun _ (0, [(4, a0), (0, a1), (0, a2), (0, a3), (99, 0), (99, 0), (99, 0), (99, 0)], [], s) = some ([jok 3 (s a0 5) = true, (0 ≤ (w32 a1) ∧ (w32 a1) < 5), jok 3 (s a0 5) = true], (25, [(4, a0), (0, a1), (0, a2), (0, a3), (6, (((s a0 5) + 4) + 11 + 2 * (w32 a1))), (99, 0), (99, 0), (99, 0)], [(0, 0), (0, (s (((s a0 5) + 4) + 11 + 2 * (w32 a1)) 1)), (7, (s a0 5)), (12, (a0 + 16))], s)) from rfl) (fun h => ⟨h.1, h.2.1, h.2.2⟩) H (fun H => ?_)
  obtain ⟨v2, s2, h2, H⟩ := jb_some H
  refine AT.callV (As := [(7, (s a0 5)), (0, (s (((s a0 5) + 4) + 11 + 2 * (w32 a1)) 1)), (0, 0)]) (cl := 8) (b := (a0 + 16)) (st := []) (i := 319) (pos := 4222) kFi_countWays (by decide +kernel) rfl (by decide +kernel) rfl rfl (by omega) (Fi_countWays_ok h2) ?_
  show AT sJc_keepFits 3 (28, [(4, a0), (0, a1), (0, a2), (0, a3), (6, (((s a0 5) + 4) + 11 + 2 * (w32 a1))), (99, 0), (99, 0), (99, 0)], [], s2) o
  refine AT.seq [(28, .iconst 0, 1, (0, 0, 0)), (29, .istore 5, 2, (0, 0, 0))] (by decide +kernel) (show jrun _ (28, [(4, a0), (0, a1), (0, a2), (0, a3), (6, (((s a0 5) + 4) + 11 + 2 * (w32 a1))), (99, 0), (99, 0), (99, 0)], [], s2) = some ([], (31, [(4, a0), (0, a1), (0, a2), (0, a3), (6, (((s a0 5) + 4) + 11 + 2 * (w32 a1))), (0, 0), (99, 0), (99, 0)], [], s2)) from rfl) ?_
  exact AT.weak (L' := [(4, a0), (99, 0), (0, a2), (0, a3), (6, (((s a0 5) + 4) + 11 + 2 * (w32 a1))), (0, 0), (99, 0), (99, 0)]) (jleK (jleJ (jleK (jleK (jleK (jleK (jleK (jleK jle0)))))))) (Jc_keepFits_31_ok  jFU _ _ _ _ _ _ H)
def sJc_fits : jS := (⟨"JellyCathedral", "fits", "(III)I"⟩, prog_1_method_38_code, 5, 1, [4, 0, 0, 0], 0)
theorem kJc_fits : jmk sJc_fits = true := jmk_of 5021 1001 5019 5020 (by decide +kernel)
set_option maxRecDepth 100000 in
theorem Jc_fits_ok {a0 a1 a2 a3 : Int} {s : jM} {o : Int × jM} (H : Jc_fits a0 a1 a2 a3 s = some o) : MK sJc_fits 4 [(4, a0), (0, a1), (0, a2), (0, a3)] s o := by
  refine MK.of kJc_fits rfl ?_
  show AT sJc_fits 4 (0, [(4, a0), (0, a1), (0, a2), (0, a3), (99, 0)], [], s) o
  unfold Jc_fits at H
  refine AT.seq [(0, .aload_n 0, 1, (0, 0, 0)), (1, .iload_n 1, 1, (0, 0, 0)), (2, .iload_n 2, 1, (0, 0, 0)), (3, .iload_n 3, 1, (0, 0, 0))] (by decide +kernel) (show jrun _ (0, [(4, a0), (0, a1), (0, a2), (0, a3), (99, 0)], [], s) = some ([], (4, [(4, a0), (0, a1), (0, a2), (0, a3), (99, 0)], [(0, a3), (0, a2), (0, a1), (4, a0)], s)) from rfl) ?_
  obtain ⟨v1, s1, h1, H⟩ := jb_some H
  refine AT.callV (As := [(0, a1), (0, a2), (0, a3)]) (cl := 0) (b := a0) (st := []) (i := 332) (pos := 5022) kJc_fitsTrouble (by decide +kernel) rfl (by decide +kernel) rfl rfl (by omega) (Jc_fitsTrouble_ok h1) ?_
  show AT sJc_fits 4 (7, [(4, a0), (0, a1), (0, a2), (0, a3), (99, 0)], [(0, v1)], s1) o
  refine AT.seq [(7, .istore 4, 2, (0, 0, 0)), (9, .iload 4, 2, (0, 0, 0))] (by decide +kernel) (show jrun _ (7, [(4, a0), (0, a1), (0, a2), (0, a3), (99, 0)], [(0, v1)], s1) = some ([], (11, [(4, a0), (0, a1), (0, a2), (0, a3), (0, v1)], [(0, v1)], s1)) from rfl) ?_
  refine AT.ite (x := (0, 0, 0)) (by decide +kernel) (show jbr (.ifCond .eq 10) (11, [(4, a0), (0, a1), (0, a2), (0, a3), (0, v1)], [(0, v1)], s1) = some ((w32 v1) = 0, (21, [(4, a0), (0, a1), (0, a2), (0, a3), (0, v1)], [], s1), (14, [(4, a0), (0, a1), (0, a2), (0, a3), (0, v1)], [], s1)) from rfl) H (fun H => ?_) (fun H => ?_)
  · refine AT.seq [(21, .aload_n 0, 1, (0, 0, 0)), (22, .iload_n 1, 1, (0, 0, 0)), (23, .iload_n 2, 1, (0, 0, 0)), (24, .iload_n 3, 1, (0, 0, 0))] (by decide +kernel) (show jrun _ (21, [(4, a0), (0, a1), (0, a2), (0, a3), (0, v1)], [], s1) = some ([], (25, [(4, a0), (0, a1), (0, a2), (0, a3), (0, v1)], [(0, a3), (0, a2), (0, a1), (4, a0)], s1)) from rfl) ?_
    obtain ⟨v2, s2, h2, H⟩ := jb_some H
    refine AT.callV (As := [(0, a1), (0, a2), (0, a3)]) (cl := 0) (b := a0) (st := []) (i := 335) (pos := 5028) kJc_keepFits (by decide +kernel) rfl (by decide +kernel) rfl rfl (by omega) (Jc_keepFits_ok h2) ?_
    show AT sJc_fits 4 (28, [(4, a0), (0, a1), (0, a2), (0, a3), (0, v1)], [], s2) o
    refine AT.seq [(28, .aload_n 0, 1, (0, 0, 0)), (29, .aload_n 0, 1, (0, 0, 0)), (30, .getfield 54, 3, (2214, 14, 0))] (by decide +kernel) (show jrun _ (28, [(4, a0), (0, a1), (0, a2), (0, a3), (0, v1)], [], s2) = some ([], (33, [(4, a0), (0, a1), (0, a2), (0, a3), (0, v1)], [(12, (a0 + 16)), (4, a0)], s2)) from rfl) ?_
    obtain ⟨v3, s3, h3, H⟩ := jb_some H
    refine AT.callV (As := []) (cl := 8) (b := (a0 + 16)) (st := [(4, a0)]) (i := 326) (pos := 4234) kFi_allWays (by decide +kernel) rfl (by decide +kernel) rfl rfl (by omega) (Fi_allWays_ok h3) ?_
    show AT sJc_fits 4 (36, [(4, a0), (0, a1), (0, a2), (0, a3), (0, v1)], [(0, v3), (4, a0)], s3) o
    obtain ⟨v4, s4, h4, H⟩ := jb_some H
    refine AT.callV (As := [(0, v3)]) (cl := 0) (b := a0) (st := []) (i := 170) (pos := 3215) kJc_answer (by decide +kernel) rfl (by decide +kernel) rfl rfl (by omega) (Jc_answer_ok h4) ?_
    show AT sJc_fits 4 (39, [(4, a0), (0, a1), (0, a2), (0, a3), (0, v1)], [(0, v4)], s4) o
    exact AT.retiH (by decide +kernel) H
  · refine AT.seq [(14, .aload_n 0, 1, (0, 0, 0)), (15, .iload 4, 2, (0, 0, 0))] (by decide +kernel) (show jrun _ (14, [(4, a0), (0, a1), (0, a2), (0, a3), (0, v1)], [], s1) = some ([], (17, [(4, a0), (0, a1), (0, a2), (0, a3), (0, v1)], [(0, v1), (4, a0)], s1)) from rfl) ?_
    obtain ⟨v5, s5, h5, H⟩ := jb_some H
    refine AT.callV (As := [(0, v1)]) (cl := 0) (b := a0) (st := []) (i := 123) (pos := 3066) kJc_refuse (by decide +kernel) rfl (by decide +kernel) rfl rfl (by omega) (Jc_refuse_ok h5) ?_
    show AT sJc_fits 4 (20, [(4, a0), (0, a1), (0, a2), (0, a3), (0, v1)], [(0, v5)], s5) o
    exact AT.retiH (by decide +kernel) H
