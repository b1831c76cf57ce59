/-! printed by wip/whole/gen_all.py: Jc_status, Jc_top, Jc_bottom, Jc_isTray, Jc_deny, Jc_grant, Jc_tray, Jc_trayTrouble, Jc_placeTrouble, Jc_write, Jc_refuse, Jc_read, Jc_decant, Jc_feed, Jc_endText, Jc_answer, Jc_see, Jc_feasts, Jc_fault, Jc_many, Jc_stuff, Jc_mould, Jc_part, Jc_copyFirm, Jc_pour, Jc_empty, Jc_knock, Jc_touch -/
def sJc_status : jS := (⟨"JellyCathedral", "status", "()I"⟩, prog_1_method_2_code, 1, 1, [4], 0)
theorem kJc_status : jmk sJc_status = true := jmk_of 3018 1001 3016 3017 (by decide +kernel)
set_option maxRecDepth 100000 in
theorem Jc_status_ok {a0 : Int} {s : jM} {o : Int × jM} (H : Jc_status a0 s = some o) : MK sJc_status 0 [(4, a0)] s o := by
  refine MK.of kJc_status rfl ?_
  show AT sJc_status 0 (0, [(4, a0)], [], s) o
  unfold Jc_status at H
  refine AT.seq [(0, .aload_n 0, 1, (0, 0, 0)), (1, .getfield 76, 3, (2200, 0, 0))] (by decide +kernel) (show jrun _ (0, [(4, a0)], [], s) = some ([], (4, [(4, a0)], [(0, (s a0 0))], s)) from rfl) ?_
  exact AT.retiH (by decide +kernel) H
def sJc_top : jS := (⟨"JellyCathedral", "top", "()J"⟩, prog_1_method_3_code, 1, 2, [4], 0)
theorem kJc_top : jmk sJc_top = true := jmk_of 3022 1001 3020 3021 (by decide +kernel)
set_option maxRecDepth 100000 in
theorem Jc_top_ok {a0 : Int} {s : jM} {o : Int × jM} (H : Jc_top a0 s = some o) : MK sJc_top 0 [(4, a0)] s o := by
  refine MK.of kJc_top rfl ?_
  show AT sJc_top 0 (0, [(4, a0)], [], s) o
  unfold Jc_top at H
  refine AT.seq [(0, .aload_n 0, 1, (0, 0, 0)), (1, .getfield 80, 3, (2201, 1, 0))] (by decide +kernel) (show jrun _ (0, [(4, a0)], [], s) = some ([], (4, [(4, a0)], [(1, (s a0 1))], s)) from rfl) ?_
  exact AT.retlH (by decide +kernel) H
def sJc_bottom : jS := (⟨"JellyCathedral", "bottom", "()J"⟩, prog_1_method_4_code, 1, 2, [4], 0)
theorem kJc_bottom : jmk sJc_bottom = true := jmk_of 3026 1001 3024 3025 (by decide +kernel)
set_option maxRecDepth 100000 in
theorem Jc_bottom_ok {a0 : Int} {s : jM} {o : Int × jM} (H : Jc_bottom a0 s = some o) : MK sJc_bottom 0 [(4, a0)] s o := by
  refine MK.of kJc_bottom rfl ?_
  show AT sJc_bottom 0 (0, [(4, a0)], [], s) o
  unfold Jc_bottom at H
  refine AT.seq [(0, .aload_n 0, 1, (0, 0, 0)), (1, .getfield 84, 3, (2202, 2, 0))] (by decide +kernel) (show jrun _ (0, [(4, a0)], [], s) = some ([], (4, [(4, a0)], [(1, (s a0 2))], s)) from rfl) ?_
  exact AT.retlH (by decide +kernel) H
def sJc_isTray : jS := (⟨"JellyCathedral", "isTray", "(I)Z"⟩, prog_1_method_62_code, 1, 3, [0], 1)
theorem kJc_isTray : jmk sJc_isTray = true := jmk_of 3033 1001 3032 0 (by decide +kernel)
set_option maxRecDepth 100000 in
theorem Jc_isTray_ok {a0 : Int} {s : jM} {o : Int × jM} (H : Jc_isTray a0 s = some o) : MK sJc_isTray 0 [(0, a0)] s o := by
  refine MK.of kJc_isTray rfl ?_
  show AT sJc_isTray 0 (0, [(0, a0)], [], s) o
  unfold Jc_isTray at H
  refine AT.seq [(0, .iload_n 0, 1, (0, 0, 0))] (by decide +kernel) (show jrun _ (0, [(0, a0)], [], s) = some ([], (1, [(0, a0)], [(0, a0)], s)) from rfl) ?_
  refine AT.ite (x := (0, 0, 0)) (by decide +kernel) (show jbr (.ifCond .lt 12) (1, [(0, a0)], [(0, a0)], s) = some ((w32 a0) < 0, (13, [(0, a0)], [], s), (4, [(0, a0)], [], s)) from rfl) H (fun H => ?_) (fun H => ?_)
  · refine AT.seq [(13, .iconst 0, 1, (0, 0, 0))] (by decide +kernel) (show jrun _ (13, [(0, a0)], [], s) = some ([], (14, [(0, a0)], [(0, 0)], s)) from rfl) ?_
    exact AT.retzC (by decide +kernel) (by decide) H
  · refine AT.seq [(4, .iload_n 0, 1, (0, 0, 0)), (5, .iconst 4, 1, (0, 0, 0))] (by decide +kernel) (show jrun _ (4, [(0, a0)], [], s) = some ([], (6, [(0, a0)], [(0, 4), (0, a0)], s)) from rfl) ?_
    refine AT.ite (x := (0, 0, 0)) (by decide +kernel) (show jbr (.if_icmp .ge 7) (6, [(0, a0)], [(0, 4), (0, a0)], s) = some ((w32 a0) < 4, (9, [(0, a0)], [], s), (13, [(0, a0)], [], s)) from rfl) H (fun H => ?_) (fun H => ?_)
    · refine AT.seq [(9, .iconst 1, 1, (0, 0, 0)), (10, .goto 4, 3, (0, 0, 0))] (by decide +kernel) (show jrun _ (9, [(0, a0)], [], s) = some ([], (14, [(0, a0)], [(0, 1)], s)) from rfl) ?_
      exact AT.retzC (by decide +kernel) (by decide) H
    · refine AT.seq [(13, .iconst 0, 1, (0, 0, 0))] (by decide +kernel) (show jrun _ (13, [(0, a0)], [], s) = some ([], (14, [(0, a0)], [(0, 0)], s)) from rfl) ?_
      exact AT.retzC (by decide +kernel) (by decide) H
def sJc_deny : jS := (⟨"JellyCathedral", "deny", "(I)Z"⟩, prog_1_method_53_code, 2, 3, [4, 0], 0)
theorem kJc_deny : jmk sJc_deny = true := jmk_of 3037 1001 3036 0 (by decide +kernel)
set_option maxRecDepth 100000 in
theorem Jc_deny_ok {a0 a1 : Int} {s : jM} {o : Int × jM} (H : Jc_deny a0 a1 s = some o) : MK sJc_deny 0 [(4, a0), (0, a1)] s o := by
  refine MK.of kJc_deny rfl ?_
  show AT sJc_deny 0 (0, [(4, a0), (0, a1)], [], s) o
  unfold Jc_deny at H
  refine AT.seq [(0, .aload_n 0, 1, (0, 0, 0)), (1, .iload_n 1, 1, (0, 0, 0)), (2, .putfield 76, 3, (2200, 0, 0)), (5, .iconst 0, 1, (0, 0, 0))] (by decide +kernel) (show jrun _ (0, [(4, a0), (0, a1)], [], s) = some ([], (6, [(4, a0), (0, a1)], [(0, 0)], (jup s a0 0 a1))) from rfl) ?_
  exact AT.retzC (by decide +kernel) (by decide) H
def sJc_grant : jS := (⟨"JellyCathedral", "grant", "()Z"⟩, prog_1_method_52_code, 1, 3, [4], 0)
theorem kJc_grant : jmk sJc_grant = true := jmk_of 3045 1001 3044 1 (by decide +kernel)
set_option maxRecDepth 100000 in
theorem Jc_grant_ok {a0 : Int} {s : jM} {o : Int × jM} (H : Jc_grant a0 s = some o) : MK sJc_grant 0 [(4, a0)] s o := by
  refine MK.of kJc_grant rfl ?_
  show AT sJc_grant 0 (0, [(4, a0)], [], s) o
  unfold Jc_grant at H
  refine AT.seq [(0, .aload_n 0, 1, (0, 0, 0)), (1, .iconst 0, 1, (0, 0, 0)), (2, .putfield 76, 3, (2200, 0, 0)), (5, .iconst 1, 1, (0, 0, 0))] (by decide +kernel) (show jrun _ (0, [(4, a0)], [], s) = some ([], (6, [(4, a0)], [(0, 1)], (jup s a0 0 0))) from rfl) ?_
  exact AT.retzC (by decide +kernel) (by decide) H
def sJc_tray : jS := (⟨"JellyCathedral", "tray", "(III)Z"⟩, prog_1_method_5_code, 4, 3, [4, 0, 0, 0], 0)
theorem kJc_tray : jmk sJc_tray = true := jmk_of 3030 1001 3028 3029 (by decide +kernel)
set_option maxRecDepth 100000 in
theorem Jc_tray_ok {a0 a1 a2 a3 : Int} {s : jM} {o : Int × jM} (H : Jc_tray a0 a1 a2 a3 s = some o) : MK sJc_tray 1 [(4, a0), (0, a1), (0, a2), (0, a3)] s o := by
  refine MK.of kJc_tray rfl ?_
  show AT sJc_tray 1 (0, [(4, a0), (0, a1), (0, a2), (0, a3)], [], s) o
  unfold Jc_tray at H
  refine AT.seq [(0, .iload_n 1, 1, (0, 0, 0))] (by decide +kernel) (show jrun _ (0, [(4, a0), (0, a1), (0, a2), (0, a3)], [], s) = some ([], (1, [(4, a0), (0, a1), (0, a2), (0, a3)], [(0, a1)], s)) from rfl) ?_
  obtain ⟨v1, s1, h1, H⟩ := jb_some H
  refine AT.callS (As := [(0, a1)]) (st := []) (i := 100) (pos := 3031) kJc_isTray (by decide +kernel) rfl rfl rfl (by omega) (Jc_isTray_ok h1) ?_
  show AT sJc_tray 1 (4, [(4, a0), (0, a1), (0, a2), (0, a3)], [(0, v1)], s1) o
  refine AT.ite (x := (0, 0, 0)) (by decide +kernel) (show jbr (.ifCond .eq 12) (4, [(4, a0), (0, a1), (0, a2), (0, a3)], [(0, v1)], s1) = some ((w32 v1) = 0, (16, [(4, a0), (0, a1), (0, a2), (0, a3)], [], s1), (7, [(4, a0), (0, a1), (0, a2), (0, a3)], [], s1)) from rfl) H (fun H => ?_) (fun H => ?_)
  · refine AT.seq [(16, .aload_n 0, 1, (0, 0, 0)), (17, .iconst 1, 1, (0, 0, 0))] (by decide +kernel) (show jrun _ (16, [(4, a0), (0, a1), (0, a2), (0, a3)], [], s1) = some ([], (18, [(4, a0), (0, a1), (0, a2), (0, a3)], [(0, 1), (4, a0)], s1)) from rfl) ?_
    obtain ⟨v2, s2, h2, H⟩ := jb_some H
    refine AT.callV (As := [(0, 1)]) (cl := 0) (b := a0) (st := []) (i := 104) (pos := 3034) kJc_deny (by decide +kernel) rfl (by decide +kernel) rfl rfl (by omega) (Jc_deny_ok h2) ?_
    show AT sJc_tray 1 (21, [(4, a0), (0, a1), (0, a2), (0, a3)], [(0, v2)], s2) o
    exact AT.retzH (by decide +kernel) H
  · refine AT.seq [(7, .iload_n 2, 1, (0, 0, 0))] (by decide +kernel) (show jrun _ (7, [(4, a0), (0, a1), (0, a2), (0, a3)], [], s1) = some ([], (8, [(4, a0), (0, a1), (0, a2), (0, a3)], [(0, a2)], s1)) from rfl) ?_
    refine AT.ite (x := (0, 0, 0)) (by decide +kernel) (show jbr (.ifCond .lt 8) (8, [(4, a0), (0, a1), (0, a2), (0, a3)], [(0, a2)], s1) = some ((w32 a2) < 0, (16, [(4, a0), (0, a1), (0, a2), (0, a3)], [], s1), (11, [(4, a0), (0, a1), (0, a2), (0, a3)], [], s1)) from rfl) H (fun H => ?_) (fun H => ?_)
    · refine AT.seq [(16, .aload_n 0, 1, (0, 0, 0)), (17, .iconst 1, 1, (0, 0, 0))] (by decide +kernel) (show jrun _ (16, [(4, a0), (0, a1), (0, a2), (0, a3)], [], s1) = some ([], (18, [(4, a0), (0, a1), (0, a2), (0, a3)], [(0, 1), (4, a0)], s1)) from rfl) ?_
      obtain ⟨v3, s3, h3, H⟩ := jb_some H
      refine AT.callV (As := [(0, 1)]) (cl := 0) (b := a0) (st := []) (i := 104) (pos := 3034) kJc_deny (by decide +kernel) rfl (by decide +kernel) rfl rfl (by omega) (Jc_deny_ok h3) ?_
      show AT sJc_tray 1 (21, [(4, a0), (0, a1), (0, a2), (0, a3)], [(0, v3)], s3) o
      exact AT.retzH (by decide +kernel) H
    · refine AT.seq [(11, .iload_n 2, 1, (0, 0, 0)), (12, .iconst 3, 1, (0, 0, 0))] (by decide +kernel) (show jrun _ (11, [(4, a0), (0, a1), (0, a2), (0, a3)], [], s1) = some ([], (13, [(4, a0), (0, a1), (0, a2), (0, a3)], [(0, 3), (0, a2)], s1)) from rfl) ?_
      refine AT.ite (x := (0, 0, 0)) (by decide +kernel) (show jbr (.if_icmp .le 9) (13, [(4, a0), (0, a1), (0, a2), (0, a3)], [(0, 3), (0, a2)], s1) = some (3 < (w32 a2), (16, [(4, a0), (0, a1), (0, a2), (0, a3)], [], s1), (22, [(4, a0), (0, a1), (0, a2), (0, a3)], [], s1)) from rfl) H (fun H => ?_) (fun H => ?_)
      · refine AT.seq [(16, .aload_n 0, 1, (0, 0, 0)), (17, .iconst 1, 1, (0, 0, 0))] (by decide +kernel) (show jrun _ (16, [(4, a0), (0, a1), (0, a2), (0, a3)], [], s1) = some ([], (18, [(4, a0), (0, a1), (0, a2), (0, a3)], [(0, 1), (4, a0)], s1)) from rfl) ?_
        obtain ⟨v4, s4, h4, H⟩ := jb_some H
        refine AT.callV (As := [(0, 1)]) (cl := 0) (b := a0) (st := []) (i := 104) (pos := 3034) kJc_deny (by decide +kernel) rfl (by decide +kernel) rfl rfl (by omega) (Jc_deny_ok h4) ?_
        show AT sJc_tray 1 (21, [(4, a0), (0, a1), (0, a2), (0, a3)], [(0, v4)], s4) o
        exact AT.retzH (by decide +kernel) H
      · refine AT.seq [(22, .iload_n 3, 1, (0, 0, 0)), (23, .bipush 60, 2, (0, 0, 0))] (by decide +kernel) (show jrun _ (22, [(4, a0), (0, a1), (0, a2), (0, a3)], [], s1) = some ([], (25, [(4, a0), (0, a1), (0, a2), (0, a3)], [(0, 60), (0, a3)], s1)) from rfl) ?_
        refine AT.ite (x := (0, 0, 0)) (by decide +kernel) (show jbr (.if_icmp .le 9) (25, [(4, a0), (0, a1), (0, a2), (0, a3)], [(0, 60), (0, a3)], s1) = some (60 < (w32 a3), (28, [(4, a0), (0, a1), (0, a2), (0, a3)], [], s1), (34, [(4, a0), (0, a1), (0, a2), (0, a3)], [], s1)) from rfl) H (fun H => ?_) (fun H => ?_)
        · refine AT.seq [(28, .aload_n 0, 1, (0, 0, 0)), (29, .iconst 5, 1, (0, 0, 0))] (by decide +kernel) (show jrun _ (28, [(4, a0), (0, a1), (0, a2), (0, a3)], [], s1) = some ([], (30, [(4, a0), (0, a1), (0, a2), (0, a3)], [(0, 5), (4, a0)], s1)) from rfl) ?_
          obtain ⟨v5, s5, h5, H⟩ := jb_some H
          refine AT.callV (As := [(0, 5)]) (cl := 0) (b := a0) (st := []) (i := 104) (pos := 3034) kJc_deny (by decide +kernel) rfl (by decide +kernel) rfl rfl (by omega) (Jc_deny_ok h5) ?_
          show AT sJc_tray 1 (33, [(4, a0), (0, a1), (0, a2), (0, a3)], [(0, v5)], s5) o
          exact AT.retzH (by decide +kernel) H
        · refine AT.seq [(34, .iload_n 3, 1, (0, 0, 0))] (by decide +kernel) (show jrun _ (34, [(4, a0), (0, a1), (0, a2), (0, a3)], [], s1) = some ([], (35, [(4, a0), (0, a1), (0, a2), (0, a3)], [(0, a3)], s1)) from rfl) ?_
          refine AT.ite (x := (0, 0, 0)) (by decide +kernel) (show jbr (.ifCond .ge 10) (35, [(4, a0), (0, a1), (0, a2), (0, a3)], [(0, a3)], s1) = some ((w32 a3) < 0, (38, [(4, a0), (0, a1), (0, a2), (0, a3)], [], s1), (45, [(4, a0), (0, a1), (0, a2), (0, a3)], [], s1)) from rfl) H (fun H => ?_) (fun H => ?_)
          · refine AT.seq [(38, .aload_n 0, 1, (0, 0, 0)), (39, .bipush 6, 2, (0, 0, 0))] (by decide +kernel) (show jrun _ (38, [(4, a0), (0, a1), (0, a2), (0, a3)], [], s1) = some ([], (41, [(4, a0), (0, a1), (0, a2), (0, a3)], [(0, 6), (4, a0)], s1)) from rfl) ?_
            obtain ⟨v6, s6, h6, H⟩ := jb_some H
            refine AT.callV (As := [(0, 6)]) (cl := 0) (b := a0) (st := []) (i := 104) (pos := 3034) kJc_deny (by decide +kernel) rfl (by decide +kernel) rfl rfl (by omega) (Jc_deny_ok h6) ?_
            show AT sJc_tray 1 (44, [(4, a0), (0, a1), (0, a2), (0, a3)], [(0, v6)], s6) o
            exact AT.retzH (by decide +kernel) H
          · refine AT.blk (g := (0 ≤ (w32 a1) ∧ (w32 a1) < 4)) [(45, .aload_n 0, 1, (0, 0, 0)), (46, .getfield 11, 3, (2209, 9, 0)), (49, .iload_n 1, 1, (0, 0, 0)), (50, .aaload, 1, (0, 0, 0)), (51, .iload_n 2, 1, (0, 0, 0)), (52, .iload_n 3, 1, (0, 0, 0))] (by decide +kernel) (show jrun _ (45, [(4, a0), (0, a1), (0, a2), (0, a3)], [], s1) = some ([(0 ≤ (w32 a1) ∧ (w32 a1) < 4)], (53, [(4, a0), (0, a1), (0, a2), (0, a3)], [(0, a3), (0, a2), (5, ((a0 + 1) + 1 + 2 * (w32 a1)))], s1)) from rfl) (fun h => h) H (fun H => ?_)
            obtain ⟨v7, s7, h7, H⟩ := jb_some H
            refine AT.callV (As := [(0, a2), (0, a3)]) (cl := 1) (b := ((a0 + 1) + 1 + 2 * (w32 a1))) (st := []) (i := 107) (pos := 3038) kTr_become (by decide +kernel) rfl (by decide +kernel) rfl rfl (by omega) (Tr_become_ok h7) ?_
            show AT sJc_tray 1 (56, [(4, a0), (0, a1), (0, a2), (0, a3)], [], s7) o
            refine AT.seq [(56, .aload_n 0, 1, (0, 0, 0))] (by decide +kernel) (show jrun _ (56, [(4, a0), (0, a1), (0, a2), (0, a3)], [], s7) = some ([], (57, [(4, a0), (0, a1), (0, a2), (0, a3)], [(4, a0)], s7)) from rfl) ?_
            obtain ⟨v8, s8, h8, H⟩ := jb_some H
            refine AT.callV (As := []) (cl := 0) (b := a0) (st := []) (i := 111) (pos := 3042) kJc_grant (by decide +kernel) rfl (by decide +kernel) rfl rfl (by omega) (Jc_grant_ok h8) ?_
            show AT sJc_tray 1 (60, [(4, a0), (0, a1), (0, a2), (0, a3)], [(0, v8)], s8) o
            exact AT.retzH (by decide +kernel) H
def sJc_trayTrouble : jS := (⟨"JellyCathedral", "trayTrouble", "(I)I"⟩, prog_1_method_56_code, 2, 1, [4, 0], 0)
theorem kJc_trayTrouble : jmk sJc_trayTrouble = true := jmk_of 3057 1001 3056 3 (by decide +kernel)
set_option maxRecDepth 100000 in
theorem Jc_trayTrouble_ok {a0 a1 : Int} {s : jM} {o : Int × jM} (H : Jc_trayTrouble a0 a1 s = some o) : MK sJc_trayTrouble 1 [(4, a0), (0, a1)] s o := by
  refine MK.of kJc_trayTrouble rfl ?_
  show AT sJc_trayTrouble 1 (0, [(4, a0), (0, a1)], [], s) o
  unfold Jc_trayTrouble at H
  refine AT.seq [(0, .iload_n 1, 1, (0, 0, 0))] (by decide +kernel) (show jrun _ (0, [(4, a0), (0, a1)], [], s) = some ([], (1, [(4, a0), (0, a1)], [(0, a1)], s)) from rfl) ?_
  obtain ⟨v1, s1, h1, H⟩ := jb_some H
  refine AT.callS (As := [(0, a1)]) (st := []) (i := 100) (pos := 3031) kJc_isTray (by decide +kernel) rfl rfl rfl (by omega) (Jc_isTray_ok h1) ?_
  show AT sJc_trayTrouble 1 (4, [(4, a0), (0, a1)], [(0, v1)], s1) o
  refine AT.ite (x := (0, 0, 0)) (by decide +kernel) (show jbr (.ifCond .ne 5) (4, [(4, a0), (0, a1)], [(0, v1)], s1) = some ((w32 v1) = 0, (7, [(4, a0), (0, a1)], [], s1), (9, [(4, a0), (0, a1)], [], s1)) from rfl) H (fun H => ?_) (fun H => ?_)
  · refine AT.seq [(7, .iconst 1, 1, (0, 0, 0))] (by decide +kernel) (show jrun _ (7, [(4, a0), (0, a1)], [], s1) = some ([], (8, [(4, a0), (0, a1)], [(0, 1)], s1)) from rfl) ?_
    exact AT.retiH (by decide +kernel) H
  · refine AT.blk (g := (0 ≤ (w32 a1) ∧ (w32 a1) < 4)) [(9, .aload_n 0, 1, (0, 0, 0)), (10, .getfield 11, 3, (2209, 9, 0)), (13, .iload_n 1, 1, (0, 0, 0)), (14, .aaload, 1, (0, 0, 0)), (15, .getfield 131, 3, (1031, 100, 0))] (by decide +kernel) (show jrun _ (9, [(4, a0), (0, a1)], [], s1) = some ([(0 ≤ (w32 a1) ∧ (w32 a1) < 4)], (18, [(4, a0), (0, a1)], [(0, (s1 ((a0 + 1) + 1 + 2 * (w32 a1)) 0))], s1)) from rfl) (fun h => h) H (fun H => ?_)
    refine AT.ite (x := (0, 0, 0)) (by decide +kernel) (show jbr (.ifCond .eq 7) (18, [(4, a0), (0, a1)], [(0, (s1 ((a0 + 1) + 1 + 2 * (w32 a1)) 0))], s1) = some ((w32 (s1 ((a0 + 1) + 1 + 2 * (w32 a1)) 0)) = 0, (25, [(4, a0), (0, a1)], [], s1), (21, [(4, a0), (0, a1)], [], s1)) from rfl) H (fun H => ?_) (fun H => ?_)
    · refine AT.seq [(25, .iconst 3, 1, (0, 0, 0))] (by decide +kernel) (show jrun _ (25, [(4, a0), (0, a1)], [], s1) = some ([], (26, [(4, a0), (0, a1)], [(0, 3)], s1)) from rfl) ?_
      exact AT.retiH (by decide +kernel) H
    · refine AT.seq [(21, .iconst 0, 1, (0, 0, 0)), (22, .goto 4, 3, (0, 0, 0))] (by decide +kernel) (show jrun _ (21, [(4, a0), (0, a1)], [], s1) = some ([], (26, [(4, a0), (0, a1)], [(0, 0)], s1)) from rfl) ?_
      exact AT.retiH (by decide +kernel) H
def sJc_placeTrouble : jS := (⟨"JellyCathedral", "placeTrouble", "(II)I"⟩, prog_1_method_57_code, 4, 1, [4, 0, 0], 0)
theorem kJc_placeTrouble : jmk sJc_placeTrouble = true := jmk_of 3053 1001 3052 2 (by decide +kernel)
set_option maxRecDepth 100000 in
theorem Jc_placeTrouble_ok {a0 a1 a2 : Int} {s : jM} {o : Int × jM} (H : Jc_placeTrouble a0 a1 a2 s = some o) : MK sJc_placeTrouble 2 [(4, a0), (0, a1), (0, a2)] s o := by
  refine MK.of kJc_placeTrouble rfl ?_
  show AT sJc_placeTrouble 2 (0, [(4, a0), (0, a1), (0, a2), (99, 0)], [], s) o
  unfold Jc_placeTrouble at H
  refine AT.seq [(0, .aload_n 0, 1, (0, 0, 0)), (1, .iload_n 1, 1, (0, 0, 0))] (by decide +kernel) (show jrun _ (0, [(4, a0), (0, a1), (0, a2), (99, 0)], [], s) = some ([], (2, [(4, a0), (0, a1), (0, a2), (99, 0)], [(0, a1), (4, a0)], s)) from rfl) ?_
  obtain ⟨v1, s1, h1, H⟩ := jb_some H
  refine AT.callV (As := [(0, a1)]) (cl := 0) (b := a0) (st := []) (i := 262) (pos := 3054) kJc_trayTrouble (by decide +kernel) rfl (by decide +kernel) rfl rfl (by omega) (Jc_trayTrouble_ok h1) ?_
  show AT sJc_placeTrouble 2 (5, [(4, a0), (0, a1), (0, a2), (99, 0)], [(0, v1)], s1) o
  refine AT.seq [(5, .istore_n 3, 1, (0, 0, 0)), (6, .iload_n 3, 1, (0, 0, 0))] (by decide +kernel) (show jrun _ (5, [(4, a0), (0, a1), (0, a2), (99, 0)], [(0, v1)], s1) = some ([], (7, [(4, a0), (0, a1), (0, a2), (0, v1)], [(0, v1)], s1)) from rfl) ?_
  refine AT.ite (x := (0, 0, 0)) (by decide +kernel) (show jbr (.ifCond .eq 5) (7, [(4, a0), (0, a1), (0, a2), (0, v1)], [(0, v1)], s1) = some ((w32 v1) = 0, (12, [(4, a0), (0, a1), (0, a2), (0, v1)], [], s1), (10, [(4, a0), (0, a1), (0, a2), (0, v1)], [], s1)) from rfl) H (fun H => ?_) (fun H => ?_)
  · refine AT.seq [(12, .iload_n 2, 1, (0, 0, 0))] (by decide +kernel) (show jrun _ (12, [(4, a0), (0, a1), (0, a2), (0, v1)], [], s1) = some ([], (13, [(4, a0), (0, a1), (0, a2), (0, v1)], [(0, a2)], s1)) from rfl) ?_
    refine AT.ite (x := (0, 0, 0)) (by decide +kernel) (show jbr (.ifCond .lt 16) (13, [(4, a0), (0, a1), (0, a2), (0, v1)], [(0, a2)], s1) = some ((w32 a2) < 0, (29, [(4, a0), (0, a1), (0, a2), (0, v1)], [], s1), (16, [(4, a0), (0, a1), (0, a2), (0, v1)], [], s1)) from rfl) H (fun H => ?_) (fun H => ?_)
    · refine AT.seq [(29, .iconst 4, 1, (0, 0, 0)), (30, .goto 4, 3, (0, 0, 0))] (by decide +kernel) (show jrun _ (29, [(4, a0), (0, a1), (0, a2), (0, v1)], [], s1) = some ([], (34, [(4, a0), (0, a1), (0, a2), (0, v1)], [(0, 4)], s1)) from rfl) ?_
      exact AT.retiH (by decide +kernel) H
    · refine AT.blk (g := (0 ≤ (w32 a1) ∧ (w32 a1) < 4)) [(16, .iload_n 2, 1, (0, 0, 0)), (17, .aload_n 0, 1, (0, 0, 0)), (18, .getfield 11, 3, (2209, 9, 0)), (21, .iload_n 1, 1, (0, 0, 0)), (22, .aaload, 1, (0, 0, 0)), (23, .getfield 137, 3, (1035, 102, 0))] (by decide +kernel) (show jrun _ (16, [(4, a0), (0, a1), (0, a2), (0, v1)], [], s1) = some ([(0 ≤ (w32 a1) ∧ (w32 a1) < 4)], (26, [(4, a0), (0, a1), (0, a2), (0, v1)], [(0, (s1 ((a0 + 1) + 1 + 2 * (w32 a1)) 2)), (0, a2)], s1)) from rfl) (fun h => h) H (fun H => ?_)
      refine AT.ite (x := (0, 0, 0)) (by decide +kernel) (show jbr (.if_icmp .lt 7) (26, [(4, a0), (0, a1), (0, a2), (0, v1)], [(0, (s1 ((a0 + 1) + 1 + 2 * (w32 a1)) 2)), (0, a2)], s1) = some ((w32 a2) < (w32 (s1 ((a0 + 1) + 1 + 2 * (w32 a1)) 2)), (33, [(4, a0), (0, a1), (0, a2), (0, v1)], [], s1), (29, [(4, a0), (0, a1), (0, a2), (0, v1)], [], s1)) from rfl) H (fun H => ?_) (fun H => ?_)
      · refine AT.seq [(33, .iconst 0, 1, (0, 0, 0))] (by decide +kernel) (show jrun _ (33, [(4, a0), (0, a1), (0, a2), (0, v1)], [], s1) = some ([], (34, [(4, a0), (0, a1), (0, a2), (0, v1)], [(0, 0)], s1)) from rfl) ?_
        exact AT.retiH (by decide +kernel) H
      · refine AT.seq [(29, .iconst 4, 1, (0, 0, 0)), (30, .goto 4, 3, (0, 0, 0))] (by decide +kernel) (show jrun _ (29, [(4, a0), (0, a1), (0, a2), (0, v1)], [], s1) = some ([], (34, [(4, a0), (0, a1), (0, a2), (0, v1)], [(0, 4)], s1)) from rfl) ?_
        exact AT.retiH (by decide +kernel) H
  · refine AT.seq [(10, .iload_n 3, 1, (0, 0, 0))] (by decide +kernel) (show jrun _ (10, [(4, a0), (0, a1), (0, a2), (0, v1)], [], s1) = some ([], (11, [(4, a0), (0, a1), (0, a2), (0, v1)], [(0, v1)], s1)) from rfl) ?_
    exact AT.retiH (by decide +kernel) H
def sJc_write : jS := (⟨"JellyCathedral", "write", "(IIJ)Z"⟩, prog_1_method_6_code, 6, 3, [4, 0, 0, 1], 0)
theorem kJc_write : jmk sJc_write = true := jmk_of 3049 1001 3047 3048 (by decide +kernel)
set_option maxRecDepth 100000 in
theorem Jc_write_ok {a0 a1 a2 a3 : Int} {s : jM} {o : Int × jM} (H : Jc_write a0 a1 a2 a3 s = some o) : MK sJc_write 3 [(4, a0), (0, a1), (0, a2), (1, a3)] s o := by
  refine MK.of kJc_write rfl ?_
  show AT sJc_write 3 (0, [(4, a0), (0, a1), (0, a2), (1, a3), (99, 0), (99, 0)], [], s) o
  unfold Jc_write at H
  refine AT.seq [(0, .aload_n 0, 1, (0, 0, 0)), (1, .iload_n 1, 1, (0, 0, 0)), (2, .iload_n 2, 1, (0, 0, 0))] (by decide +kernel) (show jrun _ (0, [(4, a0), (0, a1), (0, a2), (1, a3), (99, 0), (99, 0)], [], s) = some ([], (3, [(4, a0), (0, a1), (0, a2), (1, a3), (99, 0), (99, 0)], [(0, a2), (0, a1), (4, a0)], s)) from rfl) ?_
  obtain ⟨v1, s1, h1, H⟩ := jb_some H
  refine AT.callV (As := [(0, a1), (0, a2)]) (cl := 0) (b := a0) (st := []) (i := 115) (pos := 3050) kJc_placeTrouble (by decide +kernel) rfl (by decide +kernel) rfl rfl (by omega) (Jc_placeTrouble_ok h1) ?_
  show AT sJc_write 3 (6, [(4, a0), (0, a1), (0, a2), (1, a3), (99, 0), (99, 0)], [(0, v1)], s1) o
  refine AT.seq [(6, .istore 5, 2, (0, 0, 0)), (8, .iload 5, 2, (0, 0, 0))] (by decide +kernel) (show jrun _ (6, [(4, a0), (0, a1), (0, a2), (1, a3), (99, 0), (99, 0)], [(0, v1)], s1) = some ([], (10, [(4, a0), (0, a1), (0, a2), (1, a3), (99, 0), (0, v1)], [(0, v1)], s1)) from rfl) ?_
  refine AT.ite (x := (0, 0, 0)) (by decide +kernel) (show jbr (.ifCond .eq 10) (10, [(4, a0), (0, a1), (0, a2), (1, a3), (99, 0), (0, v1)], [(0, v1)], s1) = some ((w32 v1) = 0, (20, [(4, a0), (0, a1), (0, a2), (1, a3), (99, 0), (0, v1)], [], s1), (13, [(4, a0), (0, a1), (0, a2), (1, a3), (99, 0), (0, v1)], [], s1)) from rfl) H (fun H => ?_) (fun H => ?_)
  · refine AT.blk (g := (0 ≤ (w32 a1) ∧ (w32 a1) < 4)) [(20, .aload_n 0, 1, (0, 0, 0)), (21, .getfield 11, 3, (2209, 9, 0)), (24, .iload_n 1, 1, (0, 0, 0)), (25, .aaload, 1, (0, 0, 0)), (26, .iload_n 2, 1, (0, 0, 0)), (27, .lload_n 3, 1, (0, 0, 0))] (by decide +kernel) (show jrun _ (20, [(4, a0), (0, a1), (0, a2), (1, a3), (99, 0), (0, v1)], [], s1) = some ([(0 ≤ (w32 a1) ∧ (w32 a1) < 4)], (28, [(4, a0), (0, a1), (0, a2), (1, a3), (99, 0), (0, v1)], [(1, a3), (0, a2), (5, ((a0 + 1) + 1 + 2 * (w32 a1)))], s1)) from rfl) (fun h => h) H (fun H => ?_)
    obtain ⟨v2, s2, h2, H⟩ := jb_some H
    refine AT.callV (As := [(0, a2), (1, a3)]) (cl := 1) (b := ((a0 + 1) + 1 + 2 * (w32 a1))) (st := []) (i := 119) (pos := 3058) kTr_put (by decide +kernel) rfl (by decide +kernel) rfl rfl (by omega) (Tr_put_ok h2) ?_
    show AT sJc_write 3 (31, [(4, a0), (0, a1), (0, a2), (1, a3), (99, 0), (0, v1)], [], s2) o
    refine AT.seq [(31, .aload_n 0, 1, (0, 0, 0))] (by decide +kernel) (show jrun _ (31, [(4, a0), (0, a1), (0, a2), (1, a3), (99, 0), (0, v1)], [], s2) = some ([], (32, [(4, a0), (0, a1), (0, a2), (1, a3), (99, 0), (0, v1)], [(4, a0)], s2)) from rfl) ?_
    obtain ⟨v3, s3, h3, H⟩ := jb_some H
    refine AT.callV (As := []) (cl := 0) (b := a0) (st := []) (i := 111) (pos := 3042) kJc_grant (by decide +kernel) rfl (by decide +kernel) rfl rfl (by omega) (Jc_grant_ok h3) ?_
    show AT sJc_write 3 (35, [(4, a0), (0, a1), (0, a2), (1, a3), (99, 0), (0, v1)], [(0, v3)], s3) o
    exact AT.retzH (by decide +kernel) H
  · refine AT.seq [(13, .aload_n 0, 1, (0, 0, 0)), (14, .iload 5, 2, (0, 0, 0))] (by decide +kernel) (show jrun _ (13, [(4, a0), (0, a1), (0, a2), (1, a3), (99, 0), (0, v1)], [], s1) = some ([], (16, [(4, a0), (0, a1), (0, a2), (1, a3), (99, 0), (0, v1)], [(0, v1), (4, a0)], s1)) from rfl) ?_
    obtain ⟨v4, s4, h4, H⟩ := jb_some H
    refine AT.callV (As := [(0, v1)]) (cl := 0) (b := a0) (st := []) (i := 104) (pos := 3034) kJc_deny (by decide +kernel) rfl (by decide +kernel) rfl rfl (by omega) (Jc_deny_ok h4) ?_
    show AT sJc_write 3 (19, [(4, a0), (0, a1), (0, a2), (1, a3), (99, 0), (0, v1)], [(0, v4)], s4) o
    exact AT.retzH (by decide +kernel) H
def sJc_refuse : jS := (⟨"JellyCathedral", "refuse", "(I)I"⟩, prog_1_method_51_code, 2, 1, [4, 0], 0)
theorem kJc_refuse : jmk sJc_refuse = true := jmk_of 3069 1001 3068 4 (by decide +kernel)
set_option maxRecDepth 100000 in
theorem Jc_refuse_ok {a0 a1 : Int} {s : jM} {o : Int × jM} (H : Jc_refuse a0 a1 s = some o) : MK sJc_refuse 0 [(4, a0), (0, a1)] s o := by
  refine MK.of kJc_refuse rfl ?_
  show AT sJc_refuse 0 (0, [(4, a0), (0, a1)], [], s) o
  unfold Jc_refuse at H
  refine AT.seq [(0, .aload_n 0, 1, (0, 0, 0)), (1, .iload_n 1, 1, (0, 0, 0)), (2, .putfield 76, 3, (2200, 0, 0)), (5, .iconst (-1), 1, (0, 0, 0))] (by decide +kernel) (show jrun _ (0, [(4, a0), (0, a1)], [], s) = some ([], (6, [(4, a0), (0, a1)], [(0, (-1))], (jup s a0 0 a1))) from rfl) ?_
  exact AT.retiH (by decide +kernel) H
def sJc_read : jS := (⟨"JellyCathedral", "read", "(II)J"⟩, prog_1_method_7_code, 4, 2, [4, 0, 0], 0)
theorem kJc_read : jmk sJc_read = true := jmk_of 3065 1001 3063 3064 (by decide +kernel)
set_option maxRecDepth 100000 in
theorem Jc_read_ok {a0 a1 a2 : Int} {s : jM} {o : Int × jM} (H : Jc_read a0 a1 a2 s = some o) : MK sJc_read 3 [(4, a0), (0, a1), (0, a2)] s o := by
  refine MK.of kJc_read rfl ?_
  show AT sJc_read 3 (0, [(4, a0), (0, a1), (0, a2), (99, 0)], [], s) o
  unfold Jc_read at H
  refine AT.seq [(0, .aload_n 0, 1, (0, 0, 0)), (1, .iload_n 1, 1, (0, 0, 0)), (2, .iload_n 2, 1, (0, 0, 0))] (by decide +kernel) (show jrun _ (0, [(4, a0), (0, a1), (0, a2), (99, 0)], [], s) = some ([], (3, [(4, a0), (0, a1), (0, a2), (99, 0)], [(0, a2), (0, a1), (4, a0)], s)) from rfl) ?_
  obtain ⟨v1, s1, h1, H⟩ := jb_some H
  refine AT.callV (As := [(0, a1), (0, a2)]) (cl := 0) (b := a0) (st := []) (i := 115) (pos := 3050) kJc_placeTrouble (by decide +kernel) rfl (by decide +kernel) rfl rfl (by omega) (Jc_placeTrouble_ok h1) ?_
  show AT sJc_read 3 (6, [(4, a0), (0, a1), (0, a2), (99, 0)], [(0, v1)], s1) o
  refine AT.seq [(6, .istore_n 3, 1, (0, 0, 0)), (7, .iload_n 3, 1, (0, 0, 0))] (by decide +kernel) (show jrun _ (6, [(4, a0), (0, a1), (0, a2), (99, 0)], [(0, v1)], s1) = some ([], (8, [(4, a0), (0, a1), (0, a2), (0, v1)], [(0, v1)], s1)) from rfl) ?_
  refine AT.ite (x := (0, 0, 0)) (by decide +kernel) (show jbr (.ifCond .eq 10) (8, [(4, a0), (0, a1), (0, a2), (0, v1)], [(0, v1)], s1) = some ((w32 v1) = 0, (18, [(4, a0), (0, a1), (0, a2), (0, v1)], [], s1), (11, [(4, a0), (0, a1), (0, a2), (0, v1)], [], s1)) from rfl) H (fun H => ?_) (fun H => ?_)
  · refine AT.blk (g := (0 ≤ (w32 a1) ∧ (w32 a1) < 4) ∧ (0 ≤ (w32 a2) ∧ (w32 a2) < 60)) [(18, .aload_n 0, 1, (0, 0, 0)), (19, .iconst 0, 1, (0, 0, 0)), (20, .putfield 76, 3, (2200, 0, 0)), (23, .aload_n 0, 1, (0, 0, 0)), (24, .getfield 11, 3, (2209, 9, 0)), (27, .iload_n 1, 1, (0, 0, 0)), (28, .aaload, 1, (0, 0, 0)), (29, .getfield 127, 3, (1037, 103, 0)), (32, .iload_n 2, 1, (0, 0, 0)), (33, .laload, 1, (0, 0, 0))] (by decide +kernel) (show jrun _ (18, [(4, a0), (0, a1), (0, a2), (0, v1)], [], s1) = some ([(0 ≤ (w32 a1) ∧ (w32 a1) < 4), (0 ≤ (w32 a2) ∧ (w32 a2) < 60)], (34, [(4, a0), (0, a1), (0, a2), (0, v1)], [(1, ((jup s1 a0 0 0) (((a0 + 1) + 1 + 2 * (w32 a1)) + 1) (w32 a2)))], (jup s1 a0 0 0))) from rfl) (fun h => ⟨h.1, h.2⟩) H (fun H => ?_)
    exact AT.retlH (by decide +kernel) H
  · refine AT.seq [(11, .aload_n 0, 1, (0, 0, 0)), (12, .iload_n 3, 1, (0, 0, 0))] (by decide +kernel) (show jrun _ (11, [(4, a0), (0, a1), (0, a2), (0, v1)], [], s1) = some ([], (13, [(4, a0), (0, a1), (0, a2), (0, v1)], [(0, v1), (4, a0)], s1)) from rfl) ?_
    obtain ⟨v2, s2, h2, H⟩ := jb_some H
    refine AT.callV (As := [(0, v1)]) (cl := 0) (b := a0) (st := []) (i := 123) (pos := 3066) kJc_refuse (by decide +kernel) rfl (by decide +kernel) rfl rfl (by omega) (Jc_refuse_ok h2) ?_
    show AT sJc_read 3 (16, [(4, a0), (0, a1), (0, a2), (0, v1)], [(0, v2)], s2) o
    refine AT.seq [(16, .i2l, 1, (0, 0, 0))] (by decide +kernel) (show jrun _ (16, [(4, a0), (0, a1), (0, a2), (0, v1)], [(0, v2)], s2) = some ([], (17, [(4, a0), (0, a1), (0, a2), (0, v1)], [(1, (w32 v2))], s2)) from rfl) ?_
    exact AT.retlH (by decide +kernel) H
def sJc_decant : jS := (⟨"JellyCathedral", "decant", "(IIIII)Z"⟩, prog_1_method_8_code, 8, 3, [4, 0, 0, 0, 0, 0], 0)
theorem kJc_decant : jmk sJc_decant = true := jmk_of 3073 1001 3071 3072 (by decide +kernel)
set_option maxRecDepth 100000 in
theorem Jc_decant_ok {a0 a1 a2 a3 a4 a5 : Int} {s : jM} {o : Int × jM} (H : Jc_decant a0 a1 a2 a3 a4 a5 s = some o) : MK sJc_decant 1 [(4, a0), (0, a1), (0, a2), (0, a3), (0, a4), (0, a5)] s o := by
  refine MK.of kJc_decant rfl ?_
  show AT sJc_decant 1 (0, [(4, a0), (0, a1), (0, a2), (0, a3), (0, a4), (0, a5), (99, 0), (99, 0)], [], s) o
  unfold Jc_decant at H
  refine AT.seq [(0, .iload_n 1, 1, (0, 0, 0))] (by decide +kernel) (show jrun _ (0, [(4, a0), (0, a1), (0, a2), (0, a3), (0, a4), (0, a5), (99, 0), (99, 0)], [], s) = some ([], (1, [(4, a0), (0, a1), (0, a2), (0, a3), (0, a4), (0, a5), (99, 0), (99, 0)], [(0, a1)], s)) from rfl) ?_
  obtain ⟨v1, s1, h1, H⟩ := jb_some H
  refine AT.callS (As := [(0, a1)]) (st := []) (i := 100) (pos := 3031) kJc_isTray (by decide +kernel) rfl rfl rfl (by omega) (Jc_isTray_ok h1) ?_
  show AT sJc_decant 1 (4, [(4, a0), (0, a1), (0, a2), (0, a3), (0, a4), (0, a5), (99, 0), (99, 0)], [(0, v1)], s1) o
  refine AT.ite (x := (0, 0, 0)) (by decide +kernel) (show jbr (.ifCond .eq 10) (4, [(4, a0), (0, a1), (0, a2), (0, a3), (0, a4), (0, a5), (99, 0), (99, 0)], [(0, v1)], s1) = some ((w32 v1) = 0, (14, [(4, a0), (0, a1), (0, a2), (0, a3), (0, a4), (0, a5), (99, 0), (99, 0)], [], s1), (7, [(4, a0), (0, a1), (0, a2), (0, a3), (0, a4), (0, a5), (99, 0), (99, 0)], [], s1)) from rfl) H (fun H => ?_) (fun H => ?_)
  · refine AT.seq [(14, .aload_n 0, 1, (0, 0, 0)), (15, .iconst 1, 1, (0, 0, 0))] (by decide +kernel) (show jrun _ (14, [(4, a0), (0, a1), (0, a2), (0, a3), (0, a4), (0, a5), (99, 0), (99, 0)], [], s1) = some ([], (16, [(4, a0), (0, a1), (0, a2), (0, a3), (0, a4), (0, a5), (99, 0), (99, 0)], [(0, 1), (4, a0)], s1)) from rfl) ?_
    obtain ⟨v2, s2, h2, H⟩ := jb_some H
    refine AT.callV (As := [(0, 1)]) (cl := 0) (b := a0) (st := []) (i := 104) (pos := 3034) kJc_deny (by decide +kernel) rfl (by decide +kernel) rfl rfl (by omega) (Jc_deny_ok h2) ?_
    show AT sJc_decant 1 (19, [(4, a0), (0, a1), (0, a2), (0, a3), (0, a4), (0, a5), (99, 0), (99, 0)], [(0, v2)], s2) o
    exact AT.retzH (by decide +kernel) H
  · refine AT.seq [(7, .iload_n 3, 1, (0, 0, 0))] (by decide +kernel) (show jrun _ (7, [(4, a0), (0, a1), (0, a2), (0, a3), (0, a4), (0, a5), (99, 0), (99, 0)], [], s1) = some ([], (8, [(4, a0), (0, a1), (0, a2), (0, a3), (0, a4), (0, a5), (99, 0), (99, 0)], [(0, a3)], s1)) from rfl) ?_
    obtain ⟨v3, s3, h3, H⟩ := jb_some H
    refine AT.callS (As := [(0, a3)]) (st := []) (i := 100) (pos := 3031) kJc_isTray (by decide +kernel) rfl rfl rfl (by omega) (Jc_isTray_ok h3) ?_
    show AT sJc_decant 1 (11, [(4, a0), (0, a1), (0, a2), (0, a3), (0, a4), (0, a5), (99, 0), (99, 0)], [(0, v3)], s3) o
    refine AT.ite (x := (0, 0, 0)) (by decide +kernel) (show jbr (.ifCond .ne 9) (11, [(4, a0), (0, a1), (0, a2), (0, a3), (0, a4), (0, a5), (99, 0), (99, 0)], [(0, v3)], s3) = some ((w32 v3) = 0, (14, [(4, a0), (0, a1), (0, a2), (0, a3), (0, a4), (0, a5), (99, 0), (99, 0)], [], s3), (20, [(4, a0), (0, a1), (0, a2), (0, a3), (0, a4), (0, a5), (99, 0), (99, 0)], [], s3)) from rfl) H (fun H => ?_) (fun H => ?_)
    · refine AT.seq [(14, .aload_n 0, 1, (0, 0, 0)), (15, .iconst 1, 1, (0, 0, 0))] (by decide +kernel) (show jrun _ (14, [(4, a0), (0, a1), (0, a2), (0, a3), (0, a4), (0, a5), (99, 0), (99, 0)], [], s3) = some ([], (16, [(4, a0), (0, a1), (0, a2), (0, a3), (0, a4), (0, a5), (99, 0), (99, 0)], [(0, 1), (4, a0)], s3)) from rfl) ?_
      obtain ⟨v4, s4, h4, H⟩ := jb_some H
      refine AT.callV (As := [(0, 1)]) (cl := 0) (b := a0) (st := []) (i := 104) (pos := 3034) kJc_deny (by decide +kernel) rfl (by decide +kernel) rfl rfl (by omega) (Jc_deny_ok h4) ?_
      show AT sJc_decant 1 (19, [(4, a0), (0, a1), (0, a2), (0, a3), (0, a4), (0, a5), (99, 0), (99, 0)], [(0, v4)], s4) o
      exact AT.retzH (by decide +kernel) H
    · refine AT.blk (g := (0 ≤ (w32 a1) ∧ (w32 a1) < 4) ∧ (0 ≤ (w32 a3) ∧ (w32 a3) < 4)) [(20, .aload_n 0, 1, (0, 0, 0)), (21, .getfield 11, 3, (2209, 9, 0)), (24, .iload_n 1, 1, (0, 0, 0)), (25, .aaload, 1, (0, 0, 0)), (26, .astore 6, 2, (0, 0, 0)), (28, .aload_n 0, 1, (0, 0, 0)), (29, .getfield 11, 3, (2209, 9, 0)), (32, .iload_n 3, 1, (0, 0, 0)), (33, .aaload, 1, (0, 0, 0)), (34, .astore 7, 2, (0, 0, 0)), (36, .aload 6, 2, (0, 0, 0)), (38, .getfield 131, 3, (1031, 100, 0))] (by decide +kernel) (show jrun _ (20, [(4, a0), (0, a1), (0, a2), (0, a3), (0, a4), (0, a5), (99, 0), (99, 0)], [], s3) = some ([(0 ≤ (w32 a1) ∧ (w32 a1) < 4), (0 ≤ (w32 a3) ∧ (w32 a3) < 4)], (41, [(4, a0), (0, a1), (0, a2), (0, a3), (0, a4), (0, a5), (5, ((a0 + 1) + 1 + 2 * (w32 a1))), (5, ((a0 + 1) + 1 + 2 * (w32 a3)))], [(0, (s3 ((a0 + 1) + 1 + 2 * (w32 a1)) 0))], s3)) from rfl) (fun h => ⟨h.1, h.2⟩) H (fun H => ?_)
      refine AT.ite (x := (0, 0, 0)) (by decide +kernel) (show jbr (.ifCond .eq 11) (41, [(4, a0), (0, a1), (0, a2), (0, a3), (0, a4), (0, a5), (5, ((a0 + 1) + 1 + 2 * (w32 a1))), (5, ((a0 + 1) + 1 + 2 * (w32 a3)))], [(0, (s3 ((a0 + 1) + 1 + 2 * (w32 a1)) 0))], s3) = some ((w32 (s3 ((a0 + 1) + 1 + 2 * (w32 a1)) 0)) = 0, (52, [(4, a0), (0, a1), (0, a2), (0, a3), (0, a4), (0, a5), (5, ((a0 + 1) + 1 + 2 * (w32 a1))), (5, ((a0 + 1) + 1 + 2 * (w32 a3)))], [], s3), (44, [(4, a0), (0, a1), (0, a2), (0, a3), (0, a4), (0, a5), (5, ((a0 + 1) + 1 + 2 * (w32 a1))), (5, ((a0 + 1) + 1 + 2 * (w32 a3)))], [], s3)) from rfl) H (fun H => ?_) (fun H => ?_)
      · refine AT.seq [(52, .aload_n 0, 1, (0, 0, 0)), (53, .iconst 3, 1, (0, 0, 0))] (by decide +kernel) (show jrun _ (52, [(4, a0), (0, a1), (0, a2), (0, a3), (0, a4), (0, a5), (5, ((a0 + 1) + 1 + 2 * (w32 a1))), (5, ((a0 + 1) + 1 + 2 * (w32 a3)))], [], s3) = some ([], (54, [(4, a0), (0, a1), (0, a2), (0, a3), (0, a4), (0, a5), (5, ((a0 + 1) + 1 + 2 * (w32 a1))), (5, ((a0 + 1) + 1 + 2 * (w32 a3)))], [(0, 3), (4, a0)], s3)) from rfl) ?_
        obtain ⟨v5, s5, h5, H⟩ := jb_some H
        refine AT.callV (As := [(0, 3)]) (cl := 0) (b := a0) (st := []) (i := 104) (pos := 3034) kJc_deny (by decide +kernel) rfl (by decide +kernel) rfl rfl (by omega) (Jc_deny_ok h5) ?_
        show AT sJc_decant 1 (57, [(4, a0), (0, a1), (0, a2), (0, a3), (0, a4), (0, a5), (5, ((a0 + 1) + 1 + 2 * (w32 a1))), (5, ((a0 + 1) + 1 + 2 * (w32 a3)))], [(0, v5)], s5) o
        exact AT.retzH (by decide +kernel) H
      · refine AT.seq [(44, .aload 7, 2, (0, 0, 0)), (46, .getfield 131, 3, (1031, 100, 0))] (by decide +kernel) (show jrun _ (44, [(4, a0), (0, a1), (0, a2), (0, a3), (0, a4), (0, a5), (5, ((a0 + 1) + 1 + 2 * (w32 a1))), (5, ((a0 + 1) + 1 + 2 * (w32 a3)))], [], s3) = some ([], (49, [(4, a0), (0, a1), (0, a2), (0, a3), (0, a4), (0, a5), (5, ((a0 + 1) + 1 + 2 * (w32 a1))), (5, ((a0 + 1) + 1 + 2 * (w32 a3)))], [(0, (s3 ((a0 + 1) + 1 + 2 * (w32 a3)) 0))], s3)) from rfl) ?_
        refine AT.ite (x := (0, 0, 0)) (by decide +kernel) (show jbr (.ifCond .ne 9) (49, [(4, a0), (0, a1), (0, a2), (0, a3), (0, a4), (0, a5), (5, ((a0 + 1) + 1 + 2 * (w32 a1))), (5, ((a0 + 1) + 1 + 2 * (w32 a3)))], [(0, (s3 ((a0 + 1) + 1 + 2 * (w32 a3)) 0))], s3) = some ((w32 (s3 ((a0 + 1) + 1 + 2 * (w32 a3)) 0)) = 0, (52, [(4, a0), (0, a1), (0, a2), (0, a3), (0, a4), (0, a5), (5, ((a0 + 1) + 1 + 2 * (w32 a1))), (5, ((a0 + 1) + 1 + 2 * (w32 a3)))], [], s3), (58, [(4, a0), (0, a1), (0, a2), (0, a3), (0, a4), (0, a5), (5, ((a0 + 1) + 1 + 2 * (w32 a1))), (5, ((a0 + 1) + 1 + 2 * (w32 a3)))], [], s3)) from rfl) H (fun H => ?_) (fun H => ?_)
        · refine AT.seq [(52, .aload_n 0, 1, (0, 0, 0)), (53, .iconst 3, 1, (0, 0, 0))] (by decide +kernel) (show jrun _ (52, [(4, a0), (0, a1), (0, a2), (0, a3), (0, a4), (0, a5), (5, ((a0 + 1) + 1 + 2 * (w32 a1))), (5, ((a0 + 1) + 1 + 2 * (w32 a3)))], [], s3) = some ([], (54, [(4, a0), (0, a1), (0, a2), (0, a3), (0, a4), (0, a5), (5, ((a0 + 1) + 1 + 2 * (w32 a1))), (5, ((a0 + 1) + 1 + 2 * (w32 a3)))], [(0, 3), (4, a0)], s3)) from rfl) ?_
          obtain ⟨v6, s6, h6, H⟩ := jb_some H
          refine AT.callV (As := [(0, 3)]) (cl := 0) (b := a0) (st := []) (i := 104) (pos := 3034) kJc_deny (by decide +kernel) rfl (by decide +kernel) rfl rfl (by omega) (Jc_deny_ok h6) ?_
          show AT sJc_decant 1 (57, [(4, a0), (0, a1), (0, a2), (0, a3), (0, a4), (0, a5), (5, ((a0 + 1) + 1 + 2 * (w32 a1))), (5, ((a0 + 1) + 1 + 2 * (w32 a3)))], [(0, v6)], s6) o
          exact AT.retzH (by decide +kernel) H
        · refine AT.seq [(58, .aload 6, 2, (0, 0, 0)), (60, .getfield 134, 3, (1033, 101, 0)), (63, .aload 7, 2, (0, 0, 0)), (65, .getfield 134, 3, (1033, 101, 0))] (by decide +kernel) (show jrun _ (58, [(4, a0), (0, a1), (0, a2), (0, a3), (0, a4), (0, a5), (5, ((a0 + 1) + 1 + 2 * (w32 a1))), (5, ((a0 + 1) + 1 + 2 * (w32 a3)))], [], s3) = some ([], (68, [(4, a0), (0, a1), (0, a2), (0, a3), (0, a4), (0, a5), (5, ((a0 + 1) + 1 + 2 * (w32 a1))), (5, ((a0 + 1) + 1 + 2 * (w32 a3)))], [(0, (s3 ((a0 + 1) + 1 + 2 * (w32 a3)) 1)), (0, (s3 ((a0 + 1) + 1 + 2 * (w32 a1)) 1))], s3)) from rfl) ?_
          refine AT.ite (x := (0, 0, 0)) (by decide +kernel) (show jbr (.if_icmp .eq 10) (68, [(4, a0), (0, a1), (0, a2), (0, a3), (0, a4), (0, a5), (5, ((a0 + 1) + 1 + 2 * (w32 a1))), (5, ((a0 + 1) + 1 + 2 * (w32 a3)))], [(0, (s3 ((a0 + 1) + 1 + 2 * (w32 a3)) 1)), (0, (s3 ((a0 + 1) + 1 + 2 * (w32 a1)) 1))], s3) = some ((w32 (s3 ((a0 + 1) + 1 + 2 * (w32 a1)) 1)) = (w32 (s3 ((a0 + 1) + 1 + 2 * (w32 a3)) 1)), (78, [(4, a0), (0, a1), (0, a2), (0, a3), (0, a4), (0, a5), (5, ((a0 + 1) + 1 + 2 * (w32 a1))), (5, ((a0 + 1) + 1 + 2 * (w32 a3)))], [], s3), (71, [(4, a0), (0, a1), (0, a2), (0, a3), (0, a4), (0, a5), (5, ((a0 + 1) + 1 + 2 * (w32 a1))), (5, ((a0 + 1) + 1 + 2 * (w32 a3)))], [], s3)) from rfl) H (fun H => ?_) (fun H => ?_)
          · refine AT.seq [(78, .iload 5, 2, (0, 0, 0))] (by decide +kernel) (show jrun _ (78, [(4, a0), (0, a1), (0, a2), (0, a3), (0, a4), (0, a5), (5, ((a0 + 1) + 1 + 2 * (w32 a1))), (5, ((a0 + 1) + 1 + 2 * (w32 a3)))], [], s3) = some ([], (80, [(4, a0), (0, a1), (0, a2), (0, a3), (0, a4), (0, a5), (5, ((a0 + 1) + 1 + 2 * (w32 a1))), (5, ((a0 + 1) + 1 + 2 * (w32 a3)))], [(0, a5)], s3)) from rfl) ?_
            refine AT.ite (x := (0, 0, 0)) (by decide +kernel) (show jbr (.ifCond .ge 10) (80, [(4, a0), (0, a1), (0, a2), (0, a3), (0, a4), (0, a5), (5, ((a0 + 1) + 1 + 2 * (w32 a1))), (5, ((a0 + 1) + 1 + 2 * (w32 a3)))], [(0, a5)], s3) = some ((w32 a5) < 0, (83, [(4, a0), (0, a1), (0, a2), (0, a3), (0, a4), (0, a5), (5, ((a0 + 1) + 1 + 2 * (w32 a1))), (5, ((a0 + 1) + 1 + 2 * (w32 a3)))], [], s3), (90, [(4, a0), (0, a1), (0, a2), (0, a3), (0, a4), (0, a5), (5, ((a0 + 1) + 1 + 2 * (w32 a1))), (5, ((a0 + 1) + 1 + 2 * (w32 a3)))], [], s3)) from rfl) H (fun H => ?_) (fun H => ?_)
            · refine AT.seq [(83, .aload_n 0, 1, (0, 0, 0)), (84, .bipush 6, 2, (0, 0, 0))] (by decide +kernel) (show jrun _ (83, [(4, a0), (0, a1), (0, a2), (0, a3), (0, a4), (0, a5), (5, ((a0 + 1) + 1 + 2 * (w32 a1))), (5, ((a0 + 1) + 1 + 2 * (w32 a3)))], [], s3) = some ([], (86, [(4, a0), (0, a1), (0, a2), (0, a3), (0, a4), (0, a5), (5, ((a0 + 1) + 1 + 2 * (w32 a1))), (5, ((a0 + 1) + 1 + 2 * (w32 a3)))], [(0, 6), (4, a0)], s3)) from rfl) ?_
              obtain ⟨v7, s7, h7, H⟩ := jb_some H
              refine AT.callV (As := [(0, 6)]) (cl := 0) (b := a0) (st := []) (i := 104) (pos := 3034) kJc_deny (by decide +kernel) rfl (by decide +kernel) rfl rfl (by omega) (Jc_deny_ok h7) ?_
              show AT sJc_decant 1 (89, [(4, a0), (0, a1), (0, a2), (0, a3), (0, a4), (0, a5), (5, ((a0 + 1) + 1 + 2 * (w32 a1))), (5, ((a0 + 1) + 1 + 2 * (w32 a3)))], [(0, v7)], s7) o
              exact AT.retzH (by decide +kernel) H
            · refine AT.seq [(90, .iload_n 2, 1, (0, 0, 0))] (by decide +kernel) (show jrun _ (90, [(4, a0), (0, a1), (0, a2), (0, a3), (0, a4), (0, a5), (5, ((a0 + 1) + 1 + 2 * (w32 a1))), (5, ((a0 + 1) + 1 + 2 * (w32 a3)))], [], s3) = some ([], (91, [(4, a0), (0, a1), (0, a2), (0, a3), (0, a4), (0, a5), (5, ((a0 + 1) + 1 + 2 * (w32 a1))), (5, ((a0 + 1) + 1 + 2 * (w32 a3)))], [(0, a2)], s3)) from rfl) ?_
              refine AT.ite (x := (0, 0, 0)) (by decide +kernel) (show jbr (.ifCond .lt 33) (91, [(4, a0), (0, a1), (0, a2), (0, a3), (0, a4), (0, a5), (5, ((a0 + 1) + 1 + 2 * (w32 a1))), (5, ((a0 + 1) + 1 + 2 * (w32 a3)))], [(0, a2)], s3) = some ((w32 a2) < 0, (124, [(4, a0), (0, a1), (0, a2), (0, a3), (0, a4), (0, a5), (5, ((a0 + 1) + 1 + 2 * (w32 a1))), (5, ((a0 + 1) + 1 + 2 * (w32 a3)))], [], s3), (94, [(4, a0), (0, a1), (0, a2), (0, a3), (0, a4), (0, a5), (5, ((a0 + 1) + 1 + 2 * (w32 a1))), (5, ((a0 + 1) + 1 + 2 * (w32 a3)))], [], s3)) from rfl) H (fun H => ?_) (fun H => ?_)
              · refine AT.seq [(124, .aload_n 0, 1, (0, 0, 0)), (125, .iconst 4, 1, (0, 0, 0))] (by decide +kernel) (show jrun _ (124, [(4, a0), (0, a1), (0, a2), (0, a3), (0, a4), (0, a5), (5, ((a0 + 1) + 1 + 2 * (w32 a1))), (5, ((a0 + 1) + 1 + 2 * (w32 a3)))], [], s3) = some ([], (126, [(4, a0), (0, a1), (0, a2), (0, a3), (0, a4), (0, a5), (5, ((a0 + 1) + 1 + 2 * (w32 a1))), (5, ((a0 + 1) + 1 + 2 * (w32 a3)))], [(0, 4), (4, a0)], s3)) from rfl) ?_
                obtain ⟨v8, s8, h8, H⟩ := jb_some H
                refine AT.callV (As := [(0, 4)]) (cl := 0) (b := a0) (st := []) (i := 104) (pos := 3034) kJc_deny (by decide +kernel) rfl (by decide +kernel) rfl rfl (by omega) (Jc_deny_ok h8) ?_
                show AT sJc_decant 1 (129, [(4, a0), (0, a1), (0, a2), (0, a3), (0, a4), (0, a5), (5, ((a0 + 1) + 1 + 2 * (w32 a1))), (5, ((a0 + 1) + 1 + 2 * (w32 a3)))], [(0, v8)], s8) o
                exact AT.retzH (by decide +kernel) H
              · refine AT.seq [(94, .iload 4, 2, (0, 0, 0))] (by decide +kernel) (show jrun _ (94, [(4, a0), (0, a1), (0, a2), (0, a3), (0, a4), (0, a5), (5, ((a0 + 1) + 1 + 2 * (w32 a1))), (5, ((a0 + 1) + 1 + 2 * (w32 a3)))], [], s3) = some ([], (96, [(4, a0), (0, a1), (0, a2), (0, a3), (0, a4), (0, a5), (5, ((a0 + 1) + 1 + 2 * (w32 a1))), (5, ((a0 + 1) + 1 + 2 * (w32 a3)))], [(0, a4)], s3)) from rfl) ?_
                refine AT.ite (x := (0, 0, 0)) (by decide +kernel) (show jbr (.ifCond .lt 28) (96, [(4, a0), (0, a1), (0, a2), (0, a3), (0, a4), (0, a5), (5, ((a0 + 1) + 1 + 2 * (w32 a1))), (5, ((a0 + 1) + 1 + 2 * (w32 a3)))], [(0, a4)], s3) = some ((w32 a4) < 0, (124, [(4, a0), (0, a1), (0, a2), (0, a3), (0, a4), (0, a5), (5, ((a0 + 1) + 1 + 2 * (w32 a1))), (5, ((a0 + 1) + 1 + 2 * (w32 a3)))], [], s3), (99, [(4, a0), (0, a1), (0, a2), (0, a3), (0, a4), (0, a5), (5, ((a0 + 1) + 1 + 2 * (w32 a1))), (5, ((a0 + 1) + 1 + 2 * (w32 a3)))], [], s3)) from rfl) H (fun H => ?_) (fun H => ?_)
                · refine AT.seq [(124, .aload_n 0, 1, (0, 0, 0)), (125, .iconst 4, 1, (0, 0, 0))] (by decide +kernel) (show jrun _ (124, [(4, a0), (0, a1), (0, a2), (0, a3), (0, a4), (0, a5), (5, ((a0 + 1) + 1 + 2 * (w32 a1))), (5, ((a0 + 1) + 1 + 2 * (w32 a3)))], [], s3) = some ([], (126, [(4, a0), (0, a1), (0, a2), (0, a3), (0, a4), (0, a5), (5, ((a0 + 1) + 1 + 2 * (w32 a1))), (5, ((a0 + 1) + 1 + 2 * (w32 a3)))], [(0, 4), (4, a0)], s3)) from rfl) ?_
                  obtain ⟨v9, s9, h9, H⟩ := jb_some H
                  refine AT.callV (As := [(0, 4)]) (cl := 0) (b := a0) (st := []) (i := 104) (pos := 3034) kJc_deny (by decide +kernel) rfl (by decide +kernel) rfl rfl (by omega) (Jc_deny_ok h9) ?_
                  show AT sJc_decant 1 (129, [(4, a0), (0, a1), (0, a2), (0, a3), (0, a4), (0, a5), (5, ((a0 + 1) + 1 + 2 * (w32 a1))), (5, ((a0 + 1) + 1 + 2 * (w32 a3)))], [(0, v9)], s9) o
                  exact AT.retzH (by decide +kernel) H
                · refine AT.seq [(99, .iload_n 2, 1, (0, 0, 0)), (100, .aload 6, 2, (0, 0, 0)), (102, .getfield 137, 3, (1035, 102, 0)), (105, .iload 5, 2, (0, 0, 0)), (107, .isub, 1, (0, 0, 0))] (by decide +kernel) (show jrun _ (99, [(4, a0), (0, a1), (0, a2), (0, a3), (0, a4), (0, a5), (5, ((a0 + 1) + 1 + 2 * (w32 a1))), (5, ((a0 + 1) + 1 + 2 * (w32 a3)))], [], s3) = some ([], (108, [(4, a0), (0, a1), (0, a2), (0, a3), (0, a4), (0, a5), (5, ((a0 + 1) + 1 + 2 * (w32 a1))), (5, ((a0 + 1) + 1 + 2 * (w32 a3)))], [(0, ((s3 ((a0 + 1) + 1 + 2 * (w32 a1)) 2) - a5)), (0, a2)], s3)) from rfl) ?_
                  refine AT.ite (x := (0, 0, 0)) (by decide +kernel) (show jbr (.if_icmp .gt 16) (108, [(4, a0), (0, a1), (0, a2), (0, a3), (0, a4), (0, a5), (5, ((a0 + 1) + 1 + 2 * (w32 a1))), (5, ((a0 + 1) + 1 + 2 * (w32 a3)))], [(0, ((s3 ((a0 + 1) + 1 + 2 * (w32 a1)) 2) - a5)), (0, a2)], s3) = some ((w32 ((s3 ((a0 + 1) + 1 + 2 * (w32 a1)) 2) - a5)) < (w32 a2), (124, [(4, a0), (0, a1), (0, a2), (0, a3), (0, a4), (0, a5), (5, ((a0 + 1) + 1 + 2 * (w32 a1))), (5, ((a0 + 1) + 1 + 2 * (w32 a3)))], [], s3), (111, [(4, a0), (0, a1), (0, a2), (0, a3), (0, a4), (0, a5), (5, ((a0 + 1) + 1 + 2 * (w32 a1))), (5, ((a0 + 1) + 1 + 2 * (w32 a3)))], [], s3)) from rfl) H (fun H => ?_) (fun H => ?_)
                  · refine AT.seq [(124, .aload_n 0, 1, (0, 0, 0)), (125, .iconst 4, 1, (0, 0, 0))] (by decide +kernel) (show jrun _ (124, [(4, a0), (0, a1), (0, a2), (0, a3), (0, a4), (0, a5), (5, ((a0 + 1) + 1 + 2 * (w32 a1))), (5, ((a0 + 1) + 1 + 2 * (w32 a3)))], [], s3) = some ([], (126, [(4, a0), (0, a1), (0, a2), (0, a3), (0, a4), (0, a5), (5, ((a0 + 1) + 1 + 2 * (w32 a1))), (5, ((a0 + 1) + 1 + 2 * (w32 a3)))], [(0, 4), (4, a0)], s3)) from rfl) ?_
                    obtain ⟨v10, s10, h10, H⟩ := jb_some H
                    refine AT.callV (As := [(0, 4)]) (cl := 0) (b := a0) (st := []) (i := 104) (pos := 3034) kJc_deny (by decide +kernel) rfl (by decide +kernel) rfl rfl (by omega) (Jc_deny_ok h10) ?_
                    show AT sJc_decant 1 (129, [(4, a0), (0, a1), (0, a2), (0, a3), (0, a4), (0, a5), (5, ((a0 + 1) + 1 + 2 * (w32 a1))), (5, ((a0 + 1) + 1 + 2 * (w32 a3)))], [(0, v10)], s10) o
                    exact AT.retzH (by decide +kernel) H
                  · refine AT.seq [(111, .iload 4, 2, (0, 0, 0)), (113, .aload 7, 2, (0, 0, 0)), (115, .getfield 137, 3, (1035, 102, 0)), (118, .iload 5, 2, (0, 0, 0)), (120, .isub, 1, (0, 0, 0))] (by decide +kernel) (show jrun _ (111, [(4, a0), (0, a1), (0, a2), (0, a3), (0, a4), (0, a5), (5, ((a0 + 1) + 1 + 2 * (w32 a1))), (5, ((a0 + 1) + 1 + 2 * (w32 a3)))], [], s3) = some ([], (121, [(4, a0), (0, a1), (0, a2), (0, a3), (0, a4), (0, a5), (5, ((a0 + 1) + 1 + 2 * (w32 a1))), (5, ((a0 + 1) + 1 + 2 * (w32 a3)))], [(0, ((s3 ((a0 + 1) + 1 + 2 * (w32 a3)) 2) - a5)), (0, a4)], s3)) from rfl) ?_
                    refine AT.ite (x := (0, 0, 0)) (by decide +kernel) (show jbr (.if_icmp .le 9) (121, [(4, a0), (0, a1), (0, a2), (0, a3), (0, a4), (0, a5), (5, ((a0 + 1) + 1 + 2 * (w32 a1))), (5, ((a0 + 1) + 1 + 2 * (w32 a3)))], [(0, ((s3 ((a0 + 1) + 1 + 2 * (w32 a3)) 2) - a5)), (0, a4)], s3) = some ((w32 ((s3 ((a0 + 1) + 1 + 2 * (w32 a3)) 2) - a5)) < (w32 a4), (124, [(4, a0), (0, a1), (0, a2), (0, a3), (0, a4), (0, a5), (5, ((a0 + 1) + 1 + 2 * (w32 a1))), (5, ((a0 + 1) + 1 + 2 * (w32 a3)))], [], s3), (130, [(4, a0), (0, a1), (0, a2), (0, a3), (0, a4), (0, a5), (5, ((a0 + 1) + 1 + 2 * (w32 a1))), (5, ((a0 + 1) + 1 + 2 * (w32 a3)))], [], s3)) from rfl) H (fun H => ?_) (fun H => ?_)
                    · refine AT.seq [(124, .aload_n 0, 1, (0, 0, 0)), (125, .iconst 4, 1, (0, 0, 0))] (by decide +kernel) (show jrun _ (124, [(4, a0), (0, a1), (0, a2), (0, a3), (0, a4), (0, a5), (5, ((a0 + 1) + 1 + 2 * (w32 a1))), (5, ((a0 + 1) + 1 + 2 * (w32 a3)))], [], s3) = some ([], (126, [(4, a0), (0, a1), (0, a2), (0, a3), (0, a4), (0, a5), (5, ((a0 + 1) + 1 + 2 * (w32 a1))), (5, ((a0 + 1) + 1 + 2 * (w32 a3)))], [(0, 4), (4, a0)], s3)) from rfl) ?_
                      obtain ⟨v11, s11, h11, H⟩ := jb_some H
                      refine AT.callV (As := [(0, 4)]) (cl := 0) (b := a0) (st := []) (i := 104) (pos := 3034) kJc_deny (by decide +kernel) rfl (by decide +kernel) rfl rfl (by omega) (Jc_deny_ok h11) ?_
                      show AT sJc_decant 1 (129, [(4, a0), (0, a1), (0, a2), (0, a3), (0, a4), (0, a5), (5, ((a0 + 1) + 1 + 2 * (w32 a1))), (5, ((a0 + 1) + 1 + 2 * (w32 a3)))], [(0, v11)], s11) o
                      exact AT.retzH (by decide +kernel) H
                    · refine AT.blk (g := (0 ≤ (w32 a2) ∧ 0 ≤ (w32 a4) ∧ 0 ≤ (w32 a5) ∧ (w32 a2) + (w32 a5) ≤ 60 ∧ (w32 a4) + (w32 a5) ≤ 60)) [(130, .aload 6, 2, (0, 0, 0)), (132, .getfield 127, 3, (1037, 103, 0)), (135, .iload_n 2, 1, (0, 0, 0)), (136, .aload 7, 2, (0, 0, 0)), (138, .getfield 127, 3, (1037, 103, 0)), (141, .iload 4, 2, (0, 0, 0)), (143, .iload 5, 2, (0, 0, 0)), (145, .invokestatic 140, 3, (3074, 4, 0)), (148, .aload_n 0, 1, (0, 0, 0))] (by decide +kernel) (show jrun _ (130, [(4, a0), (0, a1), (0, a2), (0, a3), (0, a4), (0, a5), (5, ((a0 + 1) + 1 + 2 * (w32 a1))), (5, ((a0 + 1) + 1 + 2 * (w32 a3)))], [], s3) = some ([(0 ≤ (w32 a2) ∧ 0 ≤ (w32 a4) ∧ 0 ≤ (w32 a5) ∧ (w32 a2) + (w32 a5) ≤ 60 ∧ (w32 a4) + (w32 a5) ≤ 60)], (149, [(4, a0), (0, a1), (0, a2), (0, a3), (0, a4), (0, a5), (5, ((a0 + 1) + 1 + 2 * (w32 a1))), (5, ((a0 + 1) + 1 + 2 * (w32 a3)))], [(4, a0)], (jcp s3 (((a0 + 1) + 1 + 2 * (w32 a1)) + 1) (w32 a2) (((a0 + 1) + 1 + 2 * (w32 a3)) + 1) (w32 a4) (w32 a5)))) from rfl) (fun h => h) H (fun H => ?_)
                      obtain ⟨s12, e12, H⟩ := jm_some H
                      rw [← e12]
                      obtain ⟨v13, s13, h13, H⟩ := jb_some H
                      refine AT.callV (As := []) (cl := 0) (b := a0) (st := []) (i := 111) (pos := 3042) kJc_grant (by decide +kernel) rfl (by decide +kernel) rfl rfl (by omega) (Jc_grant_ok h13) ?_
                      show AT sJc_decant 1 (152, [(4, a0), (0, a1), (0, a2), (0, a3), (0, a4), (0, a5), (5, ((a0 + 1) + 1 + 2 * (w32 a1))), (5, ((a0 + 1) + 1 + 2 * (w32 a3)))], [(0, v13)], s13) o
                      exact AT.retzH (by decide +kernel) H
          · refine AT.seq [(71, .aload_n 0, 1, (0, 0, 0)), (72, .bipush 11, 2, (0, 0, 0))] (by decide +kernel) (show jrun _ (71, [(4, a0), (0, a1), (0, a2), (0, a3), (0, a4), (0, a5), (5, ((a0 + 1) + 1 + 2 * (w32 a1))), (5, ((a0 + 1) + 1 + 2 * (w32 a3)))], [], s3) = some ([], (74, [(4, a0), (0, a1), (0, a2), (0, a3), (0, a4), (0, a5), (5, ((a0 + 1) + 1 + 2 * (w32 a1))), (5, ((a0 + 1) + 1 + 2 * (w32 a3)))], [(0, 11), (4, a0)], s3)) from rfl) ?_
            obtain ⟨v14, s14, h14, H⟩ := jb_some H
            refine AT.callV (As := [(0, 11)]) (cl := 0) (b := a0) (st := []) (i := 104) (pos := 3034) kJc_deny (by decide +kernel) rfl (by decide +kernel) rfl rfl (by omega) (Jc_deny_ok h14) ?_
            show AT sJc_decant 1 (77, [(4, a0), (0, a1), (0, a2), (0, a3), (0, a4), (0, a5), (5, ((a0 + 1) + 1 + 2 * (w32 a1))), (5, ((a0 + 1) + 1 + 2 * (w32 a3)))], [(0, v14)], s14) o
            exact AT.retzH (by decide +kernel) H
def sJc_feed : jS := (⟨"JellyCathedral", "feed", "(IIIII)I"⟩, prog_1_method_9_code, 6, 1, [4, 0, 0, 0, 0, 0], 0)
theorem kJc_feed : jmk sJc_feed = true := jmk_of 3080 1001 3078 3079 (by decide +kernel)
set_option maxRecDepth 100000 in
theorem Jc_feed_ok {a0 a1 a2 a3 a4 a5 : Int} {s : jM} {o : Int × jM} (H : Jc_feed a0 a1 a2 a3 a4 a5 s = some o) : MK sJc_feed 1 [(4, a0), (0, a1), (0, a2), (0, a3), (0, a4), (0, a5)] s o := by
  refine MK.of kJc_feed rfl ?_
  show AT sJc_feed 1 (0, [(4, a0), (0, a1), (0, a2), (0, a3), (0, a4), (0, a5)], [], s) o
  unfold Jc_feed at H
  refine AT.seq [(0, .aload_n 0, 1, (0, 0, 0)), (1, .getfield 33, 3, (2211, 11, 0))] (by decide +kernel) (show jrun _ (0, [(4, a0), (0, a1), (0, a2), (0, a3), (0, a4), (0, a5)], [], s) = some ([], (4, [(4, a0), (0, a1), (0, a2), (0, a3), (0, a4), (0, a5)], [(9, (a0 + 11))], s)) from rfl) ?_
  obtain ⟨v1, s1, h1, H⟩ := jb_some H
  refine AT.callV (As := []) (cl := 5) (b := (a0 + 11)) (st := []) (i := 146) (pos := 3081) kTe_hasRoomForFive (by decide +kernel) rfl (by decide +kernel) rfl rfl (by omega) (Te_hasRoomForFive_ok h1) ?_
  show AT sJc_feed 1 (7, [(4, a0), (0, a1), (0, a2), (0, a3), (0, a4), (0, a5)], [(0, v1)], s1) o
  refine AT.ite (x := (0, 0, 0)) (by decide +kernel) (show jbr (.ifCond .ne 5) (7, [(4, a0), (0, a1), (0, a2), (0, a3), (0, a4), (0, a5)], [(0, v1)], s1) = some ((w32 v1) = 0, (10, [(4, a0), (0, a1), (0, a2), (0, a3), (0, a4), (0, a5)], [], s1), (12, [(4, a0), (0, a1), (0, a2), (0, a3), (0, a4), (0, a5)], [], s1)) from rfl) H (fun H => ?_) (fun H => ?_)
  · refine AT.seq [(10, .iconst (-1), 1, (0, 0, 0))] (by decide +kernel) (show jrun _ (10, [(4, a0), (0, a1), (0, a2), (0, a3), (0, a4), (0, a5)], [], s1) = some ([], (11, [(4, a0), (0, a1), (0, a2), (0, a3), (0, a4), (0, a5)], [(0, (-1))], s1)) from rfl) ?_
    exact AT.retiH (by decide +kernel) H
  · refine AT.seq [(12, .aload_n 0, 1, (0, 0, 0)), (13, .getfield 33, 3, (2211, 11, 0)), (16, .iload_n 1, 1, (0, 0, 0))] (by decide +kernel) (show jrun _ (12, [(4, a0), (0, a1), (0, a2), (0, a3), (0, a4), (0, a5)], [], s1) = some ([], (17, [(4, a0), (0, a1), (0, a2), (0, a3), (0, a4), (0, a5)], [(0, a1), (9, (a0 + 11))], s1)) from rfl) ?_
    obtain ⟨v2, s2, h2, H⟩ := jb_some H
    refine AT.callV (As := [(0, a1)]) (cl := 5) (b := (a0 + 11)) (st := []) (i := 149) (pos := 3085) kTe_addFour (by decide +kernel) rfl (by decide +kernel) rfl rfl (by omega) (Te_addFour_ok h2) ?_
    show AT sJc_feed 1 (20, [(4, a0), (0, a1), (0, a2), (0, a3), (0, a4), (0, a5)], [], s2) o
    refine AT.seq [(20, .aload_n 0, 1, (0, 0, 0)), (21, .getfield 33, 3, (2211, 11, 0)), (24, .iload_n 2, 1, (0, 0, 0))] (by decide +kernel) (show jrun _ (20, [(4, a0), (0, a1), (0, a2), (0, a3), (0, a4), (0, a5)], [], s2) = some ([], (25, [(4, a0), (0, a1), (0, a2), (0, a3), (0, a4), (0, a5)], [(0, a2), (9, (a0 + 11))], s2)) from rfl) ?_
    obtain ⟨v3, s3, h3, H⟩ := jb_some H
    refine AT.callV (As := [(0, a2)]) (cl := 5) (b := (a0 + 11)) (st := []) (i := 149) (pos := 3085) kTe_addFour (by decide +kernel) rfl (by decide +kernel) rfl rfl (by omega) (Te_addFour_ok h3) ?_
    show AT sJc_feed 1 (28, [(4, a0), (0, a1), (0, a2), (0, a3), (0, a4), (0, a5)], [], s3) o
    refine AT.seq [(28, .aload_n 0, 1, (0, 0, 0)), (29, .getfield 33, 3, (2211, 11, 0)), (32, .iload_n 3, 1, (0, 0, 0))] (by decide +kernel) (show jrun _ (28, [(4, a0), (0, a1), (0, a2), (0, a3), (0, a4), (0, a5)], [], s3) = some ([], (33, [(4, a0), (0, a1), (0, a2), (0, a3), (0, a4), (0, a5)], [(0, a3), (9, (a0 + 11))], s3)) from rfl) ?_
    obtain ⟨v4, s4, h4, H⟩ := jb_some H
    refine AT.callV (As := [(0, a3)]) (cl := 5) (b := (a0 + 11)) (st := []) (i := 149) (pos := 3085) kTe_addFour (by decide +kernel) rfl (by decide +kernel) rfl rfl (by omega) (Te_addFour_ok h4) ?_
    show AT sJc_feed 1 (36, [(4, a0), (0, a1), (0, a2), (0, a3), (0, a4), (0, a5)], [], s4) o
    refine AT.seq [(36, .aload_n 0, 1, (0, 0, 0)), (37, .getfield 33, 3, (2211, 11, 0)), (40, .iload 4, 2, (0, 0, 0))] (by decide +kernel) (show jrun _ (36, [(4, a0), (0, a1), (0, a2), (0, a3), (0, a4), (0, a5)], [], s4) = some ([], (42, [(4, a0), (0, a1), (0, a2), (0, a3), (0, a4), (0, a5)], [(0, a4), (9, (a0 + 11))], s4)) from rfl) ?_
    obtain ⟨v5, s5, h5, H⟩ := jb_some H
    refine AT.callV (As := [(0, a4)]) (cl := 5) (b := (a0 + 11)) (st := []) (i := 149) (pos := 3085) kTe_addFour (by decide +kernel) rfl (by decide +kernel) rfl rfl (by omega) (Te_addFour_ok h5) ?_
    show AT sJc_feed 1 (45, [(4, a0), (0, a1), (0, a2), (0, a3), (0, a4), (0, a5)], [], s5) o
    refine AT.seq [(45, .aload_n 0, 1, (0, 0, 0)), (46, .getfield 33, 3, (2211, 11, 0)), (49, .iload 5, 2, (0, 0, 0))] (by decide +kernel) (show jrun _ (45, [(4, a0), (0, a1), (0, a2), (0, a3), (0, a4), (0, a5)], [], s5) = some ([], (51, [(4, a0), (0, a1), (0, a2), (0, a3), (0, a4), (0, a5)], [(0, a5), (9, (a0 + 11))], s5)) from rfl) ?_
    obtain ⟨v6, s6, h6, H⟩ := jb_some H
    refine AT.callV (As := [(0, a5)]) (cl := 5) (b := (a0 + 11)) (st := []) (i := 149) (pos := 3085) kTe_addFour (by decide +kernel) rfl (by decide +kernel) rfl rfl (by omega) (Te_addFour_ok h6) ?_
    show AT sJc_feed 1 (54, [(4, a0), (0, a1), (0, a2), (0, a3), (0, a4), (0, a5)], [], s6) o
    refine AT.seq [(54, .aload_n 0, 1, (0, 0, 0)), (55, .getfield 33, 3, (2211, 11, 0)), (58, .getfield 153, 3, (2030, 500, 0))] (by decide +kernel) (show jrun _ (54, [(4, a0), (0, a1), (0, a2), (0, a3), (0, a4), (0, a5)], [], s6) = some ([], (61, [(4, a0), (0, a1), (0, a2), (0, a3), (0, a4), (0, a5)], [(0, (s6 (a0 + 11) 0))], s6)) from rfl) ?_
    exact AT.retiH (by decide +kernel) H
def sJc_endText : jS := (⟨"JellyCathedral", "endText", "(Z)Z"⟩, prog_1_method_55_code, 2, 3, [4, 0], 0)
theorem kJc_endText : jmk sJc_endText = true := jmk_of 3214 1001 3213 14 (by decide +kernel)
set_option maxRecDepth 100000 in
theorem Jc_endText_24_ok {o : Int × jM} {x0 x1 t0 t1 : Int} {s : jM} (H : Jc_endText_24  x0 x1 t0 t1 s = some o) : AT sJc_endText 0 (24, [(4, x0), (0, x1)], [(0, t0), (4, t1)], s) o := by
  unfold Jc_endText_24 at H
  refine AT.seq [(24, .putfield 87, 3, (2203, 3, 0)), (27, .aload_n 0, 1, (0, 0, 0)), (28, .iload_n 1, 1, (0, 0, 0))] (by decide +kernel) (show jrun _ (24, [(4, x0), (0, x1)], [(0, t0), (4, t1)], s) = some ([], (29, [(4, x0), (0, x1)], [(0, x1), (4, x0)], (jup s t1 3 t0))) from rfl) ?_
  refine AT.ite (x := (0, 0, 0)) (by decide +kernel) (show jbr (.ifCond .eq 7) (29, [(4, x0), (0, x1)], [(0, x1), (4, x0)], (jup s t1 3 t0)) = some ((w32 x1) = 0, (36, [(4, x0), (0, x1)], [(4, x0)], (jup s t1 3 t0)), (32, [(4, x0), (0, x1)], [(4, x0)], (jup s t1 3 t0))) from rfl) H (fun H => ?_) (fun H => ?_)
  · refine AT.seq [(36, .aload_n 0, 1, (0, 0, 0)), (37, .getfield 33, 3, (2211, 11, 0)), (40, .getfield 388, 3, (2046, 509, 0)), (43, .putfield 90, 3, (2204, 4, 0)), (46, .iload_n 1, 1, (0, 0, 0))] (by decide +kernel) (show jrun _ (36, [(4, x0), (0, x1)], [(4, x0)], (jup s t1 3 t0)) = some ([], (47, [(4, x0), (0, x1)], [(0, x1)], (jup (jup s t1 3 t0) x0 4 ((jup s t1 3 t0) (x0 + 11) 9)))) from rfl) ?_
    exact AT.retzH (by decide +kernel) H
  · refine AT.seq [(32, .iconst (-1), 1, (0, 0, 0)), (33, .goto 10, 3, (0, 0, 0)), (43, .putfield 90, 3, (2204, 4, 0)), (46, .iload_n 1, 1, (0, 0, 0))] (by decide +kernel) (show jrun _ (32, [(4, x0), (0, x1)], [(4, x0)], (jup s t1 3 t0)) = some ([], (47, [(4, x0), (0, x1)], [(0, x1)], (jup (jup s t1 3 t0) x0 4 (-1)))) from rfl) ?_
    exact AT.retzH (by decide +kernel) H
set_option maxRecDepth 100000 in
theorem Jc_endText_ok {a0 a1 : Int} {s : jM} {o : Int × jM} (H : Jc_endText a0 a1 s = some o) : MK sJc_endText 0 [(4, a0), (0, a1)] s o := by
  refine MK.of kJc_endText rfl ?_
  show AT sJc_endText 0 (0, [(4, a0), (0, a1)], [], s) o
  unfold Jc_endText at H
  refine AT.seq [(0, .aload_n 0, 1, (0, 0, 0)), (1, .getfield 33, 3, (2211, 11, 0)), (4, .iconst 0, 1, (0, 0, 0)), (5, .putfield 153, 3, (2030, 500, 0)), (8, .aload_n 0, 1, (0, 0, 0)), (9, .iload_n 1, 1, (0, 0, 0))] (by decide +kernel) (show jrun _ (0, [(4, a0), (0, a1)], [], s) = some ([], (10, [(4, a0), (0, a1)], [(0, a1), (4, a0)], (jup s (a0 + 11) 0 0))) from rfl) ?_
  refine AT.ite (x := (0, 0, 0)) (by decide +kernel) (show jbr (.ifCond .eq 7) (10, [(4, a0), (0, a1)], [(0, a1), (4, a0)], (jup s (a0 + 11) 0 0)) = some ((w32 a1) = 0, (17, [(4, a0), (0, a1)], [(4, a0)], (jup s (a0 + 11) 0 0)), (13, [(4, a0), (0, a1)], [(4, a0)], (jup s (a0 + 11) 0 0))) from rfl) H (fun H => ?_) (fun H => ?_)
  · refine AT.seq [(17, .aload_n 0, 1, (0, 0, 0)), (18, .getfield 33, 3, (2211, 11, 0)), (21, .getfield 385, 3, (2044, 508, 0))] (by decide +kernel) (show jrun _ (17, [(4, a0), (0, a1)], [(4, a0)], (jup s (a0 + 11) 0 0)) = some ([], (24, [(4, a0), (0, a1)], [(0, ((jup s (a0 + 11) 0 0) (a0 + 11) 8)), (4, a0)], (jup s (a0 + 11) 0 0))) from rfl) ?_
    exact Jc_endText_24_ok  H
  · refine AT.seq [(13, .iconst 0, 1, (0, 0, 0)), (14, .goto 10, 3, (0, 0, 0))] (by decide +kernel) (show jrun _ (13, [(4, a0), (0, a1)], [(4, a0)], (jup s (a0 + 11) 0 0)) = some ([], (24, [(4, a0), (0, a1)], [(0, 0), (4, a0)], (jup s (a0 + 11) 0 0))) from rfl) ?_
    exact Jc_endText_24_ok  H
def sJc_answer : jS := (⟨"JellyCathedral", "answer", "(I)I"⟩, prog_1_method_50_code, 2, 1, [4, 0], 0)
theorem kJc_answer : jmk sJc_answer = true := jmk_of 3218 1001 3217 15 (by decide +kernel)
set_option maxRecDepth 100000 in
theorem Jc_answer_ok {a0 a1 : Int} {s : jM} {o : Int × jM} (H : Jc_answer a0 a1 s = some o) : MK sJc_answer 0 [(4, a0), (0, a1)] s o := by
  refine MK.of kJc_answer rfl ?_
  show AT sJc_answer 0 (0, [(4, a0), (0, a1)], [], s) o
  unfold Jc_answer at H
  refine AT.seq [(0, .aload_n 0, 1, (0, 0, 0)), (1, .iconst 0, 1, (0, 0, 0)), (2, .putfield 76, 3, (2200, 0, 0)), (5, .iload_n 1, 1, (0, 0, 0))] (by decide +kernel) (show jrun _ (0, [(4, a0), (0, a1)], [], s) = some ([], (6, [(4, a0), (0, a1)], [(0, a1)], (jup s a0 0 0))) from rfl) ?_
  exact AT.retiH (by decide +kernel) H
def sJc_see : jS := (⟨"JellyCathedral", "see", "(I)I"⟩, prog_1_method_10_code, 4, 1, [4, 0], 0)
theorem kJc_see : jmk sJc_see = true := jmk_of 3092 1001 3090 3091 (by decide +kernel)
set_option maxRecDepth 100000 in
theorem Jc_see_ok {a0 a1 : Int} {s : jM} {o : Int × jM} (H : Jc_see a0 a1 s = some o) : MK sJc_see 6 [(4, a0), (0, a1)] s o := by
  refine MK.of kJc_see rfl ?_
  show AT sJc_see 6 (0, [(4, a0), (0, a1), (99, 0), (99, 0)], [], s) o
  unfold Jc_see at H
  refine AT.seq [(0, .iload_n 1, 1, (0, 0, 0))] (by decide +kernel) (show jrun _ (0, [(4, a0), (0, a1), (99, 0), (99, 0)], [], s) = some ([], (1, [(4, a0), (0, a1), (99, 0), (99, 0)], [(0, a1)], s)) from rfl) ?_
  refine AT.ite (x := (0, 0, 0)) (by decide +kernel) (show jbr (.ifCond .lt 14) (1, [(4, a0), (0, a1), (99, 0), (99, 0)], [(0, a1)], s) = some ((w32 a1) < 0, (15, [(4, a0), (0, a1), (99, 0), (99, 0)], [], s), (4, [(4, a0), (0, a1), (99, 0), (99, 0)], [], s)) from rfl) H (fun H => ?_) (fun H => ?_)
  · refine AT.seq [(15, .aload_n 0, 1, (0, 0, 0)), (16, .iconst 5, 1, (0, 0, 0))] (by decide +kernel) (show jrun _ (15, [(4, a0), (0, a1), (99, 0), (99, 0)], [], s) = some ([], (17, [(4, a0), (0, a1), (99, 0), (99, 0)], [(0, 5), (4, a0)], s)) from rfl) ?_
    obtain ⟨v1, s1, h1, H⟩ := jb_some H
    refine AT.callV (As := [(0, 5)]) (cl := 0) (b := a0) (st := []) (i := 123) (pos := 3066) kJc_refuse (by decide +kernel) rfl (by decide +kernel) rfl rfl (by omega) (Jc_refuse_ok h1) ?_
    show AT sJc_see 6 (20, [(4, a0), (0, a1), (99, 0), (99, 0)], [(0, v1)], s1) o
    exact AT.retiH (by decide +kernel) H
  · refine AT.seq [(4, .iload_n 1, 1, (0, 0, 0)), (5, .aload_n 0, 1, (0, 0, 0)), (6, .getfield 33, 3, (2211, 11, 0)), (9, .getfield 153, 3, (2030, 500, 0))] (by decide +kernel) (show jrun _ (4, [(4, a0), (0, a1), (99, 0), (99, 0)], [], s) = some ([], (12, [(4, a0), (0, a1), (99, 0), (99, 0)], [(0, (s (a0 + 11) 0)), (0, a1)], s)) from rfl) ?_
    refine AT.ite (x := (0, 0, 0)) (by decide +kernel) (show jbr (.if_icmp .le 9) (12, [(4, a0), (0, a1), (99, 0), (99, 0)], [(0, (s (a0 + 11) 0)), (0, a1)], s) = some ((w32 (s (a0 + 11) 0)) < (w32 a1), (15, [(4, a0), (0, a1), (99, 0), (99, 0)], [], s), (21, [(4, a0), (0, a1), (99, 0), (99, 0)], [], s)) from rfl) H (fun H => ?_) (fun H => ?_)
    · refine AT.seq [(15, .aload_n 0, 1, (0, 0, 0)), (16, .iconst 5, 1, (0, 0, 0))] (by decide +kernel) (show jrun _ (15, [(4, a0), (0, a1), (99, 0), (99, 0)], [], s) = some ([], (17, [(4, a0), (0, a1), (99, 0), (99, 0)], [(0, 5), (4, a0)], s)) from rfl) ?_
      obtain ⟨v2, s2, h2, H⟩ := jb_some H
      refine AT.callV (As := [(0, 5)]) (cl := 0) (b := a0) (st := []) (i := 123) (pos := 3066) kJc_refuse (by decide +kernel) rfl (by decide +kernel) rfl rfl (by omega) (Jc_refuse_ok h2) ?_
      show AT sJc_see 6 (20, [(4, a0), (0, a1), (99, 0), (99, 0)], [(0, v2)], s2) o
      exact AT.retiH (by decide +kernel) H
    · refine AT.seq [(21, .aload_n 0, 1, (0, 0, 0)), (22, .getfield 33, 3, (2211, 11, 0)), (25, .iload_n 1, 1, (0, 0, 0))] (by decide +kernel) (show jrun _ (21, [(4, a0), (0, a1), (99, 0), (99, 0)], [], s) = some ([], (26, [(4, a0), (0, a1), (99, 0), (99, 0)], [(0, a1), (9, (a0 + 11))], s)) from rfl) ?_
      obtain ⟨v3, s3, h3, H⟩ := jb_some H
      refine AT.callV (As := [(0, a1)]) (cl := 5) (b := (a0 + 11)) (st := []) (i := 156) (pos := 3093) kTe_open (by decide +kernel) rfl (by decide +kernel) rfl rfl (by omega) (Te_open_ok h3) ?_
      show AT sJc_see 6 (29, [(4, a0), (0, a1), (99, 0), (99, 0)], [], s3) o
      refine AT.blk (g := jok 3 (s3 a0 6) = true) [(29, .aload_n 0, 1, (0, 0, 0)), (30, .getfield 40, 3, (2212, 12, 0)), (33, .aload_n 0, 1, (0, 0, 0)), (34, .getfield 33, 3, (2211, 11, 0)), (37, .aload_n 0, 1, (0, 0, 0)), (38, .getfield 23, 3, (2206, 6, 0))] (by decide +kernel) (show jrun _ (29, [(4, a0), (0, a1), (99, 0), (99, 0)], [], s3) = some ([jok 3 (s3 a0 6) = true], (41, [(4, a0), (0, a1), (99, 0), (99, 0)], [(7, (s3 a0 6)), (9, (a0 + 11)), (10, (a0 + 13))], s3)) from rfl) (fun h => h) H (fun H => ?_)
      obtain ⟨v4, s4, h4, H⟩ := jb_some H
      refine AT.callV (As := [(9, (a0 + 11)), (7, (s3 a0 6))]) (cl := 6) (b := (a0 + 13)) (st := []) (i := 159) (pos := 3111) kSr_take (by decide +kernel) rfl (by decide +kernel) rfl rfl (by omega) (Sr_take_ok h4) ?_
      show AT sJc_see 6 (44, [(4, a0), (0, a1), (99, 0), (99, 0)], [(0, v4)], s4) o
      refine AT.seq [(44, .istore_n 2, 1, (0, 0, 0)), (45, .aload_n 0, 1, (0, 0, 0)), (46, .iload_n 2, 1, (0, 0, 0))] (by decide +kernel) (show jrun _ (44, [(4, a0), (0, a1), (99, 0), (99, 0)], [(0, v4)], s4) = some ([], (47, [(4, a0), (0, a1), (0, v4), (99, 0)], [(0, v4), (4, a0)], s4)) from rfl) ?_
      obtain ⟨v5, s5, h5, H⟩ := jb_some H
      refine AT.callV (As := [(0, v4)]) (cl := 0) (b := a0) (st := []) (i := 163) (pos := 3211) kJc_endText (by decide +kernel) rfl (by decide +kernel) rfl rfl (by omega) (Jc_endText_ok h5) ?_
      show AT sJc_see 6 (50, [(4, a0), (0, a1), (0, v4), (99, 0)], [(0, v5)], s5) o
      refine AT.ite (x := (0, 0, 0)) (by decide +kernel) (show jbr (.ifCond .ne 10) (50, [(4, a0), (0, a1), (0, v4), (99, 0)], [(0, v5)], s5) = some ((w32 v5) = 0, (53, [(4, a0), (0, a1), (0, v4), (99, 0)], [], s5), (60, [(4, a0), (0, a1), (0, v4), (99, 0)], [], s5)) from rfl) H (fun H => ?_) (fun H => ?_)
      · refine AT.seq [(53, .aload_n 0, 1, (0, 0, 0)), (54, .bipush 10, 2, (0, 0, 0))] (by decide +kernel) (show jrun _ (53, [(4, a0), (0, a1), (0, v4), (99, 0)], [], s5) = some ([], (56, [(4, a0), (0, a1), (0, v4), (99, 0)], [(0, 10), (4, a0)], s5)) from rfl) ?_
        obtain ⟨v6, s6, h6, H⟩ := jb_some H
        refine AT.callV (As := [(0, 10)]) (cl := 0) (b := a0) (st := []) (i := 123) (pos := 3066) kJc_refuse (by decide +kernel) rfl (by decide +kernel) rfl rfl (by omega) (Jc_refuse_ok h6) ?_
        show AT sJc_see 6 (59, [(4, a0), (0, a1), (0, v4), (99, 0)], [(0, v6)], s6) o
        exact AT.retiH (by decide +kernel) H
      · refine AT.blk (g := jok 3 (s5 a0 5) = true ∧ jok 3 (s5 a0 6) = true ∧ jok 3 ((jup (jup s5 a0 5 (s5 a0 6)) a0 6 (s5 a0 5)) a0 5) = true) [(60, .aload_n 0, 1, (0, 0, 0)), (61, .getfield 19, 3, (2205, 5, 0)), (64, .astore_n 3, 1, (0, 0, 0)), (65, .aload_n 0, 1, (0, 0, 0)), (66, .aload_n 0, 1, (0, 0, 0)), (67, .getfield 23, 3, (2206, 6, 0)), (70, .putfield 19, 3, (2205, 5, 0)), (73, .aload_n 0, 1, (0, 0, 0)), (74, .aload_n 3, 1, (0, 0, 0)), (75, .putfield 23, 3, (2206, 6, 0)), (78, .aload_n 0, 1, (0, 0, 0)), (79, .aload_n 0, 1, (0, 0, 0)), (80, .getfield 19, 3, (2205, 5, 0)), (83, .getfield 167, 3, (1195, 306, 0))] (by decide +kernel) (show jrun _ (60, [(4, a0), (0, a1), (0, v4), (99, 0)], [], s5) = some ([jok 3 (s5 a0 5) = true, jok 3 (s5 a0 6) = true, jok 3 ((jup (jup s5 a0 5 (s5 a0 6)) a0 6 (s5 a0 5)) a0 5) = true], (86, [(4, a0), (0, a1), (0, v4), (7, (s5 a0 5))], [(0, ((jup (jup s5 a0 5 (s5 a0 6)) a0 6 (s5 a0 5)) ((jup (jup s5 a0 5 (s5 a0 6)) a0 6 (s5 a0 5)) a0 5) 6)), (4, a0)], (jup (jup s5 a0 5 (s5 a0 6)) a0 6 (s5 a0 5)))) from rfl) (fun h => ⟨h.1, h.2.1, h.2.2⟩) H (fun H => ?_)
        obtain ⟨v7, s7, h7, H⟩ := jb_some H
        refine AT.callV (As := [(0, ((jup (jup s5 a0 5 (s5 a0 6)) a0 6 (s5 a0 5)) ((jup (jup s5 a0 5 (s5 a0 6)) a0 6 (s5 a0 5)) a0 5) 6))]) (cl := 0) (b := a0) (st := []) (i := 170) (pos := 3215) kJc_answer (by decide +kernel) rfl (by decide +kernel) rfl rfl (by omega) (Jc_answer_ok h7) ?_
        show AT sJc_see 6 (89, [(4, a0), (0, a1), (0, v4), (7, (s5 a0 5))], [(0, v7)], s7) o
        exact AT.retiH (by decide +kernel) H
def sJc_feasts : jS := (⟨"JellyCathedral", "feasts", "(I)I"⟩, prog_1_method_11_code, 3, 1, [4, 0], 0)
theorem kJc_feasts : jmk sJc_feasts = true := jmk_of 3222 1001 3220 3221 (by decide +kernel)
set_option maxRecDepth 100000 in
theorem Jc_feasts_ok {a0 a1 : Int} {s : jM} {o : Int × jM} (H : Jc_feasts a0 a1 s = some o) : MK sJc_feasts 6 [(4, a0), (0, a1)] s o := by
  refine MK.of kJc_feasts rfl ?_
  show AT sJc_feasts 6 (0, [(4, a0), (0, a1), (99, 0)], [], s) o
  unfold Jc_feasts at H
  refine AT.seq [(0, .iload_n 1, 1, (0, 0, 0))] (by decide +kernel) (show jrun _ (0, [(4, a0), (0, a1), (99, 0)], [], s) = some ([], (1, [(4, a0), (0, a1), (99, 0)], [(0, a1)], s)) from rfl) ?_
  refine AT.ite (x := (0, 0, 0)) (by decide +kernel) (show jbr (.ifCond .lt 21) (1, [(4, a0), (0, a1), (99, 0)], [(0, a1)], s) = some ((w32 a1) < 0, (22, [(4, a0), (0, a1), (99, 0)], [], s), (4, [(4, a0), (0, a1), (99, 0)], [], s)) from rfl) H (fun H => ?_) (fun H => ?_)
  · refine AT.seq [(22, .aload_n 0, 1, (0, 0, 0)), (23, .iconst 5, 1, (0, 0, 0))] (by decide +kernel) (show jrun _ (22, [(4, a0), (0, a1), (99, 0)], [], s) = some ([], (24, [(4, a0), (0, a1), (99, 0)], [(0, 5), (4, a0)], s)) from rfl) ?_
    obtain ⟨v1, s1, h1, H⟩ := jb_some H
    refine AT.callV (As := [(0, 5)]) (cl := 0) (b := a0) (st := []) (i := 123) (pos := 3066) kJc_refuse (by decide +kernel) rfl (by decide +kernel) rfl rfl (by omega) (Jc_refuse_ok h1) ?_
    show AT sJc_feasts 6 (27, [(4, a0), (0, a1), (99, 0)], [(0, v1)], s1) o
    exact AT.retiH (by decide +kernel) H
  · refine AT.seq [(4, .iload_n 1, 1, (0, 0, 0)), (5, .aload_n 0, 1, (0, 0, 0)), (6, .getfield 33, 3, (2211, 11, 0)), (9, .getfield 153, 3, (2030, 500, 0))] (by decide +kernel) (show jrun _ (4, [(4, a0), (0, a1), (99, 0)], [], s) = some ([], (12, [(4, a0), (0, a1), (99, 0)], [(0, (s (a0 + 11) 0)), (0, a1)], s)) from rfl) ?_
    refine AT.ite (x := (0, 0, 0)) (by decide +kernel) (show jbr (.if_icmp .gt 10) (12, [(4, a0), (0, a1), (99, 0)], [(0, (s (a0 + 11) 0)), (0, a1)], s) = some ((w32 (s (a0 + 11) 0)) < (w32 a1), (22, [(4, a0), (0, a1), (99, 0)], [], s), (15, [(4, a0), (0, a1), (99, 0)], [], s)) from rfl) H (fun H => ?_) (fun H => ?_)
    · refine AT.seq [(22, .aload_n 0, 1, (0, 0, 0)), (23, .iconst 5, 1, (0, 0, 0))] (by decide +kernel) (show jrun _ (22, [(4, a0), (0, a1), (99, 0)], [], s) = some ([], (24, [(4, a0), (0, a1), (99, 0)], [(0, 5), (4, a0)], s)) from rfl) ?_
      obtain ⟨v2, s2, h2, H⟩ := jb_some H
      refine AT.callV (As := [(0, 5)]) (cl := 0) (b := a0) (st := []) (i := 123) (pos := 3066) kJc_refuse (by decide +kernel) rfl (by decide +kernel) rfl rfl (by omega) (Jc_refuse_ok h2) ?_
      show AT sJc_feasts 6 (27, [(4, a0), (0, a1), (99, 0)], [(0, v2)], s2) o
      exact AT.retiH (by decide +kernel) H
    · refine AT.seq [(15, .iload_n 1, 1, (0, 0, 0)), (16, .sipush 300, 3, (0, 0, 0))] (by decide +kernel) (show jrun _ (15, [(4, a0), (0, a1), (99, 0)], [], s) = some ([], (19, [(4, a0), (0, a1), (99, 0)], [(0, 300), (0, a1)], s)) from rfl) ?_
      refine AT.ite (x := (0, 0, 0)) (by decide +kernel) (show jbr (.if_icmp .le 9) (19, [(4, a0), (0, a1), (99, 0)], [(0, 300), (0, a1)], s) = some (300 < (w32 a1), (22, [(4, a0), (0, a1), (99, 0)], [], s), (28, [(4, a0), (0, a1), (99, 0)], [], s)) from rfl) H (fun H => ?_) (fun H => ?_)
      · refine AT.seq [(22, .aload_n 0, 1, (0, 0, 0)), (23, .iconst 5, 1, (0, 0, 0))] (by decide +kernel) (show jrun _ (22, [(4, a0), (0, a1), (99, 0)], [], s) = some ([], (24, [(4, a0), (0, a1), (99, 0)], [(0, 5), (4, a0)], s)) from rfl) ?_
        obtain ⟨v3, s3, h3, H⟩ := jb_some H
        refine AT.callV (As := [(0, 5)]) (cl := 0) (b := a0) (st := []) (i := 123) (pos := 3066) kJc_refuse (by decide +kernel) rfl (by decide +kernel) rfl rfl (by omega) (Jc_refuse_ok h3) ?_
        show AT sJc_feasts 6 (27, [(4, a0), (0, a1), (99, 0)], [(0, v3)], s3) o
        exact AT.retiH (by decide +kernel) H
      · refine AT.seq [(28, .aload_n 0, 1, (0, 0, 0)), (29, .getfield 33, 3, (2211, 11, 0)), (32, .iload_n 1, 1, (0, 0, 0))] (by decide +kernel) (show jrun _ (28, [(4, a0), (0, a1), (99, 0)], [], s) = some ([], (33, [(4, a0), (0, a1), (99, 0)], [(0, a1), (9, (a0 + 11))], s)) from rfl) ?_
        obtain ⟨v4, s4, h4, H⟩ := jb_some H
        refine AT.callV (As := [(0, a1)]) (cl := 5) (b := (a0 + 11)) (st := []) (i := 156) (pos := 3093) kTe_open (by decide +kernel) rfl (by decide +kernel) rfl rfl (by omega) (Te_open_ok h4) ?_
        show AT sJc_feasts 6 (36, [(4, a0), (0, a1), (99, 0)], [], s4) o
        refine AT.blk (g := jok 3 (s4 a0 5) = true ∧ jok 3 (s4 a0 6) = true) [(36, .aload_n 0, 1, (0, 0, 0)), (37, .getfield 47, 3, (2213, 13, 0)), (40, .aload_n 0, 1, (0, 0, 0)), (41, .getfield 33, 3, (2211, 11, 0)), (44, .aload_n 0, 1, (0, 0, 0)), (45, .getfield 19, 3, (2205, 5, 0)), (48, .aload_n 0, 1, (0, 0, 0)), (49, .getfield 23, 3, (2206, 6, 0)), (52, .getfield 173, 3, (1224, 317, 0))] (by decide +kernel) (show jrun _ (36, [(4, a0), (0, a1), (99, 0)], [], s4) = some ([jok 3 (s4 a0 5) = true, jok 3 (s4 a0 6) = true], (55, [(4, a0), (0, a1), (99, 0)], [(8, ((s4 a0 6) + 9)), (7, (s4 a0 5)), (9, (a0 + 11)), (11, (a0 + 14))], s4)) from rfl) (fun h => ⟨h.1, h.2⟩) H (fun H => ?_)
        obtain ⟨v5, s5, h5, H⟩ := jb_some H
        refine AT.callV (As := [(9, (a0 + 11)), (7, (s4 a0 5)), (8, ((s4 a0 6) + 9))]) (cl := 7) (b := (a0 + 14)) (st := []) (i := 177) (pos := 3223) kFr_take (by decide +kernel) rfl (by decide +kernel) rfl rfl (by omega) (Fr_take_ok h5) ?_
        show AT sJc_feasts 6 (58, [(4, a0), (0, a1), (99, 0)], [(0, v5)], s5) o
        refine AT.seq [(58, .istore_n 2, 1, (0, 0, 0)), (59, .aload_n 0, 1, (0, 0, 0)), (60, .iload_n 2, 1, (0, 0, 0))] (by decide +kernel) (show jrun _ (58, [(4, a0), (0, a1), (99, 0)], [(0, v5)], s5) = some ([], (61, [(4, a0), (0, a1), (0, v5)], [(0, v5), (4, a0)], s5)) from rfl) ?_
        obtain ⟨v6, s6, h6, H⟩ := jb_some H
        refine AT.callV (As := [(0, v5)]) (cl := 0) (b := a0) (st := []) (i := 163) (pos := 3211) kJc_endText (by decide +kernel) rfl (by decide +kernel) rfl rfl (by omega) (Jc_endText_ok h6) ?_
        show AT sJc_feasts 6 (64, [(4, a0), (0, a1), (0, v5)], [(0, v6)], s6) o
        refine AT.ite (x := (0, 0, 0)) (by decide +kernel) (show jbr (.ifCond .ne 10) (64, [(4, a0), (0, a1), (0, v5)], [(0, v6)], s6) = some ((w32 v6) = 0, (67, [(4, a0), (0, a1), (0, v5)], [], s6), (74, [(4, a0), (0, a1), (0, v5)], [], s6)) from rfl) H (fun H => ?_) (fun H => ?_)
        · refine AT.seq [(67, .aload_n 0, 1, (0, 0, 0)), (68, .bipush 10, 2, (0, 0, 0))] (by decide +kernel) (show jrun _ (67, [(4, a0), (0, a1), (0, v5)], [], s6) = some ([], (70, [(4, a0), (0, a1), (0, v5)], [(0, 10), (4, a0)], s6)) from rfl) ?_
          obtain ⟨v7, s7, h7, H⟩ := jb_some H
          refine AT.callV (As := [(0, 10)]) (cl := 0) (b := a0) (st := []) (i := 123) (pos := 3066) kJc_refuse (by decide +kernel) rfl (by decide +kernel) rfl rfl (by omega) (Jc_refuse_ok h7) ?_
          show AT sJc_feasts 6 (73, [(4, a0), (0, a1), (0, v5)], [(0, v7)], s7) o
          exact AT.retiH (by decide +kernel) H
        · refine AT.blk (g := jok 3 (s6 a0 5) = true ∧ jok 3 (s6 a0 6) = true) [(74, .aload_n 0, 1, (0, 0, 0)), (75, .getfield 19, 3, (2205, 5, 0)), (78, .getfield 173, 3, (1224, 317, 0)), (81, .aload_n 0, 1, (0, 0, 0)), (82, .getfield 23, 3, (2206, 6, 0)), (85, .getfield 173, 3, (1224, 317, 0))] (by decide +kernel) (show jrun _ (74, [(4, a0), (0, a1), (0, v5)], [], s6) = some ([jok 3 (s6 a0 5) = true, jok 3 (s6 a0 6) = true], (88, [(4, a0), (0, a1), (0, v5)], [(8, ((s6 a0 6) + 9)), (8, ((s6 a0 5) + 9))], s6)) from rfl) (fun h => ⟨h.1, h.2⟩) H (fun H => ?_)
          obtain ⟨v8, s8, h8, H⟩ := jb_some H
          refine AT.callV (As := [(8, ((s6 a0 6) + 9))]) (cl := 4) (b := ((s6 a0 5) + 9)) (st := []) (i := 180) (pos := 4017) kFe_copyOf (by decide +kernel) rfl (by decide +kernel) rfl rfl (by omega) (Fe_copyOf_ok h8) ?_
          show AT sJc_feasts 6 (91, [(4, a0), (0, a1), (0, v5)], [], s8) o
          refine AT.blk (g := jok 3 (s8 a0 5) = true) [(91, .aload_n 0, 1, (0, 0, 0)), (92, .aload_n 0, 1, (0, 0, 0)), (93, .getfield 19, 3, (2205, 5, 0)), (96, .getfield 173, 3, (1224, 317, 0)), (99, .getfield 186, 3, (1067, 401, 0))] (by decide +kernel) (show jrun _ (91, [(4, a0), (0, a1), (0, v5)], [], s8) = some ([jok 3 (s8 a0 5) = true], (102, [(4, a0), (0, a1), (0, v5)], [(0, (s8 ((s8 a0 5) + 9) 1)), (4, a0)], s8)) from rfl) (fun h => h) H (fun H => ?_)
          obtain ⟨v9, s9, h9, H⟩ := jb_some H
          refine AT.callV (As := [(0, (s8 ((s8 a0 5) + 9) 1))]) (cl := 0) (b := a0) (st := []) (i := 170) (pos := 3215) kJc_answer (by decide +kernel) rfl (by decide +kernel) rfl rfl (by omega) (Jc_answer_ok h9) ?_
          show AT sJc_feasts 6 (105, [(4, a0), (0, a1), (0, v5)], [(0, v9)], s9) o
          exact AT.retiH (by decide +kernel) H
def sJc_fault : jS := (⟨"JellyCathedral", "fault", "(I)I"⟩, prog_1_method_12_code, 2, 1, [4, 0], 0)
theorem kJc_fault : jmk sJc_fault = true := jmk_of 4025 1001 4023 4024 (by decide +kernel)
set_option maxRecDepth 100000 in
theorem Jc_fault_ok {a0 a1 : Int} {s : jM} {o : Int × jM} (H : Jc_fault a0 a1 s = some o) : MK sJc_fault 0 [(4, a0), (0, a1)] s o := by
  refine MK.of kJc_fault rfl ?_
  show AT sJc_fault 0 (0, [(4, a0), (0, a1)], [], s) o
  unfold Jc_fault at H
  refine AT.seq [(0, .iload_n 1, 1, (0, 0, 0))] (by decide +kernel) (show jrun _ (0, [(4, a0), (0, a1)], [], s) = some ([], (1, [(4, a0), (0, a1)], [(0, a1)], s)) from rfl) ?_
  refine AT.ite (x := (0, 0, 0)) (by decide +kernel) (show jbr (.ifCond .ne 8) (1, [(4, a0), (0, a1)], [(0, a1)], s) = some ((w32 a1) = 0, (4, [(4, a0), (0, a1)], [], s), (9, [(4, a0), (0, a1)], [], s)) from rfl) H (fun H => ?_) (fun H => ?_)
  · refine AT.seq [(4, .aload_n 0, 1, (0, 0, 0)), (5, .getfield 87, 3, (2203, 3, 0))] (by decide +kernel) (show jrun _ (4, [(4, a0), (0, a1)], [], s) = some ([], (8, [(4, a0), (0, a1)], [(0, (s a0 3))], s)) from rfl) ?_
    exact AT.retiH (by decide +kernel) H
  · refine AT.seq [(9, .iload_n 1, 1, (0, 0, 0)), (10, .iconst 1, 1, (0, 0, 0))] (by decide +kernel) (show jrun _ (9, [(4, a0), (0, a1)], [], s) = some ([], (11, [(4, a0), (0, a1)], [(0, 1), (0, a1)], s)) from rfl) ?_
    refine AT.ite (x := (0, 0, 0)) (by decide +kernel) (show jbr (.if_icmp .ne 10) (11, [(4, a0), (0, a1)], [(0, 1), (0, a1)], s) = some ((w32 a1) = 1, (14, [(4, a0), (0, a1)], [], s), (21, [(4, a0), (0, a1)], [], s)) from rfl) H (fun H => ?_) (fun H => ?_)
    · refine AT.seq [(14, .aload_n 0, 1, (0, 0, 0)), (15, .getfield 90, 3, (2204, 4, 0)), (18, .goto 4, 3, (0, 0, 0))] (by decide +kernel) (show jrun _ (14, [(4, a0), (0, a1)], [], s) = some ([], (22, [(4, a0), (0, a1)], [(0, (s a0 4))], s)) from rfl) ?_
      exact AT.retiH (by decide +kernel) H
    · refine AT.seq [(21, .iconst (-1), 1, (0, 0, 0))] (by decide +kernel) (show jrun _ (21, [(4, a0), (0, a1)], [], s) = some ([], (22, [(4, a0), (0, a1)], [(0, (-1))], s)) from rfl) ?_
      exact AT.retiH (by decide +kernel) H
def sJc_many : jS := (⟨"JellyCathedral", "many", "(I)I"⟩, prog_1_method_13_code, 2, 1, [4, 0], 0)
theorem kJc_many : jmk sJc_many = true := jmk_of 4029 1001 4027 4028 (by decide +kernel)
set_option maxRecDepth 100000 in
theorem Jc_many_ok {a0 a1 : Int} {s : jM} {o : Int × jM} (H : Jc_many a0 a1 s = some o) : MK sJc_many 1 [(4, a0), (0, a1)] s o := by
  refine MK.of kJc_many rfl ?_
  show AT sJc_many 1 (0, [(4, a0), (0, a1)], [], s) o
  unfold Jc_many at H
  refine AT.seq [(0, .iload_n 1, 1, (0, 0, 0))] (by decide +kernel) (show jrun _ (0, [(4, a0), (0, a1)], [], s) = some ([], (1, [(4, a0), (0, a1)], [(0, a1)], s)) from rfl) ?_
  by_cases h1 : (w32 a1) = 0
  · rw [if_pos h1] at H
    refine AT.sw (ins := .tableswitch 194 0 10 #[59, 71, 83, 95, 107, 119, 131, 143, 155, 168, 181]) (n := 59) (v := 0) (t := 60) (by decide +kernel) h1 ?_
    refine AT.blk (g := jok 3 (s a0 5) = true) [(60, .aload_n 0, 1, (0, 0, 0)), (61, .aload_n 0, 1, (0, 0, 0)), (62, .getfield 19, 3, (2205, 5, 0)), (65, .getfield 189, 3, (1188, 304, 0))] (by decide +kernel) (show jrun _ (60, [(4, a0), (0, a1)], [], s) = some ([jok 3 (s a0 5) = true], (68, [(4, a0), (0, a1)], [(0, (s (s a0 5) 4)), (4, a0)], s)) from rfl) (fun h => h) H (fun H => ?_)
    obtain ⟨v2, s2, h2, H⟩ := jb_some H
    refine AT.callV (As := [(0, (s (s a0 5) 4))]) (cl := 0) (b := a0) (st := []) (i := 170) (pos := 3215) kJc_answer (by decide +kernel) rfl (by decide +kernel) rfl rfl (by omega) (Jc_answer_ok h2) ?_
    show AT sJc_many 1 (71, [(4, a0), (0, a1)], [(0, v2)], s2) o
    exact AT.retiH (by decide +kernel) H
  rw [if_neg h1] at H
  by_cases h3 : (w32 a1) = 1
  · rw [if_pos h3] at H
    refine AT.sw (ins := .tableswitch 194 0 10 #[59, 71, 83, 95, 107, 119, 131, 143, 155, 168, 181]) (n := 59) (v := 1) (t := 72) (by decide +kernel) h3 ?_
    refine AT.blk (g := jok 3 (s a0 5) = true) [(72, .aload_n 0, 1, (0, 0, 0)), (73, .aload_n 0, 1, (0, 0, 0)), (74, .getfield 19, 3, (2205, 5, 0)), (77, .getfield 192, 3, (1191, 305, 0))] (by decide +kernel) (show jrun _ (72, [(4, a0), (0, a1)], [], s) = some ([jok 3 (s a0 5) = true], (80, [(4, a0), (0, a1)], [(0, (s (s a0 5) 5)), (4, a0)], s)) from rfl) (fun h => h) H (fun H => ?_)
    obtain ⟨v4, s4, h4, H⟩ := jb_some H
    refine AT.callV (As := [(0, (s (s a0 5) 5))]) (cl := 0) (b := a0) (st := []) (i := 170) (pos := 3215) kJc_answer (by decide +kernel) rfl (by decide +kernel) rfl rfl (by omega) (Jc_answer_ok h4) ?_
    show AT sJc_many 1 (83, [(4, a0), (0, a1)], [(0, v4)], s4) o
    exact AT.retiH (by decide +kernel) H
  rw [if_neg h3] at H
  by_cases h5 : (w32 a1) = 2
  · rw [if_pos h5] at H
    refine AT.sw (ins := .tableswitch 194 0 10 #[59, 71, 83, 95, 107, 119, 131, 143, 155, 168, 181]) (n := 59) (v := 2) (t := 84) (by decide +kernel) h5 ?_
    refine AT.blk (g := jok 3 (s a0 5) = true) [(84, .aload_n 0, 1, (0, 0, 0)), (85, .aload_n 0, 1, (0, 0, 0)), (86, .getfield 19, 3, (2205, 5, 0)), (89, .getfield 167, 3, (1195, 306, 0))] (by decide +kernel) (show jrun _ (84, [(4, a0), (0, a1)], [], s) = some ([jok 3 (s a0 5) = true], (92, [(4, a0), (0, a1)], [(0, (s (s a0 5) 6)), (4, a0)], s)) from rfl) (fun h => h) H (fun H => ?_)
    obtain ⟨v6, s6, h6, H⟩ := jb_some H
    refine AT.callV (As := [(0, (s (s a0 5) 6))]) (cl := 0) (b := a0) (st := []) (i := 170) (pos := 3215) kJc_answer (by decide +kernel) rfl (by decide +kernel) rfl rfl (by omega) (Jc_answer_ok h6) ?_
    show AT sJc_many 1 (95, [(4, a0), (0, a1)], [(0, v6)], s6) o
    exact AT.retiH (by decide +kernel) H
  rw [if_neg h5] at H
  by_cases h7 : (w32 a1) = 3
  · rw [if_pos h7] at H
    refine AT.sw (ins := .tableswitch 194 0 10 #[59, 71, 83, 95, 107, 119, 131, 143, 155, 168, 181]) (n := 59) (v := 3) (t := 96) (by decide +kernel) h7 ?_
    refine AT.blk (g := jok 3 (s a0 5) = true) [(96, .aload_n 0, 1, (0, 0, 0)), (97, .aload_n 0, 1, (0, 0, 0)), (98, .getfield 19, 3, (2205, 5, 0)), (101, .getfield 195, 3, (1175, 300, 0))] (by decide +kernel) (show jrun _ (96, [(4, a0), (0, a1)], [], s) = some ([jok 3 (s a0 5) = true], (104, [(4, a0), (0, a1)], [(0, (s (s a0 5) 0)), (4, a0)], s)) from rfl) (fun h => h) H (fun H => ?_)
    obtain ⟨v8, s8, h8, H⟩ := jb_some H
    refine AT.callV (As := [(0, (s (s a0 5) 0))]) (cl := 0) (b := a0) (st := []) (i := 170) (pos := 3215) kJc_answer (by decide +kernel) rfl (by decide +kernel) rfl rfl (by omega) (Jc_answer_ok h8) ?_
    show AT sJc_many 1 (107, [(4, a0), (0, a1)], [(0, v8)], s8) o
    exact AT.retiH (by decide +kernel) H
  rw [if_neg h7] at H
  by_cases h9 : (w32 a1) = 4
  · rw [if_pos h9] at H
    refine AT.sw (ins := .tableswitch 194 0 10 #[59, 71, 83, 95, 107, 119, 131, 143, 155, 168, 181]) (n := 59) (v := 4) (t := 108) (by decide +kernel) h9 ?_
    refine AT.blk (g := jok 3 (s a0 5) = true) [(108, .aload_n 0, 1, (0, 0, 0)), (109, .aload_n 0, 1, (0, 0, 0)), (110, .getfield 19, 3, (2205, 5, 0)), (113, .getfield 198, 3, (1179, 301, 0))] (by decide +kernel) (show jrun _ (108, [(4, a0), (0, a1)], [], s) = some ([jok 3 (s a0 5) = true], (116, [(4, a0), (0, a1)], [(0, (s (s a0 5) 1)), (4, a0)], s)) from rfl) (fun h => h) H (fun H => ?_)
    obtain ⟨v10, s10, h10, H⟩ := jb_some H
    refine AT.callV (As := [(0, (s (s a0 5) 1))]) (cl := 0) (b := a0) (st := []) (i := 170) (pos := 3215) kJc_answer (by decide +kernel) rfl (by decide +kernel) rfl rfl (by omega) (Jc_answer_ok h10) ?_
    show AT sJc_many 1 (119, [(4, a0), (0, a1)], [(0, v10)], s10) o
    exact AT.retiH (by decide +kernel) H
  rw [if_neg h9] at H
  by_cases h11 : (w32 a1) = 5
  · rw [if_pos h11] at H
    refine AT.sw (ins := .tableswitch 194 0 10 #[59, 71, 83, 95, 107, 119, 131, 143, 155, 168, 181]) (n := 59) (v := 5) (t := 120) (by decide +kernel) h11 ?_
    refine AT.blk (g := jok 3 (s a0 5) = true) [(120, .aload_n 0, 1, (0, 0, 0)), (121, .aload_n 0, 1, (0, 0, 0)), (122, .getfield 19, 3, (2205, 5, 0)), (125, .getfield 201, 3, (1181, 302, 0))] (by decide +kernel) (show jrun _ (120, [(4, a0), (0, a1)], [], s) = some ([jok 3 (s a0 5) = true], (128, [(4, a0), (0, a1)], [(0, (s (s a0 5) 2)), (4, a0)], s)) from rfl) (fun h => h) H (fun H => ?_)
    obtain ⟨v12, s12, h12, H⟩ := jb_some H
    refine AT.callV (As := [(0, (s (s a0 5) 2))]) (cl := 0) (b := a0) (st := []) (i := 170) (pos := 3215) kJc_answer (by decide +kernel) rfl (by decide +kernel) rfl rfl (by omega) (Jc_answer_ok h12) ?_
    show AT sJc_many 1 (131, [(4, a0), (0, a1)], [(0, v12)], s12) o
    exact AT.retiH (by decide +kernel) H
  rw [if_neg h11] at H
  by_cases h13 : (w32 a1) = 6
  · rw [if_pos h13] at H
    refine AT.sw (ins := .tableswitch 194 0 10 #[59, 71, 83, 95, 107, 119, 131, 143, 155, 168, 181]) (n := 59) (v := 6) (t := 132) (by decide +kernel) h13 ?_
    refine AT.blk (g := jok 3 (s a0 5) = true) [(132, .aload_n 0, 1, (0, 0, 0)), (133, .aload_n 0, 1, (0, 0, 0)), (134, .getfield 19, 3, (2205, 5, 0)), (137, .getfield 204, 3, (1183, 303, 0))] (by decide +kernel) (show jrun _ (132, [(4, a0), (0, a1)], [], s) = some ([jok 3 (s a0 5) = true], (140, [(4, a0), (0, a1)], [(0, (s (s a0 5) 3)), (4, a0)], s)) from rfl) (fun h => h) H (fun H => ?_)
    obtain ⟨v14, s14, h14, H⟩ := jb_some H
    refine AT.callV (As := [(0, (s (s a0 5) 3))]) (cl := 0) (b := a0) (st := []) (i := 170) (pos := 3215) kJc_answer (by decide +kernel) rfl (by decide +kernel) rfl rfl (by omega) (Jc_answer_ok h14) ?_
    show AT sJc_many 1 (143, [(4, a0), (0, a1)], [(0, v14)], s14) o
    exact AT.retiH (by decide +kernel) H
  rw [if_neg h13] at H
  by_cases h15 : (w32 a1) = 7
  · rw [if_pos h15] at H
    refine AT.sw (ins := .tableswitch 194 0 10 #[59, 71, 83, 95, 107, 119, 131, 143, 155, 168, 181]) (n := 59) (v := 7) (t := 144) (by decide +kernel) h15 ?_
    refine AT.blk (g := jok 3 (s a0 5) = true) [(144, .aload_n 0, 1, (0, 0, 0)), (145, .aload_n 0, 1, (0, 0, 0)), (146, .getfield 19, 3, (2205, 5, 0))] (by decide +kernel) (show jrun _ (144, [(4, a0), (0, a1)], [], s) = some ([jok 3 (s a0 5) = true], (149, [(4, a0), (0, a1)], [(7, (s a0 5)), (4, a0)], s)) from rfl) (fun h => h) H (fun H => ?_)
    obtain ⟨v16, s16, h16, H⟩ := jb_some H
    refine AT.callV (As := []) (cl := 3) (b := (s a0 5)) (st := [(4, a0)]) (i := 207) (pos := 4030) kSe_fallen (by decide +kernel) rfl (by decide +kernel) rfl rfl (by omega) (Se_fallen_ok h16) ?_
    show AT sJc_many 1 (152, [(4, a0), (0, a1)], [(0, v16), (4, a0)], s16) o
    obtain ⟨v17, s17, h17, H⟩ := jb_some H
    refine AT.callV (As := [(0, v16)]) (cl := 0) (b := a0) (st := []) (i := 170) (pos := 3215) kJc_answer (by decide +kernel) rfl (by decide +kernel) rfl rfl (by omega) (Jc_answer_ok h17) ?_
    show AT sJc_many 1 (155, [(4, a0), (0, a1)], [(0, v17)], s17) o
    exact AT.retiH (by decide +kernel) H
  rw [if_neg h15] at H
  by_cases h18 : (w32 a1) = 8
  · rw [if_pos h18] at H
    refine AT.sw (ins := .tableswitch 194 0 10 #[59, 71, 83, 95, 107, 119, 131, 143, 155, 168, 181]) (n := 59) (v := 8) (t := 156) (by decide +kernel) h18 ?_
    refine AT.blk (g := jok 3 (s a0 5) = true) [(156, .aload_n 0, 1, (0, 0, 0)), (157, .aload_n 0, 1, (0, 0, 0)), (158, .getfield 19, 3, (2205, 5, 0)), (161, .iconst 0, 1, (0, 0, 0))] (by decide +kernel) (show jrun _ (156, [(4, a0), (0, a1)], [], s) = some ([jok 3 (s a0 5) = true], (162, [(4, a0), (0, a1)], [(0, 0), (7, (s a0 5)), (4, a0)], s)) from rfl) (fun h => h) H (fun H => ?_)
    obtain ⟨v19, s19, h19, H⟩ := jb_some H
    refine AT.callV (As := [(0, 0)]) (cl := 3) (b := (s a0 5)) (st := [(4, a0)]) (i := 211) (pos := 4034) kSe_setOf (by decide +kernel) rfl (by decide +kernel) rfl rfl (by omega) (Se_setOf_ok h19) ?_
    show AT sJc_many 1 (165, [(4, a0), (0, a1)], [(0, v19), (4, a0)], s19) o
    obtain ⟨v20, s20, h20, H⟩ := jb_some H
    refine AT.callV (As := [(0, v19)]) (cl := 0) (b := a0) (st := []) (i := 170) (pos := 3215) kJc_answer (by decide +kernel) rfl (by decide +kernel) rfl rfl (by omega) (Jc_answer_ok h20) ?_
    show AT sJc_many 1 (168, [(4, a0), (0, a1)], [(0, v20)], s20) o
    exact AT.retiH (by decide +kernel) H
  rw [if_neg h18] at H
  by_cases h21 : (w32 a1) = 9
  · rw [if_pos h21] at H
    refine AT.sw (ins := .tableswitch 194 0 10 #[59, 71, 83, 95, 107, 119, 131, 143, 155, 168, 181]) (n := 59) (v := 9) (t := 169) (by decide +kernel) h21 ?_
    refine AT.blk (g := jok 3 (s a0 5) = true) [(169, .aload_n 0, 1, (0, 0, 0)), (170, .aload_n 0, 1, (0, 0, 0)), (171, .getfield 19, 3, (2205, 5, 0)), (174, .iconst 1, 1, (0, 0, 0))] (by decide +kernel) (show jrun _ (169, [(4, a0), (0, a1)], [], s) = some ([jok 3 (s a0 5) = true], (175, [(4, a0), (0, a1)], [(0, 1), (7, (s a0 5)), (4, a0)], s)) from rfl) (fun h => h) H (fun H => ?_)
    obtain ⟨v22, s22, h22, H⟩ := jb_some H
    refine AT.callV (As := [(0, 1)]) (cl := 3) (b := (s a0 5)) (st := [(4, a0)]) (i := 211) (pos := 4034) kSe_setOf (by decide +kernel) rfl (by decide +kernel) rfl rfl (by omega) (Se_setOf_ok h22) ?_
    show AT sJc_many 1 (178, [(4, a0), (0, a1)], [(0, v22), (4, a0)], s22) o
    obtain ⟨v23, s23, h23, H⟩ := jb_some H
    refine AT.callV (As := [(0, v22)]) (cl := 0) (b := a0) (st := []) (i := 170) (pos := 3215) kJc_answer (by decide +kernel) rfl (by decide +kernel) rfl rfl (by omega) (Jc_answer_ok h23) ?_
    show AT sJc_many 1 (181, [(4, a0), (0, a1)], [(0, v23)], s23) o
    exact AT.retiH (by decide +kernel) H
  rw [if_neg h21] at H
  by_cases h24 : (w32 a1) = 10
  · rw [if_pos h24] at H
    refine AT.sw (ins := .tableswitch 194 0 10 #[59, 71, 83, 95, 107, 119, 131, 143, 155, 168, 181]) (n := 59) (v := 10) (t := 182) (by decide +kernel) h24 ?_
    refine AT.blk (g := jok 3 (s a0 5) = true) [(182, .aload_n 0, 1, (0, 0, 0)), (183, .aload_n 0, 1, (0, 0, 0)), (184, .getfield 19, 3, (2205, 5, 0)), (187, .iconst 2, 1, (0, 0, 0))] (by decide +kernel) (show jrun _ (182, [(4, a0), (0, a1)], [], s) = some ([jok 3 (s a0 5) = true], (188, [(4, a0), (0, a1)], [(0, 2), (7, (s a0 5)), (4, a0)], s)) from rfl) (fun h => h) H (fun H => ?_)
    obtain ⟨v25, s25, h25, H⟩ := jb_some H
    refine AT.callV (As := [(0, 2)]) (cl := 3) (b := (s a0 5)) (st := [(4, a0)]) (i := 211) (pos := 4034) kSe_setOf (by decide +kernel) rfl (by decide +kernel) rfl rfl (by omega) (Se_setOf_ok h25) ?_
    show AT sJc_many 1 (191, [(4, a0), (0, a1)], [(0, v25), (4, a0)], s25) o
    obtain ⟨v26, s26, h26, H⟩ := jb_some H
    refine AT.callV (As := [(0, v25)]) (cl := 0) (b := a0) (st := []) (i := 170) (pos := 3215) kJc_answer (by decide +kernel) rfl (by decide +kernel) rfl rfl (by omega) (Jc_answer_ok h26) ?_
    show AT sJc_many 1 (194, [(4, a0), (0, a1)], [(0, v26)], s26) o
    exact AT.retiH (by decide +kernel) H
  rw [if_neg h24] at H
  refine AT.swd (df := 194) (lo := 0) (hi := 10) (offs := #[59, 71, 83, 95, 107, 119, 131, 143, 155, 168, 181]) (n := 59) (t := 195) (by decide +kernel) (by omega) ?_
  refine AT.seq [(195, .aload_n 0, 1, (0, 0, 0)), (196, .iconst 5, 1, (0, 0, 0))] (by decide +kernel) (show jrun _ (195, [(4, a0), (0, a1)], [], s) = some ([], (197, [(4, a0), (0, a1)], [(0, 5), (4, a0)], s)) from rfl) ?_
  obtain ⟨v27, s27, h27, H⟩ := jb_some H
  refine AT.callV (As := [(0, 5)]) (cl := 0) (b := a0) (st := []) (i := 123) (pos := 3066) kJc_refuse (by decide +kernel) rfl (by decide +kernel) rfl rfl (by omega) (Jc_refuse_ok h27) ?_
  show AT sJc_many 1 (200, [(4, a0), (0, a1)], [(0, v27)], s27) o
  exact AT.retiH (by decide +kernel) H
def sJc_stuff : jS := (⟨"JellyCathedral", "stuff", "(II)I"⟩, prog_1_method_14_code, 3, 1, [4, 0, 0], 0)
theorem kJc_stuff : jmk sJc_stuff = true := jmk_of 4041 1001 4039 4040 (by decide +kernel)
set_option maxRecDepth 100000 in
theorem Jc_stuff_ok {a0 a1 a2 : Int} {s : jM} {o : Int × jM} (H : Jc_stuff a0 a1 a2 s = some o) : MK sJc_stuff 1 [(4, a0), (0, a1), (0, a2)] s o := by
  refine MK.of kJc_stuff rfl ?_
  show AT sJc_stuff 1 (0, [(4, a0), (0, a1), (0, a2)], [], s) o
  unfold Jc_stuff at H
  refine AT.blk (g := jok 3 (s a0 5) = true) [(0, .aload_n 0, 1, (0, 0, 0)), (1, .getfield 19, 3, (2205, 5, 0)), (4, .iload_n 1, 1, (0, 0, 0))] (by decide +kernel) (show jrun _ (0, [(4, a0), (0, a1), (0, a2)], [], s) = some ([jok 3 (s a0 5) = true], (5, [(4, a0), (0, a1), (0, a2)], [(0, a1), (7, (s a0 5))], s)) from rfl) (fun h => h) H (fun H => ?_)
  obtain ⟨v1, s1, h1, H⟩ := jb_some H
  refine AT.callV (As := [(0, a1)]) (cl := 3) (b := (s a0 5)) (st := []) (i := 214) (pos := 4042) kSe_isStuff (by decide +kernel) rfl (by decide +kernel) rfl rfl (by omega) (Se_isStuff_ok h1) ?_
  show AT sJc_stuff 1 (8, [(4, a0), (0, a1), (0, a2)], [(0, v1)], s1) o
  refine AT.ite (x := (0, 0, 0)) (by decide +kernel) (show jbr (.ifCond .ne 9) (8, [(4, a0), (0, a1), (0, a2)], [(0, v1)], s1) = some ((w32 v1) = 0, (11, [(4, a0), (0, a1), (0, a2)], [], s1), (17, [(4, a0), (0, a1), (0, a2)], [], s1)) from rfl) H (fun H => ?_) (fun H => ?_)
  · refine AT.seq [(11, .aload_n 0, 1, (0, 0, 0)), (12, .iconst 2, 1, (0, 0, 0))] (by decide +kernel) (show jrun _ (11, [(4, a0), (0, a1), (0, a2)], [], s1) = some ([], (13, [(4, a0), (0, a1), (0, a2)], [(0, 2), (4, a0)], s1)) from rfl) ?_
    obtain ⟨v2, s2, h2, H⟩ := jb_some H
    refine AT.callV (As := [(0, 2)]) (cl := 0) (b := a0) (st := []) (i := 123) (pos := 3066) kJc_refuse (by decide +kernel) rfl (by decide +kernel) rfl rfl (by omega) (Jc_refuse_ok h2) ?_
    show AT sJc_stuff 1 (16, [(4, a0), (0, a1), (0, a2)], [(0, v2)], s2) o
    exact AT.retiH (by decide +kernel) H
  · refine AT.seq [(17, .iload_n 2, 1, (0, 0, 0))] (by decide +kernel) (show jrun _ (17, [(4, a0), (0, a1), (0, a2)], [], s1) = some ([], (18, [(4, a0), (0, a1), (0, a2)], [(0, a2)], s1)) from rfl) ?_
    by_cases h3 : (w32 a2) = 0
    · rw [if_pos h3] at H
      refine AT.sw (ins := .tableswitch 68 0 2 #[26, 40, 54]) (n := 26) (v := 0) (t := 44) (by decide +kernel) h3 ?_
      refine AT.blk (g := jok 3 (s1 a0 5) = true ∧ (0 ≤ (w32 a1) ∧ (w32 a1) < 5)) [(44, .aload_n 0, 1, (0, 0, 0)), (45, .aload_n 0, 1, (0, 0, 0)), (46, .getfield 19, 3, (2205, 5, 0)), (49, .getfield 217, 3, (1203, 309, 0)), (52, .iload_n 1, 1, (0, 0, 0)), (53, .iaload, 1, (0, 0, 0))] (by decide +kernel) (show jrun _ (44, [(4, a0), (0, a1), (0, a2)], [], s1) = some ([jok 3 (s1 a0 5) = true, (0 ≤ (w32 a1) ∧ (w32 a1) < 5)], (54, [(4, a0), (0, a1), (0, a2)], [(0, (s1 ((s1 a0 5) + 1) (w32 a1))), (4, a0)], s1)) from rfl) (fun h => ⟨h.1, h.2⟩) H (fun H => ?_)
      obtain ⟨v4, s4, h4, H⟩ := jb_some H
      refine AT.callV (As := [(0, (s1 ((s1 a0 5) + 1) (w32 a1)))]) (cl := 0) (b := a0) (st := []) (i := 170) (pos := 3215) kJc_answer (by decide +kernel) rfl (by decide +kernel) rfl rfl (by omega) (Jc_answer_ok h4) ?_
      show AT sJc_stuff 1 (57, [(4, a0), (0, a1), (0, a2)], [(0, v4)], s4) o
      exact AT.retiH (by decide +kernel) H
    rw [if_neg h3] at H
    by_cases h5 : (w32 a2) = 1
    · rw [if_pos h5] at H
      refine AT.sw (ins := .tableswitch 68 0 2 #[26, 40, 54]) (n := 26) (v := 1) (t := 58) (by decide +kernel) h5 ?_
      refine AT.blk (g := jok 3 (s1 a0 5) = true ∧ (0 ≤ (w32 a1) ∧ (w32 a1) < 5)) [(58, .aload_n 0, 1, (0, 0, 0)), (59, .aload_n 0, 1, (0, 0, 0)), (60, .getfield 19, 3, (2205, 5, 0)), (63, .getfield 220, 3, (1207, 310, 0)), (66, .iload_n 1, 1, (0, 0, 0)), (67, .iaload, 1, (0, 0, 0))] (by decide +kernel) (show jrun _ (58, [(4, a0), (0, a1), (0, a2)], [], s1) = some ([jok 3 (s1 a0 5) = true, (0 ≤ (w32 a1) ∧ (w32 a1) < 5)], (68, [(4, a0), (0, a1), (0, a2)], [(0, (s1 ((s1 a0 5) + 2) (w32 a1))), (4, a0)], s1)) from rfl) (fun h => ⟨h.1, h.2⟩) H (fun H => ?_)
      obtain ⟨v6, s6, h6, H⟩ := jb_some H
      refine AT.callV (As := [(0, (s1 ((s1 a0 5) + 2) (w32 a1)))]) (cl := 0) (b := a0) (st := []) (i := 170) (pos := 3215) kJc_answer (by decide +kernel) rfl (by decide +kernel) rfl rfl (by omega) (Jc_answer_ok h6) ?_
      show AT sJc_stuff 1 (71, [(4, a0), (0, a1), (0, a2)], [(0, v6)], s6) o
      exact AT.retiH (by decide +kernel) H
    rw [if_neg h5] at H
    by_cases h7 : (w32 a2) = 2
    · rw [if_pos h7] at H
      refine AT.sw (ins := .tableswitch 68 0 2 #[26, 40, 54]) (n := 26) (v := 2) (t := 72) (by decide +kernel) h7 ?_
      refine AT.blk (g := jok 3 (s1 a0 5) = true ∧ (0 ≤ (w32 a1) ∧ (w32 a1) < 5)) [(72, .aload_n 0, 1, (0, 0, 0)), (73, .aload_n 0, 1, (0, 0, 0)), (74, .getfield 19, 3, (2205, 5, 0)), (77, .getfield 223, 3, (1212, 311, 0)), (80, .iload_n 1, 1, (0, 0, 0)), (81, .iaload, 1, (0, 0, 0))] (by decide +kernel) (show jrun _ (72, [(4, a0), (0, a1), (0, a2)], [], s1) = some ([jok 3 (s1 a0 5) = true, (0 ≤ (w32 a1) ∧ (w32 a1) < 5)], (82, [(4, a0), (0, a1), (0, a2)], [(0, (s1 ((s1 a0 5) + 3) (w32 a1))), (4, a0)], s1)) from rfl) (fun h => ⟨h.1, h.2⟩) H (fun H => ?_)
      obtain ⟨v8, s8, h8, H⟩ := jb_some H
      refine AT.callV (As := [(0, (s1 ((s1 a0 5) + 3) (w32 a1)))]) (cl := 0) (b := a0) (st := []) (i := 170) (pos := 3215) kJc_answer (by decide +kernel) rfl (by decide +kernel) rfl rfl (by omega) (Jc_answer_ok h8) ?_
      show AT sJc_stuff 1 (85, [(4, a0), (0, a1), (0, a2)], [(0, v8)], s8) o
      exact AT.retiH (by decide +kernel) H
    rw [if_neg h7] at H
    refine AT.swd (df := 68) (lo := 0) (hi := 2) (offs := #[26, 40, 54]) (n := 26) (t := 86) (by decide +kernel) (by omega) ?_
    refine AT.seq [(86, .aload_n 0, 1, (0, 0, 0)), (87, .iconst 5, 1, (0, 0, 0))] (by decide +kernel) (show jrun _ (86, [(4, a0), (0, a1), (0, a2)], [], s1) = some ([], (88, [(4, a0), (0, a1), (0, a2)], [(0, 5), (4, a0)], s1)) from rfl) ?_
    obtain ⟨v9, s9, h9, H⟩ := jb_some H
    refine AT.callV (As := [(0, 5)]) (cl := 0) (b := a0) (st := []) (i := 123) (pos := 3066) kJc_refuse (by decide +kernel) rfl (by decide +kernel) rfl rfl (by omega) (Jc_refuse_ok h9) ?_
    show AT sJc_stuff 1 (91, [(4, a0), (0, a1), (0, a2)], [(0, v9)], s9) o
    exact AT.retiH (by decide +kernel) H
def sJc_mould : jS := (⟨"JellyCathedral", "mould", "(II)I"⟩, prog_1_method_15_code, 4, 1, [4, 0, 0], 0)
theorem kJc_mould : jmk sJc_mould = true := jmk_of 4049 1001 4047 4048 (by decide +kernel)
set_option maxRecDepth 100000 in
theorem Jc_mould_ok {a0 a1 a2 : Int} {s : jM} {o : Int × jM} (H : Jc_mould a0 a1 a2 s = some o) : MK sJc_mould 1 [(4, a0), (0, a1), (0, a2)] s o := by
  refine MK.of kJc_mould rfl ?_
  show AT sJc_mould 1 (0, [(4, a0), (0, a1), (0, a2), (99, 0)], [], s) o
  unfold Jc_mould at H
  refine AT.blk (g := jok 3 (s a0 5) = true) [(0, .aload_n 0, 1, (0, 0, 0)), (1, .getfield 19, 3, (2205, 5, 0)), (4, .iload_n 1, 1, (0, 0, 0))] (by decide +kernel) (show jrun _ (0, [(4, a0), (0, a1), (0, a2), (99, 0)], [], s) = some ([jok 3 (s a0 5) = true], (5, [(4, a0), (0, a1), (0, a2), (99, 0)], [(0, a1), (7, (s a0 5))], s)) from rfl) (fun h => h) H (fun H => ?_)
  obtain ⟨v1, s1, h1, H⟩ := jb_some H
  refine AT.callV (As := [(0, a1)]) (cl := 3) (b := (s a0 5)) (st := []) (i := 226) (pos := 4050) kSe_isMould (by decide +kernel) rfl (by decide +kernel) rfl rfl (by omega) (Se_isMould_ok h1) ?_
  show AT sJc_mould 1 (8, [(4, a0), (0, a1), (0, a2), (99, 0)], [(0, v1)], s1) o
  refine AT.ite (x := (0, 0, 0)) (by decide +kernel) (show jbr (.ifCond .ne 9) (8, [(4, a0), (0, a1), (0, a2), (99, 0)], [(0, v1)], s1) = some ((w32 v1) = 0, (11, [(4, a0), (0, a1), (0, a2), (99, 0)], [], s1), (17, [(4, a0), (0, a1), (0, a2), (99, 0)], [], s1)) from rfl) H (fun H => ?_) (fun H => ?_)
  · refine AT.seq [(11, .aload_n 0, 1, (0, 0, 0)), (12, .iconst 2, 1, (0, 0, 0))] (by decide +kernel) (show jrun _ (11, [(4, a0), (0, a1), (0, a2), (99, 0)], [], s1) = some ([], (13, [(4, a0), (0, a1), (0, a2), (99, 0)], [(0, 2), (4, a0)], s1)) from rfl) ?_
    obtain ⟨v2, s2, h2, H⟩ := jb_some H
    refine AT.callV (As := [(0, 2)]) (cl := 0) (b := a0) (st := []) (i := 123) (pos := 3066) kJc_refuse (by decide +kernel) rfl (by decide +kernel) rfl rfl (by omega) (Jc_refuse_ok h2) ?_
    show AT sJc_mould 1 (16, [(4, a0), (0, a1), (0, a2), (99, 0)], [(0, v2)], s2) o
    exact AT.retiH (by decide +kernel) H
  · refine AT.blk (g := jok 3 (s1 a0 5) = true ∧ (0 ≤ (w32 a1) ∧ (w32 a1) < 5)) [(17, .aload_n 0, 1, (0, 0, 0)), (18, .getfield 19, 3, (2205, 5, 0)), (21, .getfield 229, 3, (1217, 312, 0)), (24, .iload_n 1, 1, (0, 0, 0)), (25, .aaload, 1, (0, 0, 0)), (26, .astore_n 3, 1, (0, 0, 0)), (27, .iload_n 2, 1, (0, 0, 0))] (by decide +kernel) (show jrun _ (17, [(4, a0), (0, a1), (0, a2), (99, 0)], [], s1) = some ([jok 3 (s1 a0 5) = true, (0 ≤ (w32 a1) ∧ (w32 a1) < 5)], (28, [(4, a0), (0, a1), (0, a2), (6, (((s1 a0 5) + 4) + 11 + 2 * (w32 a1)))], [(0, a2)], s1)) from rfl) (fun h => ⟨h.1, h.2⟩) H (fun H => ?_)
    by_cases h3 : (w32 a2) = 0
    · rw [if_pos h3] at H
      refine AT.sw (ins := .tableswitch 120 0 7 #[48, 57, 66, 75, 84, 93, 102, 111]) (n := 48) (v := 0) (t := 76) (by decide +kernel) h3 ?_
      refine AT.seq [(76, .aload_n 0, 1, (0, 0, 0)), (77, .aload_n 3, 1, (0, 0, 0)), (78, .getfield 233, 3, (1111, 200, 0))] (by decide +kernel) (show jrun _ (76, [(4, a0), (0, a1), (0, a2), (6, (((s1 a0 5) + 4) + 11 + 2 * (w32 a1)))], [], s1) = some ([], (81, [(4, a0), (0, a1), (0, a2), (6, (((s1 a0 5) + 4) + 11 + 2 * (w32 a1)))], [(0, (s1 (((s1 a0 5) + 4) + 11 + 2 * (w32 a1)) 0)), (4, a0)], s1)) from rfl) ?_
      obtain ⟨v4, s4, h4, H⟩ := jb_some H
      refine AT.callV (As := [(0, (s1 (((s1 a0 5) + 4) + 11 + 2 * (w32 a1)) 0))]) (cl := 0) (b := a0) (st := []) (i := 170) (pos := 3215) kJc_answer (by decide +kernel) rfl (by decide +kernel) rfl rfl (by omega) (Jc_answer_ok h4) ?_
      show AT sJc_mould 1 (84, [(4, a0), (0, a1), (0, a2), (6, (((s1 a0 5) + 4) + 11 + 2 * (w32 a1)))], [(0, v4)], s4) o
      exact AT.retiH (by decide +kernel) H
    rw [if_neg h3] at H
    by_cases h5 : (w32 a2) = 1
    · rw [if_pos h5] at H
      refine AT.sw (ins := .tableswitch 120 0 7 #[48, 57, 66, 75, 84, 93, 102, 111]) (n := 48) (v := 1) (t := 85) (by decide +kernel) h5 ?_
      refine AT.seq [(85, .aload_n 0, 1, (0, 0, 0)), (86, .aload_n 3, 1, (0, 0, 0)), (87, .getfield 238, 3, (1116, 201, 0))] (by decide +kernel) (show jrun _ (85, [(4, a0), (0, a1), (0, a2), (6, (((s1 a0 5) + 4) + 11 + 2 * (w32 a1)))], [], s1) = some ([], (90, [(4, a0), (0, a1), (0, a2), (6, (((s1 a0 5) + 4) + 11 + 2 * (w32 a1)))], [(0, (s1 (((s1 a0 5) + 4) + 11 + 2 * (w32 a1)) 1)), (4, a0)], s1)) from rfl) ?_
      obtain ⟨v6, s6, h6, H⟩ := jb_some H
      refine AT.callV (As := [(0, (s1 (((s1 a0 5) + 4) + 11 + 2 * (w32 a1)) 1))]) (cl := 0) (b := a0) (st := []) (i := 170) (pos := 3215) kJc_answer (by decide +kernel) rfl (by decide +kernel) rfl rfl (by omega) (Jc_answer_ok h6) ?_
      show AT sJc_mould 1 (93, [(4, a0), (0, a1), (0, a2), (6, (((s1 a0 5) + 4) + 11 + 2 * (w32 a1)))], [(0, v6)], s6) o
      exact AT.retiH (by decide +kernel) H
    rw [if_neg h5] at H
    by_cases h7 : (w32 a2) = 2
    · rw [if_pos h7] at H
      refine AT.sw (ins := .tableswitch 120 0 7 #[48, 57, 66, 75, 84, 93, 102, 111]) (n := 48) (v := 2) (t := 94) (by decide +kernel) h7 ?_
      refine AT.seq [(94, .aload_n 0, 1, (0, 0, 0)), (95, .aload_n 3, 1, (0, 0, 0)), (96, .getfield 241, 3, (1121, 202, 0))] (by decide +kernel) (show jrun _ (94, [(4, a0), (0, a1), (0, a2), (6, (((s1 a0 5) + 4) + 11 + 2 * (w32 a1)))], [], s1) = some ([], (99, [(4, a0), (0, a1), (0, a2), (6, (((s1 a0 5) + 4) + 11 + 2 * (w32 a1)))], [(0, (s1 (((s1 a0 5) + 4) + 11 + 2 * (w32 a1)) 2)), (4, a0)], s1)) from rfl) ?_
      obtain ⟨v8, s8, h8, H⟩ := jb_some H
      refine AT.callV (As := [(0, (s1 (((s1 a0 5) + 4) + 11 + 2 * (w32 a1)) 2))]) (cl := 0) (b := a0) (st := []) (i := 170) (pos := 3215) kJc_answer (by decide +kernel) rfl (by decide +kernel) rfl rfl (by omega) (Jc_answer_ok h8) ?_
      show AT sJc_mould 1 (102, [(4, a0), (0, a1), (0, a2), (6, (((s1 a0 5) + 4) + 11 + 2 * (w32 a1)))], [(0, v8)], s8) o
      exact AT.retiH (by decide +kernel) H
    rw [if_neg h7] at H
    by_cases h9 : (w32 a2) = 3
    · rw [if_pos h9] at H
      refine AT.sw (ins := .tableswitch 120 0 7 #[48, 57, 66, 75, 84, 93, 102, 111]) (n := 48) (v := 3) (t := 103) (by decide +kernel) h9 ?_
      refine AT.seq [(103, .aload_n 0, 1, (0, 0, 0)), (104, .aload_n 3, 1, (0, 0, 0)), (105, .getfield 244, 3, (1126, 203, 0))] (by decide +kernel) (show jrun _ (103, [(4, a0), (0, a1), (0, a2), (6, (((s1 a0 5) + 4) + 11 + 2 * (w32 a1)))], [], s1) = some ([], (108, [(4, a0), (0, a1), (0, a2), (6, (((s1 a0 5) + 4) + 11 + 2 * (w32 a1)))], [(0, (s1 (((s1 a0 5) + 4) + 11 + 2 * (w32 a1)) 3)), (4, a0)], s1)) from rfl) ?_
      obtain ⟨v10, s10, h10, H⟩ := jb_some H
      refine AT.callV (As := [(0, (s1 (((s1 a0 5) + 4) + 11 + 2 * (w32 a1)) 3))]) (cl := 0) (b := a0) (st := []) (i := 170) (pos := 3215) kJc_answer (by decide +kernel) rfl (by decide +kernel) rfl rfl (by omega) (Jc_answer_ok h10) ?_
      show AT sJc_mould 1 (111, [(4, a0), (0, a1), (0, a2), (6, (((s1 a0 5) + 4) + 11 + 2 * (w32 a1)))], [(0, v10)], s10) o
      exact AT.retiH (by decide +kernel) H
    rw [if_neg h9] at H
    by_cases h11 : (w32 a2) = 4
    · rw [if_pos h11] at H
      refine AT.sw (ins := .tableswitch 120 0 7 #[48, 57, 66, 75, 84, 93, 102, 111]) (n := 48) (v := 4) (t := 112) (by decide +kernel) h11 ?_
      refine AT.seq [(112, .aload_n 0, 1, (0, 0, 0)), (113, .aload_n 3, 1, (0, 0, 0)), (114, .getfield 247, 3, (1130, 204, 0))] (by decide +kernel) (show jrun _ (112, [(4, a0), (0, a1), (0, a2), (6, (((s1 a0 5) + 4) + 11 + 2 * (w32 a1)))], [], s1) = some ([], (117, [(4, a0), (0, a1), (0, a2), (6, (((s1 a0 5) + 4) + 11 + 2 * (w32 a1)))], [(0, (s1 (((s1 a0 5) + 4) + 11 + 2 * (w32 a1)) 4)), (4, a0)], s1)) from rfl) ?_
      obtain ⟨v12, s12, h12, H⟩ := jb_some H
      refine AT.callV (As := [(0, (s1 (((s1 a0 5) + 4) + 11 + 2 * (w32 a1)) 4))]) (cl := 0) (b := a0) (st := []) (i := 170) (pos := 3215) kJc_answer (by decide +kernel) rfl (by decide +kernel) rfl rfl (by omega) (Jc_answer_ok h12) ?_
      show AT sJc_mould 1 (120, [(4, a0), (0, a1), (0, a2), (6, (((s1 a0 5) + 4) + 11 + 2 * (w32 a1)))], [(0, v12)], s12) o
      exact AT.retiH (by decide +kernel) H
    rw [if_neg h11] at H
    by_cases h13 : (w32 a2) = 5
    · rw [if_pos h13] at H
      refine AT.sw (ins := .tableswitch 120 0 7 #[48, 57, 66, 75, 84, 93, 102, 111]) (n := 48) (v := 5) (t := 121) (by decide +kernel) h13 ?_
      refine AT.seq [(121, .aload_n 0, 1, (0, 0, 0)), (122, .aload_n 3, 1, (0, 0, 0)), (123, .getfield 250, 3, (1134, 205, 0))] (by decide +kernel) (show jrun _ (121, [(4, a0), (0, a1), (0, a2), (6, (((s1 a0 5) + 4) + 11 + 2 * (w32 a1)))], [], s1) = some ([], (126, [(4, a0), (0, a1), (0, a2), (6, (((s1 a0 5) + 4) + 11 + 2 * (w32 a1)))], [(0, (s1 (((s1 a0 5) + 4) + 11 + 2 * (w32 a1)) 5)), (4, a0)], s1)) from rfl) ?_
      obtain ⟨v14, s14, h14, H⟩ := jb_some H
      refine AT.callV (As := [(0, (s1 (((s1 a0 5) + 4) + 11 + 2 * (w32 a1)) 5))]) (cl := 0) (b := a0) (st := []) (i := 170) (pos := 3215) kJc_answer (by decide +kernel) rfl (by decide +kernel) rfl rfl (by omega) (Jc_answer_ok h14) ?_
      show AT sJc_mould 1 (129, [(4, a0), (0, a1), (0, a2), (6, (((s1 a0 5) + 4) + 11 + 2 * (w32 a1)))], [(0, v14)], s14) o
      exact AT.retiH (by decide +kernel) H
    rw [if_neg h13] at H
    by_cases h15 : (w32 a2) = 6
    · rw [if_pos h15] at H
      refine AT.sw (ins := .tableswitch 120 0 7 #[48, 57, 66, 75, 84, 93, 102, 111]) (n := 48) (v := 6) (t := 130) (by decide +kernel) h15 ?_
      refine AT.seq [(130, .aload_n 0, 1, (0, 0, 0)), (131, .aload_n 3, 1, (0, 0, 0)), (132, .getfield 253, 3, (1137, 206, 0))] (by decide +kernel) (show jrun _ (130, [(4, a0), (0, a1), (0, a2), (6, (((s1 a0 5) + 4) + 11 + 2 * (w32 a1)))], [], s1) = some ([], (135, [(4, a0), (0, a1), (0, a2), (6, (((s1 a0 5) + 4) + 11 + 2 * (w32 a1)))], [(0, (s1 (((s1 a0 5) + 4) + 11 + 2 * (w32 a1)) 6)), (4, a0)], s1)) from rfl) ?_
      obtain ⟨v16, s16, h16, H⟩ := jb_some H
      refine AT.callV (As := [(0, (s1 (((s1 a0 5) + 4) + 11 + 2 * (w32 a1)) 6))]) (cl := 0) (b := a0) (st := []) (i := 170) (pos := 3215) kJc_answer (by decide +kernel) rfl (by decide +kernel) rfl rfl (by omega) (Jc_answer_ok h16) ?_
      show AT sJc_mould 1 (138, [(4, a0), (0, a1), (0, a2), (6, (((s1 a0 5) + 4) + 11 + 2 * (w32 a1)))], [(0, v16)], s16) o
      exact AT.retiH (by decide +kernel) H
    rw [if_neg h15] at H
    by_cases h17 : (w32 a2) = 7
    · rw [if_pos h17] at H
      refine AT.sw (ins := .tableswitch 120 0 7 #[48, 57, 66, 75, 84, 93, 102, 111]) (n := 48) (v := 7) (t := 139) (by decide +kernel) h17 ?_
      refine AT.seq [(139, .aload_n 0, 1, (0, 0, 0)), (140, .aload_n 3, 1, (0, 0, 0)), (141, .getfield 256, 3, (1141, 207, 0))] (by decide +kernel) (show jrun _ (139, [(4, a0), (0, a1), (0, a2), (6, (((s1 a0 5) + 4) + 11 + 2 * (w32 a1)))], [], s1) = some ([], (144, [(4, a0), (0, a1), (0, a2), (6, (((s1 a0 5) + 4) + 11 + 2 * (w32 a1)))], [(0, (s1 (((s1 a0 5) + 4) + 11 + 2 * (w32 a1)) 7)), (4, a0)], s1)) from rfl) ?_
      obtain ⟨v18, s18, h18, H⟩ := jb_some H
      refine AT.callV (As := [(0, (s1 (((s1 a0 5) + 4) + 11 + 2 * (w32 a1)) 7))]) (cl := 0) (b := a0) (st := []) (i := 170) (pos := 3215) kJc_answer (by decide +kernel) rfl (by decide +kernel) rfl rfl (by omega) (Jc_answer_ok h18) ?_
      show AT sJc_mould 1 (147, [(4, a0), (0, a1), (0, a2), (6, (((s1 a0 5) + 4) + 11 + 2 * (w32 a1)))], [(0, v18)], s18) o
      exact AT.retiH (by decide +kernel) H
    rw [if_neg h17] at H
    refine AT.swd (df := 120) (lo := 0) (hi := 7) (offs := #[48, 57, 66, 75, 84, 93, 102, 111]) (n := 48) (t := 148) (by decide +kernel) (by omega) ?_
    refine AT.seq [(148, .aload_n 0, 1, (0, 0, 0)), (149, .iconst 5, 1, (0, 0, 0))] (by decide +kernel) (show jrun _ (148, [(4, a0), (0, a1), (0, a2), (6, (((s1 a0 5) + 4) + 11 + 2 * (w32 a1)))], [], s1) = some ([], (150, [(4, a0), (0, a1), (0, a2), (6, (((s1 a0 5) + 4) + 11 + 2 * (w32 a1)))], [(0, 5), (4, a0)], s1)) from rfl) ?_
    obtain ⟨v19, s19, h19, H⟩ := jb_some H
    refine AT.callV (As := [(0, 5)]) (cl := 0) (b := a0) (st := []) (i := 123) (pos := 3066) kJc_refuse (by decide +kernel) rfl (by decide +kernel) rfl rfl (by omega) (Jc_refuse_ok h19) ?_
    show AT sJc_mould 1 (153, [(4, a0), (0, a1), (0, a2), (6, (((s1 a0 5) + 4) + 11 + 2 * (w32 a1)))], [(0, v19)], s19) o
    exact AT.retiH (by decide +kernel) H
def sJc_part : jS := (⟨"JellyCathedral", "part", "(II)I"⟩, prog_1_method_16_code, 3, 1, [4, 0, 0], 0)
theorem kJc_part : jmk sJc_part = true := jmk_of 4057 1001 4055 4056 (by decide +kernel)
set_option maxRecDepth 100000 in
theorem Jc_part_ok {a0 a1 a2 : Int} {s : jM} {o : Int × jM} (H : Jc_part a0 a1 a2 s = some o) : MK sJc_part 1 [(4, a0), (0, a1), (0, a2)] s o := by
  refine MK.of kJc_part rfl ?_
  show AT sJc_part 1 (0, [(4, a0), (0, a1), (0, a2)], [], s) o
  unfold Jc_part at H
  refine AT.blk (g := jok 3 (s a0 5) = true) [(0, .aload_n 0, 1, (0, 0, 0)), (1, .getfield 19, 3, (2205, 5, 0)), (4, .iload_n 1, 1, (0, 0, 0))] (by decide +kernel) (show jrun _ (0, [(4, a0), (0, a1), (0, a2)], [], s) = some ([jok 3 (s a0 5) = true], (5, [(4, a0), (0, a1), (0, a2)], [(0, a1), (7, (s a0 5))], s)) from rfl) (fun h => h) H (fun H => ?_)
  obtain ⟨v1, s1, h1, H⟩ := jb_some H
  refine AT.callV (As := [(0, a1)]) (cl := 3) (b := (s a0 5)) (st := []) (i := 226) (pos := 4050) kSe_isMould (by decide +kernel) rfl (by decide +kernel) rfl rfl (by omega) (Se_isMould_ok h1) ?_
  show AT sJc_part 1 (8, [(4, a0), (0, a1), (0, a2)], [(0, v1)], s1) o
  refine AT.ite (x := (0, 0, 0)) (by decide +kernel) (show jbr (.ifCond .eq 14) (8, [(4, a0), (0, a1), (0, a2)], [(0, v1)], s1) = some ((w32 v1) = 0, (22, [(4, a0), (0, a1), (0, a2)], [], s1), (11, [(4, a0), (0, a1), (0, a2)], [], s1)) from rfl) H (fun H => ?_) (fun H => ?_)
  · refine AT.seq [(22, .aload_n 0, 1, (0, 0, 0)), (23, .iconst 2, 1, (0, 0, 0))] (by decide +kernel) (show jrun _ (22, [(4, a0), (0, a1), (0, a2)], [], s1) = some ([], (24, [(4, a0), (0, a1), (0, a2)], [(0, 2), (4, a0)], s1)) from rfl) ?_
    obtain ⟨v2, s2, h2, H⟩ := jb_some H
    refine AT.callV (As := [(0, 2)]) (cl := 0) (b := a0) (st := []) (i := 123) (pos := 3066) kJc_refuse (by decide +kernel) rfl (by decide +kernel) rfl rfl (by omega) (Jc_refuse_ok h2) ?_
    show AT sJc_part 1 (27, [(4, a0), (0, a1), (0, a2)], [(0, v2)], s2) o
    exact AT.retiH (by decide +kernel) H
  · refine AT.blk (g := jok 3 (s1 a0 5) = true) [(11, .aload_n 0, 1, (0, 0, 0)), (12, .getfield 19, 3, (2205, 5, 0)), (15, .iload_n 2, 1, (0, 0, 0))] (by decide +kernel) (show jrun _ (11, [(4, a0), (0, a1), (0, a2)], [], s1) = some ([jok 3 (s1 a0 5) = true], (16, [(4, a0), (0, a1), (0, a2)], [(0, a2), (7, (s1 a0 5))], s1)) from rfl) (fun h => h) H (fun H => ?_)
    obtain ⟨v3, s3, h3, H⟩ := jb_some H
    refine AT.callV (As := [(0, a2)]) (cl := 3) (b := (s1 a0 5)) (st := []) (i := 214) (pos := 4042) kSe_isStuff (by decide +kernel) rfl (by decide +kernel) rfl rfl (by omega) (Se_isStuff_ok h3) ?_
    show AT sJc_part 1 (19, [(4, a0), (0, a1), (0, a2)], [(0, v3)], s3) o
    refine AT.ite (x := (0, 0, 0)) (by decide +kernel) (show jbr (.ifCond .ne 9) (19, [(4, a0), (0, a1), (0, a2)], [(0, v3)], s3) = some ((w32 v3) = 0, (22, [(4, a0), (0, a1), (0, a2)], [], s3), (28, [(4, a0), (0, a1), (0, a2)], [], s3)) from rfl) H (fun H => ?_) (fun H => ?_)
    · refine AT.seq [(22, .aload_n 0, 1, (0, 0, 0)), (23, .iconst 2, 1, (0, 0, 0))] (by decide +kernel) (show jrun _ (22, [(4, a0), (0, a1), (0, a2)], [], s3) = some ([], (24, [(4, a0), (0, a1), (0, a2)], [(0, 2), (4, a0)], s3)) from rfl) ?_
      obtain ⟨v4, s4, h4, H⟩ := jb_some H
      refine AT.callV (As := [(0, 2)]) (cl := 0) (b := a0) (st := []) (i := 123) (pos := 3066) kJc_refuse (by decide +kernel) rfl (by decide +kernel) rfl rfl (by omega) (Jc_refuse_ok h4) ?_
      show AT sJc_part 1 (27, [(4, a0), (0, a1), (0, a2)], [(0, v4)], s4) o
      exact AT.retiH (by decide +kernel) H
    · refine AT.blk (g := jok 3 (s3 a0 5) = true ∧ (0 ≤ (w32 a1) ∧ (w32 a1) < 5) ∧ (0 ≤ (w32 a2) ∧ (w32 a2) < 5)) [(28, .aload_n 0, 1, (0, 0, 0)), (29, .aload_n 0, 1, (0, 0, 0)), (30, .getfield 19, 3, (2205, 5, 0)), (33, .getfield 229, 3, (1217, 312, 0)), (36, .iload_n 1, 1, (0, 0, 0)), (37, .aaload, 1, (0, 0, 0)), (38, .getfield 259, 3, (1144, 208, 0)), (41, .iload_n 2, 1, (0, 0, 0)), (42, .iaload, 1, (0, 0, 0))] (by decide +kernel) (show jrun _ (28, [(4, a0), (0, a1), (0, a2)], [], s3) = some ([jok 3 (s3 a0 5) = true, (0 ≤ (w32 a1) ∧ (w32 a1) < 5), (0 ≤ (w32 a2) ∧ (w32 a2) < 5)], (43, [(4, a0), (0, a1), (0, a2)], [(0, (s3 ((((s3 a0 5) + 4) + 11 + 2 * (w32 a1)) + 1) (w32 a2))), (4, a0)], s3)) from rfl) (fun h => ⟨h.1, h.2.1, h.2.2⟩) H (fun H => ?_)
      obtain ⟨v5, s5, h5, H⟩ := jb_some H
      refine AT.callV (As := [(0, (s3 ((((s3 a0 5) + 4) + 11 + 2 * (w32 a1)) + 1) (w32 a2)))]) (cl := 0) (b := a0) (st := []) (i := 170) (pos := 3215) kJc_answer (by decide +kernel) rfl (by decide +kernel) rfl rfl (by omega) (Jc_answer_ok h5) ?_
      show AT sJc_part 1 (46, [(4, a0), (0, a1), (0, a2)], [(0, v5)], s5) o
      exact AT.retiH (by decide +kernel) H
def sJc_copyFirm : jS := (⟨"JellyCathedral", "copyFirm", "(I)I"⟩, prog_1_method_17_code, 4, 1, [4, 0], 0)
theorem kJc_copyFirm : jmk sJc_copyFirm = true := jmk_of 4061 1001 4059 4060 (by decide +kernel)
set_option maxRecDepth 100000 in
theorem Jc_copyFirm_43_ok {o : Int × jM} : ∀ (n : Nat) (x0 x1 x3 : Int) (s : jM), Jc_copyFirm_43  n x0 x1 x3 s = some o → AT sJc_copyFirm 2 (43, [(4, x0), (0, x1), (99, 0), (0, x3)], [], s) o := by
  intro n
  induction n with
  | zero =>
    intro x0 x1 x3 s H
    have H : (none : Option (Int × jM)) = some o := H
    cases H
  | succ n ih =>
    intro x0 x1 x3 s H
    rw [Jc_copyFirm_43] at H
    refine AT.blk (g := jok 3 (s x0 5) = true) [(43, .iload_n 3, 1, (0, 0, 0)), (44, .aload_n 0, 1, (0, 0, 0)), (45, .getfield 19, 3, (2205, 5, 0)), (48, .getfield 167, 3, (1195, 306, 0))] (by decide +kernel) (show jrun _ (43, [(4, x0), (0, x1), (99, 0), (0, x3)], [], s) = some ([jok 3 (s x0 5) = true], (51, [(4, x0), (0, x1), (99, 0), (0, x3)], [(0, (s (s x0 5) 6)), (0, x3)], s)) from rfl) (fun h => h) H (fun H => ?_)
    refine AT.ite (x := (0, 0, 0)) (by decide +kernel) (show jbr (.if_icmp .ge 32) (51, [(4, x0), (0, x1), (99, 0), (0, x3)], [(0, (s (s x0 5) 6)), (0, x3)], s) = some ((w32 x3) < (w32 (s (s x0 5) 6)), (54, [(4, x0), (0, x1), (99, 0), (0, x3)], [], s), (83, [(4, x0), (0, x1), (99, 0), (0, x3)], [], s)) from rfl) H (fun H => ?_) (fun H => ?_)
    · refine AT.blk (g := (0 ≤ (w32 x1) ∧ (w32 x1) < 4) ∧ jok 3 (s x0 5) = true ∧ (0 ≤ (w32 x3) ∧ (w32 x3) < 5)) [(54, .aload_n 0, 1, (0, 0, 0)), (55, .getfield 11, 3, (2209, 9, 0)), (58, .iload_n 1, 1, (0, 0, 0)), (59, .aaload, 1, (0, 0, 0)), (60, .iload_n 3, 1, (0, 0, 0)), (61, .aload_n 0, 1, (0, 0, 0)), (62, .getfield 19, 3, (2205, 5, 0)), (65, .getfield 229, 3, (1217, 312, 0)), (68, .iload_n 3, 1, (0, 0, 0)), (69, .aaload, 1, (0, 0, 0)), (70, .getfield 247, 3, (1130, 204, 0)), (73, .i2l, 1, (0, 0, 0))] (by decide +kernel) (show jrun _ (54, [(4, x0), (0, x1), (99, 0), (0, x3)], [], s) = some ([(0 ≤ (w32 x1) ∧ (w32 x1) < 4), jok 3 (s x0 5) = true, (0 ≤ (w32 x3) ∧ (w32 x3) < 5)], (74, [(4, x0), (0, x1), (99, 0), (0, x3)], [(1, (w32 (s (((s x0 5) + 4) + 11 + 2 * (w32 x3)) 4))), (0, x3), (5, ((x0 + 1) + 1 + 2 * (w32 x1)))], s)) from rfl) (fun h => ⟨h.1, h.2.1, h.2.2⟩) H (fun H => ?_)
      obtain ⟨v1, s1, h1, H⟩ := jb_some H
      refine AT.callV (As := [(0, x3), (1, (w32 (s (((s x0 5) + 4) + 11 + 2 * (w32 x3)) 4)))]) (cl := 1) (b := ((x0 + 1) + 1 + 2 * (w32 x1))) (st := []) (i := 119) (pos := 3058) kTr_put (by decide +kernel) rfl (by decide +kernel) rfl rfl (by omega) (Tr_put_ok h1) ?_
      show AT sJc_copyFirm 2 (77, [(4, x0), (0, x1), (99, 0), (0, x3)], [], s1) o
      refine AT.seq [(77, .iinc 3 1, 3, (0, 0, 0)), (80, .goto (-37), 3, (0, 0, 0))] (by decide +kernel) (show jrun _ (77, [(4, x0), (0, x1), (99, 0), (0, x3)], [], s1) = some ([], (43, [(4, x0), (0, x1), (99, 0), (0, (x3 + 1))], [], s1)) from rfl) ?_
      exact ih _ _ _ _ H
    · refine AT.blk (g := jok 3 (s x0 5) = true) [(83, .aload_n 0, 1, (0, 0, 0)), (84, .aload_n 0, 1, (0, 0, 0)), (85, .getfield 19, 3, (2205, 5, 0)), (88, .getfield 167, 3, (1195, 306, 0))] (by decide +kernel) (show jrun _ (83, [(4, x0), (0, x1), (99, 0), (0, x3)], [], s) = some ([jok 3 (s x0 5) = true], (91, [(4, x0), (0, x1), (99, 0), (0, x3)], [(0, (s (s x0 5) 6)), (4, x0)], s)) from rfl) (fun h => h) H (fun H => ?_)
      obtain ⟨v2, s2, h2, H⟩ := jb_some H
      refine AT.callV (As := [(0, (s (s x0 5) 6))]) (cl := 0) (b := x0) (st := []) (i := 170) (pos := 3215) kJc_answer (by decide +kernel) rfl (by decide +kernel) rfl rfl (by omega) (Jc_answer_ok h2) ?_
      show AT sJc_copyFirm 2 (94, [(4, x0), (0, x1), (99, 0), (0, x3)], [(0, v2)], s2) o
      exact AT.retiH (by decide +kernel) H
set_option maxRecDepth 100000 in
theorem Jc_copyFirm_ok {a0 a1 : Int} {s : jM} {o : Int × jM} (H : Jc_copyFirm a0 a1 s = some o) : MK sJc_copyFirm 2 [(4, a0), (0, a1)] s o := by
  refine MK.of kJc_copyFirm rfl ?_
  show AT sJc_copyFirm 2 (0, [(4, a0), (0, a1), (99, 0), (99, 0)], [], s) o
  unfold Jc_copyFirm at H
  refine AT.seq [(0, .aload_n 0, 1, (0, 0, 0)), (1, .iload_n 1, 1, (0, 0, 0))] (by decide +kernel) (show jrun _ (0, [(4, a0), (0, a1), (99, 0), (99, 0)], [], s) = some ([], (2, [(4, a0), (0, a1), (99, 0), (99, 0)], [(0, a1), (4, a0)], s)) from rfl) ?_
  obtain ⟨v3, s3, h3, H⟩ := jb_some H
  refine AT.callV (As := [(0, a1)]) (cl := 0) (b := a0) (st := []) (i := 262) (pos := 3054) kJc_trayTrouble (by decide +kernel) rfl (by decide +kernel) rfl rfl (by omega) (Jc_trayTrouble_ok h3) ?_
  show AT sJc_copyFirm 2 (5, [(4, a0), (0, a1), (99, 0), (99, 0)], [(0, v3)], s3) o
  refine AT.seq [(5, .istore_n 2, 1, (0, 0, 0)), (6, .iload_n 2, 1, (0, 0, 0))] (by decide +kernel) (show jrun _ (5, [(4, a0), (0, a1), (99, 0), (99, 0)], [(0, v3)], s3) = some ([], (7, [(4, a0), (0, a1), (0, v3), (99, 0)], [(0, v3)], s3)) from rfl) ?_
  refine AT.ite (x := (0, 0, 0)) (by decide +kernel) (show jbr (.ifCond .eq 9) (7, [(4, a0), (0, a1), (0, v3), (99, 0)], [(0, v3)], s3) = some ((w32 v3) = 0, (16, [(4, a0), (0, a1), (0, v3), (99, 0)], [], s3), (10, [(4, a0), (0, a1), (0, v3), (99, 0)], [], s3)) from rfl) H (fun H => ?_) (fun H => ?_)
  · refine AT.blk (g := (0 ≤ (w32 a1) ∧ (w32 a1) < 4) ∧ jok 3 (s3 a0 5) = true) [(16, .aload_n 0, 1, (0, 0, 0)), (17, .getfield 11, 3, (2209, 9, 0)), (20, .iload_n 1, 1, (0, 0, 0)), (21, .aaload, 1, (0, 0, 0)), (22, .getfield 137, 3, (1035, 102, 0)), (25, .aload_n 0, 1, (0, 0, 0)), (26, .getfield 19, 3, (2205, 5, 0)), (29, .getfield 167, 3, (1195, 306, 0))] (by decide +kernel) (show jrun _ (16, [(4, a0), (0, a1), (0, v3), (99, 0)], [], s3) = some ([(0 ≤ (w32 a1) ∧ (w32 a1) < 4), jok 3 (s3 a0 5) = true], (32, [(4, a0), (0, a1), (0, v3), (99, 0)], [(0, (s3 (s3 a0 5) 6)), (0, (s3 ((a0 + 1) + 1 + 2 * (w32 a1)) 2))], s3)) from rfl) (fun h => ⟨h.1, h.2⟩) H (fun H => ?_)
    refine AT.ite (x := (0, 0, 0)) (by decide +kernel) (show jbr (.if_icmp .ge 9) (32, [(4, a0), (0, a1), (0, v3), (99, 0)], [(0, (s3 (s3 a0 5) 6)), (0, (s3 ((a0 + 1) + 1 + 2 * (w32 a1)) 2))], s3) = some ((w32 (s3 ((a0 + 1) + 1 + 2 * (w32 a1)) 2)) < (w32 (s3 (s3 a0 5) 6)), (35, [(4, a0), (0, a1), (0, v3), (99, 0)], [], s3), (41, [(4, a0), (0, a1), (0, v3), (99, 0)], [], s3)) from rfl) H (fun H => ?_) (fun H => ?_)
    · refine AT.seq [(35, .aload_n 0, 1, (0, 0, 0)), (36, .iconst 4, 1, (0, 0, 0))] (by decide +kernel) (show jrun _ (35, [(4, a0), (0, a1), (0, v3), (99, 0)], [], s3) = some ([], (37, [(4, a0), (0, a1), (0, v3), (99, 0)], [(0, 4), (4, a0)], s3)) from rfl) ?_
      obtain ⟨v4, s4, h4, H⟩ := jb_some H
      refine AT.callV (As := [(0, 4)]) (cl := 0) (b := a0) (st := []) (i := 123) (pos := 3066) kJc_refuse (by decide +kernel) rfl (by decide +kernel) rfl rfl (by omega) (Jc_refuse_ok h4) ?_
      show AT sJc_copyFirm 2 (40, [(4, a0), (0, a1), (0, v3), (99, 0)], [(0, v4)], s4) o
      exact AT.retiH (by decide +kernel) H
    · refine AT.seq [(41, .iconst 0, 1, (0, 0, 0)), (42, .istore_n 3, 1, (0, 0, 0))] (by decide +kernel) (show jrun _ (41, [(4, a0), (0, a1), (0, v3), (99, 0)], [], s3) = some ([], (43, [(4, a0), (0, a1), (0, v3), (0, 0)], [], s3)) from rfl) ?_
      exact AT.weak (L' := [(4, a0), (0, a1), (99, 0), (0, 0)]) (jleK (jleK (jleJ (jleK jle0)))) (Jc_copyFirm_43_ok  jFU _ _ _ _ H)
  · refine AT.seq [(10, .aload_n 0, 1, (0, 0, 0)), (11, .iload_n 2, 1, (0, 0, 0))] (by decide +kernel) (show jrun _ (10, [(4, a0), (0, a1), (0, v3), (99, 0)], [], s3) = some ([], (12, [(4, a0), (0, a1), (0, v3), (99, 0)], [(0, v3), (4, a0)], s3)) from rfl) ?_
    obtain ⟨v5, s5, h5, H⟩ := jb_some H
    refine AT.callV (As := [(0, v3)]) (cl := 0) (b := a0) (st := []) (i := 123) (pos := 3066) kJc_refuse (by decide +kernel) rfl (by decide +kernel) rfl rfl (by omega) (Jc_refuse_ok h5) ?_
    show AT sJc_copyFirm 2 (15, [(4, a0), (0, a1), (0, v3), (99, 0)], [(0, v5)], s5) o
    exact AT.retiH (by decide +kernel) H
def sJc_pour : jS := (⟨"JellyCathedral", "pour", "(III)I"⟩, prog_1_method_18_code, 4, 1, [4, 0, 0, 0], 0)
theorem kJc_pour : jmk sJc_pour = true := jmk_of 4065 1001 4063 4064 (by decide +kernel)
set_option maxRecDepth 100000 in
theorem Jc_pour_ok {a0 a1 a2 a3 : Int} {s : jM} {o : Int × jM} (H : Jc_pour a0 a1 a2 a3 s = some o) : MK sJc_pour 2 [(4, a0), (0, a1), (0, a2), (0, a3)] s o := by
  refine MK.of kJc_pour rfl ?_
  show AT sJc_pour 2 (0, [(4, a0), (0, a1), (0, a2), (0, a3)], [], s) o
  unfold Jc_pour at H
  refine AT.blk (g := jok 3 (s a0 5) = true) [(0, .aload_n 0, 1, (0, 0, 0)), (1, .getfield 19, 3, (2205, 5, 0)), (4, .iload_n 1, 1, (0, 0, 0))] (by decide +kernel) (show jrun _ (0, [(4, a0), (0, a1), (0, a2), (0, a3)], [], s) = some ([jok 3 (s a0 5) = true], (5, [(4, a0), (0, a1), (0, a2), (0, a3)], [(0, a1), (7, (s a0 5))], s)) from rfl) (fun h => h) H (fun H => ?_)
  obtain ⟨v1, s1, h1, H⟩ := jb_some H
  refine AT.callV (As := [(0, a1)]) (cl := 3) (b := (s a0 5)) (st := []) (i := 226) (pos := 4050) kSe_isMould (by decide +kernel) rfl (by decide +kernel) rfl rfl (by omega) (Se_isMould_ok h1) ?_
  show AT sJc_pour 2 (8, [(4, a0), (0, a1), (0, a2), (0, a3)], [(0, v1)], s1) o
  refine AT.ite (x := (0, 0, 0)) (by decide +kernel) (show jbr (.ifCond .eq 14) (8, [(4, a0), (0, a1), (0, a2), (0, a3)], [(0, v1)], s1) = some ((w32 v1) = 0, (22, [(4, a0), (0, a1), (0, a2), (0, a3)], [], s1), (11, [(4, a0), (0, a1), (0, a2), (0, a3)], [], s1)) from rfl) H (fun H => ?_) (fun H => ?_)
  · refine AT.seq [(22, .aload_n 0, 1, (0, 0, 0)), (23, .iconst 2, 1, (0, 0, 0))] (by decide +kernel) (show jrun _ (22, [(4, a0), (0, a1), (0, a2), (0, a3)], [], s1) = some ([], (24, [(4, a0), (0, a1), (0, a2), (0, a3)], [(0, 2), (4, a0)], s1)) from rfl) ?_
    obtain ⟨v2, s2, h2, H⟩ := jb_some H
    refine AT.callV (As := [(0, 2)]) (cl := 0) (b := a0) (st := []) (i := 123) (pos := 3066) kJc_refuse (by decide +kernel) rfl (by decide +kernel) rfl rfl (by omega) (Jc_refuse_ok h2) ?_
    show AT sJc_pour 2 (27, [(4, a0), (0, a1), (0, a2), (0, a3)], [(0, v2)], s2) o
    exact AT.retiH (by decide +kernel) H
  · refine AT.blk (g := jok 3 (s1 a0 5) = true) [(11, .aload_n 0, 1, (0, 0, 0)), (12, .getfield 19, 3, (2205, 5, 0)), (15, .iload_n 2, 1, (0, 0, 0))] (by decide +kernel) (show jrun _ (11, [(4, a0), (0, a1), (0, a2), (0, a3)], [], s1) = some ([jok 3 (s1 a0 5) = true], (16, [(4, a0), (0, a1), (0, a2), (0, a3)], [(0, a2), (7, (s1 a0 5))], s1)) from rfl) (fun h => h) H (fun H => ?_)
    obtain ⟨v3, s3, h3, H⟩ := jb_some H
    refine AT.callV (As := [(0, a2)]) (cl := 3) (b := (s1 a0 5)) (st := []) (i := 214) (pos := 4042) kSe_isStuff (by decide +kernel) rfl (by decide +kernel) rfl rfl (by omega) (Se_isStuff_ok h3) ?_
    show AT sJc_pour 2 (19, [(4, a0), (0, a1), (0, a2), (0, a3)], [(0, v3)], s3) o
    refine AT.ite (x := (0, 0, 0)) (by decide +kernel) (show jbr (.ifCond .ne 9) (19, [(4, a0), (0, a1), (0, a2), (0, a3)], [(0, v3)], s3) = some ((w32 v3) = 0, (22, [(4, a0), (0, a1), (0, a2), (0, a3)], [], s3), (28, [(4, a0), (0, a1), (0, a2), (0, a3)], [], s3)) from rfl) H (fun H => ?_) (fun H => ?_)
    · refine AT.seq [(22, .aload_n 0, 1, (0, 0, 0)), (23, .iconst 2, 1, (0, 0, 0))] (by decide +kernel) (show jrun _ (22, [(4, a0), (0, a1), (0, a2), (0, a3)], [], s3) = some ([], (24, [(4, a0), (0, a1), (0, a2), (0, a3)], [(0, 2), (4, a0)], s3)) from rfl) ?_
      obtain ⟨v4, s4, h4, H⟩ := jb_some H
      refine AT.callV (As := [(0, 2)]) (cl := 0) (b := a0) (st := []) (i := 123) (pos := 3066) kJc_refuse (by decide +kernel) rfl (by decide +kernel) rfl rfl (by omega) (Jc_refuse_ok h4) ?_
      show AT sJc_pour 2 (27, [(4, a0), (0, a1), (0, a2), (0, a3)], [(0, v4)], s4) o
      exact AT.retiH (by decide +kernel) H
    · refine AT.seq [(28, .iload_n 3, 1, (0, 0, 0)), (29, .iconst 1, 1, (0, 0, 0))] (by decide +kernel) (show jrun _ (28, [(4, a0), (0, a1), (0, a2), (0, a3)], [], s3) = some ([], (30, [(4, a0), (0, a1), (0, a2), (0, a3)], [(0, 1), (0, a3)], s3)) from rfl) ?_
      refine AT.ite (x := (0, 0, 0)) (by decide +kernel) (show jbr (.if_icmp .lt 9) (30, [(4, a0), (0, a1), (0, a2), (0, a3)], [(0, 1), (0, a3)], s3) = some ((w32 a3) < 1, (39, [(4, a0), (0, a1), (0, a2), (0, a3)], [], s3), (33, [(4, a0), (0, a1), (0, a2), (0, a3)], [], s3)) from rfl) H (fun H => ?_) (fun H => ?_)
      · refine AT.seq [(39, .aload_n 0, 1, (0, 0, 0)), (40, .iconst 5, 1, (0, 0, 0))] (by decide +kernel) (show jrun _ (39, [(4, a0), (0, a1), (0, a2), (0, a3)], [], s3) = some ([], (41, [(4, a0), (0, a1), (0, a2), (0, a3)], [(0, 5), (4, a0)], s3)) from rfl) ?_
        obtain ⟨v5, s5, h5, H⟩ := jb_some H
        refine AT.callV (As := [(0, 5)]) (cl := 0) (b := a0) (st := []) (i := 123) (pos := 3066) kJc_refuse (by decide +kernel) rfl (by decide +kernel) rfl rfl (by omega) (Jc_refuse_ok h5) ?_
        show AT sJc_pour 2 (44, [(4, a0), (0, a1), (0, a2), (0, a3)], [(0, v5)], s5) o
        exact AT.retiH (by decide +kernel) H
      · refine AT.seq [(33, .iload_n 3, 1, (0, 0, 0)), (34, .bipush 9, 2, (0, 0, 0))] (by decide +kernel) (show jrun _ (33, [(4, a0), (0, a1), (0, a2), (0, a3)], [], s3) = some ([], (36, [(4, a0), (0, a1), (0, a2), (0, a3)], [(0, 9), (0, a3)], s3)) from rfl) ?_
        refine AT.ite (x := (0, 0, 0)) (by decide +kernel) (show jbr (.if_icmp .le 9) (36, [(4, a0), (0, a1), (0, a2), (0, a3)], [(0, 9), (0, a3)], s3) = some (9 < (w32 a3), (39, [(4, a0), (0, a1), (0, a2), (0, a3)], [], s3), (45, [(4, a0), (0, a1), (0, a2), (0, a3)], [], s3)) from rfl) H (fun H => ?_) (fun H => ?_)
        · refine AT.seq [(39, .aload_n 0, 1, (0, 0, 0)), (40, .iconst 5, 1, (0, 0, 0))] (by decide +kernel) (show jrun _ (39, [(4, a0), (0, a1), (0, a2), (0, a3)], [], s3) = some ([], (41, [(4, a0), (0, a1), (0, a2), (0, a3)], [(0, 5), (4, a0)], s3)) from rfl) ?_
          obtain ⟨v6, s6, h6, H⟩ := jb_some H
          refine AT.callV (As := [(0, 5)]) (cl := 0) (b := a0) (st := []) (i := 123) (pos := 3066) kJc_refuse (by decide +kernel) rfl (by decide +kernel) rfl rfl (by omega) (Jc_refuse_ok h6) ?_
          show AT sJc_pour 2 (44, [(4, a0), (0, a1), (0, a2), (0, a3)], [(0, v6)], s6) o
          exact AT.retiH (by decide +kernel) H
        · refine AT.blk (g := jok 3 (s3 a0 5) = true) [(45, .aload_n 0, 1, (0, 0, 0)), (46, .getfield 19, 3, (2205, 5, 0)), (49, .iload_n 1, 1, (0, 0, 0)), (50, .iload_n 2, 1, (0, 0, 0)), (51, .iload_n 3, 1, (0, 0, 0))] (by decide +kernel) (show jrun _ (45, [(4, a0), (0, a1), (0, a2), (0, a3)], [], s3) = some ([jok 3 (s3 a0 5) = true], (52, [(4, a0), (0, a1), (0, a2), (0, a3)], [(0, a3), (0, a2), (0, a1), (7, (s3 a0 5))], s3)) from rfl) (fun h => h) H (fun H => ?_)
          obtain ⟨v7, s7, h7, H⟩ := jb_some H
          refine AT.callV (As := [(0, a1), (0, a2), (0, a3)]) (cl := 3) (b := (s3 a0 5)) (st := []) (i := 265) (pos := 4066) kSe_pourInto (by decide +kernel) rfl (by decide +kernel) rfl rfl (by omega) (Se_pourInto_ok h7) ?_
          show AT sJc_pour 2 (55, [(4, a0), (0, a1), (0, a2), (0, a3)], [(0, v7)], s7) o
          refine AT.ite (x := (0, 0, 0)) (by decide +kernel) (show jbr (.ifCond .ne 10) (55, [(4, a0), (0, a1), (0, a2), (0, a3)], [(0, v7)], s7) = some ((w32 v7) = 0, (58, [(4, a0), (0, a1), (0, a2), (0, a3)], [], s7), (65, [(4, a0), (0, a1), (0, a2), (0, a3)], [], s7)) from rfl) H (fun H => ?_) (fun H => ?_)
          · refine AT.seq [(58, .aload_n 0, 1, (0, 0, 0)), (59, .bipush 9, 2, (0, 0, 0))] (by decide +kernel) (show jrun _ (58, [(4, a0), (0, a1), (0, a2), (0, a3)], [], s7) = some ([], (61, [(4, a0), (0, a1), (0, a2), (0, a3)], [(0, 9), (4, a0)], s7)) from rfl) ?_
            obtain ⟨v8, s8, h8, H⟩ := jb_some H
            refine AT.callV (As := [(0, 9)]) (cl := 0) (b := a0) (st := []) (i := 123) (pos := 3066) kJc_refuse (by decide +kernel) rfl (by decide +kernel) rfl rfl (by omega) (Jc_refuse_ok h8) ?_
            show AT sJc_pour 2 (64, [(4, a0), (0, a1), (0, a2), (0, a3)], [(0, v8)], s8) o
            exact AT.retiH (by decide +kernel) H
          · refine AT.blk (g := jok 3 (s7 a0 5) = true ∧ (0 ≤ (w32 a1) ∧ (w32 a1) < 5)) [(65, .aload_n 0, 1, (0, 0, 0)), (66, .aload_n 0, 1, (0, 0, 0)), (67, .getfield 19, 3, (2205, 5, 0)), (70, .getfield 229, 3, (1217, 312, 0)), (73, .iload_n 1, 1, (0, 0, 0)), (74, .aaload, 1, (0, 0, 0)), (75, .getfield 253, 3, (1137, 206, 0))] (by decide +kernel) (show jrun _ (65, [(4, a0), (0, a1), (0, a2), (0, a3)], [], s7) = some ([jok 3 (s7 a0 5) = true, (0 ≤ (w32 a1) ∧ (w32 a1) < 5)], (78, [(4, a0), (0, a1), (0, a2), (0, a3)], [(0, (s7 (((s7 a0 5) + 4) + 11 + 2 * (w32 a1)) 6)), (4, a0)], s7)) from rfl) (fun h => ⟨h.1, h.2⟩) H (fun H => ?_)
            obtain ⟨v9, s9, h9, H⟩ := jb_some H
            refine AT.callV (As := [(0, (s7 (((s7 a0 5) + 4) + 11 + 2 * (w32 a1)) 6))]) (cl := 0) (b := a0) (st := []) (i := 170) (pos := 3215) kJc_answer (by decide +kernel) rfl (by decide +kernel) rfl rfl (by omega) (Jc_answer_ok h9) ?_
            show AT sJc_pour 2 (81, [(4, a0), (0, a1), (0, a2), (0, a3)], [(0, v9)], s9) o
            exact AT.retiH (by decide +kernel) H
def sJc_empty : jS := (⟨"JellyCathedral", "empty", "(I)I"⟩, prog_1_method_19_code, 3, 1, [4, 0], 0)
theorem kJc_empty : jmk sJc_empty = true := jmk_of 4077 1001 4075 4076 (by decide +kernel)
set_option maxRecDepth 100000 in
theorem Jc_empty_ok {a0 a1 : Int} {s : jM} {o : Int × jM} (H : Jc_empty a0 a1 s = some o) : MK sJc_empty 2 [(4, a0), (0, a1)] s o := by
  refine MK.of kJc_empty rfl ?_
  show AT sJc_empty 2 (0, [(4, a0), (0, a1), (99, 0)], [], s) o
  unfold Jc_empty at H
  refine AT.blk (g := jok 3 (s a0 5) = true) [(0, .aload_n 0, 1, (0, 0, 0)), (1, .getfield 19, 3, (2205, 5, 0)), (4, .iload_n 1, 1, (0, 0, 0))] (by decide +kernel) (show jrun _ (0, [(4, a0), (0, a1), (99, 0)], [], s) = some ([jok 3 (s a0 5) = true], (5, [(4, a0), (0, a1), (99, 0)], [(0, a1), (7, (s a0 5))], s)) from rfl) (fun h => h) H (fun H => ?_)
  obtain ⟨v1, s1, h1, H⟩ := jb_some H
  refine AT.callV (As := [(0, a1)]) (cl := 3) (b := (s a0 5)) (st := []) (i := 226) (pos := 4050) kSe_isMould (by decide +kernel) rfl (by decide +kernel) rfl rfl (by omega) (Se_isMould_ok h1) ?_
  show AT sJc_empty 2 (8, [(4, a0), (0, a1), (99, 0)], [(0, v1)], s1) o
  refine AT.ite (x := (0, 0, 0)) (by decide +kernel) (show jbr (.ifCond .ne 9) (8, [(4, a0), (0, a1), (99, 0)], [(0, v1)], s1) = some ((w32 v1) = 0, (11, [(4, a0), (0, a1), (99, 0)], [], s1), (17, [(4, a0), (0, a1), (99, 0)], [], s1)) from rfl) H (fun H => ?_) (fun H => ?_)
  · refine AT.seq [(11, .aload_n 0, 1, (0, 0, 0)), (12, .iconst 2, 1, (0, 0, 0))] (by decide +kernel) (show jrun _ (11, [(4, a0), (0, a1), (99, 0)], [], s1) = some ([], (13, [(4, a0), (0, a1), (99, 0)], [(0, 2), (4, a0)], s1)) from rfl) ?_
    obtain ⟨v2, s2, h2, H⟩ := jb_some H
    refine AT.callV (As := [(0, 2)]) (cl := 0) (b := a0) (st := []) (i := 123) (pos := 3066) kJc_refuse (by decide +kernel) rfl (by decide +kernel) rfl rfl (by omega) (Jc_refuse_ok h2) ?_
    show AT sJc_empty 2 (16, [(4, a0), (0, a1), (99, 0)], [(0, v2)], s2) o
    exact AT.retiH (by decide +kernel) H
  · refine AT.blk (g := jok 3 (s1 a0 5) = true ∧ (0 ≤ (w32 a1) ∧ (w32 a1) < 5) ∧ jok 3 (s1 a0 5) = true) [(17, .aload_n 0, 1, (0, 0, 0)), (18, .getfield 19, 3, (2205, 5, 0)), (21, .getfield 229, 3, (1217, 312, 0)), (24, .iload_n 1, 1, (0, 0, 0)), (25, .aaload, 1, (0, 0, 0)), (26, .getfield 253, 3, (1137, 206, 0)), (29, .istore_n 2, 1, (0, 0, 0)), (30, .aload_n 0, 1, (0, 0, 0)), (31, .getfield 19, 3, (2205, 5, 0)), (34, .iload_n 1, 1, (0, 0, 0))] (by decide +kernel) (show jrun _ (17, [(4, a0), (0, a1), (99, 0)], [], s1) = some ([jok 3 (s1 a0 5) = true, (0 ≤ (w32 a1) ∧ (w32 a1) < 5), jok 3 (s1 a0 5) = true], (35, [(4, a0), (0, a1), (0, (s1 (((s1 a0 5) + 4) + 11 + 2 * (w32 a1)) 6))], [(0, a1), (7, (s1 a0 5))], s1)) from rfl) (fun h => ⟨h.1, h.2.1, h.2.2⟩) H (fun H => ?_)
    obtain ⟨v3, s3, h3, H⟩ := jb_some H
    refine AT.callV (As := [(0, a1)]) (cl := 3) (b := (s1 a0 5)) (st := []) (i := 269) (pos := 4078) kSe_voidOut (by decide +kernel) rfl (by decide +kernel) rfl rfl (by omega) (Se_voidOut_ok h3) ?_
    show AT sJc_empty 2 (38, [(4, a0), (0, a1), (0, (s1 (((s1 a0 5) + 4) + 11 + 2 * (w32 a1)) 6))], [(0, v3)], s3) o
    refine AT.ite (x := (0, 0, 0)) (by decide +kernel) (show jbr (.ifCond .eq 11) (38, [(4, a0), (0, a1), (0, (s1 (((s1 a0 5) + 4) + 11 + 2 * (w32 a1)) 6))], [(0, v3)], s3) = some ((w32 v3) = 0, (49, [(4, a0), (0, a1), (0, (s1 (((s1 a0 5) + 4) + 11 + 2 * (w32 a1)) 6))], [], s3), (41, [(4, a0), (0, a1), (0, (s1 (((s1 a0 5) + 4) + 11 + 2 * (w32 a1)) 6))], [], s3)) from rfl) H (fun H => ?_) (fun H => ?_)
    · refine AT.seq [(49, .aload_n 0, 1, (0, 0, 0)), (50, .bipush 9, 2, (0, 0, 0))] (by decide +kernel) (show jrun _ (49, [(4, a0), (0, a1), (0, (s1 (((s1 a0 5) + 4) + 11 + 2 * (w32 a1)) 6))], [], s3) = some ([], (52, [(4, a0), (0, a1), (0, (s1 (((s1 a0 5) + 4) + 11 + 2 * (w32 a1)) 6))], [(0, 9), (4, a0)], s3)) from rfl) ?_
      obtain ⟨v4, s4, h4, H⟩ := jb_some H
      refine AT.callV (As := [(0, 9)]) (cl := 0) (b := a0) (st := []) (i := 123) (pos := 3066) kJc_refuse (by decide +kernel) rfl (by decide +kernel) rfl rfl (by omega) (Jc_refuse_ok h4) ?_
      show AT sJc_empty 2 (55, [(4, a0), (0, a1), (0, (s1 (((s1 a0 5) + 4) + 11 + 2 * (w32 a1)) 6))], [(0, v4)], s4) o
      exact AT.retiH (by decide +kernel) H
    · refine AT.seq [(41, .aload_n 0, 1, (0, 0, 0)), (42, .iload_n 2, 1, (0, 0, 0))] (by decide +kernel) (show jrun _ (41, [(4, a0), (0, a1), (0, (s1 (((s1 a0 5) + 4) + 11 + 2 * (w32 a1)) 6))], [], s3) = some ([], (43, [(4, a0), (0, a1), (0, (s1 (((s1 a0 5) + 4) + 11 + 2 * (w32 a1)) 6))], [(0, (s1 (((s1 a0 5) + 4) + 11 + 2 * (w32 a1)) 6)), (4, a0)], s3)) from rfl) ?_
      obtain ⟨v5, s5, h5, H⟩ := jb_some H
      refine AT.callV (As := [(0, (s1 (((s1 a0 5) + 4) + 11 + 2 * (w32 a1)) 6))]) (cl := 0) (b := a0) (st := []) (i := 170) (pos := 3215) kJc_answer (by decide +kernel) rfl (by decide +kernel) rfl rfl (by omega) (Jc_answer_ok h5) ?_
      show AT sJc_empty 2 (46, [(4, a0), (0, a1), (0, (s1 (((s1 a0 5) + 4) + 11 + 2 * (w32 a1)) 6))], [(0, v5)], s5) o
      refine AT.seq [(46, .goto 9, 3, (0, 0, 0))] (by decide +kernel) (show jrun _ (46, [(4, a0), (0, a1), (0, (s1 (((s1 a0 5) + 4) + 11 + 2 * (w32 a1)) 6))], [(0, v5)], s5) = some ([], (55, [(4, a0), (0, a1), (0, (s1 (((s1 a0 5) + 4) + 11 + 2 * (w32 a1)) 6))], [(0, v5)], s5)) from rfl) ?_
      exact AT.retiH (by decide +kernel) H
def sJc_knock : jS := (⟨"JellyCathedral", "knock", "(I)I"⟩, prog_1_method_20_code, 2, 1, [4, 0], 0)
theorem kJc_knock : jmk sJc_knock = true := jmk_of 4086 1001 4084 4085 (by decide +kernel)
set_option maxRecDepth 100000 in
theorem Jc_knock_ok {a0 a1 : Int} {s : jM} {o : Int × jM} (H : Jc_knock a0 a1 s = some o) : MK sJc_knock 3 [(4, a0), (0, a1)] s o := by
  refine MK.of kJc_knock rfl ?_
  show AT sJc_knock 3 (0, [(4, a0), (0, a1)], [], s) o
  unfold Jc_knock at H
  refine AT.blk (g := jok 3 (s a0 5) = true) [(0, .aload_n 0, 1, (0, 0, 0)), (1, .getfield 19, 3, (2205, 5, 0)), (4, .iload_n 1, 1, (0, 0, 0))] (by decide +kernel) (show jrun _ (0, [(4, a0), (0, a1)], [], s) = some ([jok 3 (s a0 5) = true], (5, [(4, a0), (0, a1)], [(0, a1), (7, (s a0 5))], s)) from rfl) (fun h => h) H (fun H => ?_)
  obtain ⟨v1, s1, h1, H⟩ := jb_some H
  refine AT.callV (As := [(0, a1)]) (cl := 3) (b := (s a0 5)) (st := []) (i := 226) (pos := 4050) kSe_isMould (by decide +kernel) rfl (by decide +kernel) rfl rfl (by omega) (Se_isMould_ok h1) ?_
  show AT sJc_knock 3 (8, [(4, a0), (0, a1)], [(0, v1)], s1) o
  refine AT.ite (x := (0, 0, 0)) (by decide +kernel) (show jbr (.ifCond .ne 9) (8, [(4, a0), (0, a1)], [(0, v1)], s1) = some ((w32 v1) = 0, (11, [(4, a0), (0, a1)], [], s1), (17, [(4, a0), (0, a1)], [], s1)) from rfl) H (fun H => ?_) (fun H => ?_)
  · refine AT.seq [(11, .aload_n 0, 1, (0, 0, 0)), (12, .iconst 2, 1, (0, 0, 0))] (by decide +kernel) (show jrun _ (11, [(4, a0), (0, a1)], [], s1) = some ([], (13, [(4, a0), (0, a1)], [(0, 2), (4, a0)], s1)) from rfl) ?_
    obtain ⟨v2, s2, h2, H⟩ := jb_some H
    refine AT.callV (As := [(0, 2)]) (cl := 0) (b := a0) (st := []) (i := 123) (pos := 3066) kJc_refuse (by decide +kernel) rfl (by decide +kernel) rfl rfl (by omega) (Jc_refuse_ok h2) ?_
    show AT sJc_knock 3 (16, [(4, a0), (0, a1)], [(0, v2)], s2) o
    exact AT.retiH (by decide +kernel) H
  · refine AT.blk (g := jok 3 (s1 a0 5) = true) [(17, .aload_n 0, 1, (0, 0, 0)), (18, .getfield 19, 3, (2205, 5, 0)), (21, .iload_n 1, 1, (0, 0, 0))] (by decide +kernel) (show jrun _ (17, [(4, a0), (0, a1)], [], s1) = some ([jok 3 (s1 a0 5) = true], (22, [(4, a0), (0, a1)], [(0, a1), (7, (s1 a0 5))], s1)) from rfl) (fun h => h) H (fun H => ?_)
    obtain ⟨v3, s3, h3, H⟩ := jb_some H
    refine AT.callV (As := [(0, a1)]) (cl := 3) (b := (s1 a0 5)) (st := []) (i := 272) (pos := 4087) kSe_turnOut (by decide +kernel) rfl (by decide +kernel) rfl rfl (by omega) (Se_turnOut_ok h3) ?_
    show AT sJc_knock 3 (25, [(4, a0), (0, a1)], [(0, v3)], s3) o
    refine AT.ite (x := (0, 0, 0)) (by decide +kernel) (show jbr (.ifCond .ne 10) (25, [(4, a0), (0, a1)], [(0, v3)], s3) = some ((w32 v3) = 0, (28, [(4, a0), (0, a1)], [], s3), (35, [(4, a0), (0, a1)], [], s3)) from rfl) H (fun H => ?_) (fun H => ?_)
    · refine AT.seq [(28, .aload_n 0, 1, (0, 0, 0)), (29, .bipush 9, 2, (0, 0, 0))] (by decide +kernel) (show jrun _ (28, [(4, a0), (0, a1)], [], s3) = some ([], (31, [(4, a0), (0, a1)], [(0, 9), (4, a0)], s3)) from rfl) ?_
      obtain ⟨v4, s4, h4, H⟩ := jb_some H
      refine AT.callV (As := [(0, 9)]) (cl := 0) (b := a0) (st := []) (i := 123) (pos := 3066) kJc_refuse (by decide +kernel) rfl (by decide +kernel) rfl rfl (by omega) (Jc_refuse_ok h4) ?_
      show AT sJc_knock 3 (34, [(4, a0), (0, a1)], [(0, v4)], s4) o
      exact AT.retiH (by decide +kernel) H
    · refine AT.blk (g := jok 3 (s3 a0 5) = true ∧ (0 ≤ (w32 a1) ∧ (w32 a1) < 5)) [(35, .aload_n 0, 1, (0, 0, 0)), (36, .aload_n 0, 1, (0, 0, 0)), (37, .getfield 19, 3, (2205, 5, 0)), (40, .getfield 229, 3, (1217, 312, 0)), (43, .iload_n 1, 1, (0, 0, 0)), (44, .aaload, 1, (0, 0, 0)), (45, .getfield 244, 3, (1126, 203, 0)), (48, .iconst 2, 1, (0, 0, 0))] (by decide +kernel) (show jrun _ (35, [(4, a0), (0, a1)], [], s3) = some ([jok 3 (s3 a0 5) = true, (0 ≤ (w32 a1) ∧ (w32 a1) < 5)], (49, [(4, a0), (0, a1)], [(0, 2), (0, (s3 (((s3 a0 5) + 4) + 11 + 2 * (w32 a1)) 3)), (4, a0)], s3)) from rfl) (fun h => ⟨h.1, h.2⟩) H (fun H => ?_)
      refine AT.ite (x := (0, 0, 0)) (by decide +kernel) (show jbr (.if_icmp .ne 7) (49, [(4, a0), (0, a1)], [(0, 2), (0, (s3 (((s3 a0 5) + 4) + 11 + 2 * (w32 a1)) 3)), (4, a0)], s3) = some ((w32 (s3 (((s3 a0 5) + 4) + 11 + 2 * (w32 a1)) 3)) = 2, (52, [(4, a0), (0, a1)], [(4, a0)], s3), (56, [(4, a0), (0, a1)], [(4, a0)], s3)) from rfl) H (fun H => ?_) (fun H => ?_)
      · refine AT.seq [(52, .iconst 1, 1, (0, 0, 0)), (53, .goto 4, 3, (0, 0, 0))] (by decide +kernel) (show jrun _ (52, [(4, a0), (0, a1)], [(4, a0)], s3) = some ([], (57, [(4, a0), (0, a1)], [(0, 1), (4, a0)], s3)) from rfl) ?_
        obtain ⟨v5, s5, h5, H⟩ := jb_some H
        refine AT.callV (As := [(0, 1)]) (cl := 0) (b := a0) (st := []) (i := 170) (pos := 3215) kJc_answer (by decide +kernel) rfl (by decide +kernel) rfl rfl (by omega) (Jc_answer_ok h5) ?_
        show AT sJc_knock 3 (60, [(4, a0), (0, a1)], [(0, v5)], s5) o
        exact AT.retiH (by decide +kernel) H
      · refine AT.seq [(56, .iconst 0, 1, (0, 0, 0))] (by decide +kernel) (show jrun _ (56, [(4, a0), (0, a1)], [(4, a0)], s3) = some ([], (57, [(4, a0), (0, a1)], [(0, 0), (4, a0)], s3)) from rfl) ?_
        obtain ⟨v6, s6, h6, H⟩ := jb_some H
        refine AT.callV (As := [(0, 0)]) (cl := 0) (b := a0) (st := []) (i := 170) (pos := 3215) kJc_answer (by decide +kernel) rfl (by decide +kernel) rfl rfl (by omega) (Jc_answer_ok h6) ?_
        show AT sJc_knock 3 (60, [(4, a0), (0, a1)], [(0, v6)], s6) o
        exact AT.retiH (by decide +kernel) H
def sJc_touch : jS := (⟨"JellyCathedral", "touch", "(I)I"⟩, prog_1_method_21_code, 2, 1, [4, 0], 0)
theorem kJc_touch : jmk sJc_touch = true := jmk_of 4103 1001 4101 4102 (by decide +kernel)
set_option maxRecDepth 100000 in
theorem Jc_touch_ok {a0 a1 : Int} {s : jM} {o : Int × jM} (H : Jc_touch a0 a1 s = some o) : MK sJc_touch 3 [(4, a0), (0, a1)] s o := by
  refine MK.of kJc_touch rfl ?_
  show AT sJc_touch 3 (0, [(4, a0), (0, a1)], [], s) o
  unfold Jc_touch at H
  refine AT.blk (g := jok 3 (s a0 5) = true) [(0, .aload_n 0, 1, (0, 0, 0)), (1, .getfield 19, 3, (2205, 5, 0)), (4, .iload_n 1, 1, (0, 0, 0))] (by decide +kernel) (show jrun _ (0, [(4, a0), (0, a1)], [], s) = some ([jok 3 (s a0 5) = true], (5, [(4, a0), (0, a1)], [(0, a1), (7, (s a0 5))], s)) from rfl) (fun h => h) H (fun H => ?_)
  obtain ⟨v1, s1, h1, H⟩ := jb_some H
  refine AT.callV (As := [(0, a1)]) (cl := 3) (b := (s a0 5)) (st := []) (i := 226) (pos := 4050) kSe_isMould (by decide +kernel) rfl (by decide +kernel) rfl rfl (by omega) (Se_isMould_ok h1) ?_
  show AT sJc_touch 3 (8, [(4, a0), (0, a1)], [(0, v1)], s1) o
  refine AT.ite (x := (0, 0, 0)) (by decide +kernel) (show jbr (.ifCond .ne 9) (8, [(4, a0), (0, a1)], [(0, v1)], s1) = some ((w32 v1) = 0, (11, [(4, a0), (0, a1)], [], s1), (17, [(4, a0), (0, a1)], [], s1)) from rfl) H (fun H => ?_) (fun H => ?_)
  · refine AT.seq [(11, .aload_n 0, 1, (0, 0, 0)), (12, .iconst 2, 1, (0, 0, 0))] (by decide +kernel) (show jrun _ (11, [(4, a0), (0, a1)], [], s1) = some ([], (13, [(4, a0), (0, a1)], [(0, 2), (4, a0)], s1)) from rfl) ?_
    obtain ⟨v2, s2, h2, H⟩ := jb_some H
    refine AT.callV (As := [(0, 2)]) (cl := 0) (b := a0) (st := []) (i := 123) (pos := 3066) kJc_refuse (by decide +kernel) rfl (by decide +kernel) rfl rfl (by omega) (Jc_refuse_ok h2) ?_
    show AT sJc_touch 3 (16, [(4, a0), (0, a1)], [(0, v2)], s2) o
    exact AT.retiH (by decide +kernel) H
  · refine AT.blk (g := jok 3 (s1 a0 5) = true) [(17, .aload_n 0, 1, (0, 0, 0)), (18, .getfield 19, 3, (2205, 5, 0)), (21, .iload_n 1, 1, (0, 0, 0))] (by decide +kernel) (show jrun _ (17, [(4, a0), (0, a1)], [], s1) = some ([jok 3 (s1 a0 5) = true], (22, [(4, a0), (0, a1)], [(0, a1), (7, (s1 a0 5))], s1)) from rfl) (fun h => h) H (fun H => ?_)
    obtain ⟨v3, s3, h3, H⟩ := jb_some H
    refine AT.callV (As := [(0, a1)]) (cl := 3) (b := (s1 a0 5)) (st := []) (i := 275) (pos := 4104) kSe_press (by decide +kernel) rfl (by decide +kernel) rfl rfl (by omega) (Se_press_ok h3) ?_
    show AT sJc_touch 3 (25, [(4, a0), (0, a1)], [(0, v3)], s3) o
    refine AT.ite (x := (0, 0, 0)) (by decide +kernel) (show jbr (.ifCond .eq 22) (25, [(4, a0), (0, a1)], [(0, v3)], s3) = some ((w32 v3) = 0, (47, [(4, a0), (0, a1)], [], s3), (28, [(4, a0), (0, a1)], [], s3)) from rfl) H (fun H => ?_) (fun H => ?_)
    · refine AT.seq [(47, .aload_n 0, 1, (0, 0, 0)), (48, .bipush 9, 2, (0, 0, 0))] (by decide +kernel) (show jrun _ (47, [(4, a0), (0, a1)], [], s3) = some ([], (50, [(4, a0), (0, a1)], [(0, 9), (4, a0)], s3)) from rfl) ?_
      obtain ⟨v4, s4, h4, H⟩ := jb_some H
      refine AT.callV (As := [(0, 9)]) (cl := 0) (b := a0) (st := []) (i := 123) (pos := 3066) kJc_refuse (by decide +kernel) rfl (by decide +kernel) rfl rfl (by omega) (Jc_refuse_ok h4) ?_
      show AT sJc_touch 3 (53, [(4, a0), (0, a1)], [(0, v4)], s4) o
      exact AT.retiH (by decide +kernel) H
    · refine AT.blk (g := jok 3 (s3 a0 5) = true ∧ (0 ≤ (w32 a1) ∧ (w32 a1) < 5)) [(28, .aload_n 0, 1, (0, 0, 0)), (29, .aload_n 0, 1, (0, 0, 0)), (30, .getfield 19, 3, (2205, 5, 0)), (33, .getfield 229, 3, (1217, 312, 0)), (36, .iload_n 1, 1, (0, 0, 0)), (37, .aaload, 1, (0, 0, 0)), (38, .getfield 247, 3, (1130, 204, 0))] (by decide +kernel) (show jrun _ (28, [(4, a0), (0, a1)], [], s3) = some ([jok 3 (s3 a0 5) = true, (0 ≤ (w32 a1) ∧ (w32 a1) < 5)], (41, [(4, a0), (0, a1)], [(0, (s3 (((s3 a0 5) + 4) + 11 + 2 * (w32 a1)) 4)), (4, a0)], s3)) from rfl) (fun h => ⟨h.1, h.2⟩) H (fun H => ?_)
      obtain ⟨v5, s5, h5, H⟩ := jb_some H
      refine AT.callV (As := [(0, (s3 (((s3 a0 5) + 4) + 11 + 2 * (w32 a1)) 4))]) (cl := 0) (b := a0) (st := []) (i := 170) (pos := 3215) kJc_answer (by decide +kernel) rfl (by decide +kernel) rfl rfl (by omega) (Jc_answer_ok h5) ?_
      show AT sJc_touch 3 (44, [(4, a0), (0, a1)], [(0, v5)], s5) o
      refine AT.seq [(44, .goto 9, 3, (0, 0, 0))] (by decide +kernel) (show jrun _ (44, [(4, a0), (0, a1)], [(0, v5)], s5) = some ([], (53, [(4, a0), (0, a1)], [(0, v5)], s5)) from rfl) ?_
      exact AT.retiH (by decide +kernel) H
