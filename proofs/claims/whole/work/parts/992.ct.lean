/-! printed by wip/whole/gen_ctor.py: simple constructors -/
def sTr_init : jS := (⟨"JellyCathedral$Tray", "<init>", "()V"⟩, prog_11_method_1_code, 1, 0, [5], 0)
def kb_Tr (cs : Nat → ClassId) (h : Nat) (ad : Nat → Nat) : va_W := [(h, .inr (1, [.int 0, .int 0, .int 0, .ref (ad 1)])), ((ad 1), .inl (cs 1, 60, .inr (.inl (fun _ => 0))))]
set_option maxHeartbeats 4000000 in
set_option maxRecDepth 100000 in
theorem c_Tr (D : va_G) (cs : Nat → ClassId) (h : Nat) : ∀ (l : Launch) (sz : Nat), Met l sTr_init.1 (jws sTr_init) { frames := 2, cells := 1, slots := 60, locals := 40 } (kPre D cs [] [(h, .inr (1, kdef 1))] sz [.ref h]) (kPost D (kb_Tr cs h) [(h, .inr (1, kdef 1))] sz) 1 60 (va_A [(h, .inr (1, kdef 1))] sz) := by
  refine kM_of (lv := [(0, .ref h)]) (by decide +kernel) (Nat.le_of_ble_eq_true rfl) rfl (fun l p e s m below meth cd ls Q A C hN hnm hl hH k => ?_)
  have hnm : meth.name = "<init>" := hnm
  obtain ⟨H, hHe⟩ : ∃ H, H = s.heap := ⟨_, rfl⟩
  obtain ⟨locs, hle⟩ : ∃ locs : List Loc, locs = [] := ⟨_, rfl⟩
  rw [← hHe, ← hle] at hH ⊢
  have hH : kHp D A s ([(h, .inr (1, [.int 0, .int 0, .int 0, .null]))]) H locs := hH
  refine lv_aload_n C.1 C.2.1 (pc := 0) (k := 0) (by decide +kernel) rfl (lv_at hl 0 rfl) ?_
  refine kr_obj C hl.1 (pc := 1) (i := 3) (p1 := 1029) (p2 := 1021) (p3 := 1022) (by decide +kernel) (Nat.le_of_ble_eq_true rfl) (Nat.le_of_ble_eq_true rfl) ?_
  refine lv_aload_n C.1 C.2.1 (pc := 4) (k := 0) (by decide +kernel) rfl (lv_at hl 0 rfl) ?_
  refine lv_bipush C.1 C.2.1 (pc := 5) (n := 60) (v := 60) (by decide +kernel) (by decide +kernel) ?_
  refine kr_newl C hH (pc := 7) (p1 := 1047) (N := 60) (by decide +kernel) (by decide +kernel) (by decide +kernel) (Nat.le_of_ble_eq_true rfl) (Nat.le_of_ble_eq_true rfl) (Nat.le_of_ble_eq_true rfl) (fun q7 H hH => ?_)
  have hH : kHp D A s ([(h, .inr (1, [.int 0, .int 0, .int 0, .null])), (q7, .inl (cs 1, 60, .inr (.inl (fun _ => 0))))]) H locs := hH
  refine kr_putF C hH hnm (pc := 9) (ci := 1) (k := 3) (i := 9) (p1 := 1036) (by decide) 0 rfl (by decide +kernel) ⟨rfl, rfl⟩ (Nat.le_of_ble_eq_true rfl) (fun H locs hH => ?_)
  have hH : kHp D A s ([(h, .inr (1, [.int 0, .int 0, .int 0, .ref q7])), (q7, .inl (cs 1, 60, .inr (.inl (fun _ => 0))))]) H locs := hH
  refine W.widen (k := 1) (n := 60) (Nat.le_of_ble_eq_true rfl) (Nat.le_of_ble_eq_true rfl) ?_
  exact k 12 ls H locs (fun i => ([h, q7] : List Nat).getD i 0) (by decide +kernel) hH
def sMo_init : jS := (⟨"JellyCathedral$Mould", "<init>", "()V"⟩, prog_7_method_1_code, 1, 0, [6], 0)
def kb_Mo (cs : Nat → ClassId) (h : Nat) (ad : Nat → Nat) : va_W := [(h, .inr (2, [.int 0, .int 0, .int 0, .int 0, .int 0, .int 0, .int 0, .int 0, .ref (ad 1)])), ((ad 1), .inl (cs 0, 5, .inl (fun _ => 0)))]
set_option maxHeartbeats 4000000 in
set_option maxRecDepth 100000 in
theorem c_Mo (D : va_G) (cs : Nat → ClassId) (h : Nat) : ∀ (l : Launch) (sz : Nat), Met l sMo_init.1 (jws sMo_init) { frames := 2, cells := 1, slots := 5, locals := 40 } (kPre D cs [] [(h, .inr (2, kdef 2))] sz [.ref h]) (kPost D (kb_Mo cs h) [(h, .inr (2, kdef 2))] sz) 1 5 (va_A [(h, .inr (2, kdef 2))] sz) := by
  refine kM_of (lv := [(0, .ref h)]) (by decide +kernel) (Nat.le_of_ble_eq_true rfl) rfl (fun l p e s m below meth cd ls Q A C hN hnm hl hH k => ?_)
  have hnm : meth.name = "<init>" := hnm
  obtain ⟨H, hHe⟩ : ∃ H, H = s.heap := ⟨_, rfl⟩
  obtain ⟨locs, hle⟩ : ∃ locs : List Loc, locs = [] := ⟨_, rfl⟩
  rw [← hHe, ← hle] at hH ⊢
  have hH : kHp D A s ([(h, .inr (2, [.int 0, .int 0, .int 0, .int 0, .int 0, .int 0, .int 0, .int 0, .null]))]) H locs := hH
  refine lv_aload_n C.1 C.2.1 (pc := 0) (k := 0) (by decide +kernel) rfl (lv_at hl 0 rfl) ?_
  refine kr_obj C hl.1 (pc := 1) (i := 3) (p1 := 1108) (p2 := 1021) (p3 := 1022) (by decide +kernel) (Nat.le_of_ble_eq_true rfl) (Nat.le_of_ble_eq_true rfl) ?_
  refine lv_aload_n C.1 C.2.1 (pc := 4) (k := 0) (by decide +kernel) rfl (lv_at hl 0 rfl) ?_
  refine lv_iconst C.1 C.2.1 (pc := 5) (n := 5) (v := 5) (by decide +kernel) (by decide +kernel) ?_
  refine kr_newi C hH (pc := 6) (p1 := 1103) (N := 5) (by decide +kernel) (by decide +kernel) (by decide +kernel) (Nat.le_of_ble_eq_true rfl) (Nat.le_of_ble_eq_true rfl) (Nat.le_of_ble_eq_true rfl) (fun q6 H hH => ?_)
  have hH : kHp D A s ([(h, .inr (2, [.int 0, .int 0, .int 0, .int 0, .int 0, .int 0, .int 0, .int 0, .null])), (q6, .inl (cs 0, 5, .inl (fun _ => 0)))]) H locs := hH
  refine kr_putF C hH hnm (pc := 8) (ci := 2) (k := 8) (i := 9) (p1 := 1143) (by decide) 0 rfl (by decide +kernel) ⟨rfl, rfl⟩ (Nat.le_of_ble_eq_true rfl) (fun H locs hH => ?_)
  have hH : kHp D A s ([(h, .inr (2, [.int 0, .int 0, .int 0, .int 0, .int 0, .int 0, .int 0, .int 0, .ref q6])), (q6, .inl (cs 0, 5, .inl (fun _ => 0)))]) H locs := hH
  refine W.widen (k := 1) (n := 5) (Nat.le_of_ble_eq_true rfl) (Nat.le_of_ble_eq_true rfl) ?_
  exact k 11 ls H locs (fun i => ([h, q6] : List Nat).getD i 0) (by decide +kernel) hH
def sFe_init : jS := (⟨"JellyCathedral$Feasts", "<init>", "()V"⟩, prog_2_method_1_code, 1, 0, [8], 0)
def kb_Fe (cs : Nat → ClassId) (h : Nat) (ad : Nat → Nat) : va_W := [(h, .inr (4, [.int 0, .int 0, .int 0, .ref (ad 1), .ref (ad 2), .ref (ad 3), .ref (ad 4), .ref (ad 5)])), ((ad 1), .inl (cs 0, 60, .inl (fun _ => 0))), ((ad 2), .inl (cs 0, 60, .inl (fun _ => 0))), ((ad 3), .inl (cs 0, 60, .inl (fun _ => 0))), ((ad 4), .inl (cs 0, 60, .inl (fun _ => 0))), ((ad 5), .inl (cs 0, 60, .inl (fun _ => 0)))]
set_option maxHeartbeats 4000000 in
set_option maxRecDepth 100000 in
theorem c_Fe (D : va_G) (cs : Nat → ClassId) (h : Nat) : ∀ (l : Launch) (sz : Nat), Met l sFe_init.1 (jws sFe_init) { frames := 2, cells := 5, slots := 300, locals := 40 } (kPre D cs [] [(h, .inr (4, kdef 4))] sz [.ref h]) (kPost D (kb_Fe cs h) [(h, .inr (4, kdef 4))] sz) 5 300 (va_A [(h, .inr (4, kdef 4))] sz) := by
  refine kM_of (lv := [(0, .ref h)]) (by decide +kernel) (Nat.le_of_ble_eq_true rfl) rfl (fun l p e s m below meth cd ls Q A C hN hnm hl hH k => ?_)
  have hnm : meth.name = "<init>" := hnm
  obtain ⟨H, hHe⟩ : ∃ H, H = s.heap := ⟨_, rfl⟩
  obtain ⟨locs, hle⟩ : ∃ locs : List Loc, locs = [] := ⟨_, rfl⟩
  rw [← hHe, ← hle] at hH ⊢
  have hH : kHp D A s ([(h, .inr (4, [.int 0, .int 0, .int 0, .null, .null, .null, .null, .null]))]) H locs := hH
  refine lv_aload_n C.1 C.2.1 (pc := 0) (k := 0) (by decide +kernel) rfl (lv_at hl 0 rfl) ?_
  refine kr_obj C hl.1 (pc := 1) (i := 3) (p1 := 1061) (p2 := 1021) (p3 := 1022) (by decide +kernel) (Nat.le_of_ble_eq_true rfl) (Nat.le_of_ble_eq_true rfl) ?_
  refine lv_aload_n C.1 C.2.1 (pc := 4) (k := 0) (by decide +kernel) rfl (lv_at hl 0 rfl) ?_
  refine lv_bipush C.1 C.2.1 (pc := 5) (n := 60) (v := 60) (by decide +kernel) (by decide +kernel) ?_
  refine kr_newi C hH (pc := 7) (p1 := 1103) (N := 60) (by decide +kernel) (by decide +kernel) (by decide +kernel) (Nat.le_of_ble_eq_true rfl) (Nat.le_of_ble_eq_true rfl) (Nat.le_of_ble_eq_true rfl) (fun q7 H hH => ?_)
  have hH : kHp D A s ([(h, .inr (4, [.int 0, .int 0, .int 0, .null, .null, .null, .null, .null])), (q7, .inl (cs 0, 60, .inl (fun _ => 0)))]) H locs := hH
  refine kr_putF C hH hnm (pc := 9) (ci := 4) (k := 3) (i := 9) (p1 := 1071) (by decide) 0 rfl (by decide +kernel) ⟨rfl, rfl⟩ (Nat.le_of_ble_eq_true rfl) (fun H locs hH => ?_)
  have hH : kHp D A s ([(h, .inr (4, [.int 0, .int 0, .int 0, .ref q7, .null, .null, .null, .null])), (q7, .inl (cs 0, 60, .inl (fun _ => 0)))]) H locs := hH
  refine lv_aload_n C.1 C.2.1 (pc := 12) (k := 0) (by decide +kernel) rfl (lv_at hl 0 rfl) ?_
  refine lv_bipush C.1 C.2.1 (pc := 13) (n := 60) (v := 60) (by decide +kernel) (by decide +kernel) ?_
  refine kr_newi C hH (pc := 15) (p1 := 1103) (N := 60) (by decide +kernel) (by decide +kernel) (by decide +kernel) (Nat.le_of_ble_eq_true rfl) (Nat.le_of_ble_eq_true rfl) (Nat.le_of_ble_eq_true rfl) (fun q15 H hH => ?_)
  have hH : kHp D A s ([(h, .inr (4, [.int 0, .int 0, .int 0, .ref q7, .null, .null, .null, .null])), (q7, .inl (cs 0, 60, .inl (fun _ => 0))), (q15, .inl (cs 0, 60, .inl (fun _ => 0)))]) H locs := hH
  refine kr_putF C hH hnm (pc := 17) (ci := 4) (k := 4) (i := 15) (p1 := 1074) (by decide) 0 rfl (by decide +kernel) ⟨rfl, rfl⟩ (Nat.le_of_ble_eq_true rfl) (fun H locs hH => ?_)
  have hH : kHp D A s ([(h, .inr (4, [.int 0, .int 0, .int 0, .ref q7, .ref q15, .null, .null, .null])), (q7, .inl (cs 0, 60, .inl (fun _ => 0))), (q15, .inl (cs 0, 60, .inl (fun _ => 0)))]) H locs := hH
  refine lv_aload_n C.1 C.2.1 (pc := 20) (k := 0) (by decide +kernel) rfl (lv_at hl 0 rfl) ?_
  refine lv_bipush C.1 C.2.1 (pc := 21) (n := 60) (v := 60) (by decide +kernel) (by decide +kernel) ?_
  refine kr_newi C hH (pc := 23) (p1 := 1103) (N := 60) (by decide +kernel) (by decide +kernel) (by decide +kernel) (Nat.le_of_ble_eq_true rfl) (Nat.le_of_ble_eq_true rfl) (Nat.le_of_ble_eq_true rfl) (fun q23 H hH => ?_)
  have hH : kHp D A s ([(h, .inr (4, [.int 0, .int 0, .int 0, .ref q7, .ref q15, .null, .null, .null])), (q7, .inl (cs 0, 60, .inl (fun _ => 0))), (q15, .inl (cs 0, 60, .inl (fun _ => 0))), (q23, .inl (cs 0, 60, .inl (fun _ => 0)))]) H locs := hH
  refine kr_putF C hH hnm (pc := 25) (ci := 4) (k := 5) (i := 18) (p1 := 1077) (by decide) 0 rfl (by decide +kernel) ⟨rfl, rfl⟩ (Nat.le_of_ble_eq_true rfl) (fun H locs hH => ?_)
  have hH : kHp D A s ([(h, .inr (4, [.int 0, .int 0, .int 0, .ref q7, .ref q15, .ref q23, .null, .null])), (q7, .inl (cs 0, 60, .inl (fun _ => 0))), (q15, .inl (cs 0, 60, .inl (fun _ => 0))), (q23, .inl (cs 0, 60, .inl (fun _ => 0)))]) H locs := hH
  refine lv_aload_n C.1 C.2.1 (pc := 28) (k := 0) (by decide +kernel) rfl (lv_at hl 0 rfl) ?_
  refine lv_bipush C.1 C.2.1 (pc := 29) (n := 60) (v := 60) (by decide +kernel) (by decide +kernel) ?_
  refine kr_newi C hH (pc := 31) (p1 := 1103) (N := 60) (by decide +kernel) (by decide +kernel) (by decide +kernel) (Nat.le_of_ble_eq_true rfl) (Nat.le_of_ble_eq_true rfl) (Nat.le_of_ble_eq_true rfl) (fun q31 H hH => ?_)
  have hH : kHp D A s ([(h, .inr (4, [.int 0, .int 0, .int 0, .ref q7, .ref q15, .ref q23, .null, .null])), (q7, .inl (cs 0, 60, .inl (fun _ => 0))), (q15, .inl (cs 0, 60, .inl (fun _ => 0))), (q23, .inl (cs 0, 60, .inl (fun _ => 0))), (q31, .inl (cs 0, 60, .inl (fun _ => 0)))]) H locs := hH
  refine kr_putF C hH hnm (pc := 33) (ci := 4) (k := 6) (i := 21) (p1 := 1080) (by decide) 0 rfl (by decide +kernel) ⟨rfl, rfl⟩ (Nat.le_of_ble_eq_true rfl) (fun H locs hH => ?_)
  have hH : kHp D A s ([(h, .inr (4, [.int 0, .int 0, .int 0, .ref q7, .ref q15, .ref q23, .ref q31, .null])), (q7, .inl (cs 0, 60, .inl (fun _ => 0))), (q15, .inl (cs 0, 60, .inl (fun _ => 0))), (q23, .inl (cs 0, 60, .inl (fun _ => 0))), (q31, .inl (cs 0, 60, .inl (fun _ => 0)))]) H locs := hH
  refine lv_aload_n C.1 C.2.1 (pc := 36) (k := 0) (by decide +kernel) rfl (lv_at hl 0 rfl) ?_
  refine lv_bipush C.1 C.2.1 (pc := 37) (n := 60) (v := 60) (by decide +kernel) (by decide +kernel) ?_
  refine kr_newi C hH (pc := 39) (p1 := 1103) (N := 60) (by decide +kernel) (by decide +kernel) (by decide +kernel) (Nat.le_of_ble_eq_true rfl) (Nat.le_of_ble_eq_true rfl) (Nat.le_of_ble_eq_true rfl) (fun q39 H hH => ?_)
  have hH : kHp D A s ([(h, .inr (4, [.int 0, .int 0, .int 0, .ref q7, .ref q15, .ref q23, .ref q31, .null])), (q7, .inl (cs 0, 60, .inl (fun _ => 0))), (q15, .inl (cs 0, 60, .inl (fun _ => 0))), (q23, .inl (cs 0, 60, .inl (fun _ => 0))), (q31, .inl (cs 0, 60, .inl (fun _ => 0))), (q39, .inl (cs 0, 60, .inl (fun _ => 0)))]) H locs := hH
  refine kr_putF C hH hnm (pc := 41) (ci := 4) (k := 7) (i := 24) (p1 := 1083) (by decide) 0 rfl (by decide +kernel) ⟨rfl, rfl⟩ (Nat.le_of_ble_eq_true rfl) (fun H locs hH => ?_)
  have hH : kHp D A s ([(h, .inr (4, [.int 0, .int 0, .int 0, .ref q7, .ref q15, .ref q23, .ref q31, .ref q39])), (q7, .inl (cs 0, 60, .inl (fun _ => 0))), (q15, .inl (cs 0, 60, .inl (fun _ => 0))), (q23, .inl (cs 0, 60, .inl (fun _ => 0))), (q31, .inl (cs 0, 60, .inl (fun _ => 0))), (q39, .inl (cs 0, 60, .inl (fun _ => 0)))]) H locs := hH
  refine W.widen (k := 5) (n := 300) (Nat.le_of_ble_eq_true rfl) (Nat.le_of_ble_eq_true rfl) ?_
  exact k 44 ls H locs (fun i => ([h, q7, q15, q23, q31, q39] : List Nat).getD i 0) (by decide +kernel) hH
def sTe_init : jS := (⟨"JellyCathedral$Text", "<init>", "()V"⟩, prog_10_method_1_code, 1, 0, [9], 0)
def kb_Te (cs : Nat → ClassId) (h : Nat) (ad : Nat → Nat) : va_W := [(h, .inr (5, [.int 0, .int 0, .int 0, .int 0, .int 0, .int 0, .int 0, .long 0, .int 0, .int 0, .ref (ad 1)])), ((ad 1), .inl (cs 2, 900, .inl (fun _ => 0)))]
set_option maxHeartbeats 4000000 in
set_option maxRecDepth 100000 in
theorem c_Te (D : va_G) (cs : Nat → ClassId) (h : Nat) : ∀ (l : Launch) (sz : Nat), Met l sTe_init.1 (jws sTe_init) { frames := 2, cells := 1, slots := 900, locals := 40 } (kPre D cs [] [(h, .inr (5, kdef 5))] sz [.ref h]) (kPost D (kb_Te cs h) [(h, .inr (5, kdef 5))] sz) 1 900 (va_A [(h, .inr (5, kdef 5))] sz) := by
  refine kM_of (lv := [(0, .ref h)]) (by decide +kernel) (Nat.le_of_ble_eq_true rfl) rfl (fun l p e s m below meth cd ls Q A C hN hnm hl hH k => ?_)
  have hnm : meth.name = "<init>" := hnm
  obtain ⟨H, hHe⟩ : ∃ H, H = s.heap := ⟨_, rfl⟩
  obtain ⟨locs, hle⟩ : ∃ locs : List Loc, locs = [] := ⟨_, rfl⟩
  rw [← hHe, ← hle] at hH ⊢
  have hH : kHp D A s ([(h, .inr (5, [.int 0, .int 0, .int 0, .int 0, .int 0, .int 0, .int 0, .long 0, .int 0, .int 0, .null]))]) H locs := hH
  refine lv_aload_n C.1 C.2.1 (pc := 0) (k := 0) (by decide +kernel) rfl (lv_at hl 0 rfl) ?_
  refine kr_obj C hl.1 (pc := 1) (i := 3) (p1 := 2028) (p2 := 1021) (p3 := 1022) (by decide +kernel) (Nat.le_of_ble_eq_true rfl) (Nat.le_of_ble_eq_true rfl) ?_
  refine lv_aload_n C.1 C.2.1 (pc := 4) (k := 0) (by decide +kernel) rfl (lv_at hl 0 rfl) ?_
  refine lv_sipush C.1 C.2.1 (pc := 5) (n := 900) (v := 900) (by decide +kernel) (by decide +kernel) ?_
  refine kr_newb C hH (pc := 8) (p1 := 2071) (N := 900) (by decide +kernel) (by decide +kernel) (by decide +kernel) (Nat.le_of_ble_eq_true rfl) (Nat.le_of_ble_eq_true rfl) (Nat.le_of_ble_eq_true rfl) (fun q8 H hH => ?_)
  have hH : kHp D A s ([(h, .inr (5, [.int 0, .int 0, .int 0, .int 0, .int 0, .int 0, .int 0, .long 0, .int 0, .int 0, .null])), (q8, .inl (cs 2, 900, .inl (fun _ => 0)))]) H locs := hH
  refine kr_putF C hH hnm (pc := 10) (ci := 5) (k := 10) (i := 9) (p1 := 2047) (by decide) 0 rfl (by decide +kernel) ⟨rfl, rfl⟩ (Nat.le_of_ble_eq_true rfl) (fun H locs hH => ?_)
  have hH : kHp D A s ([(h, .inr (5, [.int 0, .int 0, .int 0, .int 0, .int 0, .int 0, .int 0, .long 0, .int 0, .int 0, .ref q8])), (q8, .inl (cs 2, 900, .inl (fun _ => 0)))]) H locs := hH
  refine W.widen (k := 1) (n := 900) (Nat.le_of_ble_eq_true rfl) (Nat.le_of_ble_eq_true rfl) ?_
  exact k 13 ls H locs (fun i => ([h, q8] : List Nat).getD i 0) (by decide +kernel) hH
def sSr_init : jS := (⟨"JellyCathedral$SeeReader", "<init>", "()V"⟩, prog_9_method_1_code, 1, 0, [10], 0)
def kb_Sr (cs : Nat → ClassId) (h : Nat) (ad : Nat → Nat) : va_W := [(h, .inr (6, [.null, .null, .int 0, .int 0]))]
set_option maxHeartbeats 4000000 in
set_option maxRecDepth 100000 in
theorem c_Sr (D : va_G) (cs : Nat → ClassId) (h : Nat) : ∀ (l : Launch) (sz : Nat), Met l sSr_init.1 (jws sSr_init) { frames := 2, cells := 0, slots := 0, locals := 40 } (kPre D cs [] [(h, .inr (6, kdef 6))] sz [.ref h]) (kPost D (kb_Sr cs h) [(h, .inr (6, kdef 6))] sz) 0 0 (va_A [(h, .inr (6, kdef 6))] sz) := by
  refine kM_of (lv := [(0, .ref h)]) (by decide +kernel) (Nat.le_of_ble_eq_true rfl) rfl (fun l p e s m below meth cd ls Q A C hN hnm hl hH k => ?_)
  have hnm : meth.name = "<init>" := hnm
  obtain ⟨H, hHe⟩ : ∃ H, H = s.heap := ⟨_, rfl⟩
  obtain ⟨locs, hle⟩ : ∃ locs : List Loc, locs = [] := ⟨_, rfl⟩
  rw [← hHe, ← hle] at hH ⊢
  have hH : kHp D A s ([(h, .inr (6, [.null, .null, .int 0, .int 0]))]) H locs := hH
  refine lv_aload_n C.1 C.2.1 (pc := 0) (k := 0) (by decide +kernel) rfl (lv_at hl 0 rfl) ?_
  refine kr_obj C hl.1 (pc := 1) (i := 3) (p1 := 2077) (p2 := 1021) (p3 := 1022) (by decide +kernel) (Nat.le_of_ble_eq_true rfl) (Nat.le_of_ble_eq_true rfl) ?_
  refine W.widen (k := 0) (n := 0) (Nat.le_of_ble_eq_true rfl) (Nat.le_of_ble_eq_true rfl) ?_
  exact k 4 ls H locs (fun _ => h) (by decide +kernel) hH
def sFr_init : jS := (⟨"JellyCathedral$FeastsReader", "<init>", "()V"⟩, prog_3_method_1_code, 1, 0, [11], 0)
def kb_Fr (cs : Nat → ClassId) (h : Nat) (ad : Nat → Nat) : va_W := [(h, .inr (7, [.null, .null, .null, .int 0, .ref (ad 1)])), ((ad 1), .inl (cs 0, 3, .inl (fun _ => 0)))]
set_option maxHeartbeats 4000000 in
set_option maxRecDepth 100000 in
theorem c_Fr (D : va_G) (cs : Nat → ClassId) (h : Nat) : ∀ (l : Launch) (sz : Nat), Met l sFr_init.1 (jws sFr_init) { frames := 2, cells := 1, slots := 3, locals := 40 } (kPre D cs [] [(h, .inr (7, kdef 7))] sz [.ref h]) (kPost D (kb_Fr cs h) [(h, .inr (7, kdef 7))] sz) 1 3 (va_A [(h, .inr (7, kdef 7))] sz) := by
  refine kM_of (lv := [(0, .ref h)]) (by decide +kernel) (Nat.le_of_ble_eq_true rfl) rfl (fun l p e s m below meth cd ls Q A C hN hnm hl hH k => ?_)
  have hnm : meth.name = "<init>" := hnm
  obtain ⟨H, hHe⟩ : ∃ H, H = s.heap := ⟨_, rfl⟩
  obtain ⟨locs, hle⟩ : ∃ locs : List Loc, locs = [] := ⟨_, rfl⟩
  rw [← hHe, ← hle] at hH ⊢
  have hH : kHp D A s ([(h, .inr (7, [.null, .null, .null, .int 0, .null]))]) H locs := hH
  refine lv_aload_n C.1 C.2.1 (pc := 0) (k := 0) (by decide +kernel) rfl (lv_at hl 0 rfl) ?_
  refine kr_obj C hl.1 (pc := 1) (i := 3) (p1 := 2096) (p2 := 1021) (p3 := 1022) (by decide +kernel) (Nat.le_of_ble_eq_true rfl) (Nat.le_of_ble_eq_true rfl) ?_
  refine lv_aload_n C.1 C.2.1 (pc := 4) (k := 0) (by decide +kernel) rfl (lv_at hl 0 rfl) ?_
  refine lv_iconst C.1 C.2.1 (pc := 5) (n := 3) (v := 3) (by decide +kernel) (by decide +kernel) ?_
  refine kr_newi C hH (pc := 6) (p1 := 1103) (N := 3) (by decide +kernel) (by decide +kernel) (by decide +kernel) (Nat.le_of_ble_eq_true rfl) (Nat.le_of_ble_eq_true rfl) (Nat.le_of_ble_eq_true rfl) (fun q6 H hH => ?_)
  have hH : kHp D A s ([(h, .inr (7, [.null, .null, .null, .int 0, .null])), (q6, .inl (cs 0, 3, .inl (fun _ => 0)))]) H locs := hH
  refine kr_putF C hH hnm (pc := 8) (ci := 7) (k := 4) (i := 9) (p1 := 2101) (by decide) 0 rfl (by decide +kernel) ⟨rfl, rfl⟩ (Nat.le_of_ble_eq_true rfl) (fun H locs hH => ?_)
  have hH : kHp D A s ([(h, .inr (7, [.null, .null, .null, .int 0, .ref q6])), (q6, .inl (cs 0, 3, .inl (fun _ => 0)))]) H locs := hH
  refine W.widen (k := 1) (n := 3) (Nat.le_of_ble_eq_true rfl) (Nat.le_of_ble_eq_true rfl) ?_
  exact k 11 ls H locs (fun i => ([h, q6] : List Nat).getD i 0) (by decide +kernel) hH
def sFi_init : jS := (⟨"JellyCathedral$Fillings", "<init>", "()V"⟩, prog_4_method_1_code, 1, 0, [12], 0)
def kb_Fi (cs : Nat → ClassId) (h : Nat) (ad : Nat → Nat) : va_W := [(h, .inr (8, [.int 0, .int 0, .ref (ad 1), .ref (ad 2), .ref (ad 3), .ref (ad 4), .ref (ad 5)])), ((ad 1), .inl (cs 0, 5, .inl (fun _ => 0))), ((ad 2), .inl (cs 0, 5, .inl (fun _ => 0))), ((ad 3), .inl (cs 0, 5, .inl (fun _ => 0))), ((ad 4), .inl (cs 0, 82, .inl (fun _ => 0))), ((ad 5), .inl (cs 0, 83, .inl (fun _ => 0)))]
set_option maxHeartbeats 4000000 in
set_option maxRecDepth 100000 in
theorem c_Fi (D : va_G) (cs : Nat → ClassId) (h : Nat) : ∀ (l : Launch) (sz : Nat), Met l sFi_init.1 (jws sFi_init) { frames := 2, cells := 5, slots := 180, locals := 40 } (kPre D cs [] [(h, .inr (8, kdef 8))] sz [.ref h]) (kPost D (kb_Fi cs h) [(h, .inr (8, kdef 8))] sz) 5 180 (va_A [(h, .inr (8, kdef 8))] sz) := by
  refine kM_of (lv := [(0, .ref h)]) (by decide +kernel) (Nat.le_of_ble_eq_true rfl) rfl (fun l p e s m below meth cd ls Q A C hN hnm hl hH k => ?_)
  have hnm : meth.name = "<init>" := hnm
  obtain ⟨H, hHe⟩ : ∃ H, H = s.heap := ⟨_, rfl⟩
  obtain ⟨locs, hle⟩ : ∃ locs : List Loc, locs = [] := ⟨_, rfl⟩
  rw [← hHe, ← hle] at hH ⊢
  have hH : kHp D A s ([(h, .inr (8, [.int 0, .int 0, .null, .null, .null, .null, .null]))]) H locs := hH
  refine lv_aload_n C.1 C.2.1 (pc := 0) (k := 0) (by decide +kernel) rfl (lv_at hl 0 rfl) ?_
  refine kr_obj C hl.1 (pc := 1) (i := 3) (p1 := 2118) (p2 := 1021) (p3 := 1022) (by decide +kernel) (Nat.le_of_ble_eq_true rfl) (Nat.le_of_ble_eq_true rfl) ?_
  refine lv_aload_n C.1 C.2.1 (pc := 4) (k := 0) (by decide +kernel) rfl (lv_at hl 0 rfl) ?_
  refine lv_iconst C.1 C.2.1 (pc := 5) (n := 5) (v := 5) (by decide +kernel) (by decide +kernel) ?_
  refine kr_newi C hH (pc := 6) (p1 := 1103) (N := 5) (by decide +kernel) (by decide +kernel) (by decide +kernel) (Nat.le_of_ble_eq_true rfl) (Nat.le_of_ble_eq_true rfl) (Nat.le_of_ble_eq_true rfl) (fun q6 H hH => ?_)
  have hH : kHp D A s ([(h, .inr (8, [.int 0, .int 0, .null, .null, .null, .null, .null])), (q6, .inl (cs 0, 5, .inl (fun _ => 0)))]) H locs := hH
  refine kr_putF C hH hnm (pc := 8) (ci := 8) (k := 2) (i := 9) (p1 := 2122) (by decide) 0 rfl (by decide +kernel) ⟨rfl, rfl⟩ (Nat.le_of_ble_eq_true rfl) (fun H locs hH => ?_)
  have hH : kHp D A s ([(h, .inr (8, [.int 0, .int 0, .ref q6, .null, .null, .null, .null])), (q6, .inl (cs 0, 5, .inl (fun _ => 0)))]) H locs := hH
  refine lv_aload_n C.1 C.2.1 (pc := 11) (k := 0) (by decide +kernel) rfl (lv_at hl 0 rfl) ?_
  refine lv_iconst C.1 C.2.1 (pc := 12) (n := 5) (v := 5) (by decide +kernel) (by decide +kernel) ?_
  refine kr_newi C hH (pc := 13) (p1 := 1103) (N := 5) (by decide +kernel) (by decide +kernel) (by decide +kernel) (Nat.le_of_ble_eq_true rfl) (Nat.le_of_ble_eq_true rfl) (Nat.le_of_ble_eq_true rfl) (fun q13 H hH => ?_)
  have hH : kHp D A s ([(h, .inr (8, [.int 0, .int 0, .ref q6, .null, .null, .null, .null])), (q6, .inl (cs 0, 5, .inl (fun _ => 0))), (q13, .inl (cs 0, 5, .inl (fun _ => 0)))]) H locs := hH
  refine kr_putF C hH hnm (pc := 15) (ci := 8) (k := 3) (i := 15) (p1 := 2123) (by decide) 0 rfl (by decide +kernel) ⟨rfl, rfl⟩ (Nat.le_of_ble_eq_true rfl) (fun H locs hH => ?_)
  have hH : kHp D A s ([(h, .inr (8, [.int 0, .int 0, .ref q6, .ref q13, .null, .null, .null])), (q6, .inl (cs 0, 5, .inl (fun _ => 0))), (q13, .inl (cs 0, 5, .inl (fun _ => 0)))]) H locs := hH
  refine lv_aload_n C.1 C.2.1 (pc := 18) (k := 0) (by decide +kernel) rfl (lv_at hl 0 rfl) ?_
  refine lv_iconst C.1 C.2.1 (pc := 19) (n := 5) (v := 5) (by decide +kernel) (by decide +kernel) ?_
  refine kr_newi C hH (pc := 20) (p1 := 1103) (N := 5) (by decide +kernel) (by decide +kernel) (by decide +kernel) (Nat.le_of_ble_eq_true rfl) (Nat.le_of_ble_eq_true rfl) (Nat.le_of_ble_eq_true rfl) (fun q20 H hH => ?_)
  have hH : kHp D A s ([(h, .inr (8, [.int 0, .int 0, .ref q6, .ref q13, .null, .null, .null])), (q6, .inl (cs 0, 5, .inl (fun _ => 0))), (q13, .inl (cs 0, 5, .inl (fun _ => 0))), (q20, .inl (cs 0, 5, .inl (fun _ => 0)))]) H locs := hH
  refine kr_putF C hH hnm (pc := 22) (ci := 8) (k := 4) (i := 18) (p1 := 2124) (by decide) 0 rfl (by decide +kernel) ⟨rfl, rfl⟩ (Nat.le_of_ble_eq_true rfl) (fun H locs hH => ?_)
  have hH : kHp D A s ([(h, .inr (8, [.int 0, .int 0, .ref q6, .ref q13, .ref q20, .null, .null])), (q6, .inl (cs 0, 5, .inl (fun _ => 0))), (q13, .inl (cs 0, 5, .inl (fun _ => 0))), (q20, .inl (cs 0, 5, .inl (fun _ => 0)))]) H locs := hH
  refine lv_aload_n C.1 C.2.1 (pc := 25) (k := 0) (by decide +kernel) rfl (lv_at hl 0 rfl) ?_
  refine lv_bipush C.1 C.2.1 (pc := 26) (n := 82) (v := 82) (by decide +kernel) (by decide +kernel) ?_
  refine kr_newi C hH (pc := 28) (p1 := 1103) (N := 82) (by decide +kernel) (by decide +kernel) (by decide +kernel) (Nat.le_of_ble_eq_true rfl) (Nat.le_of_ble_eq_true rfl) (Nat.le_of_ble_eq_true rfl) (fun q28 H hH => ?_)
  have hH : kHp D A s ([(h, .inr (8, [.int 0, .int 0, .ref q6, .ref q13, .ref q20, .null, .null])), (q6, .inl (cs 0, 5, .inl (fun _ => 0))), (q13, .inl (cs 0, 5, .inl (fun _ => 0))), (q20, .inl (cs 0, 5, .inl (fun _ => 0))), (q28, .inl (cs 0, 82, .inl (fun _ => 0)))]) H locs := hH
  refine kr_putF C hH hnm (pc := 30) (ci := 8) (k := 5) (i := 21) (p1 := 2126) (by decide) 0 rfl (by decide +kernel) ⟨rfl, rfl⟩ (Nat.le_of_ble_eq_true rfl) (fun H locs hH => ?_)
  have hH : kHp D A s ([(h, .inr (8, [.int 0, .int 0, .ref q6, .ref q13, .ref q20, .ref q28, .null])), (q6, .inl (cs 0, 5, .inl (fun _ => 0))), (q13, .inl (cs 0, 5, .inl (fun _ => 0))), (q20, .inl (cs 0, 5, .inl (fun _ => 0))), (q28, .inl (cs 0, 82, .inl (fun _ => 0)))]) H locs := hH
  refine lv_aload_n C.1 C.2.1 (pc := 33) (k := 0) (by decide +kernel) rfl (lv_at hl 0 rfl) ?_
  refine lv_bipush C.1 C.2.1 (pc := 34) (n := 83) (v := 83) (by decide +kernel) (by decide +kernel) ?_
  refine kr_newi C hH (pc := 36) (p1 := 1103) (N := 83) (by decide +kernel) (by decide +kernel) (by decide +kernel) (Nat.le_of_ble_eq_true rfl) (Nat.le_of_ble_eq_true rfl) (Nat.le_of_ble_eq_true rfl) (fun q36 H hH => ?_)
  have hH : kHp D A s ([(h, .inr (8, [.int 0, .int 0, .ref q6, .ref q13, .ref q20, .ref q28, .null])), (q6, .inl (cs 0, 5, .inl (fun _ => 0))), (q13, .inl (cs 0, 5, .inl (fun _ => 0))), (q20, .inl (cs 0, 5, .inl (fun _ => 0))), (q28, .inl (cs 0, 82, .inl (fun _ => 0))), (q36, .inl (cs 0, 83, .inl (fun _ => 0)))]) H locs := hH
  refine kr_putF C hH hnm (pc := 38) (ci := 8) (k := 6) (i := 24) (p1 := 2127) (by decide) 0 rfl (by decide +kernel) ⟨rfl, rfl⟩ (Nat.le_of_ble_eq_true rfl) (fun H locs hH => ?_)
  have hH : kHp D A s ([(h, .inr (8, [.int 0, .int 0, .ref q6, .ref q13, .ref q20, .ref q28, .ref q36])), (q6, .inl (cs 0, 5, .inl (fun _ => 0))), (q13, .inl (cs 0, 5, .inl (fun _ => 0))), (q20, .inl (cs 0, 5, .inl (fun _ => 0))), (q28, .inl (cs 0, 82, .inl (fun _ => 0))), (q36, .inl (cs 0, 83, .inl (fun _ => 0)))]) H locs := hH
  refine W.widen (k := 5) (n := 180) (Nat.le_of_ble_eq_true rfl) (Nat.le_of_ble_eq_true rfl) ?_
  exact k 41 ls H locs (fun i => ([h, q6, q13, q20, q28, q36] : List Nat).getD i 0) (by decide +kernel) hH
def sGa_init : jS := (⟨"JellyCathedral$Game", "<init>", "()V"⟩, prog_5_method_1_code, 1, 0, [13], 0)
def kb_Ga (cs : Nat → ClassId) (h : Nat) (ad : Nat → Nat) : va_W := [(h, .inr (9, [.int 0, .int 0, .ref (ad 1), .ref (ad 2), .ref (ad 3), .ref (ad 4)])), ((ad 1), .inl (cs 0, 5, .inl (fun _ => 0))), ((ad 2), .inl (cs 0, 5, .inl (fun _ => 0))), ((ad 3), .inl (cs 0, 2, .inl (fun _ => 0))), ((ad 4), .inl (cs 0, 2, .inl (fun _ => 0)))]
set_option maxHeartbeats 4000000 in
set_option maxRecDepth 100000 in
theorem c_Ga (D : va_G) (cs : Nat → ClassId) (h : Nat) : ∀ (l : Launch) (sz : Nat), Met l sGa_init.1 (jws sGa_init) { frames := 2, cells := 4, slots := 14, locals := 40 } (kPre D cs [] [(h, .inr (9, kdef 9))] sz [.ref h]) (kPost D (kb_Ga cs h) [(h, .inr (9, kdef 9))] sz) 4 14 (va_A [(h, .inr (9, kdef 9))] sz) := by
  refine kM_of (lv := [(0, .ref h)]) (by decide +kernel) (Nat.le_of_ble_eq_true rfl) rfl (fun l p e s m below meth cd ls Q A C hN hnm hl hH k => ?_)
  have hnm : meth.name = "<init>" := hnm
  obtain ⟨H, hHe⟩ : ∃ H, H = s.heap := ⟨_, rfl⟩
  obtain ⟨locs, hle⟩ : ∃ locs : List Loc, locs = [] := ⟨_, rfl⟩
  rw [← hHe, ← hle] at hH ⊢
  have hH : kHp D A s ([(h, .inr (9, [.int 0, .int 0, .null, .null, .null, .null]))]) H locs := hH
  refine lv_aload_n C.1 C.2.1 (pc := 0) (k := 0) (by decide +kernel) rfl (lv_at hl 0 rfl) ?_
  refine kr_obj C hl.1 (pc := 1) (i := 3) (p1 := 2148) (p2 := 1021) (p3 := 1022) (by decide +kernel) (Nat.le_of_ble_eq_true rfl) (Nat.le_of_ble_eq_true rfl) ?_
  refine lv_aload_n C.1 C.2.1 (pc := 4) (k := 0) (by decide +kernel) rfl (lv_at hl 0 rfl) ?_
  refine lv_iconst C.1 C.2.1 (pc := 5) (n := 5) (v := 5) (by decide +kernel) (by decide +kernel) ?_
  refine kr_newi C hH (pc := 6) (p1 := 1103) (N := 5) (by decide +kernel) (by decide +kernel) (by decide +kernel) (Nat.le_of_ble_eq_true rfl) (Nat.le_of_ble_eq_true rfl) (Nat.le_of_ble_eq_true rfl) (fun q6 H hH => ?_)
  have hH : kHp D A s ([(h, .inr (9, [.int 0, .int 0, .null, .null, .null, .null])), (q6, .inl (cs 0, 5, .inl (fun _ => 0)))]) H locs := hH
  refine kr_putF C hH hnm (pc := 8) (ci := 9) (k := 2) (i := 9) (p1 := 2152) (by decide) 0 rfl (by decide +kernel) ⟨rfl, rfl⟩ (Nat.le_of_ble_eq_true rfl) (fun H locs hH => ?_)
  have hH : kHp D A s ([(h, .inr (9, [.int 0, .int 0, .ref q6, .null, .null, .null])), (q6, .inl (cs 0, 5, .inl (fun _ => 0)))]) H locs := hH
  refine lv_aload_n C.1 C.2.1 (pc := 11) (k := 0) (by decide +kernel) rfl (lv_at hl 0 rfl) ?_
  refine lv_iconst C.1 C.2.1 (pc := 12) (n := 5) (v := 5) (by decide +kernel) (by decide +kernel) ?_
  refine kr_newi C hH (pc := 13) (p1 := 1103) (N := 5) (by decide +kernel) (by decide +kernel) (by decide +kernel) (Nat.le_of_ble_eq_true rfl) (Nat.le_of_ble_eq_true rfl) (Nat.le_of_ble_eq_true rfl) (fun q13 H hH => ?_)
  have hH : kHp D A s ([(h, .inr (9, [.int 0, .int 0, .ref q6, .null, .null, .null])), (q6, .inl (cs 0, 5, .inl (fun _ => 0))), (q13, .inl (cs 0, 5, .inl (fun _ => 0)))]) H locs := hH
  refine kr_putF C hH hnm (pc := 15) (ci := 9) (k := 3) (i := 15) (p1 := 2153) (by decide) 0 rfl (by decide +kernel) ⟨rfl, rfl⟩ (Nat.le_of_ble_eq_true rfl) (fun H locs hH => ?_)
  have hH : kHp D A s ([(h, .inr (9, [.int 0, .int 0, .ref q6, .ref q13, .null, .null])), (q6, .inl (cs 0, 5, .inl (fun _ => 0))), (q13, .inl (cs 0, 5, .inl (fun _ => 0)))]) H locs := hH
  refine lv_aload_n C.1 C.2.1 (pc := 18) (k := 0) (by decide +kernel) rfl (lv_at hl 0 rfl) ?_
  refine lv_iconst C.1 C.2.1 (pc := 19) (n := 2) (v := 2) (by decide +kernel) (by decide +kernel) ?_
  refine kr_newi C hH (pc := 20) (p1 := 1103) (N := 2) (by decide +kernel) (by decide +kernel) (by decide +kernel) (Nat.le_of_ble_eq_true rfl) (Nat.le_of_ble_eq_true rfl) (Nat.le_of_ble_eq_true rfl) (fun q20 H hH => ?_)
  have hH : kHp D A s ([(h, .inr (9, [.int 0, .int 0, .ref q6, .ref q13, .null, .null])), (q6, .inl (cs 0, 5, .inl (fun _ => 0))), (q13, .inl (cs 0, 5, .inl (fun _ => 0))), (q20, .inl (cs 0, 2, .inl (fun _ => 0)))]) H locs := hH
  refine kr_putF C hH hnm (pc := 22) (ci := 9) (k := 4) (i := 18) (p1 := 2154) (by decide) 0 rfl (by decide +kernel) ⟨rfl, rfl⟩ (Nat.le_of_ble_eq_true rfl) (fun H locs hH => ?_)
  have hH : kHp D A s ([(h, .inr (9, [.int 0, .int 0, .ref q6, .ref q13, .ref q20, .null])), (q6, .inl (cs 0, 5, .inl (fun _ => 0))), (q13, .inl (cs 0, 5, .inl (fun _ => 0))), (q20, .inl (cs 0, 2, .inl (fun _ => 0)))]) H locs := hH
  refine lv_aload_n C.1 C.2.1 (pc := 25) (k := 0) (by decide +kernel) rfl (lv_at hl 0 rfl) ?_
  refine lv_iconst C.1 C.2.1 (pc := 26) (n := 2) (v := 2) (by decide +kernel) (by decide +kernel) ?_
  refine kr_newi C hH (pc := 27) (p1 := 1103) (N := 2) (by decide +kernel) (by decide +kernel) (by decide +kernel) (Nat.le_of_ble_eq_true rfl) (Nat.le_of_ble_eq_true rfl) (Nat.le_of_ble_eq_true rfl) (fun q27 H hH => ?_)
  have hH : kHp D A s ([(h, .inr (9, [.int 0, .int 0, .ref q6, .ref q13, .ref q20, .null])), (q6, .inl (cs 0, 5, .inl (fun _ => 0))), (q13, .inl (cs 0, 5, .inl (fun _ => 0))), (q20, .inl (cs 0, 2, .inl (fun _ => 0))), (q27, .inl (cs 0, 2, .inl (fun _ => 0)))]) H locs := hH
  refine kr_putF C hH hnm (pc := 29) (ci := 9) (k := 5) (i := 21) (p1 := 2155) (by decide) 0 rfl (by decide +kernel) ⟨rfl, rfl⟩ (Nat.le_of_ble_eq_true rfl) (fun H locs hH => ?_)
  have hH : kHp D A s ([(h, .inr (9, [.int 0, .int 0, .ref q6, .ref q13, .ref q20, .ref q27])), (q6, .inl (cs 0, 5, .inl (fun _ => 0))), (q13, .inl (cs 0, 5, .inl (fun _ => 0))), (q20, .inl (cs 0, 2, .inl (fun _ => 0))), (q27, .inl (cs 0, 2, .inl (fun _ => 0)))]) H locs := hH
  refine W.widen (k := 4) (n := 14) (Nat.le_of_ble_eq_true rfl) (Nat.le_of_ble_eq_true rfl) ?_
  exact k 32 ls H locs (fun i => ([h, q6, q13, q20, q27] : List Nat).getD i 0) (by decide +kernel) hH
def sLi_init : jS := (⟨"JellyCathedral$Living", "<init>", "()V"⟩, prog_6_method_1_code, 1, 0, [14], 0)
def kb_Li (cs : Nat → ClassId) (h : Nat) (ad : Nat → Nat) : va_W := [(h, .inr (10, [.null, .null, .int 0, .int 0, .int 0, .int 0, .ref (ad 1)])), ((ad 1), .inl (cs 0, 60, .inl (fun _ => 0)))]
set_option maxHeartbeats 4000000 in
set_option maxRecDepth 100000 in
theorem c_Li (D : va_G) (cs : Nat → ClassId) (h : Nat) : ∀ (l : Launch) (sz : Nat), Met l sLi_init.1 (jws sLi_init) { frames := 2, cells := 1, slots := 60, locals := 40 } (kPre D cs [] [(h, .inr (10, kdef 10))] sz [.ref h]) (kPost D (kb_Li cs h) [(h, .inr (10, kdef 10))] sz) 1 60 (va_A [(h, .inr (10, kdef 10))] sz) := by
  refine kM_of (lv := [(0, .ref h)]) (by decide +kernel) (Nat.le_of_ble_eq_true rfl) rfl (fun l p e s m below meth cd ls Q A C hN hnm hl hH k => ?_)
  have hnm : meth.name = "<init>" := hnm
  obtain ⟨H, hHe⟩ : ∃ H, H = s.heap := ⟨_, rfl⟩
  obtain ⟨locs, hle⟩ : ∃ locs : List Loc, locs = [] := ⟨_, rfl⟩
  rw [← hHe, ← hle] at hH ⊢
  have hH : kHp D A s ([(h, .inr (10, [.null, .null, .int 0, .int 0, .int 0, .int 0, .null]))]) H locs := hH
  refine lv_aload_n C.1 C.2.1 (pc := 0) (k := 0) (by decide +kernel) rfl (lv_at hl 0 rfl) ?_
  refine kr_obj C hl.1 (pc := 1) (i := 3) (p1 := 2174) (p2 := 1021) (p3 := 1022) (by decide +kernel) (Nat.le_of_ble_eq_true rfl) (Nat.le_of_ble_eq_true rfl) ?_
  refine lv_aload_n C.1 C.2.1 (pc := 4) (k := 0) (by decide +kernel) rfl (lv_at hl 0 rfl) ?_
  refine lv_bipush C.1 C.2.1 (pc := 5) (n := 60) (v := 60) (by decide +kernel) (by decide +kernel) ?_
  refine kr_newi C hH (pc := 7) (p1 := 1103) (N := 60) (by decide +kernel) (by decide +kernel) (by decide +kernel) (Nat.le_of_ble_eq_true rfl) (Nat.le_of_ble_eq_true rfl) (Nat.le_of_ble_eq_true rfl) (fun q7 H hH => ?_)
  have hH : kHp D A s ([(h, .inr (10, [.null, .null, .int 0, .int 0, .int 0, .int 0, .null])), (q7, .inl (cs 0, 60, .inl (fun _ => 0)))]) H locs := hH
  refine kr_putF C hH hnm (pc := 9) (ci := 10) (k := 6) (i := 9) (p1 := 2184) (by decide) 0 rfl (by decide +kernel) ⟨rfl, rfl⟩ (Nat.le_of_ble_eq_true rfl) (fun H locs hH => ?_)
  have hH : kHp D A s ([(h, .inr (10, [.null, .null, .int 0, .int 0, .int 0, .int 0, .ref q7])), (q7, .inl (cs 0, 60, .inl (fun _ => 0)))]) H locs := hH
  refine W.widen (k := 1) (n := 60) (Nat.le_of_ble_eq_true rfl) (Nat.le_of_ble_eq_true rfl) ?_
  exact k 12 ls H locs (fun i => ([h, q7] : List Nat).getD i 0) (by decide +kernel) hH
