/-! printed by wip/whole/gen_st.py: the claim -/
theorem ky_all (D : va_G) (cs : Nat → ClassId) (A : Nat → Prop) (hJ : Nat) (aJ : Nat → Nat) (hM : Nat) (aM : Nat → Nat) (kw b L : Nat) (xs : Nat → Int32) : ∀ k, k < 171 → ∃ i e, (kWW cs hJ aJ hM aM)[i]? = some (gad (kG D cs A hJ aJ hM aM kw b L xs) k, e) ∧ kix.getD k 0 = i ∧ ∀ H, va_at D jcl (gad (kG D cs A hJ aJ hM aM kw b L xs) k, e) H → va_at D jcl (gad (kG D cs A hJ aJ hM aM kw b L xs) k, jcell (kG D cs A hJ aJ hM aM kw b L xs) (js0 L xs) k) H := by
  intro k hk
  match k, hk with
  | 0, _ => obtain ⟨e, h1, h2⟩ := ky_0 D cs A hJ aJ hM aM kw b L xs; exact ⟨_, e, h1, rfl, h2⟩
  | 1, _ => obtain ⟨e, h1, h2⟩ := ky_1 D cs A hJ aJ hM aM kw b L xs; exact ⟨_, e, h1, rfl, h2⟩
  | 2, _ => obtain ⟨e, h1, h2⟩ := ky_2 D cs A hJ aJ hM aM kw b L xs; exact ⟨_, e, h1, rfl, h2⟩
  | 3, _ => obtain ⟨e, h1, h2⟩ := ky_3 D cs A hJ aJ hM aM kw b L xs; exact ⟨_, e, h1, rfl, h2⟩
  | 4, _ => obtain ⟨e, h1, h2⟩ := ky_4 D cs A hJ aJ hM aM kw b L xs; exact ⟨_, e, h1, rfl, h2⟩
  | 5, _ => obtain ⟨e, h1, h2⟩ := ky_5 D cs A hJ aJ hM aM kw b L xs; exact ⟨_, e, h1, rfl, h2⟩
  | 6, _ => obtain ⟨e, h1, h2⟩ := ky_6 D cs A hJ aJ hM aM kw b L xs; exact ⟨_, e, h1, rfl, h2⟩
  | 7, _ => obtain ⟨e, h1, h2⟩ := ky_7 D cs A hJ aJ hM aM kw b L xs; exact ⟨_, e, h1, rfl, h2⟩
  | 8, _ => obtain ⟨e, h1, h2⟩ := ky_8 D cs A hJ aJ hM aM kw b L xs; exact ⟨_, e, h1, rfl, h2⟩
  | 9, _ => obtain ⟨e, h1, h2⟩ := ky_9 D cs A hJ aJ hM aM kw b L xs; exact ⟨_, e, h1, rfl, h2⟩
  | 10, _ => obtain ⟨e, h1, h2⟩ := ky_10 D cs A hJ aJ hM aM kw b L xs; exact ⟨_, e, h1, rfl, h2⟩
  | 11, _ => obtain ⟨e, h1, h2⟩ := ky_11 D cs A hJ aJ hM aM kw b L xs; exact ⟨_, e, h1, rfl, h2⟩
  | 12, _ => obtain ⟨e, h1, h2⟩ := ky_12 D cs A hJ aJ hM aM kw b L xs; exact ⟨_, e, h1, rfl, h2⟩
  | 13, _ => obtain ⟨e, h1, h2⟩ := ky_13 D cs A hJ aJ hM aM kw b L xs; exact ⟨_, e, h1, rfl, h2⟩
  | 14, _ => obtain ⟨e, h1, h2⟩ := ky_14 D cs A hJ aJ hM aM kw b L xs; exact ⟨_, e, h1, rfl, h2⟩
  | 15, _ => obtain ⟨e, h1, h2⟩ := ky_15 D cs A hJ aJ hM aM kw b L xs; exact ⟨_, e, h1, rfl, h2⟩
  | 16, _ => obtain ⟨e, h1, h2⟩ := ky_16 D cs A hJ aJ hM aM kw b L xs; exact ⟨_, e, h1, rfl, h2⟩
  | 17, _ => obtain ⟨e, h1, h2⟩ := ky_17 D cs A hJ aJ hM aM kw b L xs; exact ⟨_, e, h1, rfl, h2⟩
  | 18, _ => obtain ⟨e, h1, h2⟩ := ky_18 D cs A hJ aJ hM aM kw b L xs; exact ⟨_, e, h1, rfl, h2⟩
  | 19, _ => obtain ⟨e, h1, h2⟩ := ky_19 D cs A hJ aJ hM aM kw b L xs; exact ⟨_, e, h1, rfl, h2⟩
  | 20, _ => obtain ⟨e, h1, h2⟩ := ky_20 D cs A hJ aJ hM aM kw b L xs; exact ⟨_, e, h1, rfl, h2⟩
  | 21, _ => obtain ⟨e, h1, h2⟩ := ky_21 D cs A hJ aJ hM aM kw b L xs; exact ⟨_, e, h1, rfl, h2⟩
  | 22, _ => obtain ⟨e, h1, h2⟩ := ky_22 D cs A hJ aJ hM aM kw b L xs; exact ⟨_, e, h1, rfl, h2⟩
  | 23, _ => obtain ⟨e, h1, h2⟩ := ky_23 D cs A hJ aJ hM aM kw b L xs; exact ⟨_, e, h1, rfl, h2⟩
  | 24, _ => obtain ⟨e, h1, h2⟩ := ky_24 D cs A hJ aJ hM aM kw b L xs; exact ⟨_, e, h1, rfl, h2⟩
  | 25, _ => obtain ⟨e, h1, h2⟩ := ky_25 D cs A hJ aJ hM aM kw b L xs; exact ⟨_, e, h1, rfl, h2⟩
  | 26, _ => obtain ⟨e, h1, h2⟩ := ky_26 D cs A hJ aJ hM aM kw b L xs; exact ⟨_, e, h1, rfl, h2⟩
  | 27, _ => obtain ⟨e, h1, h2⟩ := ky_27 D cs A hJ aJ hM aM kw b L xs; exact ⟨_, e, h1, rfl, h2⟩
  | 28, _ => obtain ⟨e, h1, h2⟩ := ky_28 D cs A hJ aJ hM aM kw b L xs; exact ⟨_, e, h1, rfl, h2⟩
  | 29, _ => obtain ⟨e, h1, h2⟩ := ky_29 D cs A hJ aJ hM aM kw b L xs; exact ⟨_, e, h1, rfl, h2⟩
  | 30, _ => obtain ⟨e, h1, h2⟩ := ky_30 D cs A hJ aJ hM aM kw b L xs; exact ⟨_, e, h1, rfl, h2⟩
  | 31, _ => obtain ⟨e, h1, h2⟩ := ky_31 D cs A hJ aJ hM aM kw b L xs; exact ⟨_, e, h1, rfl, h2⟩
  | 32, _ => obtain ⟨e, h1, h2⟩ := ky_32 D cs A hJ aJ hM aM kw b L xs; exact ⟨_, e, h1, rfl, h2⟩
  | 33, _ => obtain ⟨e, h1, h2⟩ := ky_33 D cs A hJ aJ hM aM kw b L xs; exact ⟨_, e, h1, rfl, h2⟩
  | 34, _ => obtain ⟨e, h1, h2⟩ := ky_34 D cs A hJ aJ hM aM kw b L xs; exact ⟨_, e, h1, rfl, h2⟩
  | 35, _ => obtain ⟨e, h1, h2⟩ := ky_35 D cs A hJ aJ hM aM kw b L xs; exact ⟨_, e, h1, rfl, h2⟩
  | 36, _ => obtain ⟨e, h1, h2⟩ := ky_36 D cs A hJ aJ hM aM kw b L xs; exact ⟨_, e, h1, rfl, h2⟩
  | 37, _ => obtain ⟨e, h1, h2⟩ := ky_37 D cs A hJ aJ hM aM kw b L xs; exact ⟨_, e, h1, rfl, h2⟩
  | 38, _ => obtain ⟨e, h1, h2⟩ := ky_38 D cs A hJ aJ hM aM kw b L xs; exact ⟨_, e, h1, rfl, h2⟩
  | 39, _ => obtain ⟨e, h1, h2⟩ := ky_39 D cs A hJ aJ hM aM kw b L xs; exact ⟨_, e, h1, rfl, h2⟩
  | 40, _ => obtain ⟨e, h1, h2⟩ := ky_40 D cs A hJ aJ hM aM kw b L xs; exact ⟨_, e, h1, rfl, h2⟩
  | 41, _ => obtain ⟨e, h1, h2⟩ := ky_41 D cs A hJ aJ hM aM kw b L xs; exact ⟨_, e, h1, rfl, h2⟩
  | 42, _ => obtain ⟨e, h1, h2⟩ := ky_42 D cs A hJ aJ hM aM kw b L xs; exact ⟨_, e, h1, rfl, h2⟩
  | 43, _ => obtain ⟨e, h1, h2⟩ := ky_43 D cs A hJ aJ hM aM kw b L xs; exact ⟨_, e, h1, rfl, h2⟩
  | 44, _ => obtain ⟨e, h1, h2⟩ := ky_44 D cs A hJ aJ hM aM kw b L xs; exact ⟨_, e, h1, rfl, h2⟩
  | 45, _ => obtain ⟨e, h1, h2⟩ := ky_45 D cs A hJ aJ hM aM kw b L xs; exact ⟨_, e, h1, rfl, h2⟩
  | 46, _ => obtain ⟨e, h1, h2⟩ := ky_46 D cs A hJ aJ hM aM kw b L xs; exact ⟨_, e, h1, rfl, h2⟩
  | 47, _ => obtain ⟨e, h1, h2⟩ := ky_47 D cs A hJ aJ hM aM kw b L xs; exact ⟨_, e, h1, rfl, h2⟩
  | 48, _ => obtain ⟨e, h1, h2⟩ := ky_48 D cs A hJ aJ hM aM kw b L xs; exact ⟨_, e, h1, rfl, h2⟩
  | 49, _ => obtain ⟨e, h1, h2⟩ := ky_49 D cs A hJ aJ hM aM kw b L xs; exact ⟨_, e, h1, rfl, h2⟩
  | 50, _ => obtain ⟨e, h1, h2⟩ := ky_50 D cs A hJ aJ hM aM kw b L xs; exact ⟨_, e, h1, rfl, h2⟩
  | 51, _ => obtain ⟨e, h1, h2⟩ := ky_51 D cs A hJ aJ hM aM kw b L xs; exact ⟨_, e, h1, rfl, h2⟩
  | 52, _ => obtain ⟨e, h1, h2⟩ := ky_52 D cs A hJ aJ hM aM kw b L xs; exact ⟨_, e, h1, rfl, h2⟩
  | 53, _ => obtain ⟨e, h1, h2⟩ := ky_53 D cs A hJ aJ hM aM kw b L xs; exact ⟨_, e, h1, rfl, h2⟩
  | 54, _ => obtain ⟨e, h1, h2⟩ := ky_54 D cs A hJ aJ hM aM kw b L xs; exact ⟨_, e, h1, rfl, h2⟩
  | 55, _ => obtain ⟨e, h1, h2⟩ := ky_55 D cs A hJ aJ hM aM kw b L xs; exact ⟨_, e, h1, rfl, h2⟩
  | 56, _ => obtain ⟨e, h1, h2⟩ := ky_56 D cs A hJ aJ hM aM kw b L xs; exact ⟨_, e, h1, rfl, h2⟩
  | 57, _ => obtain ⟨e, h1, h2⟩ := ky_57 D cs A hJ aJ hM aM kw b L xs; exact ⟨_, e, h1, rfl, h2⟩
  | 58, _ => obtain ⟨e, h1, h2⟩ := ky_58 D cs A hJ aJ hM aM kw b L xs; exact ⟨_, e, h1, rfl, h2⟩
  | 59, _ => obtain ⟨e, h1, h2⟩ := ky_59 D cs A hJ aJ hM aM kw b L xs; exact ⟨_, e, h1, rfl, h2⟩
  | 60, _ => obtain ⟨e, h1, h2⟩ := ky_60 D cs A hJ aJ hM aM kw b L xs; exact ⟨_, e, h1, rfl, h2⟩
  | 61, _ => obtain ⟨e, h1, h2⟩ := ky_61 D cs A hJ aJ hM aM kw b L xs; exact ⟨_, e, h1, rfl, h2⟩
  | 62, _ => obtain ⟨e, h1, h2⟩ := ky_62 D cs A hJ aJ hM aM kw b L xs; exact ⟨_, e, h1, rfl, h2⟩
  | 63, _ => obtain ⟨e, h1, h2⟩ := ky_63 D cs A hJ aJ hM aM kw b L xs; exact ⟨_, e, h1, rfl, h2⟩
  | 64, _ => obtain ⟨e, h1, h2⟩ := ky_64 D cs A hJ aJ hM aM kw b L xs; exact ⟨_, e, h1, rfl, h2⟩
  | 65, _ => obtain ⟨e, h1, h2⟩ := ky_65 D cs A hJ aJ hM aM kw b L xs; exact ⟨_, e, h1, rfl, h2⟩
  | 66, _ => obtain ⟨e, h1, h2⟩ := ky_66 D cs A hJ aJ hM aM kw b L xs; exact ⟨_, e, h1, rfl, h2⟩
  | 67, _ => obtain ⟨e, h1, h2⟩ := ky_67 D cs A hJ aJ hM aM kw b L xs; exact ⟨_, e, h1, rfl, h2⟩
  | 68, _ => obtain ⟨e, h1, h2⟩ := ky_68 D cs A hJ aJ hM aM kw b L xs; exact ⟨_, e, h1, rfl, h2⟩
  | 69, _ => obtain ⟨e, h1, h2⟩ := ky_69 D cs A hJ aJ hM aM kw b L xs; exact ⟨_, e, h1, rfl, h2⟩
  | 70, _ => obtain ⟨e, h1, h2⟩ := ky_70 D cs A hJ aJ hM aM kw b L xs; exact ⟨_, e, h1, rfl, h2⟩
  | 71, _ => obtain ⟨e, h1, h2⟩ := ky_71 D cs A hJ aJ hM aM kw b L xs; exact ⟨_, e, h1, rfl, h2⟩
  | 72, _ => obtain ⟨e, h1, h2⟩ := ky_72 D cs A hJ aJ hM aM kw b L xs; exact ⟨_, e, h1, rfl, h2⟩
  | 73, _ => obtain ⟨e, h1, h2⟩ := ky_73 D cs A hJ aJ hM aM kw b L xs; exact ⟨_, e, h1, rfl, h2⟩
  | 74, _ => obtain ⟨e, h1, h2⟩ := ky_74 D cs A hJ aJ hM aM kw b L xs; exact ⟨_, e, h1, rfl, h2⟩
  | 75, _ => obtain ⟨e, h1, h2⟩ := ky_75 D cs A hJ aJ hM aM kw b L xs; exact ⟨_, e, h1, rfl, h2⟩
  | 76, _ => obtain ⟨e, h1, h2⟩ := ky_76 D cs A hJ aJ hM aM kw b L xs; exact ⟨_, e, h1, rfl, h2⟩
  | 77, _ => obtain ⟨e, h1, h2⟩ := ky_77 D cs A hJ aJ hM aM kw b L xs; exact ⟨_, e, h1, rfl, h2⟩
  | 78, _ => obtain ⟨e, h1, h2⟩ := ky_78 D cs A hJ aJ hM aM kw b L xs; exact ⟨_, e, h1, rfl, h2⟩
  | 79, _ => obtain ⟨e, h1, h2⟩ := ky_79 D cs A hJ aJ hM aM kw b L xs; exact ⟨_, e, h1, rfl, h2⟩
  | 80, _ => obtain ⟨e, h1, h2⟩ := ky_80 D cs A hJ aJ hM aM kw b L xs; exact ⟨_, e, h1, rfl, h2⟩
  | 81, _ => obtain ⟨e, h1, h2⟩ := ky_81 D cs A hJ aJ hM aM kw b L xs; exact ⟨_, e, h1, rfl, h2⟩
  | 82, _ => obtain ⟨e, h1, h2⟩ := ky_82 D cs A hJ aJ hM aM kw b L xs; exact ⟨_, e, h1, rfl, h2⟩
  | 83, _ => obtain ⟨e, h1, h2⟩ := ky_83 D cs A hJ aJ hM aM kw b L xs; exact ⟨_, e, h1, rfl, h2⟩
  | 84, _ => obtain ⟨e, h1, h2⟩ := ky_84 D cs A hJ aJ hM aM kw b L xs; exact ⟨_, e, h1, rfl, h2⟩
  | 85, _ => obtain ⟨e, h1, h2⟩ := ky_85 D cs A hJ aJ hM aM kw b L xs; exact ⟨_, e, h1, rfl, h2⟩
  | 86, _ => obtain ⟨e, h1, h2⟩ := ky_86 D cs A hJ aJ hM aM kw b L xs; exact ⟨_, e, h1, rfl, h2⟩
  | 87, _ => obtain ⟨e, h1, h2⟩ := ky_87 D cs A hJ aJ hM aM kw b L xs; exact ⟨_, e, h1, rfl, h2⟩
  | 88, _ => obtain ⟨e, h1, h2⟩ := ky_88 D cs A hJ aJ hM aM kw b L xs; exact ⟨_, e, h1, rfl, h2⟩
  | 89, _ => obtain ⟨e, h1, h2⟩ := ky_89 D cs A hJ aJ hM aM kw b L xs; exact ⟨_, e, h1, rfl, h2⟩
  | 90, _ => obtain ⟨e, h1, h2⟩ := ky_90 D cs A hJ aJ hM aM kw b L xs; exact ⟨_, e, h1, rfl, h2⟩
  | 91, _ => obtain ⟨e, h1, h2⟩ := ky_91 D cs A hJ aJ hM aM kw b L xs; exact ⟨_, e, h1, rfl, h2⟩
  | 92, _ => obtain ⟨e, h1, h2⟩ := ky_92 D cs A hJ aJ hM aM kw b L xs; exact ⟨_, e, h1, rfl, h2⟩
  | 93, _ => obtain ⟨e, h1, h2⟩ := ky_93 D cs A hJ aJ hM aM kw b L xs; exact ⟨_, e, h1, rfl, h2⟩
  | 94, _ => obtain ⟨e, h1, h2⟩ := ky_94 D cs A hJ aJ hM aM kw b L xs; exact ⟨_, e, h1, rfl, h2⟩
  | 95, _ => obtain ⟨e, h1, h2⟩ := ky_95 D cs A hJ aJ hM aM kw b L xs; exact ⟨_, e, h1, rfl, h2⟩
  | 96, _ => obtain ⟨e, h1, h2⟩ := ky_96 D cs A hJ aJ hM aM kw b L xs; exact ⟨_, e, h1, rfl, h2⟩
  | 97, _ => obtain ⟨e, h1, h2⟩ := ky_97 D cs A hJ aJ hM aM kw b L xs; exact ⟨_, e, h1, rfl, h2⟩
  | 98, _ => obtain ⟨e, h1, h2⟩ := ky_98 D cs A hJ aJ hM aM kw b L xs; exact ⟨_, e, h1, rfl, h2⟩
  | 99, _ => obtain ⟨e, h1, h2⟩ := ky_99 D cs A hJ aJ hM aM kw b L xs; exact ⟨_, e, h1, rfl, h2⟩
  | 100, _ => obtain ⟨e, h1, h2⟩ := ky_100 D cs A hJ aJ hM aM kw b L xs; exact ⟨_, e, h1, rfl, h2⟩
  | 101, _ => obtain ⟨e, h1, h2⟩ := ky_101 D cs A hJ aJ hM aM kw b L xs; exact ⟨_, e, h1, rfl, h2⟩
  | 102, _ => obtain ⟨e, h1, h2⟩ := ky_102 D cs A hJ aJ hM aM kw b L xs; exact ⟨_, e, h1, rfl, h2⟩
  | 103, _ => obtain ⟨e, h1, h2⟩ := ky_103 D cs A hJ aJ hM aM kw b L xs; exact ⟨_, e, h1, rfl, h2⟩
  | 104, _ => obtain ⟨e, h1, h2⟩ := ky_104 D cs A hJ aJ hM aM kw b L xs; exact ⟨_, e, h1, rfl, h2⟩
  | 105, _ => obtain ⟨e, h1, h2⟩ := ky_105 D cs A hJ aJ hM aM kw b L xs; exact ⟨_, e, h1, rfl, h2⟩
  | 106, _ => obtain ⟨e, h1, h2⟩ := ky_106 D cs A hJ aJ hM aM kw b L xs; exact ⟨_, e, h1, rfl, h2⟩
  | 107, _ => obtain ⟨e, h1, h2⟩ := ky_107 D cs A hJ aJ hM aM kw b L xs; exact ⟨_, e, h1, rfl, h2⟩
  | 108, _ => obtain ⟨e, h1, h2⟩ := ky_108 D cs A hJ aJ hM aM kw b L xs; exact ⟨_, e, h1, rfl, h2⟩
  | 109, _ => obtain ⟨e, h1, h2⟩ := ky_109 D cs A hJ aJ hM aM kw b L xs; exact ⟨_, e, h1, rfl, h2⟩
  | 110, _ => obtain ⟨e, h1, h2⟩ := ky_110 D cs A hJ aJ hM aM kw b L xs; exact ⟨_, e, h1, rfl, h2⟩
  | 111, _ => obtain ⟨e, h1, h2⟩ := ky_111 D cs A hJ aJ hM aM kw b L xs; exact ⟨_, e, h1, rfl, h2⟩
  | 112, _ => obtain ⟨e, h1, h2⟩ := ky_112 D cs A hJ aJ hM aM kw b L xs; exact ⟨_, e, h1, rfl, h2⟩
  | 113, _ => obtain ⟨e, h1, h2⟩ := ky_113 D cs A hJ aJ hM aM kw b L xs; exact ⟨_, e, h1, rfl, h2⟩
  | 114, _ => obtain ⟨e, h1, h2⟩ := ky_114 D cs A hJ aJ hM aM kw b L xs; exact ⟨_, e, h1, rfl, h2⟩
  | 115, _ => obtain ⟨e, h1, h2⟩ := ky_115 D cs A hJ aJ hM aM kw b L xs; exact ⟨_, e, h1, rfl, h2⟩
  | 116, _ => obtain ⟨e, h1, h2⟩ := ky_116 D cs A hJ aJ hM aM kw b L xs; exact ⟨_, e, h1, rfl, h2⟩
  | 117, _ => obtain ⟨e, h1, h2⟩ := ky_117 D cs A hJ aJ hM aM kw b L xs; exact ⟨_, e, h1, rfl, h2⟩
  | 118, _ => obtain ⟨e, h1, h2⟩ := ky_118 D cs A hJ aJ hM aM kw b L xs; exact ⟨_, e, h1, rfl, h2⟩
  | 119, _ => obtain ⟨e, h1, h2⟩ := ky_119 D cs A hJ aJ hM aM kw b L xs; exact ⟨_, e, h1, rfl, h2⟩
  | 120, _ => obtain ⟨e, h1, h2⟩ := ky_120 D cs A hJ aJ hM aM kw b L xs; exact ⟨_, e, h1, rfl, h2⟩
  | 121, _ => obtain ⟨e, h1, h2⟩ := ky_121 D cs A hJ aJ hM aM kw b L xs; exact ⟨_, e, h1, rfl, h2⟩
  | 122, _ => obtain ⟨e, h1, h2⟩ := ky_122 D cs A hJ aJ hM aM kw b L xs; exact ⟨_, e, h1, rfl, h2⟩
  | 123, _ => obtain ⟨e, h1, h2⟩ := ky_123 D cs A hJ aJ hM aM kw b L xs; exact ⟨_, e, h1, rfl, h2⟩
  | 124, _ => obtain ⟨e, h1, h2⟩ := ky_124 D cs A hJ aJ hM aM kw b L xs; exact ⟨_, e, h1, rfl, h2⟩
  | 125, _ => obtain ⟨e, h1, h2⟩ := ky_125 D cs A hJ aJ hM aM kw b L xs; exact ⟨_, e, h1, rfl, h2⟩
  | 126, _ => obtain ⟨e, h1, h2⟩ := ky_126 D cs A hJ aJ hM aM kw b L xs; exact ⟨_, e, h1, rfl, h2⟩
  | 127, _ => obtain ⟨e, h1, h2⟩ := ky_127 D cs A hJ aJ hM aM kw b L xs; exact ⟨_, e, h1, rfl, h2⟩
  | 128, _ => obtain ⟨e, h1, h2⟩ := ky_128 D cs A hJ aJ hM aM kw b L xs; exact ⟨_, e, h1, rfl, h2⟩
  | 129, _ => obtain ⟨e, h1, h2⟩ := ky_129 D cs A hJ aJ hM aM kw b L xs; exact ⟨_, e, h1, rfl, h2⟩
  | 130, _ => obtain ⟨e, h1, h2⟩ := ky_130 D cs A hJ aJ hM aM kw b L xs; exact ⟨_, e, h1, rfl, h2⟩
  | 131, _ => obtain ⟨e, h1, h2⟩ := ky_131 D cs A hJ aJ hM aM kw b L xs; exact ⟨_, e, h1, rfl, h2⟩
  | 132, _ => obtain ⟨e, h1, h2⟩ := ky_132 D cs A hJ aJ hM aM kw b L xs; exact ⟨_, e, h1, rfl, h2⟩
  | 133, _ => obtain ⟨e, h1, h2⟩ := ky_133 D cs A hJ aJ hM aM kw b L xs; exact ⟨_, e, h1, rfl, h2⟩
  | 134, _ => obtain ⟨e, h1, h2⟩ := ky_134 D cs A hJ aJ hM aM kw b L xs; exact ⟨_, e, h1, rfl, h2⟩
  | 135, _ => obtain ⟨e, h1, h2⟩ := ky_135 D cs A hJ aJ hM aM kw b L xs; exact ⟨_, e, h1, rfl, h2⟩
  | 136, _ => obtain ⟨e, h1, h2⟩ := ky_136 D cs A hJ aJ hM aM kw b L xs; exact ⟨_, e, h1, rfl, h2⟩
  | 137, _ => obtain ⟨e, h1, h2⟩ := ky_137 D cs A hJ aJ hM aM kw b L xs; exact ⟨_, e, h1, rfl, h2⟩
  | 138, _ => obtain ⟨e, h1, h2⟩ := ky_138 D cs A hJ aJ hM aM kw b L xs; exact ⟨_, e, h1, rfl, h2⟩
  | 139, _ => obtain ⟨e, h1, h2⟩ := ky_139 D cs A hJ aJ hM aM kw b L xs; exact ⟨_, e, h1, rfl, h2⟩
  | 140, _ => obtain ⟨e, h1, h2⟩ := ky_140 D cs A hJ aJ hM aM kw b L xs; exact ⟨_, e, h1, rfl, h2⟩
  | 141, _ => obtain ⟨e, h1, h2⟩ := ky_141 D cs A hJ aJ hM aM kw b L xs; exact ⟨_, e, h1, rfl, h2⟩
  | 142, _ => obtain ⟨e, h1, h2⟩ := ky_142 D cs A hJ aJ hM aM kw b L xs; exact ⟨_, e, h1, rfl, h2⟩
  | 143, _ => obtain ⟨e, h1, h2⟩ := ky_143 D cs A hJ aJ hM aM kw b L xs; exact ⟨_, e, h1, rfl, h2⟩
  | 144, _ => obtain ⟨e, h1, h2⟩ := ky_144 D cs A hJ aJ hM aM kw b L xs; exact ⟨_, e, h1, rfl, h2⟩
  | 145, _ => obtain ⟨e, h1, h2⟩ := ky_145 D cs A hJ aJ hM aM kw b L xs; exact ⟨_, e, h1, rfl, h2⟩
  | 146, _ => obtain ⟨e, h1, h2⟩ := ky_146 D cs A hJ aJ hM aM kw b L xs; exact ⟨_, e, h1, rfl, h2⟩
  | 147, _ => obtain ⟨e, h1, h2⟩ := ky_147 D cs A hJ aJ hM aM kw b L xs; exact ⟨_, e, h1, rfl, h2⟩
  | 148, _ => obtain ⟨e, h1, h2⟩ := ky_148 D cs A hJ aJ hM aM kw b L xs; exact ⟨_, e, h1, rfl, h2⟩
  | 149, _ => obtain ⟨e, h1, h2⟩ := ky_149 D cs A hJ aJ hM aM kw b L xs; exact ⟨_, e, h1, rfl, h2⟩
  | 150, _ => obtain ⟨e, h1, h2⟩ := ky_150 D cs A hJ aJ hM aM kw b L xs; exact ⟨_, e, h1, rfl, h2⟩
  | 151, _ => obtain ⟨e, h1, h2⟩ := ky_151 D cs A hJ aJ hM aM kw b L xs; exact ⟨_, e, h1, rfl, h2⟩
  | 152, _ => obtain ⟨e, h1, h2⟩ := ky_152 D cs A hJ aJ hM aM kw b L xs; exact ⟨_, e, h1, rfl, h2⟩
  | 153, _ => obtain ⟨e, h1, h2⟩ := ky_153 D cs A hJ aJ hM aM kw b L xs; exact ⟨_, e, h1, rfl, h2⟩
  | 154, _ => obtain ⟨e, h1, h2⟩ := ky_154 D cs A hJ aJ hM aM kw b L xs; exact ⟨_, e, h1, rfl, h2⟩
  | 155, _ => obtain ⟨e, h1, h2⟩ := ky_155 D cs A hJ aJ hM aM kw b L xs; exact ⟨_, e, h1, rfl, h2⟩
  | 156, _ => obtain ⟨e, h1, h2⟩ := ky_156 D cs A hJ aJ hM aM kw b L xs; exact ⟨_, e, h1, rfl, h2⟩
  | 157, _ => obtain ⟨e, h1, h2⟩ := ky_157 D cs A hJ aJ hM aM kw b L xs; exact ⟨_, e, h1, rfl, h2⟩
  | 158, _ => obtain ⟨e, h1, h2⟩ := ky_158 D cs A hJ aJ hM aM kw b L xs; exact ⟨_, e, h1, rfl, h2⟩
  | 159, _ => obtain ⟨e, h1, h2⟩ := ky_159 D cs A hJ aJ hM aM kw b L xs; exact ⟨_, e, h1, rfl, h2⟩
  | 160, _ => obtain ⟨e, h1, h2⟩ := ky_160 D cs A hJ aJ hM aM kw b L xs; exact ⟨_, e, h1, rfl, h2⟩
  | 161, _ => obtain ⟨e, h1, h2⟩ := ky_161 D cs A hJ aJ hM aM kw b L xs; exact ⟨_, e, h1, rfl, h2⟩
  | 162, _ => obtain ⟨e, h1, h2⟩ := ky_162 D cs A hJ aJ hM aM kw b L xs; exact ⟨_, e, h1, rfl, h2⟩
  | 163, _ => obtain ⟨e, h1, h2⟩ := ky_163 D cs A hJ aJ hM aM kw b L xs; exact ⟨_, e, h1, rfl, h2⟩
  | 164, _ => obtain ⟨e, h1, h2⟩ := ky_164 D cs A hJ aJ hM aM kw b L xs; exact ⟨_, e, h1, rfl, h2⟩
  | 165, _ => obtain ⟨e, h1, h2⟩ := ky_165 D cs A hJ aJ hM aM kw b L xs; exact ⟨_, e, h1, rfl, h2⟩
  | 166, _ => obtain ⟨e, h1, h2⟩ := ky_166 D cs A hJ aJ hM aM kw b L xs; exact ⟨_, e, h1, rfl, h2⟩
  | 167, _ => obtain ⟨e, h1, h2⟩ := ky_167 D cs A hJ aJ hM aM kw b L xs; exact ⟨_, e, h1, rfl, h2⟩
  | 168, _ => obtain ⟨e, h1, h2⟩ := ky_168 D cs A hJ aJ hM aM kw b L xs; exact ⟨_, e, h1, rfl, h2⟩
  | 169, _ => obtain ⟨e, h1, h2⟩ := ky_169 D cs A hJ aJ hM aM kw b L xs; exact ⟨_, e, h1, rfl, h2⟩
  | 170, _ => obtain ⟨e, h1, h2⟩ := ky_170 D cs A hJ aJ hM aM kw b L xs; exact ⟨_, e, h1, rfl, h2⟩
  | k + 171, hk => exact absurd hk (Nat.not_lt.mpr (Nat.le_add_left 171 k))
theorem kix_inj : ∀ i, i < 171 → ∀ j, j < 171 → kix.getD i 0 = kix.getD j 0 → i = j := by decide +kernel
theorem k_world {D : va_G} {cs : Nat → ClassId} {A : Nat → Prop} {hJ : Nat} {aJ : Nat → Nat} {hM : Nat} {aM : Nat → Nat} {kw b L : Nat} {xs : Nat → Int32} {s : State} {H : Heap} {locs : List Loc} (hH : kHp D A s (kWW cs hJ aJ hM aM) H locs) (hL : L ≤ 3072) : jGok (kG D cs A hJ aJ hM aM kw b L xs) ∧ jWd (kG D cs A hJ aJ hM aM kw b L xs) (js0 L xs) H := by
  refine ⟨⟨fun i j hi hj h => ?_, fun k hk => ?_, fun k a hk ha => ?_⟩, fun k q hk => ?_, rfl, fun j hj => ?_, ?_⟩
  · obtain ⟨i1, e1, a1, a2, -⟩ := ky_all D cs A hJ aJ hM aM kw b L xs i hi
    obtain ⟨i2, e2, b1, b2, -⟩ := ky_all D cs A hJ aJ hM aM kw b L xs j hj
    have h9 := hH.2.1.1 i1 i2 _ _ a1 b1 h
    exact kix_inj i hi j hj (by rw [a2, b2, h9])
  · obtain ⟨i1, e1, a1, -, -⟩ := ky_all D cs A hJ aJ hM aM kw b L xs k hk
    exact hH.2.1.2 i1 _ a1
  · have h1 := List.all_eq_true.mp kel_all k (List.mem_range.mpr hk)
    rw [ha] at h1
    simp only [Bool.and_eq_true, decide_eq_true_eq] at h1
    refine ⟨kel k, ?_⟩
    show (ktys cs)[kel k]? = some (cs (kel k), jety a)
    rw [ktys_at cs h1.2, h1.1]
  · obtain ⟨h1, rfl⟩ := jW_some hk
    obtain ⟨i1, e1, a1, -, a3⟩ := ky_all D cs A hJ aJ hM aM kw b L xs k h1
    exact a3 H (hH.1 i1 _ a1)
  · show (xs ((j : Int)).toNat).toInt = (xs j).toInt
    rw [Int.toNat_natCast]
  · show L < 2147483648
    omega
