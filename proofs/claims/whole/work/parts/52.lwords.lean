theorem wq_0 : Cond.initialized "MemberChooserLaw" ∈ zTb := zz_in 0 (by decide +kernel) rfl
theorem wq_168 : Cond.methodLink "MemberChooserLaw" 50 ⟨"MemberChooser", "join", "(II)Z"⟩ ∈ zTb := zz_in 168 (by decide +kernel) rfl
theorem wq_169 : Cond.instanceMethod ⟨"MemberChooser", "join", "(II)Z"⟩ ∈ zTb := zz_in 169 (by decide +kernel) rfl
theorem wq_170 : Cond.selects "MemberChooser" ⟨"MemberChooser", "join", "(II)Z"⟩ ⟨"MemberChooser", "join", "(II)Z"⟩ ∈ zTb := zz_in 170 (by decide +kernel) rfl
theorem wq_171 : Cond.code ⟨"MemberChooser", "join", "(II)Z"⟩ prog_1_method_4_code 3 (Option.some .boolean) ∈ zTb := zz_in 171 (by decide +kernel) rfl
theorem wq_207 : Cond.methodLink "MemberChooserLaw" 61 ⟨"MemberChooser", "subtype", "(II)Z"⟩ ∈ zTb := zz_in 207 (by decide +kernel) rfl
theorem wq_208 : Cond.instanceMethod ⟨"MemberChooser", "subtype", "(II)Z"⟩ ∈ zTb := zz_in 208 (by decide +kernel) rfl
theorem wq_209 : Cond.selects "MemberChooser" ⟨"MemberChooser", "subtype", "(II)Z"⟩ ⟨"MemberChooser", "subtype", "(II)Z"⟩ ∈ zTb := zz_in 209 (by decide +kernel) rfl
theorem wq_210 : Cond.code ⟨"MemberChooser", "subtype", "(II)Z"⟩ prog_1_method_6_code 3 (Option.some .boolean) ∈ zTb := zz_in 210 (by decide +kernel) rfl
theorem wq_212 : Cond.methodLink "MemberChooserLaw" 65 ⟨"MemberChooser", "meant", "(III)I"⟩ ∈ zTb := zz_in 212 (by decide +kernel) rfl
theorem wq_213 : Cond.instanceMethod ⟨"MemberChooser", "meant", "(III)I"⟩ ∈ zTb := zz_in 213 (by decide +kernel) rfl
theorem wq_214 : Cond.selects "MemberChooser" ⟨"MemberChooser", "meant", "(III)I"⟩ ⟨"MemberChooser", "meant", "(III)I"⟩ ∈ zTb := zz_in 214 (by decide +kernel) rfl
theorem wq_215 : Cond.code ⟨"MemberChooser", "meant", "(III)I"⟩ prog_1_method_7_code 4 (Option.some .int) ∈ zTb := zz_in 215 (by decide +kernel) rfl
theorem wq_247 : Cond.methodLink "MemberChooserLaw" 74 ⟨"MemberChooser", "look", "(II)I"⟩ ∈ zTb := zz_in 247 (by decide +kernel) rfl
theorem wq_248 : Cond.instanceMethod ⟨"MemberChooser", "look", "(II)I"⟩ ∈ zTb := zz_in 248 (by decide +kernel) rfl
theorem wq_249 : Cond.selects "MemberChooser" ⟨"MemberChooser", "look", "(II)I"⟩ ⟨"MemberChooser", "look", "(II)I"⟩ ∈ zTb := zz_in 249 (by decide +kernel) rfl
theorem wq_250 : Cond.code ⟨"MemberChooser", "look", "(II)I"⟩ prog_1_method_9_code 3 (Option.some .int) ∈ zTb := zz_in 250 (by decide +kernel) rfl
theorem wq_259 : Cond.methodLink "MemberChooserLaw" 79 ⟨"MemberChooser", "above", "(II)I"⟩ ∈ zTb := zz_in 259 (by decide +kernel) rfl
theorem wq_260 : Cond.instanceMethod ⟨"MemberChooser", "above", "(II)I"⟩ ∈ zTb := zz_in 260 (by decide +kernel) rfl
theorem wq_261 : Cond.selects "MemberChooser" ⟨"MemberChooser", "above", "(II)I"⟩ ⟨"MemberChooser", "above", "(II)I"⟩ ∈ zTb := zz_in 261 (by decide +kernel) rfl
theorem wq_262 : Cond.code ⟨"MemberChooser", "above", "(II)I"⟩ prog_1_method_10_code 3 (Option.some .int) ∈ zTb := zz_in 262 (by decide +kernel) rfl
theorem wq_273 : Cond.methodLink "MemberChooserLaw" 83 ⟨"MemberChooser", "count", "(I)I"⟩ ∈ zTb := zz_in 273 (by decide +kernel) rfl
theorem wq_274 : Cond.instanceMethod ⟨"MemberChooser", "count", "(I)I"⟩ ∈ zTb := zz_in 274 (by decide +kernel) rfl
theorem wq_275 : Cond.selects "MemberChooser" ⟨"MemberChooser", "count", "(I)I"⟩ ⟨"MemberChooser", "count", "(I)I"⟩ ∈ zTb := zz_in 275 (by decide +kernel) rfl
theorem wq_276 : Cond.code ⟨"MemberChooser", "count", "(I)I"⟩ prog_1_method_11_code 2 (Option.some .int) ∈ zTb := zz_in 276 (by decide +kernel) rfl
theorem wq_277 : Cond.methodLink "MemberChooserLaw" 37 ⟨"MemberChooserLaw", "type", "(LMemberChooser;I[J)I"⟩ ∈ zTb := zz_in 277 (by decide +kernel) rfl
theorem wq_278 : Cond.static ⟨"MemberChooserLaw", "type", "(LMemberChooser;I[J)I"⟩ ∈ zTb := zz_in 278 (by decide +kernel) rfl
theorem wq_279 : Cond.codeWith ⟨"MemberChooserLaw", "type", "(LMemberChooser;I[J)I"⟩ method_3_code 4 (Option.some .int) [(0, 9, 12, 13), (0, 9, 15, 15)] ∈ zTb := zz_in 279 (by decide +kernel) rfl
theorem wq_383 : Cond.methodLink "MemberChooserLaw" 46 ⟨"MemberChooserLaw", "face", "(LMemberChooser;[J)I"⟩ ∈ zTb := zz_in 383 (by decide +kernel) rfl
theorem wq_384 : Cond.static ⟨"MemberChooserLaw", "face", "(LMemberChooser;[J)I"⟩ ∈ zTb := zz_in 384 (by decide +kernel) rfl
theorem wq_385 : Cond.codeWith ⟨"MemberChooserLaw", "face", "(LMemberChooser;[J)I"⟩ method_4_code 3 (Option.some .int) [(0, 8, 11, 15)] ∈ zTb := zz_in 385 (by decide +kernel) rfl
theorem wq_390 : Cond.methodLink "MemberChooserLaw" 57 ⟨"MemberChooserLaw", "member", "(LMemberChooser;IIIJZ[J)I"⟩ ∈ zTb := zz_in 390 (by decide +kernel) rfl
theorem wq_391 : Cond.static ⟨"MemberChooserLaw", "member", "(LMemberChooser;IIIJZ[J)I"⟩ ∈ zTb := zz_in 391 (by decide +kernel) rfl
theorem wq_392 : Cond.codeWith ⟨"MemberChooserLaw", "member", "(LMemberChooser;IIIJZ[J)I"⟩ method_5_code 9 (Option.some .int) [(0, 16, 19, 13), (0, 16, 23, 15)] ∈ zTb := zz_in 392 (by decide +kernel) rfl
theorem wq_434 : Cond.methodLink "MemberChooserLaw" 70 ⟨"MemberChooserLaw", "call", "(LMemberChooser;IIIJ[J)I"⟩ ∈ zTb := zz_in 434 (by decide +kernel) rfl
theorem wq_435 : Cond.static ⟨"MemberChooserLaw", "call", "(LMemberChooser;IIIJ[J)I"⟩ ∈ zTb := zz_in 435 (by decide +kernel) rfl
theorem wq_436 : Cond.codeWith ⟨"MemberChooserLaw", "call", "(LMemberChooser;IIIJ[J)I"⟩ method_6_code 8 (Option.some .int) [(0, 14, 17, 13), (0, 14, 21, 29), (0, 14, 25, 31)] ∈ zTb := zz_in 436 (by decide +kernel) rfl
theorem wq_636 : Cond.methodLink "MemberChooserLaw" 43 ⟨"MemberChooserModel", "thrown", "()I"⟩ ∈ zTb := zz_in 636 (by decide +kernel) rfl
theorem wq_637 : Cond.instanceMethod ⟨"MemberChooserModel", "thrown", "()I"⟩ ∈ zTb := zz_in 637 (by decide +kernel) rfl
theorem wq_638 : Cond.selects "MemberChooserModel" ⟨"MemberChooserModel", "thrown", "()I"⟩ ⟨"MemberChooserModel", "thrown", "()I"⟩ ∈ zTb := zz_in 638 (by decide +kernel) rfl
theorem wq_639 : Cond.code ⟨"MemberChooserModel", "thrown", "()I"⟩ prog_7_method_2_code 1 (Option.some .int) ∈ zTb := zz_in 639 (by decide +kernel) rfl
theorem wq_640 : Cond.methodLink "MemberChooserLaw" 42 ⟨"MemberChooserModel", "type", "(I)I"⟩ ∈ zTb := zz_in 640 (by decide +kernel) rfl
theorem wq_641 : Cond.instanceMethod ⟨"MemberChooserModel", "type", "(I)I"⟩ ∈ zTb := zz_in 641 (by decide +kernel) rfl
theorem wq_642 : Cond.selects "MemberChooserModel" ⟨"MemberChooserModel", "type", "(I)I"⟩ ⟨"MemberChooserModel", "type", "(I)I"⟩ ∈ zTb := zz_in 642 (by decide +kernel) rfl
theorem wq_643 : Cond.code ⟨"MemberChooserModel", "type", "(I)I"⟩ prog_7_method_6_code 2 (Option.some .int) ∈ zTb := zz_in 643 (by decide +kernel) rfl
theorem wq_652 : Cond.methodLink "MemberChooserLaw" 49 ⟨"MemberChooserModel", "face", "()I"⟩ ∈ zTb := zz_in 652 (by decide +kernel) rfl
theorem wq_653 : Cond.instanceMethod ⟨"MemberChooserModel", "face", "()I"⟩ ∈ zTb := zz_in 653 (by decide +kernel) rfl
theorem wq_654 : Cond.selects "MemberChooserModel" ⟨"MemberChooserModel", "face", "()I"⟩ ⟨"MemberChooserModel", "face", "()I"⟩ ∈ zTb := zz_in 654 (by decide +kernel) rfl
theorem wq_655 : Cond.code ⟨"MemberChooserModel", "face", "()I"⟩ prog_7_method_7_code 1 (Option.some .int) ∈ zTb := zz_in 655 (by decide +kernel) rfl
theorem wq_656 : Cond.methodLink "MemberChooserLaw" 64 ⟨"MemberChooserModel", "subtype", "(II)Z"⟩ ∈ zTb := zz_in 656 (by decide +kernel) rfl
theorem wq_657 : Cond.instanceMethod ⟨"MemberChooserModel", "subtype", "(II)Z"⟩ ∈ zTb := zz_in 657 (by decide +kernel) rfl
theorem wq_658 : Cond.selects "MemberChooserModel" ⟨"MemberChooserModel", "subtype", "(II)Z"⟩ ⟨"MemberChooserModel", "subtype", "(II)Z"⟩ ∈ zTb := zz_in 658 (by decide +kernel) rfl
theorem wq_659 : Cond.code ⟨"MemberChooserModel", "subtype", "(II)Z"⟩ prog_7_method_10_code 3 (Option.some .boolean) ∈ zTb := zz_in 659 (by decide +kernel) rfl
theorem wq_672 : Cond.methodLink "MemberChooserLaw" 54 ⟨"MemberChooserModel", "join", "(II)Z"⟩ ∈ zTb := zz_in 672 (by decide +kernel) rfl
theorem wq_673 : Cond.instanceMethod ⟨"MemberChooserModel", "join", "(II)Z"⟩ ∈ zTb := zz_in 673 (by decide +kernel) rfl
theorem wq_674 : Cond.selects "MemberChooserModel" ⟨"MemberChooserModel", "join", "(II)Z"⟩ ⟨"MemberChooserModel", "join", "(II)Z"⟩ ∈ zTb := zz_in 674 (by decide +kernel) rfl
theorem wq_675 : Cond.code ⟨"MemberChooserModel", "join", "(II)Z"⟩ prog_7_method_11_code 4 (Option.some .boolean) ∈ zTb := zz_in 675 (by decide +kernel) rfl
theorem wq_676 : Cond.methodLink "MemberChooserLaw" 60 ⟨"MemberChooserModel", "member", "(IIIJZ)I"⟩ ∈ zTb := zz_in 676 (by decide +kernel) rfl
theorem wq_677 : Cond.instanceMethod ⟨"MemberChooserModel", "member", "(IIIJZ)I"⟩ ∈ zTb := zz_in 677 (by decide +kernel) rfl
theorem wq_678 : Cond.selects "MemberChooserModel" ⟨"MemberChooserModel", "member", "(IIIJZ)I"⟩ ⟨"MemberChooserModel", "member", "(IIIJZ)I"⟩ ∈ zTb := zz_in 678 (by decide +kernel) rfl
theorem wq_679 : Cond.code ⟨"MemberChooserModel", "member", "(IIIJZ)I"⟩ prog_7_method_14_code 12 (Option.some .int) ∈ zTb := zz_in 679 (by decide +kernel) rfl
theorem wq_692 : Cond.methodLink "MemberChooserLaw" 69 ⟨"MemberChooserModel", "meant", "(III)I"⟩ ∈ zTb := zz_in 692 (by decide +kernel) rfl
theorem wq_693 : Cond.instanceMethod ⟨"MemberChooserModel", "meant", "(III)I"⟩ ∈ zTb := zz_in 693 (by decide +kernel) rfl
theorem wq_694 : Cond.selects "MemberChooserModel" ⟨"MemberChooserModel", "meant", "(III)I"⟩ ⟨"MemberChooserModel", "meant", "(III)I"⟩ ∈ zTb := zz_in 694 (by decide +kernel) rfl
theorem wq_695 : Cond.code ⟨"MemberChooserModel", "meant", "(III)I"⟩ prog_7_method_21_code 4 (Option.some .int) ∈ zTb := zz_in 695 (by decide +kernel) rfl
theorem wq_716 : Cond.methodLink "MemberChooserLaw" 73 ⟨"MemberChooserModel", "call", "(IIIJ)I"⟩ ∈ zTb := zz_in 716 (by decide +kernel) rfl
theorem wq_717 : Cond.instanceMethod ⟨"MemberChooserModel", "call", "(IIIJ)I"⟩ ∈ zTb := zz_in 717 (by decide +kernel) rfl
theorem wq_718 : Cond.selects "MemberChooserModel" ⟨"MemberChooserModel", "call", "(IIIJ)I"⟩ ⟨"MemberChooserModel", "call", "(IIIJ)I"⟩ ∈ zTb := zz_in 718 (by decide +kernel) rfl
theorem wq_719 : Cond.code ⟨"MemberChooserModel", "call", "(IIIJ)I"⟩ prog_7_method_27_code 12 (Option.some .int) ∈ zTb := zz_in 719 (by decide +kernel) rfl
theorem wq_744 : Cond.methodLink "MemberChooserLaw" 78 ⟨"MemberChooserModel", "look", "(II)I"⟩ ∈ zTb := zz_in 744 (by decide +kernel) rfl
theorem wq_745 : Cond.instanceMethod ⟨"MemberChooserModel", "look", "(II)I"⟩ ∈ zTb := zz_in 745 (by decide +kernel) rfl
theorem wq_746 : Cond.selects "MemberChooserModel" ⟨"MemberChooserModel", "look", "(II)I"⟩ ⟨"MemberChooserModel", "look", "(II)I"⟩ ∈ zTb := zz_in 746 (by decide +kernel) rfl
theorem wq_747 : Cond.code ⟨"MemberChooserModel", "look", "(II)I"⟩ prog_7_method_29_code 3 (Option.some .int) ∈ zTb := zz_in 747 (by decide +kernel) rfl
theorem wq_748 : Cond.methodLink "MemberChooserLaw" 82 ⟨"MemberChooserModel", "above", "(II)I"⟩ ∈ zTb := zz_in 748 (by decide +kernel) rfl
theorem wq_749 : Cond.instanceMethod ⟨"MemberChooserModel", "above", "(II)I"⟩ ∈ zTb := zz_in 749 (by decide +kernel) rfl
theorem wq_750 : Cond.selects "MemberChooserModel" ⟨"MemberChooserModel", "above", "(II)I"⟩ ⟨"MemberChooserModel", "above", "(II)I"⟩ ∈ zTb := zz_in 750 (by decide +kernel) rfl
theorem wq_751 : Cond.code ⟨"MemberChooserModel", "above", "(II)I"⟩ prog_7_method_30_code 5 (Option.some .int) ∈ zTb := zz_in 751 (by decide +kernel) rfl
theorem wq_752 : Cond.methodLink "MemberChooserLaw" 86 ⟨"MemberChooserModel", "count", "(I)I"⟩ ∈ zTb := zz_in 752 (by decide +kernel) rfl
theorem wq_753 : Cond.instanceMethod ⟨"MemberChooserModel", "count", "(I)I"⟩ ∈ zTb := zz_in 753 (by decide +kernel) rfl
theorem wq_754 : Cond.selects "MemberChooserModel" ⟨"MemberChooserModel", "count", "(I)I"⟩ ⟨"MemberChooserModel", "count", "(I)I"⟩ ∈ zTb := zz_in 754 (by decide +kernel) rfl
theorem wq_755 : Cond.code ⟨"MemberChooserModel", "count", "(I)I"⟩ prog_7_method_31_code 2 (Option.some .int) ∈ zTb := zz_in 755 (by decide +kernel) rfl
theorem wq_756 : Cond.constantLong "MemberChooserLaw" 55 4294967295 ∈ zTb := zz_in 756 (by decide +kernel) rfl
theorem d_L_law_0 : decode code 0 = .ok (.new 8, 3) := by decide +kernel
theorem d_L_law_3 : decode code 3 = .ok (.dup, 1) := by decide +kernel
theorem d_L_law_4 : decode code 4 = .ok (.invokespecial 33, 3) := by decide +kernel
theorem d_L_law_7 : decode code 7 = .ok (.astore_n 1, 1) := by decide +kernel
theorem d_L_law_8 : decode code 8 = .ok (.new 34, 3) := by decide +kernel
theorem d_L_law_11 : decode code 11 = .ok (.dup, 1) := by decide +kernel
theorem d_L_law_12 : decode code 12 = .ok (.invokespecial 36, 3) := by decide +kernel
theorem d_L_law_15 : decode code 15 = .ok (.astore_n 2, 1) := by decide +kernel
theorem d_L_law_16 : decode code 16 = .ok (.iconst 1, 1) := by decide +kernel
theorem d_L_law_17 : decode code 17 = .ok (.newarray .long, 2) := by decide +kernel
theorem d_L_law_19 : decode code 19 = .ok (.astore_n 3, 1) := by decide +kernel
theorem d_L_law_20 : decode code 20 = .ok (.iconst 0, 1) := by decide +kernel
theorem d_L_law_21 : decode code 21 = .ok (.istore 4, 2) := by decide +kernel
theorem d_L_law_23 : decode code 23 = .ok (.iload 4, 2) := by decide +kernel
theorem d_L_law_25 : decode code 25 = .ok (.aload_n 0, 1) := by decide +kernel
theorem d_L_law_26 : decode code 26 = .ok (.arraylength, 1) := by decide +kernel
theorem d_L_law_27 : decode code 27 = .ok (.bipush 7, 2) := by decide +kernel
theorem d_L_law_29 : decode code 29 = .ok (.isub, 1) := by decide +kernel
theorem d_L_law_30 : decode code 30 = .ok (.if_icmp .gt 672, 3) := by decide +kernel
theorem d_L_law_33 : decode code 33 = .ok (.aload_n 0, 1) := by decide +kernel
theorem d_L_law_34 : decode code 34 = .ok (.iload 4, 2) := by decide +kernel
theorem d_L_law_36 : decode code 36 = .ok (.iaload, 1) := by decide +kernel
theorem d_L_law_37 : decode code 37 = .ok (.bipush 15, 2) := by decide +kernel
theorem d_L_law_39 : decode code 39 = .ok (.iand, 1) := by decide +kernel
theorem d_L_law_40 : decode code 40 = .ok (.tableswitch 656 0 9 #[56, 112, 156, 193, 347, 384, 433, 557, 594, 631], 56) := by decide +kernel
theorem d_L_law_96 : decode code 96 = .ok (.aload_n 1, 1) := by decide +kernel
theorem d_L_law_97 : decode code 97 = .ok (.aload_n 0, 1) := by decide +kernel
theorem d_L_law_98 : decode code 98 = .ok (.iload 4, 2) := by decide +kernel
theorem d_L_law_100 : decode code 100 = .ok (.iconst 1, 1) := by decide +kernel
theorem d_L_law_101 : decode code 101 = .ok (.iadd, 1) := by decide +kernel
theorem d_L_law_102 : decode code 102 = .ok (.iaload, 1) := by decide +kernel
theorem d_L_law_103 : decode code 103 = .ok (.aload_n 3, 1) := by decide +kernel
theorem d_L_law_104 : decode code 104 = .ok (.invokestatic 37, 3) := by decide +kernel
theorem d_L_law_107 : decode code 107 = .ok (.istore 5, 2) := by decide +kernel
theorem d_L_law_109 : decode code 109 = .ok (.aload_n 2, 1) := by decide +kernel
theorem d_L_law_110 : decode code 110 = .ok (.aload_n 0, 1) := by decide +kernel
theorem d_L_law_111 : decode code 111 = .ok (.iload 4, 2) := by decide +kernel
theorem d_L_law_113 : decode code 113 = .ok (.iconst 1, 1) := by decide +kernel
theorem d_L_law_114 : decode code 114 = .ok (.iadd, 1) := by decide +kernel
theorem d_L_law_115 : decode code 115 = .ok (.iaload, 1) := by decide +kernel
theorem d_L_law_116 : decode code 116 = .ok (.invokevirtual 42, 3) := by decide +kernel
theorem d_L_law_119 : decode code 119 = .ok (.istore 6, 2) := by decide +kernel
theorem d_L_law_121 : decode code 121 = .ok (.aload_n 2, 1) := by decide +kernel
theorem d_L_law_122 : decode code 122 = .ok (.invokevirtual 43, 3) := by decide +kernel
theorem d_L_law_125 : decode code 125 = .ok (.iload 5, 2) := by decide +kernel
theorem d_L_law_127 : decode code 127 = .ok (.if_icmp .eq 5, 3) := by decide +kernel
theorem d_L_law_130 : decode code 130 = .ok (.iconst 0, 1) := by decide +kernel
theorem d_L_law_131 : decode code 131 = .ok (.ireturn, 1) := by decide +kernel
theorem d_L_law_132 : decode code 132 = .ok (.iload 5, 2) := by decide +kernel
theorem d_L_law_134 : decode code 134 = .ok (.ifCond .ne 15, 3) := by decide +kernel
theorem d_L_law_137 : decode code 137 = .ok (.aload_n 3, 1) := by decide +kernel
theorem d_L_law_138 : decode code 138 = .ok (.iconst 0, 1) := by decide +kernel
theorem d_L_law_139 : decode code 139 = .ok (.laload, 1) := by decide +kernel
theorem d_L_law_140 : decode code 140 = .ok (.iload 6, 2) := by decide +kernel
theorem d_L_law_142 : decode code 142 = .ok (.i2l, 1) := by decide +kernel
theorem d_L_law_143 : decode code 143 = .ok (.lcmp, 1) := by decide +kernel
theorem d_L_law_144 : decode code 144 = .ok (.ifCond .eq 5, 3) := by decide +kernel
theorem d_L_law_147 : decode code 147 = .ok (.iconst 0, 1) := by decide +kernel
theorem d_L_law_148 : decode code 148 = .ok (.ireturn, 1) := by decide +kernel
theorem d_L_law_149 : decode code 149 = .ok (.goto 547, 3) := by decide +kernel
theorem d_L_law_152 : decode code 152 = .ok (.aload_n 1, 1) := by decide +kernel
theorem d_L_law_153 : decode code 153 = .ok (.aload_n 3, 1) := by decide +kernel
theorem d_L_law_154 : decode code 154 = .ok (.invokestatic 46, 3) := by decide +kernel
theorem d_L_law_157 : decode code 157 = .ok (.istore 5, 2) := by decide +kernel
theorem d_L_law_159 : decode code 159 = .ok (.aload_n 2, 1) := by decide +kernel
theorem d_L_law_160 : decode code 160 = .ok (.invokevirtual 49, 3) := by decide +kernel
theorem d_L_law_163 : decode code 163 = .ok (.istore 6, 2) := by decide +kernel
theorem d_L_law_165 : decode code 165 = .ok (.aload_n 2, 1) := by decide +kernel
theorem d_L_law_166 : decode code 166 = .ok (.invokevirtual 43, 3) := by decide +kernel
theorem d_L_law_169 : decode code 169 = .ok (.iload 5, 2) := by decide +kernel
theorem d_L_law_171 : decode code 171 = .ok (.if_icmp .eq 5, 3) := by decide +kernel
theorem d_L_law_174 : decode code 174 = .ok (.iconst 0, 1) := by decide +kernel
theorem d_L_law_175 : decode code 175 = .ok (.ireturn, 1) := by decide +kernel
theorem d_L_law_176 : decode code 176 = .ok (.iload 5, 2) := by decide +kernel
theorem d_L_law_178 : decode code 178 = .ok (.ifCond .ne 15, 3) := by decide +kernel
theorem d_L_law_181 : decode code 181 = .ok (.aload_n 3, 1) := by decide +kernel
theorem d_L_law_182 : decode code 182 = .ok (.iconst 0, 1) := by decide +kernel
theorem d_L_law_183 : decode code 183 = .ok (.laload, 1) := by decide +kernel
theorem d_L_law_184 : decode code 184 = .ok (.iload 6, 2) := by decide +kernel
theorem d_L_law_186 : decode code 186 = .ok (.i2l, 1) := by decide +kernel
theorem d_L_law_187 : decode code 187 = .ok (.lcmp, 1) := by decide +kernel
theorem d_L_law_188 : decode code 188 = .ok (.ifCond .eq 5, 3) := by decide +kernel
theorem d_L_law_191 : decode code 191 = .ok (.iconst 0, 1) := by decide +kernel
theorem d_L_law_192 : decode code 192 = .ok (.ireturn, 1) := by decide +kernel
theorem d_L_law_193 : decode code 193 = .ok (.goto 503, 3) := by decide +kernel
theorem d_L_law_196 : decode code 196 = .ok (.aload_n 1, 1) := by decide +kernel
theorem d_L_law_197 : decode code 197 = .ok (.aload_n 0, 1) := by decide +kernel
theorem d_L_law_198 : decode code 198 = .ok (.iload 4, 2) := by decide +kernel
theorem d_L_law_200 : decode code 200 = .ok (.iconst 1, 1) := by decide +kernel
theorem d_L_law_201 : decode code 201 = .ok (.iadd, 1) := by decide +kernel
theorem d_L_law_202 : decode code 202 = .ok (.iaload, 1) := by decide +kernel
theorem d_L_law_203 : decode code 203 = .ok (.aload_n 0, 1) := by decide +kernel
theorem d_L_law_204 : decode code 204 = .ok (.iload 4, 2) := by decide +kernel
theorem d_L_law_206 : decode code 206 = .ok (.iconst 2, 1) := by decide +kernel
theorem d_L_law_207 : decode code 207 = .ok (.iadd, 1) := by decide +kernel
theorem d_L_law_208 : decode code 208 = .ok (.iaload, 1) := by decide +kernel
theorem d_L_law_209 : decode code 209 = .ok (.invokevirtual 50, 3) := by decide +kernel
theorem d_L_law_212 : decode code 212 = .ok (.aload_n 2, 1) := by decide +kernel
theorem d_L_law_213 : decode code 213 = .ok (.aload_n 0, 1) := by decide +kernel
theorem d_L_law_214 : decode code 214 = .ok (.iload 4, 2) := by decide +kernel
theorem d_L_law_216 : decode code 216 = .ok (.iconst 1, 1) := by decide +kernel
theorem d_L_law_217 : decode code 217 = .ok (.iadd, 1) := by decide +kernel
theorem d_L_law_218 : decode code 218 = .ok (.iaload, 1) := by decide +kernel
theorem d_L_law_219 : decode code 219 = .ok (.aload_n 0, 1) := by decide +kernel
theorem d_L_law_220 : decode code 220 = .ok (.iload 4, 2) := by decide +kernel
theorem d_L_law_222 : decode code 222 = .ok (.iconst 2, 1) := by decide +kernel
theorem d_L_law_223 : decode code 223 = .ok (.iadd, 1) := by decide +kernel
theorem d_L_law_224 : decode code 224 = .ok (.iaload, 1) := by decide +kernel
theorem d_L_law_225 : decode code 225 = .ok (.invokevirtual 54, 3) := by decide +kernel
theorem d_L_law_228 : decode code 228 = .ok (.if_icmp .eq 468, 3) := by decide +kernel
theorem d_L_law_231 : decode code 231 = .ok (.iconst 0, 1) := by decide +kernel
theorem d_L_law_232 : decode code 232 = .ok (.ireturn, 1) := by decide +kernel
theorem d_L_law_233 : decode code 233 = .ok (.aload_n 1, 1) := by decide +kernel
theorem d_L_law_234 : decode code 234 = .ok (.aload_n 0, 1) := by decide +kernel
theorem d_L_law_235 : decode code 235 = .ok (.iload 4, 2) := by decide +kernel
theorem d_L_law_237 : decode code 237 = .ok (.iconst 1, 1) := by decide +kernel
theorem d_L_law_238 : decode code 238 = .ok (.iadd, 1) := by decide +kernel
theorem d_L_law_239 : decode code 239 = .ok (.iaload, 1) := by decide +kernel
theorem d_L_law_240 : decode code 240 = .ok (.aload_n 0, 1) := by decide +kernel
theorem d_L_law_241 : decode code 241 = .ok (.iload 4, 2) := by decide +kernel
theorem d_L_law_243 : decode code 243 = .ok (.iconst 2, 1) := by decide +kernel
theorem d_L_law_244 : decode code 244 = .ok (.iadd, 1) := by decide +kernel
theorem d_L_law_245 : decode code 245 = .ok (.iaload, 1) := by decide +kernel
theorem d_L_law_246 : decode code 246 = .ok (.aload_n 0, 1) := by decide +kernel
theorem d_L_law_247 : decode code 247 = .ok (.iload 4, 2) := by decide +kernel
theorem d_L_law_249 : decode code 249 = .ok (.iconst 3, 1) := by decide +kernel
theorem d_L_law_250 : decode code 250 = .ok (.iadd, 1) := by decide +kernel
theorem d_L_law_251 : decode code 251 = .ok (.iaload, 1) := by decide +kernel
theorem d_L_law_252 : decode code 252 = .ok (.aload_n 0, 1) := by decide +kernel
theorem d_L_law_253 : decode code 253 = .ok (.iload 4, 2) := by decide +kernel
theorem d_L_law_255 : decode code 255 = .ok (.iconst 4, 1) := by decide +kernel
theorem d_L_law_256 : decode code 256 = .ok (.iadd, 1) := by decide +kernel
theorem d_L_law_257 : decode code 257 = .ok (.iaload, 1) := by decide +kernel
theorem d_L_law_258 : decode code 258 = .ok (.i2l, 1) := by decide +kernel
theorem d_L_law_259 : decode code 259 = .ok (.bipush 32, 2) := by decide +kernel
theorem d_L_law_261 : decode code 261 = .ok (.lshl, 1) := by decide +kernel
theorem d_L_law_262 : decode code 262 = .ok (.aload_n 0, 1) := by decide +kernel
theorem d_L_law_263 : decode code 263 = .ok (.iload 4, 2) := by decide +kernel
theorem d_L_law_265 : decode code 265 = .ok (.iconst 5, 1) := by decide +kernel
theorem d_L_law_266 : decode code 266 = .ok (.iadd, 1) := by decide +kernel
theorem d_L_law_267 : decode code 267 = .ok (.iaload, 1) := by decide +kernel
theorem d_L_law_268 : decode code 268 = .ok (.i2l, 1) := by decide +kernel
theorem d_L_law_269 : decode code 269 = .ok (.ldc2_w 55, 3) := by decide +kernel
theorem d_L_law_272 : decode code 272 = .ok (.land, 1) := by decide +kernel
theorem d_L_law_273 : decode code 273 = .ok (.lor, 1) := by decide +kernel
theorem d_L_law_274 : decode code 274 = .ok (.aload_n 0, 1) := by decide +kernel
theorem d_L_law_275 : decode code 275 = .ok (.iload 4, 2) := by decide +kernel
theorem d_L_law_277 : decode code 277 = .ok (.bipush 6, 2) := by decide +kernel
theorem d_L_law_279 : decode code 279 = .ok (.iadd, 1) := by decide +kernel
theorem d_L_law_280 : decode code 280 = .ok (.iaload, 1) := by decide +kernel
theorem d_L_law_281 : decode code 281 = .ok (.ifCond .eq 7, 3) := by decide +kernel
theorem d_L_law_284 : decode code 284 = .ok (.iconst 1, 1) := by decide +kernel
theorem d_L_law_285 : decode code 285 = .ok (.goto 4, 3) := by decide +kernel
theorem d_L_law_288 : decode code 288 = .ok (.iconst 0, 1) := by decide +kernel
theorem d_L_law_289 : decode code 289 = .ok (.aload_n 3, 1) := by decide +kernel
theorem d_L_law_290 : decode code 290 = .ok (.invokestatic 57, 3) := by decide +kernel
theorem d_L_law_293 : decode code 293 = .ok (.istore 5, 2) := by decide +kernel
theorem d_L_law_295 : decode code 295 = .ok (.aload_n 2, 1) := by decide +kernel
theorem d_L_law_296 : decode code 296 = .ok (.aload_n 0, 1) := by decide +kernel
theorem d_L_law_297 : decode code 297 = .ok (.iload 4, 2) := by decide +kernel
theorem d_L_law_299 : decode code 299 = .ok (.iconst 1, 1) := by decide +kernel
theorem d_L_law_300 : decode code 300 = .ok (.iadd, 1) := by decide +kernel
theorem d_L_law_301 : decode code 301 = .ok (.iaload, 1) := by decide +kernel
theorem d_L_law_302 : decode code 302 = .ok (.aload_n 0, 1) := by decide +kernel
theorem d_L_law_303 : decode code 303 = .ok (.iload 4, 2) := by decide +kernel
theorem d_L_law_305 : decode code 305 = .ok (.iconst 2, 1) := by decide +kernel
theorem d_L_law_306 : decode code 306 = .ok (.iadd, 1) := by decide +kernel
theorem d_L_law_307 : decode code 307 = .ok (.iaload, 1) := by decide +kernel
theorem d_L_law_308 : decode code 308 = .ok (.aload_n 0, 1) := by decide +kernel
theorem d_L_law_309 : decode code 309 = .ok (.iload 4, 2) := by decide +kernel
theorem d_L_law_311 : decode code 311 = .ok (.iconst 3, 1) := by decide +kernel
theorem d_L_law_312 : decode code 312 = .ok (.iadd, 1) := by decide +kernel
theorem d_L_law_313 : decode code 313 = .ok (.iaload, 1) := by decide +kernel
theorem d_L_law_314 : decode code 314 = .ok (.aload_n 0, 1) := by decide +kernel
theorem d_L_law_315 : decode code 315 = .ok (.iload 4, 2) := by decide +kernel
theorem d_L_law_317 : decode code 317 = .ok (.iconst 4, 1) := by decide +kernel
theorem d_L_law_318 : decode code 318 = .ok (.iadd, 1) := by decide +kernel
theorem d_L_law_319 : decode code 319 = .ok (.iaload, 1) := by decide +kernel
theorem d_L_law_320 : decode code 320 = .ok (.i2l, 1) := by decide +kernel
theorem d_L_law_321 : decode code 321 = .ok (.bipush 32, 2) := by decide +kernel
theorem d_L_law_323 : decode code 323 = .ok (.lshl, 1) := by decide +kernel
theorem d_L_law_324 : decode code 324 = .ok (.aload_n 0, 1) := by decide +kernel
theorem d_L_law_325 : decode code 325 = .ok (.iload 4, 2) := by decide +kernel
theorem d_L_law_327 : decode code 327 = .ok (.iconst 5, 1) := by decide +kernel
theorem d_L_law_328 : decode code 328 = .ok (.iadd, 1) := by decide +kernel
theorem d_L_law_329 : decode code 329 = .ok (.iaload, 1) := by decide +kernel
theorem d_L_law_330 : decode code 330 = .ok (.i2l, 1) := by decide +kernel
theorem d_L_law_331 : decode code 331 = .ok (.ldc2_w 55, 3) := by decide +kernel
theorem d_L_law_334 : decode code 334 = .ok (.land, 1) := by decide +kernel
theorem d_L_law_335 : decode code 335 = .ok (.lor, 1) := by decide +kernel
theorem d_L_law_336 : decode code 336 = .ok (.aload_n 0, 1) := by decide +kernel
theorem d_L_law_337 : decode code 337 = .ok (.iload 4, 2) := by decide +kernel
theorem d_L_law_339 : decode code 339 = .ok (.bipush 6, 2) := by decide +kernel
theorem d_L_law_341 : decode code 341 = .ok (.iadd, 1) := by decide +kernel
theorem d_L_law_342 : decode code 342 = .ok (.iaload, 1) := by decide +kernel
theorem d_L_law_343 : decode code 343 = .ok (.ifCond .eq 7, 3) := by decide +kernel
theorem d_L_law_346 : decode code 346 = .ok (.iconst 1, 1) := by decide +kernel
theorem d_L_law_347 : decode code 347 = .ok (.goto 4, 3) := by decide +kernel
theorem d_L_law_350 : decode code 350 = .ok (.iconst 0, 1) := by decide +kernel
theorem d_L_law_351 : decode code 351 = .ok (.invokevirtual 60, 3) := by decide +kernel
theorem d_L_law_354 : decode code 354 = .ok (.istore 6, 2) := by decide +kernel
theorem d_L_law_356 : decode code 356 = .ok (.aload_n 2, 1) := by decide +kernel
theorem d_L_law_357 : decode code 357 = .ok (.invokevirtual 43, 3) := by decide +kernel
theorem d_L_law_360 : decode code 360 = .ok (.iload 5, 2) := by decide +kernel
theorem d_L_law_362 : decode code 362 = .ok (.if_icmp .eq 5, 3) := by decide +kernel
theorem d_L_law_365 : decode code 365 = .ok (.iconst 0, 1) := by decide +kernel
theorem d_L_law_366 : decode code 366 = .ok (.ireturn, 1) := by decide +kernel
theorem d_L_law_367 : decode code 367 = .ok (.iload 5, 2) := by decide +kernel
theorem d_L_law_369 : decode code 369 = .ok (.ifCond .ne 15, 3) := by decide +kernel
theorem d_L_law_372 : decode code 372 = .ok (.aload_n 3, 1) := by decide +kernel
theorem d_L_law_373 : decode code 373 = .ok (.iconst 0, 1) := by decide +kernel
theorem d_L_law_374 : decode code 374 = .ok (.laload, 1) := by decide +kernel
theorem d_L_law_375 : decode code 375 = .ok (.iload 6, 2) := by decide +kernel
theorem d_L_law_377 : decode code 377 = .ok (.i2l, 1) := by decide +kernel
theorem d_L_law_378 : decode code 378 = .ok (.lcmp, 1) := by decide +kernel
theorem d_L_law_379 : decode code 379 = .ok (.ifCond .eq 5, 3) := by decide +kernel
theorem d_L_law_382 : decode code 382 = .ok (.iconst 0, 1) := by decide +kernel
theorem d_L_law_383 : decode code 383 = .ok (.ireturn, 1) := by decide +kernel
theorem d_L_law_384 : decode code 384 = .ok (.goto 312, 3) := by decide +kernel
theorem d_L_law_387 : decode code 387 = .ok (.aload_n 1, 1) := by decide +kernel
theorem d_L_law_388 : decode code 388 = .ok (.aload_n 0, 1) := by decide +kernel
theorem d_L_law_389 : decode code 389 = .ok (.iload 4, 2) := by decide +kernel
theorem d_L_law_391 : decode code 391 = .ok (.iconst 1, 1) := by decide +kernel
theorem d_L_law_392 : decode code 392 = .ok (.iadd, 1) := by decide +kernel
theorem d_L_law_393 : decode code 393 = .ok (.iaload, 1) := by decide +kernel
theorem d_L_law_394 : decode code 394 = .ok (.aload_n 0, 1) := by decide +kernel
theorem d_L_law_395 : decode code 395 = .ok (.iload 4, 2) := by decide +kernel
theorem d_L_law_397 : decode code 397 = .ok (.iconst 2, 1) := by decide +kernel
theorem d_L_law_398 : decode code 398 = .ok (.iadd, 1) := by decide +kernel
theorem d_L_law_399 : decode code 399 = .ok (.iaload, 1) := by decide +kernel
theorem d_L_law_400 : decode code 400 = .ok (.invokevirtual 61, 3) := by decide +kernel
theorem d_L_law_403 : decode code 403 = .ok (.aload_n 2, 1) := by decide +kernel
theorem d_L_law_404 : decode code 404 = .ok (.aload_n 0, 1) := by decide +kernel
theorem d_L_law_405 : decode code 405 = .ok (.iload 4, 2) := by decide +kernel
theorem d_L_law_407 : decode code 407 = .ok (.iconst 1, 1) := by decide +kernel
theorem d_L_law_408 : decode code 408 = .ok (.iadd, 1) := by decide +kernel
theorem d_L_law_409 : decode code 409 = .ok (.iaload, 1) := by decide +kernel
theorem d_L_law_410 : decode code 410 = .ok (.aload_n 0, 1) := by decide +kernel
theorem d_L_law_411 : decode code 411 = .ok (.iload 4, 2) := by decide +kernel
theorem d_L_law_413 : decode code 413 = .ok (.iconst 2, 1) := by decide +kernel
theorem d_L_law_414 : decode code 414 = .ok (.iadd, 1) := by decide +kernel
theorem d_L_law_415 : decode code 415 = .ok (.iaload, 1) := by decide +kernel
theorem d_L_law_416 : decode code 416 = .ok (.invokevirtual 64, 3) := by decide +kernel
theorem d_L_law_419 : decode code 419 = .ok (.if_icmp .eq 277, 3) := by decide +kernel
theorem d_L_law_422 : decode code 422 = .ok (.iconst 0, 1) := by decide +kernel
theorem d_L_law_423 : decode code 423 = .ok (.ireturn, 1) := by decide +kernel
theorem d_L_law_424 : decode code 424 = .ok (.aload_n 1, 1) := by decide +kernel
theorem d_L_law_425 : decode code 425 = .ok (.aload_n 0, 1) := by decide +kernel
theorem d_L_law_426 : decode code 426 = .ok (.iload 4, 2) := by decide +kernel
theorem d_L_law_428 : decode code 428 = .ok (.iconst 1, 1) := by decide +kernel
theorem d_L_law_429 : decode code 429 = .ok (.iadd, 1) := by decide +kernel
theorem d_L_law_430 : decode code 430 = .ok (.iaload, 1) := by decide +kernel
theorem d_L_law_431 : decode code 431 = .ok (.aload_n 0, 1) := by decide +kernel
theorem d_L_law_432 : decode code 432 = .ok (.iload 4, 2) := by decide +kernel
theorem d_L_law_434 : decode code 434 = .ok (.iconst 2, 1) := by decide +kernel
theorem d_L_law_435 : decode code 435 = .ok (.iadd, 1) := by decide +kernel
theorem d_L_law_436 : decode code 436 = .ok (.iaload, 1) := by decide +kernel
theorem d_L_law_437 : decode code 437 = .ok (.aload_n 0, 1) := by decide +kernel
theorem d_L_law_438 : decode code 438 = .ok (.iload 4, 2) := by decide +kernel
theorem d_L_law_440 : decode code 440 = .ok (.iconst 3, 1) := by decide +kernel
theorem d_L_law_441 : decode code 441 = .ok (.iadd, 1) := by decide +kernel
theorem d_L_law_442 : decode code 442 = .ok (.iaload, 1) := by decide +kernel
theorem d_L_law_443 : decode code 443 = .ok (.invokevirtual 65, 3) := by decide +kernel
theorem d_L_law_446 : decode code 446 = .ok (.aload_n 2, 1) := by decide +kernel
theorem d_L_law_447 : decode code 447 = .ok (.aload_n 0, 1) := by decide +kernel
theorem d_L_law_448 : decode code 448 = .ok (.iload 4, 2) := by decide +kernel
theorem d_L_law_450 : decode code 450 = .ok (.iconst 1, 1) := by decide +kernel
theorem d_L_law_451 : decode code 451 = .ok (.iadd, 1) := by decide +kernel
theorem d_L_law_452 : decode code 452 = .ok (.iaload, 1) := by decide +kernel
theorem d_L_law_453 : decode code 453 = .ok (.aload_n 0, 1) := by decide +kernel
theorem d_L_law_454 : decode code 454 = .ok (.iload 4, 2) := by decide +kernel
theorem d_L_law_456 : decode code 456 = .ok (.iconst 2, 1) := by decide +kernel
theorem d_L_law_457 : decode code 457 = .ok (.iadd, 1) := by decide +kernel
theorem d_L_law_458 : decode code 458 = .ok (.iaload, 1) := by decide +kernel
theorem d_L_law_459 : decode code 459 = .ok (.aload_n 0, 1) := by decide +kernel
theorem d_L_law_460 : decode code 460 = .ok (.iload 4, 2) := by decide +kernel
theorem d_L_law_462 : decode code 462 = .ok (.iconst 3, 1) := by decide +kernel
theorem d_L_law_463 : decode code 463 = .ok (.iadd, 1) := by decide +kernel
theorem d_L_law_464 : decode code 464 = .ok (.iaload, 1) := by decide +kernel
theorem d_L_law_465 : decode code 465 = .ok (.invokevirtual 69, 3) := by decide +kernel
theorem d_L_law_468 : decode code 468 = .ok (.if_icmp .eq 228, 3) := by decide +kernel
theorem d_L_law_471 : decode code 471 = .ok (.iconst 0, 1) := by decide +kernel
theorem d_L_law_472 : decode code 472 = .ok (.ireturn, 1) := by decide +kernel
theorem d_L_law_473 : decode code 473 = .ok (.aload_n 1, 1) := by decide +kernel
theorem d_L_law_474 : decode code 474 = .ok (.aload_n 0, 1) := by decide +kernel
theorem d_L_law_475 : decode code 475 = .ok (.iload 4, 2) := by decide +kernel
theorem d_L_law_477 : decode code 477 = .ok (.iconst 1, 1) := by decide +kernel
theorem d_L_law_478 : decode code 478 = .ok (.iadd, 1) := by decide +kernel
theorem d_L_law_479 : decode code 479 = .ok (.iaload, 1) := by decide +kernel
theorem d_L_law_480 : decode code 480 = .ok (.aload_n 0, 1) := by decide +kernel
theorem d_L_law_481 : decode code 481 = .ok (.iload 4, 2) := by decide +kernel
theorem d_L_law_483 : decode code 483 = .ok (.iconst 2, 1) := by decide +kernel
theorem d_L_law_484 : decode code 484 = .ok (.iadd, 1) := by decide +kernel
theorem d_L_law_485 : decode code 485 = .ok (.iaload, 1) := by decide +kernel
theorem d_L_law_486 : decode code 486 = .ok (.aload_n 0, 1) := by decide +kernel
theorem d_L_law_487 : decode code 487 = .ok (.iload 4, 2) := by decide +kernel
theorem d_L_law_489 : decode code 489 = .ok (.iconst 3, 1) := by decide +kernel
theorem d_L_law_490 : decode code 490 = .ok (.iadd, 1) := by decide +kernel
theorem d_L_law_491 : decode code 491 = .ok (.iaload, 1) := by decide +kernel
theorem d_L_law_492 : decode code 492 = .ok (.aload_n 0, 1) := by decide +kernel
theorem d_L_law_493 : decode code 493 = .ok (.iload 4, 2) := by decide +kernel
theorem d_L_law_495 : decode code 495 = .ok (.iconst 4, 1) := by decide +kernel
theorem d_L_law_496 : decode code 496 = .ok (.iadd, 1) := by decide +kernel
theorem d_L_law_497 : decode code 497 = .ok (.iaload, 1) := by decide +kernel
theorem d_L_law_498 : decode code 498 = .ok (.i2l, 1) := by decide +kernel
theorem d_L_law_499 : decode code 499 = .ok (.bipush 32, 2) := by decide +kernel
theorem d_L_law_501 : decode code 501 = .ok (.lshl, 1) := by decide +kernel
theorem d_L_law_502 : decode code 502 = .ok (.aload_n 0, 1) := by decide +kernel
theorem d_L_law_503 : decode code 503 = .ok (.iload 4, 2) := by decide +kernel
theorem d_L_law_505 : decode code 505 = .ok (.iconst 5, 1) := by decide +kernel
theorem d_L_law_506 : decode code 506 = .ok (.iadd, 1) := by decide +kernel
theorem d_L_law_507 : decode code 507 = .ok (.iaload, 1) := by decide +kernel
theorem d_L_law_508 : decode code 508 = .ok (.i2l, 1) := by decide +kernel
theorem d_L_law_509 : decode code 509 = .ok (.ldc2_w 55, 3) := by decide +kernel
theorem d_L_law_512 : decode code 512 = .ok (.land, 1) := by decide +kernel
theorem d_L_law_513 : decode code 513 = .ok (.lor, 1) := by decide +kernel
theorem d_L_law_514 : decode code 514 = .ok (.aload_n 3, 1) := by decide +kernel
theorem d_L_law_515 : decode code 515 = .ok (.invokestatic 70, 3) := by decide +kernel
theorem d_L_law_518 : decode code 518 = .ok (.istore 5, 2) := by decide +kernel
theorem d_L_law_520 : decode code 520 = .ok (.aload_n 2, 1) := by decide +kernel
theorem d_L_law_521 : decode code 521 = .ok (.aload_n 0, 1) := by decide +kernel
theorem d_L_law_522 : decode code 522 = .ok (.iload 4, 2) := by decide +kernel
theorem d_L_law_524 : decode code 524 = .ok (.iconst 1, 1) := by decide +kernel
theorem d_L_law_525 : decode code 525 = .ok (.iadd, 1) := by decide +kernel
theorem d_L_law_526 : decode code 526 = .ok (.iaload, 1) := by decide +kernel
theorem d_L_law_527 : decode code 527 = .ok (.aload_n 0, 1) := by decide +kernel
theorem d_L_law_528 : decode code 528 = .ok (.iload 4, 2) := by decide +kernel
theorem d_L_law_530 : decode code 530 = .ok (.iconst 2, 1) := by decide +kernel
theorem d_L_law_531 : decode code 531 = .ok (.iadd, 1) := by decide +kernel
theorem d_L_law_532 : decode code 532 = .ok (.iaload, 1) := by decide +kernel
theorem d_L_law_533 : decode code 533 = .ok (.aload_n 0, 1) := by decide +kernel
theorem d_L_law_534 : decode code 534 = .ok (.iload 4, 2) := by decide +kernel
theorem d_L_law_536 : decode code 536 = .ok (.iconst 3, 1) := by decide +kernel
theorem d_L_law_537 : decode code 537 = .ok (.iadd, 1) := by decide +kernel
theorem d_L_law_538 : decode code 538 = .ok (.iaload, 1) := by decide +kernel
theorem d_L_law_539 : decode code 539 = .ok (.aload_n 0, 1) := by decide +kernel
theorem d_L_law_540 : decode code 540 = .ok (.iload 4, 2) := by decide +kernel
theorem d_L_law_542 : decode code 542 = .ok (.iconst 4, 1) := by decide +kernel
theorem d_L_law_543 : decode code 543 = .ok (.iadd, 1) := by decide +kernel
theorem d_L_law_544 : decode code 544 = .ok (.iaload, 1) := by decide +kernel
theorem d_L_law_545 : decode code 545 = .ok (.i2l, 1) := by decide +kernel
theorem d_L_law_546 : decode code 546 = .ok (.bipush 32, 2) := by decide +kernel
theorem d_L_law_548 : decode code 548 = .ok (.lshl, 1) := by decide +kernel
theorem d_L_law_549 : decode code 549 = .ok (.aload_n 0, 1) := by decide +kernel
theorem d_L_law_550 : decode code 550 = .ok (.iload 4, 2) := by decide +kernel
theorem d_L_law_552 : decode code 552 = .ok (.iconst 5, 1) := by decide +kernel
theorem d_L_law_553 : decode code 553 = .ok (.iadd, 1) := by decide +kernel
theorem d_L_law_554 : decode code 554 = .ok (.iaload, 1) := by decide +kernel
theorem d_L_law_555 : decode code 555 = .ok (.i2l, 1) := by decide +kernel
theorem d_L_law_556 : decode code 556 = .ok (.ldc2_w 55, 3) := by decide +kernel
theorem d_L_law_559 : decode code 559 = .ok (.land, 1) := by decide +kernel
theorem d_L_law_560 : decode code 560 = .ok (.lor, 1) := by decide +kernel
theorem d_L_law_561 : decode code 561 = .ok (.invokevirtual 73, 3) := by decide +kernel
theorem d_L_law_564 : decode code 564 = .ok (.istore 6, 2) := by decide +kernel
theorem d_L_law_566 : decode code 566 = .ok (.aload_n 2, 1) := by decide +kernel
theorem d_L_law_567 : decode code 567 = .ok (.invokevirtual 43, 3) := by decide +kernel
theorem d_L_law_570 : decode code 570 = .ok (.iload 5, 2) := by decide +kernel
theorem d_L_law_572 : decode code 572 = .ok (.if_icmp .eq 5, 3) := by decide +kernel
theorem d_L_law_575 : decode code 575 = .ok (.iconst 0, 1) := by decide +kernel
theorem d_L_law_576 : decode code 576 = .ok (.ireturn, 1) := by decide +kernel
theorem d_L_law_577 : decode code 577 = .ok (.iload 5, 2) := by decide +kernel
theorem d_L_law_579 : decode code 579 = .ok (.ifCond .ne 15, 3) := by decide +kernel
theorem d_L_law_582 : decode code 582 = .ok (.aload_n 3, 1) := by decide +kernel
theorem d_L_law_583 : decode code 583 = .ok (.iconst 0, 1) := by decide +kernel
theorem d_L_law_584 : decode code 584 = .ok (.laload, 1) := by decide +kernel
theorem d_L_law_585 : decode code 585 = .ok (.iload 6, 2) := by decide +kernel
theorem d_L_law_587 : decode code 587 = .ok (.i2l, 1) := by decide +kernel
theorem d_L_law_588 : decode code 588 = .ok (.lcmp, 1) := by decide +kernel
theorem d_L_law_589 : decode code 589 = .ok (.ifCond .eq 5, 3) := by decide +kernel
theorem d_L_law_592 : decode code 592 = .ok (.iconst 0, 1) := by decide +kernel
theorem d_L_law_593 : decode code 593 = .ok (.ireturn, 1) := by decide +kernel
theorem d_L_law_594 : decode code 594 = .ok (.goto 102, 3) := by decide +kernel
theorem d_L_law_597 : decode code 597 = .ok (.aload_n 1, 1) := by decide +kernel
theorem d_L_law_598 : decode code 598 = .ok (.aload_n 0, 1) := by decide +kernel
theorem d_L_law_599 : decode code 599 = .ok (.iload 4, 2) := by decide +kernel
theorem d_L_law_601 : decode code 601 = .ok (.iconst 1, 1) := by decide +kernel
theorem d_L_law_602 : decode code 602 = .ok (.iadd, 1) := by decide +kernel
theorem d_L_law_603 : decode code 603 = .ok (.iaload, 1) := by decide +kernel
theorem d_L_law_604 : decode code 604 = .ok (.aload_n 0, 1) := by decide +kernel
theorem d_L_law_605 : decode code 605 = .ok (.iload 4, 2) := by decide +kernel
theorem d_L_law_607 : decode code 607 = .ok (.iconst 2, 1) := by decide +kernel
theorem d_L_law_608 : decode code 608 = .ok (.iadd, 1) := by decide +kernel
theorem d_L_law_609 : decode code 609 = .ok (.iaload, 1) := by decide +kernel
theorem d_L_law_610 : decode code 610 = .ok (.invokevirtual 74, 3) := by decide +kernel
theorem d_L_law_613 : decode code 613 = .ok (.aload_n 2, 1) := by decide +kernel
theorem d_L_law_614 : decode code 614 = .ok (.aload_n 0, 1) := by decide +kernel
theorem d_L_law_615 : decode code 615 = .ok (.iload 4, 2) := by decide +kernel
theorem d_L_law_617 : decode code 617 = .ok (.iconst 1, 1) := by decide +kernel
theorem d_L_law_618 : decode code 618 = .ok (.iadd, 1) := by decide +kernel
theorem d_L_law_619 : decode code 619 = .ok (.iaload, 1) := by decide +kernel
theorem d_L_law_620 : decode code 620 = .ok (.aload_n 0, 1) := by decide +kernel
theorem d_L_law_621 : decode code 621 = .ok (.iload 4, 2) := by decide +kernel
theorem d_L_law_623 : decode code 623 = .ok (.iconst 2, 1) := by decide +kernel
theorem d_L_law_624 : decode code 624 = .ok (.iadd, 1) := by decide +kernel
theorem d_L_law_625 : decode code 625 = .ok (.iaload, 1) := by decide +kernel
theorem d_L_law_626 : decode code 626 = .ok (.invokevirtual 78, 3) := by decide +kernel
theorem d_L_law_629 : decode code 629 = .ok (.if_icmp .eq 67, 3) := by decide +kernel
theorem d_L_law_632 : decode code 632 = .ok (.iconst 0, 1) := by decide +kernel
theorem d_L_law_633 : decode code 633 = .ok (.ireturn, 1) := by decide +kernel
theorem d_L_law_634 : decode code 634 = .ok (.aload_n 1, 1) := by decide +kernel
theorem d_L_law_635 : decode code 635 = .ok (.aload_n 0, 1) := by decide +kernel
theorem d_L_law_636 : decode code 636 = .ok (.iload 4, 2) := by decide +kernel
theorem d_L_law_638 : decode code 638 = .ok (.iconst 1, 1) := by decide +kernel
theorem d_L_law_639 : decode code 639 = .ok (.iadd, 1) := by decide +kernel
theorem d_L_law_640 : decode code 640 = .ok (.iaload, 1) := by decide +kernel
theorem d_L_law_641 : decode code 641 = .ok (.aload_n 0, 1) := by decide +kernel
theorem d_L_law_642 : decode code 642 = .ok (.iload 4, 2) := by decide +kernel
theorem d_L_law_644 : decode code 644 = .ok (.iconst 2, 1) := by decide +kernel
theorem d_L_law_645 : decode code 645 = .ok (.iadd, 1) := by decide +kernel
theorem d_L_law_646 : decode code 646 = .ok (.iaload, 1) := by decide +kernel
theorem d_L_law_647 : decode code 647 = .ok (.invokevirtual 79, 3) := by decide +kernel
theorem d_L_law_650 : decode code 650 = .ok (.aload_n 2, 1) := by decide +kernel
theorem d_L_law_651 : decode code 651 = .ok (.aload_n 0, 1) := by decide +kernel
theorem d_L_law_652 : decode code 652 = .ok (.iload 4, 2) := by decide +kernel
theorem d_L_law_654 : decode code 654 = .ok (.iconst 1, 1) := by decide +kernel
theorem d_L_law_655 : decode code 655 = .ok (.iadd, 1) := by decide +kernel
theorem d_L_law_656 : decode code 656 = .ok (.iaload, 1) := by decide +kernel
theorem d_L_law_657 : decode code 657 = .ok (.aload_n 0, 1) := by decide +kernel
theorem d_L_law_658 : decode code 658 = .ok (.iload 4, 2) := by decide +kernel
theorem d_L_law_660 : decode code 660 = .ok (.iconst 2, 1) := by decide +kernel
theorem d_L_law_661 : decode code 661 = .ok (.iadd, 1) := by decide +kernel
theorem d_L_law_662 : decode code 662 = .ok (.iaload, 1) := by decide +kernel
theorem d_L_law_663 : decode code 663 = .ok (.invokevirtual 82, 3) := by decide +kernel
theorem d_L_law_666 : decode code 666 = .ok (.if_icmp .eq 30, 3) := by decide +kernel
theorem d_L_law_669 : decode code 669 = .ok (.iconst 0, 1) := by decide +kernel
theorem d_L_law_670 : decode code 670 = .ok (.ireturn, 1) := by decide +kernel
theorem d_L_law_671 : decode code 671 = .ok (.aload_n 1, 1) := by decide +kernel
theorem d_L_law_672 : decode code 672 = .ok (.aload_n 0, 1) := by decide +kernel
theorem d_L_law_673 : decode code 673 = .ok (.iload 4, 2) := by decide +kernel
theorem d_L_law_675 : decode code 675 = .ok (.iconst 1, 1) := by decide +kernel
theorem d_L_law_676 : decode code 676 = .ok (.iadd, 1) := by decide +kernel
theorem d_L_law_677 : decode code 677 = .ok (.iaload, 1) := by decide +kernel
theorem d_L_law_678 : decode code 678 = .ok (.invokevirtual 83, 3) := by decide +kernel
theorem d_L_law_681 : decode code 681 = .ok (.aload_n 2, 1) := by decide +kernel
theorem d_L_law_682 : decode code 682 = .ok (.aload_n 0, 1) := by decide +kernel
theorem d_L_law_683 : decode code 683 = .ok (.iload 4, 2) := by decide +kernel
theorem d_L_law_685 : decode code 685 = .ok (.iconst 1, 1) := by decide +kernel
theorem d_L_law_686 : decode code 686 = .ok (.iadd, 1) := by decide +kernel
theorem d_L_law_687 : decode code 687 = .ok (.iaload, 1) := by decide +kernel
theorem d_L_law_688 : decode code 688 = .ok (.invokevirtual 86, 3) := by decide +kernel
theorem d_L_law_691 : decode code 691 = .ok (.if_icmp .eq 5, 3) := by decide +kernel
theorem d_L_law_694 : decode code 694 = .ok (.iconst 0, 1) := by decide +kernel
theorem d_L_law_695 : decode code 695 = .ok (.ireturn, 1) := by decide +kernel
theorem d_L_law_696 : decode code 696 = .ok (.iinc 4 7, 3) := by decide +kernel
theorem d_L_law_699 : decode code 699 = .ok (.goto (-676), 3) := by decide +kernel
theorem d_L_law_702 : decode code 702 = .ok (.iconst 1, 1) := by decide +kernel
theorem d_L_law_703 : decode code 703 = .ok (.ireturn, 1) := by decide +kernel
/-! OWN LAYER: the law's world: the class's cells, the array of one long, the reference's cells -/
def lww (z : zE) (A B : Nat → Nat) (o : Nat) (SC : ZC) (SQ : ZQ) (SO : Nat → Int64) : va_W := cw z A SC ++ ([(o, .inl (zL z, 1, .inr (.inl SO)))] ++ qw z B SQ)
theorem lw_toQ {D : va_G} {cl : List vw_C} {a b q : va_W} {H : Heap} (h : va_P D cl (a ++ (b ++ q)) H) : va_P D cl (q ++ (a ++ b)) H := by
  rw [← List.append_assoc] at h
  exact zz_swP h
theorem lw_toQd {A : Nat → Prop} {a b q : va_W} (h : va_D A (a ++ (b ++ q))) : va_D A (q ++ (a ++ b)) := by
  rw [← List.append_assoc] at h
  exact zz_swD h
theorem lw_ofQ {D : va_G} {cl : List vw_C} {a b q : va_W} {H : Heap} (h : va_P D cl (q ++ (a ++ b)) H) : va_P D cl (a ++ (b ++ q)) H := by
  have h1 := zz_swP h
  rw [List.append_assoc] at h1
  exact h1
theorem lw_ofQd {A : Nat → Prop} {a b q : va_W} (h : va_D A (q ++ (a ++ b))) : va_D A (a ++ (b ++ q)) := by
  have h1 := zz_swD h
  rw [List.append_assoc] at h1
  exact h1
theorem lw_nat {v : Int32} (h : 0 ≤ v) : v = Int32.ofNat v.toNatClampNeg := by
  have h1 : (0 : Int32).toInt ≤ v.toInt := Int32.le_iff_toInt_le.mp h
  have h2 : v.toInt < 2 ^ 31 := Int32.toInt_lt v
  apply Int32.toInt_inj.mp
  have h3 : (v.toNatClampNeg : Int) = v.toInt := by
    show ((v.toInt.toNat : Nat) : Int) = v.toInt
    exact Int.toNat_of_nonneg (by simpa using h1)
  rw [Int32.toInt_ofNat_of_lt (by omega)]
  exact h3.symm
theorem lw_v7 {v : Int32} (h : 0 ≤ v) (hv : v.toNatClampNeg ≤ 3584) : (v + (7 : Int32)).toNatClampNeg = v.toNatClampNeg + 7 := by
  have e := lw_nat h
  generalize v.toNatClampNeg = k at e hv ⊢
  subst e
  have e7 : (Int32.ofNat k + (7 : Int32)) = Int32.ofNat (k + 7) := (Int32.ofNat_add k 7).symm
  rw [e7]
  show (Int32.ofNat (k + 7)).toInt.toNat = _
  rw [Int32.toInt_ofNat_of_lt (by omega)]
  rfl
def zbL3x {α β γ δ : Type} (o : Option (α × β × γ)) (f : α → β → γ → Option δ) : Option δ := match o with
  | none => none
  | some (a, b, c) => f a b c
theorem zz_bL3x {α β γ δ : Type} {o : Option (α × β × γ)} {f : α → β → γ → Option δ} {y : δ} (h : zbL3x o f = some y) : ∃ a b c, o = some (a, b, c) ∧ f a b c = some y := by
  cases o with
  | none => cases h
  | some q =>
    obtain ⟨a, b, c⟩ := q
    exact ⟨a, b, c, rfl, h⟩
