theorem b_638 : Cond.methodLink R_law 9 y_Fo_init ∈ BG := bg1 (i := 18) rfl rfl
theorem b_639 : Cond.instanceMethod y_Fo_init ∈ BG := bg1 (i := 19) rfl rfl
theorem b_640 : Cond.code y_Fo_init cc_Fo_init 1 none ∈ BG := bg1 (i := 20) rfl rfl
theorem b_641 : Cond.methodLink R_law 12 y_Mo_init ∈ BG := bg3 (i := 180) rfl rfl
theorem b_642 : Cond.instanceMethod y_Mo_init ∈ BG := bg3 (i := 181) rfl rfl
theorem b_643 : Cond.code y_Mo_init cc_Mo_init 1 none ∈ BG := bg3 (i := 182) rfl rfl
theorem b_644 : Cond.methodLink R_law 13 y_Fo_type ∈ BG := bg1 (i := 162) rfl rfl
theorem b_645 : Cond.instanceMethod y_Fo_type ∈ BG := bg1 (i := 163) rfl rfl
theorem b_646 : Cond.selects R_Fo y_Fo_type y_Fo_type ∈ BG := bg1 (i := 164) rfl rfl
theorem b_647 : Cond.code y_Fo_type cc_Fo_type 2 (some .int) ∈ BG := bg1 (i := 165) rfl rfl
theorem b_648 : Cond.methodLink R_law 17 y_Mo_type ∈ BG := bg4 (i := 12) rfl rfl
theorem b_649 : Cond.instanceMethod y_Mo_type ∈ BG := bg4 (i := 13) rfl rfl
theorem b_650 : Cond.selects R_Mo y_Mo_type y_Mo_type ∈ BG := bg4 (i := 14) rfl rfl
theorem b_651 : Cond.code y_Mo_type cc_Mo_type 2 (some .int) ∈ BG := bg4 (i := 15) rfl rfl
theorem b_652 : Cond.methodLink R_law 18 y_Fo_clear ∈ BG := bg1 (i := 170) rfl rfl
theorem b_653 : Cond.instanceMethod y_Fo_clear ∈ BG := bg1 (i := 171) rfl rfl
theorem b_654 : Cond.selects R_Fo y_Fo_clear y_Fo_clear ∈ BG := bg1 (i := 172) rfl rfl
theorem b_655 : Cond.code y_Fo_clear cc_Fo_clear 1 none ∈ BG := bg1 (i := 173) rfl rfl
theorem b_656 : Cond.methodLink R_law 21 y_Mo_clear ∈ BG := bg4 (i := 16) rfl rfl
theorem b_657 : Cond.instanceMethod y_Mo_clear ∈ BG := bg4 (i := 17) rfl rfl
theorem b_658 : Cond.selects R_Mo y_Mo_clear y_Mo_clear ∈ BG := bg4 (i := 18) rfl rfl
theorem b_659 : Cond.code y_Mo_clear cc_Mo_clear 1 none ∈ BG := bg4 (i := 19) rfl rfl
theorem b_660 : Cond.methodLink R_law 22 y_Fo_read ∈ BG := bg1 (i := 174) rfl rfl
theorem b_661 : Cond.instanceMethod y_Fo_read ∈ BG := bg1 (i := 175) rfl rfl
theorem b_662 : Cond.selects R_Fo y_Fo_read y_Fo_read ∈ BG := bg1 (i := 176) rfl rfl
theorem b_663 : Cond.code y_Fo_read cc_Fo_read 4 (some .int) ∈ BG := bg1 (i := 177) rfl rfl
theorem b_664 : Cond.methodLink R_law 25 y_Mo_read ∈ BG := bg4 (i := 20) rfl rfl
theorem b_665 : Cond.instanceMethod y_Mo_read ∈ BG := bg4 (i := 21) rfl rfl
theorem b_666 : Cond.selects R_Mo y_Mo_read y_Mo_read ∈ BG := bg4 (i := 22) rfl rfl
theorem b_667 : Cond.code y_Mo_read cc_Mo_read 3 (some .int) ∈ BG := bg4 (i := 23) rfl rfl
theorem b_668 : Cond.methodLink R_law 26 y_Fo_scope ∈ BG := bg2 (i := 142) rfl rfl
theorem b_669 : Cond.instanceMethod y_Fo_scope ∈ BG := bg2 (i := 143) rfl rfl
theorem b_670 : Cond.selects R_Fo y_Fo_scope y_Fo_scope ∈ BG := bg2 (i := 144) rfl rfl
theorem b_671 : Cond.code y_Fo_scope cc_Fo_scope 5 (some .int) ∈ BG := bg2 (i := 145) rfl rfl
theorem b_672 : Cond.methodLink R_law 30 y_Mo_scope ∈ BG := bg4 (i := 82) rfl rfl
theorem b_673 : Cond.instanceMethod y_Mo_scope ∈ BG := bg4 (i := 83) rfl rfl
theorem b_674 : Cond.selects R_Mo y_Mo_scope y_Mo_scope ∈ BG := bg4 (i := 84) rfl rfl
theorem b_675 : Cond.code y_Mo_scope cc_Mo_scope 4 (some .int) ∈ BG := bg4 (i := 85) rfl rfl
theorem b_676 : Cond.methodLink R_law 31 y_Fo_kind ∈ BG := bg2 (i := 150) rfl rfl
theorem b_677 : Cond.instanceMethod y_Fo_kind ∈ BG := bg2 (i := 151) rfl rfl
theorem b_678 : Cond.selects R_Fo y_Fo_kind y_Fo_kind ∈ BG := bg2 (i := 152) rfl rfl
theorem b_679 : Cond.code y_Fo_kind cc_Fo_kind 3 (some .int) ∈ BG := bg2 (i := 153) rfl rfl
theorem b_680 : Cond.methodLink R_law 34 y_Mo_kind ∈ BG := bg4 (i := 90) rfl rfl
theorem b_681 : Cond.instanceMethod y_Mo_kind ∈ BG := bg4 (i := 91) rfl rfl
theorem b_682 : Cond.selects R_Mo y_Mo_kind y_Mo_kind ∈ BG := bg4 (i := 92) rfl rfl
theorem b_683 : Cond.code y_Mo_kind cc_Mo_kind 2 (some .int) ∈ BG := bg4 (i := 93) rfl rfl
theorem b_684 : Cond.methodLink R_law 35 y_Fo_text ∈ BG := bg2 (i := 154) rfl rfl
theorem b_685 : Cond.instanceMethod y_Fo_text ∈ BG := bg2 (i := 155) rfl rfl
theorem b_686 : Cond.selects R_Fo y_Fo_text y_Fo_text ∈ BG := bg2 (i := 156) rfl rfl
theorem b_687 : Cond.code y_Fo_text cc_Fo_text 5 (some .int) ∈ BG := bg2 (i := 157) rfl rfl
theorem b_688 : Cond.methodLink R_law 39 y_Mo_text ∈ BG := bg4 (i := 94) rfl rfl
theorem b_689 : Cond.instanceMethod y_Mo_text ∈ BG := bg4 (i := 95) rfl rfl
theorem b_690 : Cond.selects R_Mo y_Mo_text y_Mo_text ∈ BG := bg4 (i := 96) rfl rfl
theorem b_691 : Cond.code y_Mo_text cc_Mo_text 4 (some .int) ∈ BG := bg4 (i := 97) rfl rfl
theorem b_692 : Cond.methodLink R_law 40 y_Fo_length ∈ BG := bg3 (i := 83) rfl rfl
theorem b_693 : Cond.instanceMethod y_Fo_length ∈ BG := bg3 (i := 84) rfl rfl
theorem b_694 : Cond.selects R_Fo y_Fo_length y_Fo_length ∈ BG := bg3 (i := 85) rfl rfl
theorem b_695 : Cond.code y_Fo_length cc_Fo_length 4 (some .int) ∈ BG := bg3 (i := 86) rfl rfl
theorem b_696 : Cond.methodLink R_law 43 y_Mo_length ∈ BG := bg4 (i := 170) rfl rfl
theorem b_697 : Cond.instanceMethod y_Mo_length ∈ BG := bg4 (i := 171) rfl rfl
theorem b_698 : Cond.selects R_Mo y_Mo_length y_Mo_length ∈ BG := bg4 (i := 172) rfl rfl
theorem b_699 : Cond.code y_Mo_length cc_Mo_length 3 (some .int) ∈ BG := bg4 (i := 173) rfl rfl
theorem b_700 : Cond.methodLink R_law 44 y_Fo_alike ∈ BG := bg3 (i := 87) rfl rfl
theorem b_701 : Cond.instanceMethod y_Fo_alike ∈ BG := bg3 (i := 88) rfl rfl
theorem b_702 : Cond.selects R_Fo y_Fo_alike y_Fo_alike ∈ BG := bg3 (i := 89) rfl rfl
theorem b_703 : Cond.code y_Fo_alike cc_Fo_alike 6 (some .int) ∈ BG := bg3 (i := 90) rfl rfl
theorem b_704 : Cond.methodLink R_law 47 y_Mo_alike ∈ BG := bg4 (i := 174) rfl rfl
theorem b_705 : Cond.instanceMethod y_Mo_alike ∈ BG := bg4 (i := 175) rfl rfl
theorem b_706 : Cond.selects R_Mo y_Mo_alike y_Mo_alike ∈ BG := bg4 (i := 176) rfl rfl
theorem b_707 : Cond.code y_Mo_alike cc_Mo_alike 9 (some .int) ∈ BG := bg4 (i := 177) rfl rfl
theorem b_708 : Cond.methodLink R_law 48 y_Fo_clash ∈ BG := bg3 (i := 109) rfl rfl
theorem b_709 : Cond.instanceMethod y_Fo_clash ∈ BG := bg3 (i := 110) rfl rfl
theorem b_710 : Cond.selects R_Fo y_Fo_clash y_Fo_clash ∈ BG := bg3 (i := 111) rfl rfl
theorem b_711 : Cond.code y_Fo_clash cc_Fo_clash 5 (some .int) ∈ BG := bg3 (i := 112) rfl rfl
theorem b_712 : Cond.methodLink R_law 51 y_Mo_clash ∈ BG := bg4 (i := 182) rfl rfl
theorem b_713 : Cond.instanceMethod y_Mo_clash ∈ BG := bg4 (i := 183) rfl rfl
theorem b_714 : Cond.selects R_Mo y_Mo_clash y_Mo_clash ∈ BG := bg4 (i := 184) rfl rfl
theorem b_715 : Cond.code y_Mo_clash cc_Mo_clash 5 (some .int) ∈ BG := bg4 (i := 185) rfl rfl
theorem b_716 : Cond.methodLink R_law 52 y_Fo_fill ∈ BG := bg3 (i := 121) rfl rfl
theorem b_717 : Cond.instanceMethod y_Fo_fill ∈ BG := bg3 (i := 122) rfl rfl
theorem b_718 : Cond.selects R_Fo y_Fo_fill y_Fo_fill ∈ BG := bg3 (i := 123) rfl rfl
theorem b_719 : Cond.code y_Fo_fill cc_Fo_fill 6 (some .int) ∈ BG := bg3 (i := 124) rfl rfl
theorem b_720 : Cond.methodLink R_law 55 y_Mo_fill ∈ BG := bg4 (i := 186) rfl rfl
theorem b_721 : Cond.instanceMethod y_Mo_fill ∈ BG := bg4 (i := 187) rfl rfl
theorem b_722 : Cond.selects R_Mo y_Mo_fill y_Mo_fill ∈ BG := bg4 (i := 188) rfl rfl
theorem b_723 : Cond.code y_Mo_fill cc_Mo_fill 10 (some .int) ∈ BG := bg4 (i := 189) rfl rfl
theorem b_724 : Cond.methodLink R_law 56 y_Fo_parameters ∈ BG := bg3 (i := 139) rfl rfl
theorem b_725 : Cond.instanceMethod y_Fo_parameters ∈ BG := bg3 (i := 140) rfl rfl
theorem b_726 : Cond.selects R_Fo y_Fo_parameters y_Fo_parameters ∈ BG := bg3 (i := 141) rfl rfl
theorem b_727 : Cond.code y_Fo_parameters cc_Fo_parameters 3 (some .int) ∈ BG := bg3 (i := 142) rfl rfl
theorem b_728 : Cond.methodLink R_law 59 y_Mo_parameters ∈ BG := bg4 (i := 190) rfl rfl
theorem b_729 : Cond.instanceMethod y_Mo_parameters ∈ BG := bg4 (i := 191) rfl rfl
theorem b_730 : Cond.selects R_Mo y_Mo_parameters y_Mo_parameters ∈ BG := bg4 (i := 192) rfl rfl
theorem b_731 : Cond.code y_Mo_parameters cc_Mo_parameters 2 (some .int) ∈ BG := bg4 (i := 193) rfl rfl
theorem b_732 : Cond.methodLink R_law 60 y_Fo_bounds ∈ BG := bg3 (i := 143) rfl rfl
theorem b_733 : Cond.instanceMethod y_Fo_bounds ∈ BG := bg3 (i := 144) rfl rfl
theorem b_734 : Cond.selects R_Fo y_Fo_bounds y_Fo_bounds ∈ BG := bg3 (i := 145) rfl rfl
theorem b_735 : Cond.code y_Fo_bounds cc_Fo_bounds 4 (some .int) ∈ BG := bg3 (i := 146) rfl rfl
theorem b_736 : Cond.methodLink R_law 63 y_Mo_bounds ∈ BG := bg4 (i := 194) rfl rfl
theorem b_737 : Cond.instanceMethod y_Mo_bounds ∈ BG := bg4 (i := 195) rfl rfl
theorem b_738 : Cond.selects R_Mo y_Mo_bounds y_Mo_bounds ∈ BG := bg4 (i := 196) rfl rfl
theorem b_739 : Cond.code y_Mo_bounds cc_Mo_bounds 3 (some .int) ∈ BG := bg4 (i := 197) rfl rfl
theorem b_740 : Cond.methodLink R_law 64 y_Fo_measure ∈ BG := bg3 (i := 152) rfl rfl
theorem b_741 : Cond.instanceMethod y_Fo_measure ∈ BG := bg3 (i := 153) rfl rfl
theorem b_742 : Cond.selects R_Fo y_Fo_measure y_Fo_measure ∈ BG := bg3 (i := 154) rfl rfl
theorem b_743 : Cond.code y_Fo_measure cc_Fo_measure 4 (some .int) ∈ BG := bg3 (i := 155) rfl rfl
theorem b_744 : Cond.methodLink R_law 67 y_Mo_measure ∈ BG := bg4 (i := 198) rfl rfl
theorem b_745 : Cond.instanceMethod y_Mo_measure ∈ BG := bg4 (i := 199) rfl rfl
theorem b_746 : Cond.selects R_Mo y_Mo_measure y_Mo_measure ∈ BG := bg4 (i := 200) rfl rfl
theorem b_747 : Cond.code y_Mo_measure cc_Mo_measure 9 (some .int) ∈ BG := bg4 (i := 201) rfl rfl
theorem b_748 : Cond.methodLink R_law 68 y_Fo_count ∈ BG := bg3 (i := 174) rfl rfl
theorem b_749 : Cond.instanceMethod y_Fo_count ∈ BG := bg3 (i := 175) rfl rfl
theorem b_750 : Cond.selects R_Fo y_Fo_count y_Fo_count ∈ BG := bg3 (i := 176) rfl rfl
theorem b_751 : Cond.code y_Fo_count cc_Fo_count 2 (some .int) ∈ BG := bg3 (i := 177) rfl rfl
theorem b_752 : Cond.methodLink R_law 71 y_Mo_count ∈ BG := bg4 (i := 202) rfl rfl
theorem b_753 : Cond.instanceMethod y_Mo_count ∈ BG := bg4 (i := 203) rfl rfl
theorem b_754 : Cond.selects R_Mo y_Mo_count y_Mo_count ∈ BG := bg4 (i := 204) rfl rfl
theorem b_755 : Cond.code y_Mo_count cc_Mo_count 2 (some .int) ∈ BG := bg4 (i := 205) rfl rfl
theorem b_756 : Cond.classLink R_law 7 R_Fo ∈ BG := bg1 (i := 16) rfl rfl
theorem b_757 : Cond.instantiable R_Fo 9 ∈ BG := bg1 (i := 17) rfl rfl
theorem b_758 : Cond.classLink R_law 10 R_Mo ∈ BG := bg3 (i := 178) rfl rfl
theorem b_759 : Cond.instantiable R_Mo 22 ∈ BG := bg3 (i := 179) rfl rfl
theorem LE.bg {p : Program} {s : State} {m : MethodId} {meth : Method} {c : Code} {b L : Nat} {xs : Nat → Int32} {G : GX} (E : LE p s m meth c b L xs G) : ∀ w ∈ BG, w.before #[Value.ref b] s = true := fun w hw => E.1.2.2.2.2.2.1 w (List.mem_filter.mp hw).1
theorem d_law_0 : decode code 0 = .ok (.new 7, 3) := by decide +kernel
theorem d_law_3 : decode code 3 = .ok (.dup, 1) := by decide +kernel
theorem d_law_4 : decode code 4 = .ok (.invokespecial 9, 3) := by decide +kernel
theorem d_law_7 : decode code 7 = .ok (.astore_n 1, 1) := by decide +kernel
theorem d_law_8 : decode code 8 = .ok (.new 10, 3) := by decide +kernel
theorem d_law_11 : decode code 11 = .ok (.dup, 1) := by decide +kernel
theorem d_law_12 : decode code 12 = .ok (.invokespecial 12, 3) := by decide +kernel
theorem d_law_15 : decode code 15 = .ok (.astore_n 2, 1) := by decide +kernel
theorem d_law_16 : decode code 16 = .ok (.iconst 0, 1) := by decide +kernel
theorem d_law_17 : decode code 17 = .ok (.istore_n 3, 1) := by decide +kernel
theorem d_law_18 : decode code 18 = .ok (.iload_n 3, 1) := by decide +kernel
theorem d_law_19 : decode code 19 = .ok (.aload_n 0, 1) := by decide +kernel
theorem d_law_20 : decode code 20 = .ok (.arraylength, 1) := by decide +kernel
theorem d_law_21 : decode code 21 = .ok (.iconst 4, 1) := by decide +kernel
theorem d_law_22 : decode code 22 = .ok (.isub, 1) := by decide +kernel
theorem d_law_23 : decode code 23 = .ok (.if_icmp .gt 497, 3) := by decide +kernel
theorem d_law_26 : decode code 26 = .ok (.aload_n 0, 1) := by decide +kernel
theorem d_law_27 : decode code 27 = .ok (.iload_n 3, 1) := by decide +kernel
theorem d_law_28 : decode code 28 = .ok (.iaload, 1) := by decide +kernel
theorem d_law_29 : decode code 29 = .ok (.bipush 15, 2) := by decide +kernel
theorem d_law_31 : decode code 31 = .ok (.iand, 1) := by decide +kernel
theorem d_law_32 : decode code 32 = .ok (.tableswitch 482 0 13 #[72, 95, 106, 129, 162, 185, 228, 261, 294, 327, 370, 393, 426, 459], 72) := by decide +kernel
theorem d_law_104 : decode code 104 = .ok (.aload_n 1, 1) := by decide +kernel
theorem d_law_105 : decode code 105 = .ok (.aload_n 0, 1) := by decide +kernel
theorem d_law_106 : decode code 106 = .ok (.iload_n 3, 1) := by decide +kernel
theorem d_law_107 : decode code 107 = .ok (.iconst 1, 1) := by decide +kernel
theorem d_law_108 : decode code 108 = .ok (.iadd, 1) := by decide +kernel
theorem d_law_109 : decode code 109 = .ok (.iaload, 1) := by decide +kernel
theorem d_law_110 : decode code 110 = .ok (.invokevirtual 13, 3) := by decide +kernel
theorem d_law_113 : decode code 113 = .ok (.aload_n 2, 1) := by decide +kernel
theorem d_law_114 : decode code 114 = .ok (.aload_n 0, 1) := by decide +kernel
theorem d_law_115 : decode code 115 = .ok (.iload_n 3, 1) := by decide +kernel
theorem d_law_116 : decode code 116 = .ok (.iconst 1, 1) := by decide +kernel
theorem d_law_117 : decode code 117 = .ok (.iadd, 1) := by decide +kernel
theorem d_law_118 : decode code 118 = .ok (.iaload, 1) := by decide +kernel
theorem d_law_119 : decode code 119 = .ok (.invokevirtual 17, 3) := by decide +kernel
theorem d_law_122 : decode code 122 = .ok (.if_icmp .eq 392, 3) := by decide +kernel
theorem d_law_125 : decode code 125 = .ok (.iconst 0, 1) := by decide +kernel
theorem d_law_126 : decode code 126 = .ok (.ireturn, 1) := by decide +kernel
theorem d_law_127 : decode code 127 = .ok (.aload_n 1, 1) := by decide +kernel
theorem d_law_128 : decode code 128 = .ok (.invokevirtual 18, 3) := by decide +kernel
theorem d_law_131 : decode code 131 = .ok (.aload_n 2, 1) := by decide +kernel
theorem d_law_132 : decode code 132 = .ok (.invokevirtual 21, 3) := by decide +kernel
theorem d_law_135 : decode code 135 = .ok (.goto 379, 3) := by decide +kernel
theorem d_law_138 : decode code 138 = .ok (.aload_n 1, 1) := by decide +kernel
theorem d_law_139 : decode code 139 = .ok (.aload_n 0, 1) := by decide +kernel
theorem d_law_140 : decode code 140 = .ok (.iload_n 3, 1) := by decide +kernel
theorem d_law_141 : decode code 141 = .ok (.iconst 1, 1) := by decide +kernel
theorem d_law_142 : decode code 142 = .ok (.iadd, 1) := by decide +kernel
theorem d_law_143 : decode code 143 = .ok (.iaload, 1) := by decide +kernel
theorem d_law_144 : decode code 144 = .ok (.invokevirtual 22, 3) := by decide +kernel
theorem d_law_147 : decode code 147 = .ok (.aload_n 2, 1) := by decide +kernel
theorem d_law_148 : decode code 148 = .ok (.aload_n 0, 1) := by decide +kernel
theorem d_law_149 : decode code 149 = .ok (.iload_n 3, 1) := by decide +kernel
theorem d_law_150 : decode code 150 = .ok (.iconst 1, 1) := by decide +kernel
theorem d_law_151 : decode code 151 = .ok (.iadd, 1) := by decide +kernel
theorem d_law_152 : decode code 152 = .ok (.iaload, 1) := by decide +kernel
theorem d_law_153 : decode code 153 = .ok (.invokevirtual 25, 3) := by decide +kernel
theorem d_law_156 : decode code 156 = .ok (.if_icmp .eq 358, 3) := by decide +kernel
theorem d_law_159 : decode code 159 = .ok (.iconst 0, 1) := by decide +kernel
theorem d_law_160 : decode code 160 = .ok (.ireturn, 1) := by decide +kernel
theorem d_law_161 : decode code 161 = .ok (.aload_n 1, 1) := by decide +kernel
theorem d_law_162 : decode code 162 = .ok (.aload_n 0, 1) := by decide +kernel
theorem d_law_163 : decode code 163 = .ok (.iload_n 3, 1) := by decide +kernel
theorem d_law_164 : decode code 164 = .ok (.iconst 1, 1) := by decide +kernel
theorem d_law_165 : decode code 165 = .ok (.iadd, 1) := by decide +kernel
theorem d_law_166 : decode code 166 = .ok (.iaload, 1) := by decide +kernel
theorem d_law_167 : decode code 167 = .ok (.aload_n 0, 1) := by decide +kernel
theorem d_law_168 : decode code 168 = .ok (.iload_n 3, 1) := by decide +kernel
theorem d_law_169 : decode code 169 = .ok (.iconst 2, 1) := by decide +kernel
theorem d_law_170 : decode code 170 = .ok (.iadd, 1) := by decide +kernel
theorem d_law_171 : decode code 171 = .ok (.iaload, 1) := by decide +kernel
theorem d_law_172 : decode code 172 = .ok (.invokevirtual 26, 3) := by decide +kernel
theorem d_law_175 : decode code 175 = .ok (.aload_n 2, 1) := by decide +kernel
theorem d_law_176 : decode code 176 = .ok (.aload_n 0, 1) := by decide +kernel
theorem d_law_177 : decode code 177 = .ok (.iload_n 3, 1) := by decide +kernel
theorem d_law_178 : decode code 178 = .ok (.iconst 1, 1) := by decide +kernel
theorem d_law_179 : decode code 179 = .ok (.iadd, 1) := by decide +kernel
theorem d_law_180 : decode code 180 = .ok (.iaload, 1) := by decide +kernel
theorem d_law_181 : decode code 181 = .ok (.aload_n 0, 1) := by decide +kernel
theorem d_law_182 : decode code 182 = .ok (.iload_n 3, 1) := by decide +kernel
theorem d_law_183 : decode code 183 = .ok (.iconst 2, 1) := by decide +kernel
theorem d_law_184 : decode code 184 = .ok (.iadd, 1) := by decide +kernel
theorem d_law_185 : decode code 185 = .ok (.iaload, 1) := by decide +kernel
theorem d_law_186 : decode code 186 = .ok (.invokevirtual 30, 3) := by decide +kernel
theorem d_law_189 : decode code 189 = .ok (.if_icmp .eq 325, 3) := by decide +kernel
theorem d_law_192 : decode code 192 = .ok (.iconst 0, 1) := by decide +kernel
theorem d_law_193 : decode code 193 = .ok (.ireturn, 1) := by decide +kernel
theorem d_law_194 : decode code 194 = .ok (.aload_n 1, 1) := by decide +kernel
theorem d_law_195 : decode code 195 = .ok (.aload_n 0, 1) := by decide +kernel
theorem d_law_196 : decode code 196 = .ok (.iload_n 3, 1) := by decide +kernel
theorem d_law_197 : decode code 197 = .ok (.iconst 1, 1) := by decide +kernel
theorem d_law_198 : decode code 198 = .ok (.iadd, 1) := by decide +kernel
theorem d_law_199 : decode code 199 = .ok (.iaload, 1) := by decide +kernel
theorem d_law_200 : decode code 200 = .ok (.invokevirtual 31, 3) := by decide +kernel
theorem d_law_203 : decode code 203 = .ok (.aload_n 2, 1) := by decide +kernel
theorem d_law_204 : decode code 204 = .ok (.aload_n 0, 1) := by decide +kernel
theorem d_law_205 : decode code 205 = .ok (.iload_n 3, 1) := by decide +kernel
theorem d_law_206 : decode code 206 = .ok (.iconst 1, 1) := by decide +kernel
theorem d_law_207 : decode code 207 = .ok (.iadd, 1) := by decide +kernel
theorem d_law_208 : decode code 208 = .ok (.iaload, 1) := by decide +kernel
theorem d_law_209 : decode code 209 = .ok (.invokevirtual 34, 3) := by decide +kernel
theorem d_law_212 : decode code 212 = .ok (.if_icmp .eq 302, 3) := by decide +kernel
theorem d_law_215 : decode code 215 = .ok (.iconst 0, 1) := by decide +kernel
theorem d_law_216 : decode code 216 = .ok (.ireturn, 1) := by decide +kernel
theorem d_law_217 : decode code 217 = .ok (.aload_n 1, 1) := by decide +kernel
theorem d_law_218 : decode code 218 = .ok (.aload_n 0, 1) := by decide +kernel
theorem d_law_219 : decode code 219 = .ok (.iload_n 3, 1) := by decide +kernel
theorem d_law_220 : decode code 220 = .ok (.iconst 1, 1) := by decide +kernel
theorem d_law_221 : decode code 221 = .ok (.iadd, 1) := by decide +kernel
theorem d_law_222 : decode code 222 = .ok (.iaload, 1) := by decide +kernel
theorem d_law_223 : decode code 223 = .ok (.aload_n 0, 1) := by decide +kernel
theorem d_law_224 : decode code 224 = .ok (.iload_n 3, 1) := by decide +kernel
theorem d_law_225 : decode code 225 = .ok (.iconst 2, 1) := by decide +kernel
theorem d_law_226 : decode code 226 = .ok (.iadd, 1) := by decide +kernel
theorem d_law_227 : decode code 227 = .ok (.iaload, 1) := by decide +kernel
theorem d_law_228 : decode code 228 = .ok (.aload_n 0, 1) := by decide +kernel
theorem d_law_229 : decode code 229 = .ok (.iload_n 3, 1) := by decide +kernel
theorem d_law_230 : decode code 230 = .ok (.iconst 3, 1) := by decide +kernel
theorem d_law_231 : decode code 231 = .ok (.iadd, 1) := by decide +kernel
theorem d_law_232 : decode code 232 = .ok (.iaload, 1) := by decide +kernel
theorem d_law_233 : decode code 233 = .ok (.invokevirtual 35, 3) := by decide +kernel
theorem d_law_236 : decode code 236 = .ok (.aload_n 2, 1) := by decide +kernel
theorem d_law_237 : decode code 237 = .ok (.aload_n 0, 1) := by decide +kernel
theorem d_law_238 : decode code 238 = .ok (.iload_n 3, 1) := by decide +kernel
theorem d_law_239 : decode code 239 = .ok (.iconst 1, 1) := by decide +kernel
theorem d_law_240 : decode code 240 = .ok (.iadd, 1) := by decide +kernel
theorem d_law_241 : decode code 241 = .ok (.iaload, 1) := by decide +kernel
theorem d_law_242 : decode code 242 = .ok (.aload_n 0, 1) := by decide +kernel
theorem d_law_243 : decode code 243 = .ok (.iload_n 3, 1) := by decide +kernel
theorem d_law_244 : decode code 244 = .ok (.iconst 2, 1) := by decide +kernel
theorem d_law_245 : decode code 245 = .ok (.iadd, 1) := by decide +kernel
theorem d_law_246 : decode code 246 = .ok (.iaload, 1) := by decide +kernel
theorem d_law_247 : decode code 247 = .ok (.aload_n 0, 1) := by decide +kernel
theorem d_law_248 : decode code 248 = .ok (.iload_n 3, 1) := by decide +kernel
theorem d_law_249 : decode code 249 = .ok (.iconst 3, 1) := by decide +kernel
theorem d_law_250 : decode code 250 = .ok (.iadd, 1) := by decide +kernel
theorem d_law_251 : decode code 251 = .ok (.iaload, 1) := by decide +kernel
theorem d_law_252 : decode code 252 = .ok (.invokevirtual 39, 3) := by decide +kernel
theorem d_law_255 : decode code 255 = .ok (.if_icmp .eq 259, 3) := by decide +kernel
theorem d_law_258 : decode code 258 = .ok (.iconst 0, 1) := by decide +kernel
theorem d_law_259 : decode code 259 = .ok (.ireturn, 1) := by decide +kernel
theorem d_law_260 : decode code 260 = .ok (.aload_n 1, 1) := by decide +kernel
theorem d_law_261 : decode code 261 = .ok (.aload_n 0, 1) := by decide +kernel
theorem d_law_262 : decode code 262 = .ok (.iload_n 3, 1) := by decide +kernel
theorem d_law_263 : decode code 263 = .ok (.iconst 1, 1) := by decide +kernel
theorem d_law_264 : decode code 264 = .ok (.iadd, 1) := by decide +kernel
theorem d_law_265 : decode code 265 = .ok (.iaload, 1) := by decide +kernel
theorem d_law_266 : decode code 266 = .ok (.aload_n 0, 1) := by decide +kernel
theorem d_law_267 : decode code 267 = .ok (.iload_n 3, 1) := by decide +kernel
theorem d_law_268 : decode code 268 = .ok (.iconst 2, 1) := by decide +kernel
theorem d_law_269 : decode code 269 = .ok (.iadd, 1) := by decide +kernel
theorem d_law_270 : decode code 270 = .ok (.iaload, 1) := by decide +kernel
theorem d_law_271 : decode code 271 = .ok (.invokevirtual 40, 3) := by decide +kernel
theorem d_law_274 : decode code 274 = .ok (.aload_n 2, 1) := by decide +kernel
theorem d_law_275 : decode code 275 = .ok (.aload_n 0, 1) := by decide +kernel
theorem d_law_276 : decode code 276 = .ok (.iload_n 3, 1) := by decide +kernel
theorem d_law_277 : decode code 277 = .ok (.iconst 1, 1) := by decide +kernel
theorem d_law_278 : decode code 278 = .ok (.iadd, 1) := by decide +kernel
theorem d_law_279 : decode code 279 = .ok (.iaload, 1) := by decide +kernel
theorem d_law_280 : decode code 280 = .ok (.aload_n 0, 1) := by decide +kernel
theorem d_law_281 : decode code 281 = .ok (.iload_n 3, 1) := by decide +kernel
theorem d_law_282 : decode code 282 = .ok (.iconst 2, 1) := by decide +kernel
theorem d_law_283 : decode code 283 = .ok (.iadd, 1) := by decide +kernel
theorem d_law_284 : decode code 284 = .ok (.iaload, 1) := by decide +kernel
theorem d_law_285 : decode code 285 = .ok (.invokevirtual 43, 3) := by decide +kernel
theorem d_law_288 : decode code 288 = .ok (.if_icmp .eq 226, 3) := by decide +kernel
theorem d_law_291 : decode code 291 = .ok (.iconst 0, 1) := by decide +kernel
theorem d_law_292 : decode code 292 = .ok (.ireturn, 1) := by decide +kernel
theorem d_law_293 : decode code 293 = .ok (.aload_n 1, 1) := by decide +kernel
theorem d_law_294 : decode code 294 = .ok (.aload_n 0, 1) := by decide +kernel
theorem d_law_295 : decode code 295 = .ok (.iload_n 3, 1) := by decide +kernel
theorem d_law_296 : decode code 296 = .ok (.iconst 1, 1) := by decide +kernel
theorem d_law_297 : decode code 297 = .ok (.iadd, 1) := by decide +kernel
theorem d_law_298 : decode code 298 = .ok (.iaload, 1) := by decide +kernel
theorem d_law_299 : decode code 299 = .ok (.aload_n 0, 1) := by decide +kernel
theorem d_law_300 : decode code 300 = .ok (.iload_n 3, 1) := by decide +kernel
theorem d_law_301 : decode code 301 = .ok (.iconst 2, 1) := by decide +kernel
theorem d_law_302 : decode code 302 = .ok (.iadd, 1) := by decide +kernel
theorem d_law_303 : decode code 303 = .ok (.iaload, 1) := by decide +kernel
theorem d_law_304 : decode code 304 = .ok (.invokevirtual 44, 3) := by decide +kernel
theorem d_law_307 : decode code 307 = .ok (.aload_n 2, 1) := by decide +kernel
theorem d_law_308 : decode code 308 = .ok (.aload_n 0, 1) := by decide +kernel
theorem d_law_309 : decode code 309 = .ok (.iload_n 3, 1) := by decide +kernel
theorem d_law_310 : decode code 310 = .ok (.iconst 1, 1) := by decide +kernel
theorem d_law_311 : decode code 311 = .ok (.iadd, 1) := by decide +kernel
theorem d_law_312 : decode code 312 = .ok (.iaload, 1) := by decide +kernel
theorem d_law_313 : decode code 313 = .ok (.aload_n 0, 1) := by decide +kernel
theorem d_law_314 : decode code 314 = .ok (.iload_n 3, 1) := by decide +kernel
theorem d_law_315 : decode code 315 = .ok (.iconst 2, 1) := by decide +kernel
theorem d_law_316 : decode code 316 = .ok (.iadd, 1) := by decide +kernel
theorem d_law_317 : decode code 317 = .ok (.iaload, 1) := by decide +kernel
theorem d_law_318 : decode code 318 = .ok (.invokevirtual 47, 3) := by decide +kernel
theorem d_law_321 : decode code 321 = .ok (.if_icmp .eq 193, 3) := by decide +kernel
theorem d_law_324 : decode code 324 = .ok (.iconst 0, 1) := by decide +kernel
theorem d_law_325 : decode code 325 = .ok (.ireturn, 1) := by decide +kernel
theorem d_law_326 : decode code 326 = .ok (.aload_n 1, 1) := by decide +kernel
theorem d_law_327 : decode code 327 = .ok (.aload_n 0, 1) := by decide +kernel
theorem d_law_328 : decode code 328 = .ok (.iload_n 3, 1) := by decide +kernel
theorem d_law_329 : decode code 329 = .ok (.iconst 1, 1) := by decide +kernel
theorem d_law_330 : decode code 330 = .ok (.iadd, 1) := by decide +kernel
theorem d_law_331 : decode code 331 = .ok (.iaload, 1) := by decide +kernel
theorem d_law_332 : decode code 332 = .ok (.aload_n 0, 1) := by decide +kernel
theorem d_law_333 : decode code 333 = .ok (.iload_n 3, 1) := by decide +kernel
theorem d_law_334 : decode code 334 = .ok (.iconst 2, 1) := by decide +kernel
theorem d_law_335 : decode code 335 = .ok (.iadd, 1) := by decide +kernel
theorem d_law_336 : decode code 336 = .ok (.iaload, 1) := by decide +kernel
theorem d_law_337 : decode code 337 = .ok (.invokevirtual 48, 3) := by decide +kernel
theorem d_law_340 : decode code 340 = .ok (.aload_n 2, 1) := by decide +kernel
theorem d_law_341 : decode code 341 = .ok (.aload_n 0, 1) := by decide +kernel
theorem d_law_342 : decode code 342 = .ok (.iload_n 3, 1) := by decide +kernel
theorem d_law_343 : decode code 343 = .ok (.iconst 1, 1) := by decide +kernel
theorem d_law_344 : decode code 344 = .ok (.iadd, 1) := by decide +kernel
theorem d_law_345 : decode code 345 = .ok (.iaload, 1) := by decide +kernel
theorem d_law_346 : decode code 346 = .ok (.aload_n 0, 1) := by decide +kernel
theorem d_law_347 : decode code 347 = .ok (.iload_n 3, 1) := by decide +kernel
theorem d_law_348 : decode code 348 = .ok (.iconst 2, 1) := by decide +kernel
theorem d_law_349 : decode code 349 = .ok (.iadd, 1) := by decide +kernel
theorem d_law_350 : decode code 350 = .ok (.iaload, 1) := by decide +kernel
theorem d_law_351 : decode code 351 = .ok (.invokevirtual 51, 3) := by decide +kernel
theorem d_law_354 : decode code 354 = .ok (.if_icmp .eq 160, 3) := by decide +kernel
theorem d_law_357 : decode code 357 = .ok (.iconst 0, 1) := by decide +kernel
theorem d_law_358 : decode code 358 = .ok (.ireturn, 1) := by decide +kernel
theorem d_law_359 : decode code 359 = .ok (.aload_n 1, 1) := by decide +kernel
theorem d_law_360 : decode code 360 = .ok (.aload_n 0, 1) := by decide +kernel
theorem d_law_361 : decode code 361 = .ok (.iload_n 3, 1) := by decide +kernel
theorem d_law_362 : decode code 362 = .ok (.iconst 1, 1) := by decide +kernel
theorem d_law_363 : decode code 363 = .ok (.iadd, 1) := by decide +kernel
theorem d_law_364 : decode code 364 = .ok (.iaload, 1) := by decide +kernel
theorem d_law_365 : decode code 365 = .ok (.aload_n 0, 1) := by decide +kernel
theorem d_law_366 : decode code 366 = .ok (.iload_n 3, 1) := by decide +kernel
theorem d_law_367 : decode code 367 = .ok (.iconst 2, 1) := by decide +kernel
theorem d_law_368 : decode code 368 = .ok (.iadd, 1) := by decide +kernel
theorem d_law_369 : decode code 369 = .ok (.iaload, 1) := by decide +kernel
theorem d_law_370 : decode code 370 = .ok (.aload_n 0, 1) := by decide +kernel
theorem d_law_371 : decode code 371 = .ok (.iload_n 3, 1) := by decide +kernel
theorem d_law_372 : decode code 372 = .ok (.iconst 3, 1) := by decide +kernel
theorem d_law_373 : decode code 373 = .ok (.iadd, 1) := by decide +kernel
theorem d_law_374 : decode code 374 = .ok (.iaload, 1) := by decide +kernel
theorem d_law_375 : decode code 375 = .ok (.invokevirtual 52, 3) := by decide +kernel
theorem d_law_378 : decode code 378 = .ok (.aload_n 2, 1) := by decide +kernel
theorem d_law_379 : decode code 379 = .ok (.aload_n 0, 1) := by decide +kernel
theorem d_law_380 : decode code 380 = .ok (.iload_n 3, 1) := by decide +kernel
theorem d_law_381 : decode code 381 = .ok (.iconst 1, 1) := by decide +kernel
theorem d_law_382 : decode code 382 = .ok (.iadd, 1) := by decide +kernel
theorem d_law_383 : decode code 383 = .ok (.iaload, 1) := by decide +kernel
theorem d_law_384 : decode code 384 = .ok (.aload_n 0, 1) := by decide +kernel
theorem d_law_385 : decode code 385 = .ok (.iload_n 3, 1) := by decide +kernel
theorem d_law_386 : decode code 386 = .ok (.iconst 2, 1) := by decide +kernel
theorem d_law_387 : decode code 387 = .ok (.iadd, 1) := by decide +kernel
theorem d_law_388 : decode code 388 = .ok (.iaload, 1) := by decide +kernel
theorem d_law_389 : decode code 389 = .ok (.aload_n 0, 1) := by decide +kernel
theorem d_law_390 : decode code 390 = .ok (.iload_n 3, 1) := by decide +kernel
theorem d_law_391 : decode code 391 = .ok (.iconst 3, 1) := by decide +kernel
theorem d_law_392 : decode code 392 = .ok (.iadd, 1) := by decide +kernel
theorem d_law_393 : decode code 393 = .ok (.iaload, 1) := by decide +kernel
theorem d_law_394 : decode code 394 = .ok (.invokevirtual 55, 3) := by decide +kernel
theorem d_law_397 : decode code 397 = .ok (.if_icmp .eq 117, 3) := by decide +kernel
theorem d_law_400 : decode code 400 = .ok (.iconst 0, 1) := by decide +kernel
theorem d_law_401 : decode code 401 = .ok (.ireturn, 1) := by decide +kernel
theorem d_law_402 : decode code 402 = .ok (.aload_n 1, 1) := by decide +kernel
theorem d_law_403 : decode code 403 = .ok (.aload_n 0, 1) := by decide +kernel
theorem d_law_404 : decode code 404 = .ok (.iload_n 3, 1) := by decide +kernel
theorem d_law_405 : decode code 405 = .ok (.iconst 1, 1) := by decide +kernel
theorem d_law_406 : decode code 406 = .ok (.iadd, 1) := by decide +kernel
theorem d_law_407 : decode code 407 = .ok (.iaload, 1) := by decide +kernel
theorem d_law_408 : decode code 408 = .ok (.invokevirtual 56, 3) := by decide +kernel
theorem d_law_411 : decode code 411 = .ok (.aload_n 2, 1) := by decide +kernel
theorem d_law_412 : decode code 412 = .ok (.aload_n 0, 1) := by decide +kernel
theorem d_law_413 : decode code 413 = .ok (.iload_n 3, 1) := by decide +kernel
theorem d_law_414 : decode code 414 = .ok (.iconst 1, 1) := by decide +kernel
theorem d_law_415 : decode code 415 = .ok (.iadd, 1) := by decide +kernel
theorem d_law_416 : decode code 416 = .ok (.iaload, 1) := by decide +kernel
theorem d_law_417 : decode code 417 = .ok (.invokevirtual 59, 3) := by decide +kernel
theorem d_law_420 : decode code 420 = .ok (.if_icmp .eq 94, 3) := by decide +kernel
theorem d_law_423 : decode code 423 = .ok (.iconst 0, 1) := by decide +kernel
theorem d_law_424 : decode code 424 = .ok (.ireturn, 1) := by decide +kernel
theorem d_law_425 : decode code 425 = .ok (.aload_n 1, 1) := by decide +kernel
theorem d_law_426 : decode code 426 = .ok (.aload_n 0, 1) := by decide +kernel
theorem d_law_427 : decode code 427 = .ok (.iload_n 3, 1) := by decide +kernel
theorem d_law_428 : decode code 428 = .ok (.iconst 1, 1) := by decide +kernel
theorem d_law_429 : decode code 429 = .ok (.iadd, 1) := by decide +kernel
theorem d_law_430 : decode code 430 = .ok (.iaload, 1) := by decide +kernel
theorem d_law_431 : decode code 431 = .ok (.aload_n 0, 1) := by decide +kernel
theorem d_law_432 : decode code 432 = .ok (.iload_n 3, 1) := by decide +kernel
theorem d_law_433 : decode code 433 = .ok (.iconst 2, 1) := by decide +kernel
theorem d_law_434 : decode code 434 = .ok (.iadd, 1) := by decide +kernel
theorem d_law_435 : decode code 435 = .ok (.iaload, 1) := by decide +kernel
theorem d_law_436 : decode code 436 = .ok (.invokevirtual 60, 3) := by decide +kernel
theorem d_law_439 : decode code 439 = .ok (.aload_n 2, 1) := by decide +kernel
theorem d_law_440 : decode code 440 = .ok (.aload_n 0, 1) := by decide +kernel
theorem d_law_441 : decode code 441 = .ok (.iload_n 3, 1) := by decide +kernel
theorem d_law_442 : decode code 442 = .ok (.iconst 1, 1) := by decide +kernel
theorem d_law_443 : decode code 443 = .ok (.iadd, 1) := by decide +kernel
theorem d_law_444 : decode code 444 = .ok (.iaload, 1) := by decide +kernel
theorem d_law_445 : decode code 445 = .ok (.aload_n 0, 1) := by decide +kernel
theorem d_law_446 : decode code 446 = .ok (.iload_n 3, 1) := by decide +kernel
theorem d_law_447 : decode code 447 = .ok (.iconst 2, 1) := by decide +kernel
theorem d_law_448 : decode code 448 = .ok (.iadd, 1) := by decide +kernel
theorem d_law_449 : decode code 449 = .ok (.iaload, 1) := by decide +kernel
theorem d_law_450 : decode code 450 = .ok (.invokevirtual 63, 3) := by decide +kernel
theorem d_law_453 : decode code 453 = .ok (.if_icmp .eq 61, 3) := by decide +kernel
theorem d_law_456 : decode code 456 = .ok (.iconst 0, 1) := by decide +kernel
theorem d_law_457 : decode code 457 = .ok (.ireturn, 1) := by decide +kernel
theorem d_law_458 : decode code 458 = .ok (.aload_n 1, 1) := by decide +kernel
theorem d_law_459 : decode code 459 = .ok (.aload_n 0, 1) := by decide +kernel
theorem d_law_460 : decode code 460 = .ok (.iload_n 3, 1) := by decide +kernel
theorem d_law_461 : decode code 461 = .ok (.iconst 1, 1) := by decide +kernel
theorem d_law_462 : decode code 462 = .ok (.iadd, 1) := by decide +kernel
theorem d_law_463 : decode code 463 = .ok (.iaload, 1) := by decide +kernel
theorem d_law_464 : decode code 464 = .ok (.aload_n 0, 1) := by decide +kernel
theorem d_law_465 : decode code 465 = .ok (.iload_n 3, 1) := by decide +kernel
theorem d_law_466 : decode code 466 = .ok (.iconst 2, 1) := by decide +kernel
theorem d_law_467 : decode code 467 = .ok (.iadd, 1) := by decide +kernel
theorem d_law_468 : decode code 468 = .ok (.iaload, 1) := by decide +kernel
theorem d_law_469 : decode code 469 = .ok (.invokevirtual 64, 3) := by decide +kernel
theorem d_law_472 : decode code 472 = .ok (.aload_n 2, 1) := by decide +kernel
theorem d_law_473 : decode code 473 = .ok (.aload_n 0, 1) := by decide +kernel
theorem d_law_474 : decode code 474 = .ok (.iload_n 3, 1) := by decide +kernel
theorem d_law_475 : decode code 475 = .ok (.iconst 1, 1) := by decide +kernel
theorem d_law_476 : decode code 476 = .ok (.iadd, 1) := by decide +kernel
theorem d_law_477 : decode code 477 = .ok (.iaload, 1) := by decide +kernel
theorem d_law_478 : decode code 478 = .ok (.aload_n 0, 1) := by decide +kernel
theorem d_law_479 : decode code 479 = .ok (.iload_n 3, 1) := by decide +kernel
theorem d_law_480 : decode code 480 = .ok (.iconst 2, 1) := by decide +kernel
theorem d_law_481 : decode code 481 = .ok (.iadd, 1) := by decide +kernel
theorem d_law_482 : decode code 482 = .ok (.iaload, 1) := by decide +kernel
theorem d_law_483 : decode code 483 = .ok (.invokevirtual 67, 3) := by decide +kernel
theorem d_law_486 : decode code 486 = .ok (.if_icmp .eq 28, 3) := by decide +kernel
theorem d_law_489 : decode code 489 = .ok (.iconst 0, 1) := by decide +kernel
theorem d_law_490 : decode code 490 = .ok (.ireturn, 1) := by decide +kernel
theorem d_law_491 : decode code 491 = .ok (.aload_n 1, 1) := by decide +kernel
theorem d_law_492 : decode code 492 = .ok (.aload_n 0, 1) := by decide +kernel
theorem d_law_493 : decode code 493 = .ok (.iload_n 3, 1) := by decide +kernel
theorem d_law_494 : decode code 494 = .ok (.iconst 1, 1) := by decide +kernel
theorem d_law_495 : decode code 495 = .ok (.iadd, 1) := by decide +kernel
theorem d_law_496 : decode code 496 = .ok (.iaload, 1) := by decide +kernel
theorem d_law_497 : decode code 497 = .ok (.invokevirtual 68, 3) := by decide +kernel
theorem d_law_500 : decode code 500 = .ok (.aload_n 2, 1) := by decide +kernel
theorem d_law_501 : decode code 501 = .ok (.aload_n 0, 1) := by decide +kernel
theorem d_law_502 : decode code 502 = .ok (.iload_n 3, 1) := by decide +kernel
theorem d_law_503 : decode code 503 = .ok (.iconst 1, 1) := by decide +kernel
theorem d_law_504 : decode code 504 = .ok (.iadd, 1) := by decide +kernel
theorem d_law_505 : decode code 505 = .ok (.iaload, 1) := by decide +kernel
theorem d_law_506 : decode code 506 = .ok (.invokevirtual 71, 3) := by decide +kernel
theorem d_law_509 : decode code 509 = .ok (.if_icmp .eq 5, 3) := by decide +kernel
theorem d_law_512 : decode code 512 = .ok (.iconst 0, 1) := by decide +kernel
theorem d_law_513 : decode code 513 = .ok (.ireturn, 1) := by decide +kernel
theorem d_law_514 : decode code 514 = .ok (.iinc 3 4, 3) := by decide +kernel
theorem d_law_517 : decode code 517 = .ok (.goto (-499), 3) := by decide +kernel
theorem d_law_520 : decode code 520 = .ok (.iconst 1, 1) := by decide +kernel
theorem d_law_521 : decode code 521 = .ok (.ireturn, 1) := by decide +kernel
