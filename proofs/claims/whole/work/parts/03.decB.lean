theorem dX5_init_0 : decode cX5_init 0 = .ok (.aload_n 0, 1) := by decide +kernel
theorem dX5_init_1 : decode cX5_init 1 = .ok (.invokespecial 3, 3) := by decide +kernel
theorem dX5_init_4 : decode cX5_init 4 = .ok (.aload_n 0, 1) := by decide +kernel
theorem dX5_init_5 : decode cX5_init 5 = .ok (.new 9, 3) := by decide +kernel
theorem dX5_init_8 : decode cX5_init 8 = .ok (.dup, 1) := by decide +kernel
theorem dX5_init_9 : decode cX5_init 9 = .ok (.invokespecial 11, 3) := by decide +kernel
theorem dX5_init_12 : decode cX5_init 12 = .ok (.putfield 12, 3) := by decide +kernel
theorem dX5_init_15 : decode cX5_init 15 = .ok (.aload_n 0, 1) := by decide +kernel
theorem dX5_init_16 : decode cX5_init 16 = .ok (.new 16, 3) := by decide +kernel
theorem dX5_init_19 : decode cX5_init 19 = .ok (.dup, 1) := by decide +kernel
theorem dX5_init_20 : decode cX5_init 20 = .ok (.invokespecial 18, 3) := by decide +kernel
theorem dX5_init_23 : decode cX5_init 23 = .ok (.putfield 19, 3) := by decide +kernel
theorem dX5_init_26 : decode cX5_init 26 = .ok (.aload_n 0, 1) := by decide +kernel
theorem dX5_init_27 : decode cX5_init 27 = .ok (.new 16, 3) := by decide +kernel
theorem dX5_init_30 : decode cX5_init 30 = .ok (.dup, 1) := by decide +kernel
theorem dX5_init_31 : decode cX5_init 31 = .ok (.invokespecial 18, 3) := by decide +kernel
theorem dX5_init_34 : decode cX5_init 34 = .ok (.putfield 23, 3) := by decide +kernel
theorem dX5_init_37 : decode cX5_init 37 = .ok (.aload_n 0, 1) := by decide +kernel
theorem dX5_init_38 : decode cX5_init 38 = .ok (.new 26, 3) := by decide +kernel
theorem dX5_init_41 : decode cX5_init 41 = .ok (.dup, 1) := by decide +kernel
theorem dX5_init_42 : decode cX5_init 42 = .ok (.invokespecial 28, 3) := by decide +kernel
theorem dX5_init_45 : decode cX5_init 45 = .ok (.putfield 29, 3) := by decide +kernel
theorem dX5_init_48 : decode cX5_init 48 = .ok (.aload_n 0, 1) := by decide +kernel
theorem dX5_init_49 : decode cX5_init 49 = .ok (.new 33, 3) := by decide +kernel
theorem dX5_init_52 : decode cX5_init 52 = .ok (.dup, 1) := by decide +kernel
theorem dX5_init_53 : decode cX5_init 53 = .ok (.invokespecial 35, 3) := by decide +kernel
theorem dX5_init_56 : decode cX5_init 56 = .ok (.putfield 36, 3) := by decide +kernel
theorem dX5_init_59 : decode cX5_init 59 = .ok (.aload_n 0, 1) := by decide +kernel
theorem dX5_init_60 : decode cX5_init 60 = .ok (.iconst 2, 1) := by decide +kernel
theorem dX5_init_61 : decode cX5_init 61 = .ok (.anewarray 16, 3) := by decide +kernel
theorem dX5_init_64 : decode cX5_init 64 = .ok (.putfield 40, 3) := by decide +kernel
theorem dX5_init_67 : decode cX5_init 67 = .ok (.aload_n 0, 1) := by decide +kernel
theorem dX5_init_68 : decode cX5_init 68 = .ok (.iconst 2, 1) := by decide +kernel
theorem dX5_init_69 : decode cX5_init 69 = .ok (.newarray .boolean, 2) := by decide +kernel
theorem dX5_init_71 : decode cX5_init 71 = .ok (.putfield 44, 3) := by decide +kernel
theorem dX5_init_74 : decode cX5_init 74 = .ok (.aload_n 0, 1) := by decide +kernel
theorem dX5_init_75 : decode cX5_init 75 = .ok (.iconst 4, 1) := by decide +kernel
theorem dX5_init_76 : decode cX5_init 76 = .ok (.anewarray 48, 3) := by decide +kernel
theorem dX5_init_79 : decode cX5_init 79 = .ok (.putfield 50, 3) := by decide +kernel
theorem dX5_init_82 : decode cX5_init 82 = .ok (.iconst 0, 1) := by decide +kernel
theorem dX5_init_83 : decode cX5_init 83 = .ok (.istore_n 1, 1) := by decide +kernel
theorem dX5_init_84 : decode cX5_init 84 = .ok (.iload_n 1, 1) := by decide +kernel
theorem dX5_init_85 : decode cX5_init 85 = .ok (.iconst 2, 1) := by decide +kernel
theorem dX5_init_86 : decode cX5_init 86 = .ok (.if_icmp .ge 22, 3) := by decide +kernel
theorem dX5_init_89 : decode cX5_init 89 = .ok (.aload_n 0, 1) := by decide +kernel
theorem dX5_init_90 : decode cX5_init 90 = .ok (.getfield 40, 3) := by decide +kernel
theorem dX5_init_93 : decode cX5_init 93 = .ok (.iload_n 1, 1) := by decide +kernel
theorem dX5_init_94 : decode cX5_init 94 = .ok (.new 16, 3) := by decide +kernel
theorem dX5_init_97 : decode cX5_init 97 = .ok (.dup, 1) := by decide +kernel
theorem dX5_init_98 : decode cX5_init 98 = .ok (.invokespecial 18, 3) := by decide +kernel
theorem dX5_init_101 : decode cX5_init 101 = .ok (.aastore, 1) := by decide +kernel
theorem dX5_init_102 : decode cX5_init 102 = .ok (.iinc 1 1, 3) := by decide +kernel
theorem dX5_init_105 : decode cX5_init 105 = .ok (.goto (-21), 3) := by decide +kernel
theorem dX5_init_108 : decode cX5_init 108 = .ok (.iconst 0, 1) := by decide +kernel
theorem dX5_init_109 : decode cX5_init 109 = .ok (.istore_n 1, 1) := by decide +kernel
theorem dX5_init_110 : decode cX5_init 110 = .ok (.iload_n 1, 1) := by decide +kernel
theorem dX5_init_111 : decode cX5_init 111 = .ok (.iconst 4, 1) := by decide +kernel
theorem dX5_init_112 : decode cX5_init 112 = .ok (.if_icmp .ge 22, 3) := by decide +kernel
theorem dX5_init_115 : decode cX5_init 115 = .ok (.aload_n 0, 1) := by decide +kernel
theorem dX5_init_116 : decode cX5_init 116 = .ok (.getfield 50, 3) := by decide +kernel
theorem dX5_init_119 : decode cX5_init 119 = .ok (.iload_n 1, 1) := by decide +kernel
theorem dX5_init_120 : decode cX5_init 120 = .ok (.new 48, 3) := by decide +kernel
theorem dX5_init_123 : decode cX5_init 123 = .ok (.dup, 1) := by decide +kernel
theorem dX5_init_124 : decode cX5_init 124 = .ok (.invokespecial 54, 3) := by decide +kernel
theorem dX5_init_127 : decode cX5_init 127 = .ok (.aastore, 1) := by decide +kernel
theorem dX5_init_128 : decode cX5_init 128 = .ok (.iinc 1 1, 3) := by decide +kernel
theorem dX5_init_131 : decode cX5_init 131 = .ok (.goto (-21), 3) := by decide +kernel
theorem dX5_init_134 : decode cX5_init 134 = .ok (.return_, 1) := by decide +kernel
theorem dX5_feed_0 : decode cX5_feed 0 = .ok (.iload_n 1, 1) := by decide +kernel
theorem dX5_feed_1 : decode cX5_feed 1 = .ok (.iconst 0, 1) := by decide +kernel
theorem dX5_feed_2 : decode cX5_feed 2 = .ok (.bipush 127, 2) := by decide +kernel
theorem dX5_feed_4 : decode cX5_feed 4 = .ok (.invokestatic 55, 3) := by decide +kernel
theorem dX5_feed_7 : decode cX5_feed 7 = .ok (.ifCond .ne 5, 3) := by decide +kernel
theorem dX5_feed_10 : decode cX5_feed 10 = .ok (.iconst (-1), 1) := by decide +kernel
theorem dX5_feed_11 : decode cX5_feed 11 = .ok (.ireturn, 1) := by decide +kernel
theorem dX5_feed_12 : decode cX5_feed 12 = .ok (.aload_n 0, 1) := by decide +kernel
theorem dX5_feed_13 : decode cX5_feed 13 = .ok (.getfield 12, 3) := by decide +kernel
theorem dX5_feed_16 : decode cX5_feed 16 = .ok (.iload_n 1, 1) := by decide +kernel
theorem dX5_feed_17 : decode cX5_feed 17 = .ok (.invokevirtual 59, 3) := by decide +kernel
theorem dX5_feed_20 : decode cX5_feed 20 = .ok (.ifCond .eq 13, 3) := by decide +kernel
theorem dX5_feed_23 : decode cX5_feed 23 = .ok (.aload_n 0, 1) := by decide +kernel
theorem dX5_feed_24 : decode cX5_feed 24 = .ok (.getfield 12, 3) := by decide +kernel
theorem dX5_feed_27 : decode cX5_feed 27 = .ok (.getfield 63, 3) := by decide +kernel
theorem dX5_feed_30 : decode cX5_feed 30 = .ok (.goto 5, 3) := by decide +kernel
theorem dX5_feed_33 : decode cX5_feed 33 = .ok (.bipush (-3), 2) := by decide +kernel
theorem dX5_feed_35 : decode cX5_feed 35 = .ok (.ireturn, 1) := by decide +kernel
theorem dX5_end_0 : decode cX5_end 0 = .ok (.iload_n 1, 1) := by decide +kernel
theorem dX5_end_1 : decode cX5_end 1 = .ok (.iconst 0, 1) := by decide +kernel
theorem dX5_end_2 : decode cX5_end 2 = .ok (.aload_n 0, 1) := by decide +kernel
theorem dX5_end_3 : decode cX5_end 3 = .ok (.getfield 12, 3) := by decide +kernel
theorem dX5_end_6 : decode cX5_end 6 = .ok (.getfield 63, 3) := by decide +kernel
theorem dX5_end_9 : decode cX5_end 9 = .ok (.invokestatic 55, 3) := by decide +kernel
theorem dX5_end_12 : decode cX5_end 12 = .ok (.ifCond .ne 5, 3) := by decide +kernel
theorem dX5_end_15 : decode cX5_end 15 = .ok (.iconst (-1), 1) := by decide +kernel
theorem dX5_end_16 : decode cX5_end 16 = .ok (.ireturn, 1) := by decide +kernel
theorem dX5_end_17 : decode cX5_end 17 = .ok (.aload_n 0, 1) := by decide +kernel
theorem dX5_end_18 : decode cX5_end 18 = .ok (.getfield 12, 3) := by decide +kernel
theorem dX5_end_21 : decode cX5_end 21 = .ok (.getfield 63, 3) := by decide +kernel
theorem dX5_end_24 : decode cX5_end 24 = .ok (.istore_n 2, 1) := by decide +kernel
theorem dX5_end_25 : decode cX5_end 25 = .ok (.aload_n 0, 1) := by decide +kernel
theorem dX5_end_26 : decode cX5_end 26 = .ok (.getfield 12, 3) := by decide +kernel
theorem dX5_end_29 : decode cX5_end 29 = .ok (.iload_n 1, 1) := by decide +kernel
theorem dX5_end_30 : decode cX5_end 30 = .ok (.putfield 63, 3) := by decide +kernel
theorem dX5_end_33 : decode cX5_end 33 = .ok (.iload_n 2, 1) := by decide +kernel
theorem dX5_end_34 : decode cX5_end 34 = .ok (.ireturn, 1) := by decide +kernel
theorem dX5_text_0 : decode cX5_text 0 = .ok (.aload_n 0, 1) := by decide +kernel
theorem dX5_text_1 : decode cX5_text 1 = .ok (.getfield 12, 3) := by decide +kernel
theorem dX5_text_4 : decode cX5_text 4 = .ok (.aload_n 0, 1) := by decide +kernel
theorem dX5_text_5 : decode cX5_text 5 = .ok (.getfield 23, 3) := by decide +kernel
theorem dX5_text_8 : decode cX5_text 8 = .ok (.invokevirtual 67, 3) := by decide +kernel
theorem dX5_text_11 : decode cX5_text 11 = .ok (.iconst 0, 1) := by decide +kernel
theorem dX5_text_12 : decode cX5_text 12 = .ok (.istore_n 1, 1) := by decide +kernel
theorem dX5_text_13 : decode cX5_text 13 = .ok (.iload_n 1, 1) := by decide +kernel
theorem dX5_text_14 : decode cX5_text 14 = .ok (.sipush 160, 3) := by decide +kernel
theorem dX5_text_17 : decode cX5_text 17 = .ok (.if_icmp .ge 26, 3) := by decide +kernel
theorem dX5_text_20 : decode cX5_text 20 = .ok (.aload_n 0, 1) := by decide +kernel
theorem dX5_text_21 : decode cX5_text 21 = .ok (.getfield 12, 3) := by decide +kernel
theorem dX5_text_24 : decode cX5_text 24 = .ok (.invokevirtual 71, 3) := by decide +kernel
theorem dX5_text_27 : decode cX5_text 27 = .ok (.ifCond .eq 16, 3) := by decide +kernel
theorem dX5_text_30 : decode cX5_text 30 = .ok (.aload_n 0, 1) := by decide +kernel
theorem dX5_text_31 : decode cX5_text 31 = .ok (.getfield 12, 3) := by decide +kernel
theorem dX5_text_34 : decode cX5_text 34 = .ok (.invokevirtual 75, 3) := by decide +kernel
theorem dX5_text_37 : decode cX5_text 37 = .ok (.iinc 1 1, 3) := by decide +kernel
theorem dX5_text_40 : decode cX5_text 40 = .ok (.goto (-27), 3) := by decide +kernel
theorem dX5_text_43 : decode cX5_text 43 = .ok (.aload_n 0, 1) := by decide +kernel
theorem dX5_text_44 : decode cX5_text 44 = .ok (.getfield 12, 3) := by decide +kernel
theorem dX5_text_47 : decode cX5_text 47 = .ok (.iconst 0, 1) := by decide +kernel
theorem dX5_text_48 : decode cX5_text 48 = .ok (.putfield 63, 3) := by decide +kernel
theorem dX5_text_51 : decode cX5_text 51 = .ok (.aload_n 0, 1) := by decide +kernel
theorem dX5_text_52 : decode cX5_text 52 = .ok (.getfield 12, 3) := by decide +kernel
theorem dX5_text_55 : decode cX5_text 55 = .ok (.getfield 78, 3) := by decide +kernel
theorem dX5_text_58 : decode cX5_text 58 = .ok (.ifCond .eq 14, 3) := by decide +kernel
theorem dX5_text_61 : decode cX5_text 61 = .ok (.bipush (-10), 2) := by decide +kernel
theorem dX5_text_63 : decode cX5_text 63 = .ok (.aload_n 0, 1) := by decide +kernel
theorem dX5_text_64 : decode cX5_text 64 = .ok (.getfield 12, 3) := by decide +kernel
theorem dX5_text_67 : decode cX5_text 67 = .ok (.getfield 81, 3) := by decide +kernel
theorem dX5_text_70 : decode cX5_text 70 = .ok (.isub, 1) := by decide +kernel
theorem dX5_text_71 : decode cX5_text 71 = .ok (.ireturn, 1) := by decide +kernel
theorem dX5_text_72 : decode cX5_text 72 = .ok (.aload_n 0, 1) := by decide +kernel
theorem dX5_text_73 : decode cX5_text 73 = .ok (.getfield 19, 3) := by decide +kernel
theorem dX5_text_76 : decode cX5_text 76 = .ok (.aload_n 0, 1) := by decide +kernel
theorem dX5_text_77 : decode cX5_text 77 = .ok (.getfield 23, 3) := by decide +kernel
theorem dX5_text_80 : decode cX5_text 80 = .ok (.invokevirtual 84, 3) := by decide +kernel
theorem dX5_text_83 : decode cX5_text 83 = .ok (.aload_n 0, 1) := by decide +kernel
theorem dX5_text_84 : decode cX5_text 84 = .ok (.getfield 36, 3) := by decide +kernel
theorem dX5_text_87 : decode cX5_text 87 = .ok (.iconst 0, 1) := by decide +kernel
theorem dX5_text_88 : decode cX5_text 88 = .ok (.putfield 87, 3) := by decide +kernel
theorem dX5_text_91 : decode cX5_text 91 = .ok (.iconst 0, 1) := by decide +kernel
theorem dX5_text_92 : decode cX5_text 92 = .ok (.istore_n 2, 1) := by decide +kernel
theorem dX5_text_93 : decode cX5_text 93 = .ok (.iload_n 2, 1) := by decide +kernel
theorem dX5_text_94 : decode cX5_text 94 = .ok (.iconst 2, 1) := by decide +kernel
theorem dX5_text_95 : decode cX5_text 95 = .ok (.if_icmp .ge 16, 3) := by decide +kernel
theorem dX5_text_98 : decode cX5_text 98 = .ok (.aload_n 0, 1) := by decide +kernel
theorem dX5_text_99 : decode cX5_text 99 = .ok (.getfield 44, 3) := by decide +kernel
theorem dX5_text_102 : decode cX5_text 102 = .ok (.iload_n 2, 1) := by decide +kernel
theorem dX5_text_103 : decode cX5_text 103 = .ok (.iconst 0, 1) := by decide +kernel
theorem dX5_text_104 : decode cX5_text 104 = .ok (.bastore, 1) := by decide +kernel
theorem dX5_text_105 : decode cX5_text 105 = .ok (.iinc 2 1, 3) := by decide +kernel
theorem dX5_text_108 : decode cX5_text 108 = .ok (.goto (-15), 3) := by decide +kernel
theorem dX5_text_111 : decode cX5_text 111 = .ok (.iload_n 1, 1) := by decide +kernel
theorem dX5_text_112 : decode cX5_text 112 = .ok (.ireturn, 1) := by decide +kernel
theorem dX5_fault_0 : decode cX5_fault 0 = .ok (.aload_n 0, 1) := by decide +kernel
theorem dX5_fault_1 : decode cX5_fault 1 = .ok (.getfield 12, 3) := by decide +kernel
theorem dX5_fault_4 : decode cX5_fault 4 = .ok (.getfield 78, 3) := by decide +kernel
theorem dX5_fault_7 : decode cX5_fault 7 = .ok (.ireturn, 1) := by decide +kernel
theorem dX5_rule_0 : decode cX5_rule 0 = .ok (.iload_n 1, 1) := by decide +kernel
theorem dX5_rule_1 : decode cX5_rule 1 = .ok (.tableswitch 183 0 13 #[71, 79, 87, 95, 103, 111, 119, 127, 135, 143, 151, 159, 167, 175], 71) := by decide +kernel
theorem dX5_rule_72 : decode cX5_rule 72 = .ok (.aload_n 0, 1) := by decide +kernel
theorem dX5_rule_73 : decode cX5_rule 73 = .ok (.getfield 19, 3) := by decide +kernel
theorem dX5_rule_76 : decode cX5_rule 76 = .ok (.getfield 90, 3) := by decide +kernel
theorem dX5_rule_79 : decode cX5_rule 79 = .ok (.ireturn, 1) := by decide +kernel
theorem dX5_rule_80 : decode cX5_rule 80 = .ok (.aload_n 0, 1) := by decide +kernel
theorem dX5_rule_81 : decode cX5_rule 81 = .ok (.getfield 19, 3) := by decide +kernel
theorem dX5_rule_84 : decode cX5_rule 84 = .ok (.getfield 93, 3) := by decide +kernel
theorem dX5_rule_87 : decode cX5_rule 87 = .ok (.ireturn, 1) := by decide +kernel
theorem dX5_rule_88 : decode cX5_rule 88 = .ok (.aload_n 0, 1) := by decide +kernel
theorem dX5_rule_89 : decode cX5_rule 89 = .ok (.getfield 19, 3) := by decide +kernel
theorem dX5_rule_92 : decode cX5_rule 92 = .ok (.getfield 96, 3) := by decide +kernel
theorem dX5_rule_95 : decode cX5_rule 95 = .ok (.ireturn, 1) := by decide +kernel
theorem dX5_rule_96 : decode cX5_rule 96 = .ok (.aload_n 0, 1) := by decide +kernel
theorem dX5_rule_97 : decode cX5_rule 97 = .ok (.getfield 19, 3) := by decide +kernel
theorem dX5_rule_100 : decode cX5_rule 100 = .ok (.getfield 99, 3) := by decide +kernel
theorem dX5_rule_103 : decode cX5_rule 103 = .ok (.ireturn, 1) := by decide +kernel
theorem dX5_rule_104 : decode cX5_rule 104 = .ok (.aload_n 0, 1) := by decide +kernel
theorem dX5_rule_105 : decode cX5_rule 105 = .ok (.getfield 19, 3) := by decide +kernel
theorem dX5_rule_108 : decode cX5_rule 108 = .ok (.getfield 102, 3) := by decide +kernel
theorem dX5_rule_111 : decode cX5_rule 111 = .ok (.ireturn, 1) := by decide +kernel
theorem dX5_rule_112 : decode cX5_rule 112 = .ok (.aload_n 0, 1) := by decide +kernel
theorem dX5_rule_113 : decode cX5_rule 113 = .ok (.getfield 19, 3) := by decide +kernel
theorem dX5_rule_116 : decode cX5_rule 116 = .ok (.getfield 105, 3) := by decide +kernel
theorem dX5_rule_119 : decode cX5_rule 119 = .ok (.ireturn, 1) := by decide +kernel
theorem dX5_rule_120 : decode cX5_rule 120 = .ok (.aload_n 0, 1) := by decide +kernel
theorem dX5_rule_121 : decode cX5_rule 121 = .ok (.getfield 19, 3) := by decide +kernel
theorem dX5_rule_124 : decode cX5_rule 124 = .ok (.getfield 108, 3) := by decide +kernel
theorem dX5_rule_127 : decode cX5_rule 127 = .ok (.ireturn, 1) := by decide +kernel
theorem dX5_rule_128 : decode cX5_rule 128 = .ok (.aload_n 0, 1) := by decide +kernel
theorem dX5_rule_129 : decode cX5_rule 129 = .ok (.getfield 19, 3) := by decide +kernel
theorem dX5_rule_132 : decode cX5_rule 132 = .ok (.getfield 111, 3) := by decide +kernel
theorem dX5_rule_135 : decode cX5_rule 135 = .ok (.ireturn, 1) := by decide +kernel
theorem dX5_rule_136 : decode cX5_rule 136 = .ok (.aload_n 0, 1) := by decide +kernel
theorem dX5_rule_137 : decode cX5_rule 137 = .ok (.getfield 19, 3) := by decide +kernel
theorem dX5_rule_140 : decode cX5_rule 140 = .ok (.getfield 114, 3) := by decide +kernel
theorem dX5_rule_143 : decode cX5_rule 143 = .ok (.ireturn, 1) := by decide +kernel
theorem dX5_rule_144 : decode cX5_rule 144 = .ok (.aload_n 0, 1) := by decide +kernel
theorem dX5_rule_145 : decode cX5_rule 145 = .ok (.getfield 19, 3) := by decide +kernel
theorem dX5_rule_148 : decode cX5_rule 148 = .ok (.getfield 117, 3) := by decide +kernel
theorem dX5_rule_151 : decode cX5_rule 151 = .ok (.ireturn, 1) := by decide +kernel
theorem dX5_rule_152 : decode cX5_rule 152 = .ok (.aload_n 0, 1) := by decide +kernel
theorem dX5_rule_153 : decode cX5_rule 153 = .ok (.getfield 19, 3) := by decide +kernel
theorem dX5_rule_156 : decode cX5_rule 156 = .ok (.getfield 120, 3) := by decide +kernel
theorem dX5_rule_159 : decode cX5_rule 159 = .ok (.ireturn, 1) := by decide +kernel
theorem dX5_rule_160 : decode cX5_rule 160 = .ok (.aload_n 0, 1) := by decide +kernel
theorem dX5_rule_161 : decode cX5_rule 161 = .ok (.getfield 19, 3) := by decide +kernel
theorem dX5_rule_164 : decode cX5_rule 164 = .ok (.getfield 123, 3) := by decide +kernel
theorem dX5_rule_167 : decode cX5_rule 167 = .ok (.ireturn, 1) := by decide +kernel
theorem dX5_rule_168 : decode cX5_rule 168 = .ok (.aload_n 0, 1) := by decide +kernel
theorem dX5_rule_169 : decode cX5_rule 169 = .ok (.getfield 19, 3) := by decide +kernel
theorem dX5_rule_172 : decode cX5_rule 172 = .ok (.getfield 126, 3) := by decide +kernel
theorem dX5_rule_175 : decode cX5_rule 175 = .ok (.ireturn, 1) := by decide +kernel
theorem dX5_rule_176 : decode cX5_rule 176 = .ok (.aload_n 0, 1) := by decide +kernel
theorem dX5_rule_177 : decode cX5_rule 177 = .ok (.getfield 19, 3) := by decide +kernel
theorem dX5_rule_180 : decode cX5_rule 180 = .ok (.getfield 129, 3) := by decide +kernel
theorem dX5_rule_183 : decode cX5_rule 183 = .ok (.ireturn, 1) := by decide +kernel
theorem dX5_rule_184 : decode cX5_rule 184 = .ok (.iconst (-1), 1) := by decide +kernel
theorem dX5_rule_185 : decode cX5_rule 185 = .ok (.ireturn, 1) := by decide +kernel
theorem dX5_land_0 : decode cX5_land 0 = .ok (.aload_n 0, 1) := by decide +kernel
theorem dX5_land_1 : decode cX5_land 1 = .ok (.iload_n 1, 1) := by decide +kernel
theorem dX5_land_2 : decode cX5_land 2 = .ok (.invokevirtual 132, 3) := by decide +kernel
theorem dX5_land_5 : decode cX5_land 5 = .ok (.ifCond .eq 10, 3) := by decide +kernel
theorem dX5_land_8 : decode cX5_land 8 = .ok (.iload_n 2, 1) := by decide +kernel
theorem dX5_land_9 : decode cX5_land 9 = .ok (.invokestatic 135, 3) := by decide +kernel
theorem dX5_land_12 : decode cX5_land 12 = .ok (.ifCond .ne 5, 3) := by decide +kernel
theorem dX5_land_15 : decode cX5_land 15 = .ok (.iconst (-1), 1) := by decide +kernel
theorem dX5_land_16 : decode cX5_land 16 = .ok (.ireturn, 1) := by decide +kernel
theorem dX5_land_17 : decode cX5_land 17 = .ok (.aload_n 0, 1) := by decide +kernel
theorem dX5_land_18 : decode cX5_land 18 = .ok (.getfield 19, 3) := by decide +kernel
theorem dX5_land_21 : decode cX5_land 21 = .ok (.iload_n 2, 1) := by decide +kernel
theorem dX5_land_22 : decode cX5_land 22 = .ok (.invokevirtual 138, 3) := by decide +kernel
theorem dX5_land_25 : decode cX5_land 25 = .ok (.iload_n 1, 1) := by decide +kernel
theorem dX5_land_26 : decode cX5_land 26 = .ok (.iaload, 1) := by decide +kernel
theorem dX5_land_27 : decode cX5_land 27 = .ok (.ireturn, 1) := by decide +kernel
theorem dX5_reading_0 : decode cX5_reading 0 = .ok (.aload_n 0, 1) := by decide +kernel
theorem dX5_reading_1 : decode cX5_reading 1 = .ok (.iload_n 1, 1) := by decide +kernel
theorem dX5_reading_2 : decode cX5_reading 2 = .ok (.invokevirtual 142, 3) := by decide +kernel
theorem dX5_reading_5 : decode cX5_reading 5 = .ok (.ifCond .ne 5, 3) := by decide +kernel
theorem dX5_reading_8 : decode cX5_reading 8 = .ok (.iconst (-1), 1) := by decide +kernel
theorem dX5_reading_9 : decode cX5_reading 9 = .ok (.ireturn, 1) := by decide +kernel
theorem dX5_reading_10 : decode cX5_reading 10 = .ok (.iload_n 2, 1) := by decide +kernel
theorem dX5_reading_11 : decode cX5_reading 11 = .ok (.ifCond .ne 13, 3) := by decide +kernel
theorem dX5_reading_14 : decode cX5_reading 14 = .ok (.aload_n 0, 1) := by decide +kernel
theorem dX5_reading_15 : decode cX5_reading 15 = .ok (.getfield 19, 3) := by decide +kernel
theorem dX5_reading_18 : decode cX5_reading 18 = .ok (.getfield 145, 3) := by decide +kernel
theorem dX5_reading_21 : decode cX5_reading 21 = .ok (.iload_n 1, 1) := by decide +kernel
theorem dX5_reading_22 : decode cX5_reading 22 = .ok (.iaload, 1) := by decide +kernel
theorem dX5_reading_23 : decode cX5_reading 23 = .ok (.ireturn, 1) := by decide +kernel
theorem dX5_reading_24 : decode cX5_reading 24 = .ok (.iload_n 2, 1) := by decide +kernel
theorem dX5_reading_25 : decode cX5_reading 25 = .ok (.iconst 1, 1) := by decide +kernel
theorem dX5_reading_26 : decode cX5_reading 26 = .ok (.if_icmp .ne 20, 3) := by decide +kernel
theorem dX5_reading_29 : decode cX5_reading 29 = .ok (.aload_n 0, 1) := by decide +kernel
theorem dX5_reading_30 : decode cX5_reading 30 = .ok (.getfield 19, 3) := by decide +kernel
theorem dX5_reading_33 : decode cX5_reading 33 = .ok (.iload_n 1, 1) := by decide +kernel
theorem dX5_reading_34 : decode cX5_reading 34 = .ok (.invokevirtual 149, 3) := by decide +kernel
theorem dX5_reading_37 : decode cX5_reading 37 = .ok (.ifCond .eq 7, 3) := by decide +kernel
theorem dX5_reading_40 : decode cX5_reading 40 = .ok (.iconst 1, 1) := by decide +kernel
theorem dX5_reading_41 : decode cX5_reading 41 = .ok (.goto 4, 3) := by decide +kernel
theorem dX5_reading_44 : decode cX5_reading 44 = .ok (.iconst 0, 1) := by decide +kernel
theorem dX5_reading_45 : decode cX5_reading 45 = .ok (.ireturn, 1) := by decide +kernel
theorem dX5_reading_46 : decode cX5_reading 46 = .ok (.iload_n 2, 1) := by decide +kernel
theorem dX5_reading_47 : decode cX5_reading 47 = .ok (.bipush 10, 2) := by decide +kernel
theorem dX5_reading_49 : decode cX5_reading 49 = .ok (.bipush 17, 2) := by decide +kernel
theorem dX5_reading_51 : decode cX5_reading 51 = .ok (.invokestatic 55, 3) := by decide +kernel
theorem dX5_reading_54 : decode cX5_reading 54 = .ok (.ifCond .eq 18, 3) := by decide +kernel
theorem dX5_reading_57 : decode cX5_reading 57 = .ok (.aload_n 0, 1) := by decide +kernel
theorem dX5_reading_58 : decode cX5_reading 58 = .ok (.getfield 19, 3) := by decide +kernel
theorem dX5_reading_61 : decode cX5_reading 61 = .ok (.iload_n 1, 1) := by decide +kernel
theorem dX5_reading_62 : decode cX5_reading 62 = .ok (.iload_n 2, 1) := by decide +kernel
theorem dX5_reading_63 : decode cX5_reading 63 = .ok (.bipush 10, 2) := by decide +kernel
theorem dX5_reading_65 : decode cX5_reading 65 = .ok (.isub, 1) := by decide +kernel
theorem dX5_reading_66 : decode cX5_reading 66 = .ok (.invokevirtual 152, 3) := by decide +kernel
theorem dX5_reading_69 : decode cX5_reading 69 = .ok (.goto 4, 3) := by decide +kernel
theorem dX5_reading_72 : decode cX5_reading 72 = .ok (.iconst (-1), 1) := by decide +kernel
theorem dX5_reading_73 : decode cX5_reading 73 = .ok (.ireturn, 1) := by decide +kernel
theorem dX5_bears_0 : decode cX5_bears 0 = .ok (.iload_n 1, 1) := by decide +kernel
theorem dX5_bears_1 : decode cX5_bears 1 = .ok (.invokestatic 135, 3) := by decide +kernel
theorem dX5_bears_4 : decode cX5_bears 4 = .ok (.ifCond .eq 14, 3) := by decide +kernel
theorem dX5_bears_7 : decode cX5_bears 7 = .ok (.aload_n 0, 1) := by decide +kernel
theorem dX5_bears_8 : decode cX5_bears 8 = .ok (.getfield 19, 3) := by decide +kernel
theorem dX5_bears_11 : decode cX5_bears 11 = .ok (.iload_n 1, 1) := by decide +kernel
theorem dX5_bears_12 : decode cX5_bears 12 = .ok (.invokevirtual 156, 3) := by decide +kernel
theorem dX5_bears_15 : decode cX5_bears 15 = .ok (.goto 4, 3) := by decide +kernel
theorem dX5_bears_18 : decode cX5_bears 18 = .ok (.iconst (-1), 1) := by decide +kernel
theorem dX5_bears_19 : decode cX5_bears 19 = .ok (.ireturn, 1) := by decide +kernel
theorem dX5_till_0 : decode cX5_till 0 = .ok (.aload_n 0, 1) := by decide +kernel
theorem dX5_till_1 : decode cX5_till 1 = .ok (.iload_n 1, 1) := by decide +kernel
theorem dX5_till_2 : decode cX5_till 2 = .ok (.invokevirtual 132, 3) := by decide +kernel
theorem dX5_till_5 : decode cX5_till 5 = .ok (.ifCond .eq 20, 3) := by decide +kernel
theorem dX5_till_8 : decode cX5_till 8 = .ok (.iload_n 2, 1) := by decide +kernel
theorem dX5_till_9 : decode cX5_till 9 = .ok (.invokestatic 135, 3) := by decide +kernel
theorem dX5_till_12 : decode cX5_till 12 = .ok (.ifCond .eq 13, 3) := by decide +kernel
theorem dX5_till_15 : decode cX5_till 15 = .ok (.iload_n 3, 1) := by decide +kernel
theorem dX5_till_16 : decode cX5_till 16 = .ok (.iconst 0, 1) := by decide +kernel
theorem dX5_till_17 : decode cX5_till 17 = .ok (.bipush 9, 2) := by decide +kernel
theorem dX5_till_19 : decode cX5_till 19 = .ok (.invokestatic 55, 3) := by decide +kernel
theorem dX5_till_22 : decode cX5_till 22 = .ok (.ifCond .ne 5, 3) := by decide +kernel
theorem dX5_till_25 : decode cX5_till 25 = .ok (.iconst (-1), 1) := by decide +kernel
theorem dX5_till_26 : decode cX5_till 26 = .ok (.ireturn, 1) := by decide +kernel
theorem dX5_till_27 : decode cX5_till 27 = .ok (.aload_n 0, 1) := by decide +kernel
theorem dX5_till_28 : decode cX5_till 28 = .ok (.getfield 19, 3) := by decide +kernel
theorem dX5_till_31 : decode cX5_till 31 = .ok (.iload_n 2, 1) := by decide +kernel
theorem dX5_till_32 : decode cX5_till 32 = .ok (.invokevirtual 138, 3) := by decide +kernel
theorem dX5_till_35 : decode cX5_till 35 = .ok (.astore 4, 2) := by decide +kernel
theorem dX5_till_37 : decode cX5_till 37 = .ok (.aload 4, 2) := by decide +kernel
theorem dX5_till_39 : decode cX5_till 39 = .ok (.iload_n 1, 1) := by decide +kernel
theorem dX5_till_40 : decode cX5_till 40 = .ok (.iaload, 1) := by decide +kernel
theorem dX5_till_41 : decode cX5_till 41 = .ok (.istore 5, 2) := by decide +kernel
theorem dX5_till_43 : decode cX5_till 43 = .ok (.aload 4, 2) := by decide +kernel
theorem dX5_till_45 : decode cX5_till 45 = .ok (.iload_n 1, 1) := by decide +kernel
theorem dX5_till_46 : decode cX5_till 46 = .ok (.iload_n 3, 1) := by decide +kernel
theorem dX5_till_47 : decode cX5_till 47 = .ok (.iastore, 1) := by decide +kernel
theorem dX5_till_48 : decode cX5_till 48 = .ok (.iload 5, 2) := by decide +kernel
theorem dX5_till_50 : decode cX5_till 50 = .ok (.ireturn, 1) := by decide +kernel
theorem dX5_weigh_0 : decode cX5_weigh 0 = .ok (.aload_n 0, 1) := by decide +kernel
theorem dX5_weigh_1 : decode cX5_weigh 1 = .ok (.iload_n 1, 1) := by decide +kernel
theorem dX5_weigh_2 : decode cX5_weigh 2 = .ok (.invokevirtual 142, 3) := by decide +kernel
theorem dX5_weigh_5 : decode cX5_weigh 5 = .ok (.ifCond .eq 13, 3) := by decide +kernel
theorem dX5_weigh_8 : decode cX5_weigh 8 = .ok (.iload_n 2, 1) := by decide +kernel
theorem dX5_weigh_9 : decode cX5_weigh 9 = .ok (.iconst 1, 1) := by decide +kernel
theorem dX5_weigh_10 : decode cX5_weigh 10 = .ok (.bipush 9, 2) := by decide +kernel
theorem dX5_weigh_12 : decode cX5_weigh 12 = .ok (.invokestatic 55, 3) := by decide +kernel
theorem dX5_weigh_15 : decode cX5_weigh 15 = .ok (.ifCond .ne 5, 3) := by decide +kernel
theorem dX5_weigh_18 : decode cX5_weigh 18 = .ok (.iconst (-1), 1) := by decide +kernel
theorem dX5_weigh_19 : decode cX5_weigh 19 = .ok (.ireturn, 1) := by decide +kernel
theorem dX5_weigh_20 : decode cX5_weigh 20 = .ok (.aload_n 0, 1) := by decide +kernel
theorem dX5_weigh_21 : decode cX5_weigh 21 = .ok (.getfield 19, 3) := by decide +kernel
theorem dX5_weigh_24 : decode cX5_weigh 24 = .ok (.getfield 145, 3) := by decide +kernel
theorem dX5_weigh_27 : decode cX5_weigh 27 = .ok (.iload_n 1, 1) := by decide +kernel
theorem dX5_weigh_28 : decode cX5_weigh 28 = .ok (.iaload, 1) := by decide +kernel
theorem dX5_weigh_29 : decode cX5_weigh 29 = .ok (.istore_n 3, 1) := by decide +kernel
theorem dX5_weigh_30 : decode cX5_weigh 30 = .ok (.aload_n 0, 1) := by decide +kernel
theorem dX5_weigh_31 : decode cX5_weigh 31 = .ok (.getfield 19, 3) := by decide +kernel
theorem dX5_weigh_34 : decode cX5_weigh 34 = .ok (.getfield 145, 3) := by decide +kernel
theorem dX5_weigh_37 : decode cX5_weigh 37 = .ok (.iload_n 1, 1) := by decide +kernel
theorem dX5_weigh_38 : decode cX5_weigh 38 = .ok (.iload_n 2, 1) := by decide +kernel
theorem dX5_weigh_39 : decode cX5_weigh 39 = .ok (.iastore, 1) := by decide +kernel
theorem dX5_weigh_40 : decode cX5_weigh 40 = .ok (.iload_n 3, 1) := by decide +kernel
theorem dX5_weigh_41 : decode cX5_weigh 41 = .ok (.ireturn, 1) := by decide +kernel
theorem dX5_need_0 : decode cX5_need 0 = .ok (.iload_n 1, 1) := by decide +kernel
theorem dX5_need_1 : decode cX5_need 1 = .ok (.iconst 0, 1) := by decide +kernel
theorem dX5_need_2 : decode cX5_need 2 = .ok (.bipush 40, 2) := by decide +kernel
theorem dX5_need_4 : decode cX5_need 4 = .ok (.invokestatic 55, 3) := by decide +kernel
theorem dX5_need_7 : decode cX5_need 7 = .ok (.ifCond .ne 5, 3) := by decide +kernel
theorem dX5_need_10 : decode cX5_need 10 = .ok (.iconst (-1), 1) := by decide +kernel
theorem dX5_need_11 : decode cX5_need 11 = .ok (.ireturn, 1) := by decide +kernel
theorem dX5_need_12 : decode cX5_need 12 = .ok (.aload_n 0, 1) := by decide +kernel
theorem dX5_need_13 : decode cX5_need 13 = .ok (.getfield 19, 3) := by decide +kernel
theorem dX5_need_16 : decode cX5_need 16 = .ok (.getfield 96, 3) := by decide +kernel
theorem dX5_need_19 : decode cX5_need 19 = .ok (.istore_n 2, 1) := by decide +kernel
theorem dX5_need_20 : decode cX5_need 20 = .ok (.aload_n 0, 1) := by decide +kernel
theorem dX5_need_21 : decode cX5_need 21 = .ok (.getfield 19, 3) := by decide +kernel
theorem dX5_need_24 : decode cX5_need 24 = .ok (.iload_n 1, 1) := by decide +kernel
theorem dX5_need_25 : decode cX5_need 25 = .ok (.putfield 96, 3) := by decide +kernel
theorem dX5_need_28 : decode cX5_need 28 = .ok (.iload_n 2, 1) := by decide +kernel
theorem dX5_need_29 : decode cX5_need 29 = .ok (.ireturn, 1) := by decide +kernel
theorem dX5_hunger_0 : decode cX5_hunger 0 = .ok (.iload_n 1, 1) := by decide +kernel
theorem dX5_hunger_1 : decode cX5_hunger 1 = .ok (.iconst 0, 1) := by decide +kernel
theorem dX5_hunger_2 : decode cX5_hunger 2 = .ok (.bipush 20, 2) := by decide +kernel
theorem dX5_hunger_4 : decode cX5_hunger 4 = .ok (.invokestatic 55, 3) := by decide +kernel
theorem dX5_hunger_7 : decode cX5_hunger 7 = .ok (.ifCond .ne 5, 3) := by decide +kernel
theorem dX5_hunger_10 : decode cX5_hunger 10 = .ok (.iconst (-1), 1) := by decide +kernel
theorem dX5_hunger_11 : decode cX5_hunger 11 = .ok (.ireturn, 1) := by decide +kernel
theorem dX5_hunger_12 : decode cX5_hunger 12 = .ok (.aload_n 0, 1) := by decide +kernel
theorem dX5_hunger_13 : decode cX5_hunger 13 = .ok (.getfield 19, 3) := by decide +kernel
theorem dX5_hunger_16 : decode cX5_hunger 16 = .ok (.getfield 99, 3) := by decide +kernel
theorem dX5_hunger_19 : decode cX5_hunger 19 = .ok (.istore_n 2, 1) := by decide +kernel
theorem dX5_hunger_20 : decode cX5_hunger 20 = .ok (.aload_n 0, 1) := by decide +kernel
theorem dX5_hunger_21 : decode cX5_hunger 21 = .ok (.getfield 19, 3) := by decide +kernel
theorem dX5_hunger_24 : decode cX5_hunger 24 = .ok (.iload_n 1, 1) := by decide +kernel
theorem dX5_hunger_25 : decode cX5_hunger 25 = .ok (.putfield 99, 3) := by decide +kernel
theorem dX5_hunger_28 : decode cX5_hunger 28 = .ok (.iload_n 2, 1) := by decide +kernel
theorem dX5_hunger_29 : decode cX5_hunger 29 = .ok (.ireturn, 1) := by decide +kernel
theorem dX5_cap_0 : decode cX5_cap 0 = .ok (.iload_n 1, 1) := by decide +kernel
theorem dX5_cap_1 : decode cX5_cap 1 = .ok (.iconst 0, 1) := by decide +kernel
theorem dX5_cap_2 : decode cX5_cap 2 = .ok (.bipush 40, 2) := by decide +kernel
theorem dX5_cap_4 : decode cX5_cap 4 = .ok (.invokestatic 55, 3) := by decide +kernel
theorem dX5_cap_7 : decode cX5_cap 7 = .ok (.ifCond .ne 5, 3) := by decide +kernel
theorem dX5_cap_10 : decode cX5_cap 10 = .ok (.iconst (-1), 1) := by decide +kernel
theorem dX5_cap_11 : decode cX5_cap 11 = .ok (.ireturn, 1) := by decide +kernel
theorem dX5_cap_12 : decode cX5_cap 12 = .ok (.aload_n 0, 1) := by decide +kernel
theorem dX5_cap_13 : decode cX5_cap 13 = .ok (.getfield 19, 3) := by decide +kernel
theorem dX5_cap_16 : decode cX5_cap 16 = .ok (.getfield 108, 3) := by decide +kernel
theorem dX5_cap_19 : decode cX5_cap 19 = .ok (.iload_n 1, 1) := by decide +kernel
theorem dX5_cap_20 : decode cX5_cap 20 = .ok (.if_icmp .le 6, 3) := by decide +kernel
theorem dX5_cap_23 : decode cX5_cap 23 = .ok (.bipush (-2), 2) := by decide +kernel
theorem dX5_cap_25 : decode cX5_cap 25 = .ok (.ireturn, 1) := by decide +kernel
theorem dX5_cap_26 : decode cX5_cap 26 = .ok (.aload_n 0, 1) := by decide +kernel
theorem dX5_cap_27 : decode cX5_cap 27 = .ok (.getfield 19, 3) := by decide +kernel
theorem dX5_cap_30 : decode cX5_cap 30 = .ok (.getfield 102, 3) := by decide +kernel
theorem dX5_cap_33 : decode cX5_cap 33 = .ok (.istore_n 2, 1) := by decide +kernel
theorem dX5_cap_34 : decode cX5_cap 34 = .ok (.aload_n 0, 1) := by decide +kernel
theorem dX5_cap_35 : decode cX5_cap 35 = .ok (.getfield 19, 3) := by decide +kernel
theorem dX5_cap_38 : decode cX5_cap 38 = .ok (.iload_n 1, 1) := by decide +kernel
theorem dX5_cap_39 : decode cX5_cap 39 = .ok (.putfield 102, 3) := by decide +kernel
theorem dX5_cap_42 : decode cX5_cap 42 = .ok (.iload_n 2, 1) := by decide +kernel
theorem dX5_cap_43 : decode cX5_cap 43 = .ok (.ireturn, 1) := by decide +kernel
theorem dX5_rot_0 : decode cX5_rot 0 = .ok (.iload_n 1, 1) := by decide +kernel
theorem dX5_rot_1 : decode cX5_rot 1 = .ok (.invokestatic 160, 3) := by decide +kernel
theorem dX5_rot_4 : decode cX5_rot 4 = .ok (.ifCond .ne 5, 3) := by decide +kernel
theorem dX5_rot_7 : decode cX5_rot 7 = .ok (.iconst (-1), 1) := by decide +kernel
theorem dX5_rot_8 : decode cX5_rot 8 = .ok (.ireturn, 1) := by decide +kernel
theorem dX5_rot_9 : decode cX5_rot 9 = .ok (.aload_n 0, 1) := by decide +kernel
theorem dX5_rot_10 : decode cX5_rot 10 = .ok (.getfield 19, 3) := by decide +kernel
theorem dX5_rot_13 : decode cX5_rot 13 = .ok (.getfield 105, 3) := by decide +kernel
theorem dX5_rot_16 : decode cX5_rot 16 = .ok (.istore_n 2, 1) := by decide +kernel
theorem dX5_rot_17 : decode cX5_rot 17 = .ok (.aload_n 0, 1) := by decide +kernel
theorem dX5_rot_18 : decode cX5_rot 18 = .ok (.getfield 19, 3) := by decide +kernel
theorem dX5_rot_21 : decode cX5_rot 21 = .ok (.iload_n 1, 1) := by decide +kernel
theorem dX5_rot_22 : decode cX5_rot 22 = .ok (.putfield 105, 3) := by decide +kernel
theorem dX5_rot_25 : decode cX5_rot 25 = .ok (.iload_n 2, 1) := by decide +kernel
theorem dX5_rot_26 : decode cX5_rot 26 = .ok (.ireturn, 1) := by decide +kernel
theorem dX5_fill_0 : decode cX5_fill 0 = .ok (.iload_n 1, 1) := by decide +kernel
theorem dX5_fill_1 : decode cX5_fill 1 = .ok (.iconst 0, 1) := by decide +kernel
theorem dX5_fill_2 : decode cX5_fill 2 = .ok (.aload_n 0, 1) := by decide +kernel
theorem dX5_fill_3 : decode cX5_fill 3 = .ok (.getfield 19, 3) := by decide +kernel
theorem dX5_fill_6 : decode cX5_fill 6 = .ok (.getfield 102, 3) := by decide +kernel
theorem dX5_fill_9 : decode cX5_fill 9 = .ok (.invokestatic 55, 3) := by decide +kernel
theorem dX5_fill_12 : decode cX5_fill 12 = .ok (.ifCond .ne 5, 3) := by decide +kernel
theorem dX5_fill_15 : decode cX5_fill 15 = .ok (.iconst (-1), 1) := by decide +kernel
theorem dX5_fill_16 : decode cX5_fill 16 = .ok (.ireturn, 1) := by decide +kernel
theorem dX5_fill_17 : decode cX5_fill 17 = .ok (.aload_n 0, 1) := by decide +kernel
theorem dX5_fill_18 : decode cX5_fill 18 = .ok (.getfield 19, 3) := by decide +kernel
theorem dX5_fill_21 : decode cX5_fill 21 = .ok (.getfield 108, 3) := by decide +kernel
theorem dX5_fill_24 : decode cX5_fill 24 = .ok (.istore_n 2, 1) := by decide +kernel
theorem dX5_fill_25 : decode cX5_fill 25 = .ok (.aload_n 0, 1) := by decide +kernel
theorem dX5_fill_26 : decode cX5_fill 26 = .ok (.getfield 19, 3) := by decide +kernel
theorem dX5_fill_29 : decode cX5_fill 29 = .ok (.iload_n 1, 1) := by decide +kernel
theorem dX5_fill_30 : decode cX5_fill 30 = .ok (.putfield 108, 3) := by decide +kernel
theorem dX5_fill_33 : decode cX5_fill 33 = .ok (.iload_n 2, 1) := by decide +kernel
theorem dX5_fill_34 : decode cX5_fill 34 = .ok (.ireturn, 1) := by decide +kernel
theorem dX5_price_0 : decode cX5_price 0 = .ok (.iload_n 1, 1) := by decide +kernel
theorem dX5_price_1 : decode cX5_price 1 = .ok (.invokestatic 135, 3) := by decide +kernel
theorem dX5_price_4 : decode cX5_price 4 = .ok (.ifCond .eq 13, 3) := by decide +kernel
theorem dX5_price_7 : decode cX5_price 7 = .ok (.iload_n 2, 1) := by decide +kernel
theorem dX5_price_8 : decode cX5_price 8 = .ok (.iconst 0, 1) := by decide +kernel
theorem dX5_price_9 : decode cX5_price 9 = .ok (.bipush 9, 2) := by decide +kernel
theorem dX5_price_11 : decode cX5_price 11 = .ok (.invokestatic 55, 3) := by decide +kernel
theorem dX5_price_14 : decode cX5_price 14 = .ok (.ifCond .ne 5, 3) := by decide +kernel
theorem dX5_price_17 : decode cX5_price 17 = .ok (.iconst (-1), 1) := by decide +kernel
theorem dX5_price_18 : decode cX5_price 18 = .ok (.ireturn, 1) := by decide +kernel
theorem dX5_price_19 : decode cX5_price 19 = .ok (.aload_n 0, 1) := by decide +kernel
theorem dX5_price_20 : decode cX5_price 20 = .ok (.getfield 19, 3) := by decide +kernel
theorem dX5_price_23 : decode cX5_price 23 = .ok (.iload_n 1, 1) := by decide +kernel
theorem dX5_price_24 : decode cX5_price 24 = .ok (.invokevirtual 163, 3) := by decide +kernel
theorem dX5_price_27 : decode cX5_price 27 = .ok (.istore_n 3, 1) := by decide +kernel
theorem dX5_price_28 : decode cX5_price 28 = .ok (.iload_n 1, 1) := by decide +kernel
theorem dX5_price_29 : decode cX5_price 29 = .ok (.iconst 1, 1) := by decide +kernel
theorem dX5_price_30 : decode cX5_price 30 = .ok (.if_icmp .ne 14, 3) := by decide +kernel
theorem dX5_price_33 : decode cX5_price 33 = .ok (.aload_n 0, 1) := by decide +kernel
theorem dX5_price_34 : decode cX5_price 34 = .ok (.getfield 19, 3) := by decide +kernel
theorem dX5_price_37 : decode cX5_price 37 = .ok (.iload_n 2, 1) := by decide +kernel
theorem dX5_price_38 : decode cX5_price 38 = .ok (.putfield 111, 3) := by decide +kernel
theorem dX5_price_41 : decode cX5_price 41 = .ok (.goto 11, 3) := by decide +kernel
theorem dX5_price_44 : decode cX5_price 44 = .ok (.aload_n 0, 1) := by decide +kernel
theorem dX5_price_45 : decode cX5_price 45 = .ok (.getfield 19, 3) := by decide +kernel
theorem dX5_price_48 : decode cX5_price 48 = .ok (.iload_n 2, 1) := by decide +kernel
theorem dX5_price_49 : decode cX5_price 49 = .ok (.putfield 114, 3) := by decide +kernel
theorem dX5_price_52 : decode cX5_price 52 = .ok (.iload_n 3, 1) := by decide +kernel
theorem dX5_price_53 : decode cX5_price 53 = .ok (.ireturn, 1) := by decide +kernel
theorem dX5_steward_0 : decode cX5_steward 0 = .ok (.iload_n 1, 1) := by decide +kernel
theorem dX5_steward_1 : decode cX5_steward 1 = .ok (.iconst 0, 1) := by decide +kernel
theorem dX5_steward_2 : decode cX5_steward 2 = .ok (.iconst 4, 1) := by decide +kernel
theorem dX5_steward_3 : decode cX5_steward 3 = .ok (.invokestatic 55, 3) := by decide +kernel
theorem dX5_steward_6 : decode cX5_steward 6 = .ok (.ifCond .eq 13, 3) := by decide +kernel
theorem dX5_steward_9 : decode cX5_steward 9 = .ok (.iload_n 2, 1) := by decide +kernel
theorem dX5_steward_10 : decode cX5_steward 10 = .ok (.iconst 0, 1) := by decide +kernel
theorem dX5_steward_11 : decode cX5_steward 11 = .ok (.bipush 9, 2) := by decide +kernel
theorem dX5_steward_13 : decode cX5_steward 13 = .ok (.invokestatic 55, 3) := by decide +kernel
theorem dX5_steward_16 : decode cX5_steward 16 = .ok (.ifCond .ne 5, 3) := by decide +kernel
theorem dX5_steward_19 : decode cX5_steward 19 = .ok (.iconst (-1), 1) := by decide +kernel
theorem dX5_steward_20 : decode cX5_steward 20 = .ok (.ireturn, 1) := by decide +kernel
theorem dX5_steward_21 : decode cX5_steward 21 = .ok (.aload_n 0, 1) := by decide +kernel
theorem dX5_steward_22 : decode cX5_steward 22 = .ok (.getfield 19, 3) := by decide +kernel
theorem dX5_steward_25 : decode cX5_steward 25 = .ok (.getfield 117, 3) := by decide +kernel
theorem dX5_steward_28 : decode cX5_steward 28 = .ok (.istore_n 3, 1) := by decide +kernel
theorem dX5_steward_29 : decode cX5_steward 29 = .ok (.aload_n 0, 1) := by decide +kernel
theorem dX5_steward_30 : decode cX5_steward 30 = .ok (.getfield 19, 3) := by decide +kernel
theorem dX5_steward_33 : decode cX5_steward 33 = .ok (.iload_n 1, 1) := by decide +kernel
theorem dX5_steward_34 : decode cX5_steward 34 = .ok (.iload_n 2, 1) := by decide +kernel
theorem dX5_steward_35 : decode cX5_steward 35 = .ok (.invokevirtual 166, 3) := by decide +kernel
theorem dX5_steward_38 : decode cX5_steward 38 = .ok (.iload_n 3, 1) := by decide +kernel
theorem dX5_steward_39 : decode cX5_steward 39 = .ok (.ireturn, 1) := by decide +kernel
theorem dX5_go_0 : decode cX5_go 0 = .ok (.aload_n 0, 1) := by decide +kernel
theorem dX5_go_1 : decode cX5_go 1 = .ok (.getfield 19, 3) := by decide +kernel
theorem dX5_go_4 : decode cX5_go 4 = .ok (.iload_n 1, 1) := by decide +kernel
theorem dX5_go_5 : decode cX5_go 5 = .ok (.iload_n 2, 1) := by decide +kernel
theorem dX5_go_6 : decode cX5_go 6 = .ok (.invokevirtual 170, 3) := by decide +kernel
theorem dX5_go_9 : decode cX5_go 9 = .ok (.ireturn, 1) := by decide +kernel
theorem dX5_year_0 : decode cX5_year 0 = .ok (.iload_n 1, 1) := by decide +kernel
theorem dX5_year_1 : decode cX5_year 1 = .ok (.invokestatic 135, 3) := by decide +kernel
theorem dX5_year_4 : decode cX5_year 4 = .ok (.ifCond .ne 5, 3) := by decide +kernel
theorem dX5_year_7 : decode cX5_year 7 = .ok (.iconst (-1), 1) := by decide +kernel
theorem dX5_year_8 : decode cX5_year 8 = .ok (.ireturn, 1) := by decide +kernel
theorem dX5_year_9 : decode cX5_year 9 = .ok (.aload_n 0, 1) := by decide +kernel
theorem dX5_year_10 : decode cX5_year 10 = .ok (.getfield 19, 3) := by decide +kernel
theorem dX5_year_13 : decode cX5_year 13 = .ok (.invokevirtual 173, 3) := by decide +kernel
theorem dX5_year_16 : decode cX5_year 16 = .ok (.ifCond .eq 8, 3) := by decide +kernel
theorem dX5_year_19 : decode cX5_year 19 = .ok (.bipush (-3), 2) := by decide +kernel
theorem dX5_year_21 : decode cX5_year 21 = .ok (.goto 11, 3) := by decide +kernel
theorem dX5_year_24 : decode cX5_year 24 = .ok (.aload_n 0, 1) := by decide +kernel
theorem dX5_year_25 : decode cX5_year 25 = .ok (.getfield 19, 3) := by decide +kernel
theorem dX5_year_28 : decode cX5_year 28 = .ok (.iload_n 1, 1) := by decide +kernel
theorem dX5_year_29 : decode cX5_year 29 = .ok (.invokevirtual 176, 3) := by decide +kernel
theorem dX5_year_32 : decode cX5_year 32 = .ok (.ireturn, 1) := by decide +kernel
theorem dX5_keeps_0 : decode cX5_keeps 0 = .ok (.iload_n 1, 1) := by decide +kernel
theorem dX5_keeps_1 : decode cX5_keeps 1 = .ok (.iconst 0, 1) := by decide +kernel
theorem dX5_keeps_2 : decode cX5_keeps 2 = .ok (.bipush 99, 2) := by decide +kernel
theorem dX5_keeps_4 : decode cX5_keeps 4 = .ok (.invokestatic 55, 3) := by decide +kernel
theorem dX5_keeps_7 : decode cX5_keeps 7 = .ok (.ifCond .eq 14, 3) := by decide +kernel
theorem dX5_keeps_10 : decode cX5_keeps 10 = .ok (.aload_n 0, 1) := by decide +kernel
theorem dX5_keeps_11 : decode cX5_keeps 11 = .ok (.getfield 19, 3) := by decide +kernel
theorem dX5_keeps_14 : decode cX5_keeps 14 = .ok (.iload_n 1, 1) := by decide +kernel
theorem dX5_keeps_15 : decode cX5_keeps 15 = .ok (.invokevirtual 179, 3) := by decide +kernel
theorem dX5_keeps_18 : decode cX5_keeps 18 = .ok (.goto 4, 3) := by decide +kernel
theorem dX5_keeps_21 : decode cX5_keeps 21 = .ok (.iconst (-1), 1) := by decide +kernel
theorem dX5_keeps_22 : decode cX5_keeps 22 = .ok (.ireturn, 1) := by decide +kernel
theorem dX5_ahead_0 : decode cX5_ahead 0 = .ok (.aload_n 0, 1) := by decide +kernel
theorem dX5_ahead_1 : decode cX5_ahead 1 = .ok (.iload_n 1, 1) := by decide +kernel
theorem dX5_ahead_2 : decode cX5_ahead 2 = .ok (.invokevirtual 142, 3) := by decide +kernel
theorem dX5_ahead_5 : decode cX5_ahead 5 = .ok (.ifCond .eq 22, 3) := by decide +kernel
theorem dX5_ahead_8 : decode cX5_ahead 8 = .ok (.iload_n 2, 1) := by decide +kernel
theorem dX5_ahead_9 : decode cX5_ahead 9 = .ok (.iconst 0, 1) := by decide +kernel
theorem dX5_ahead_10 : decode cX5_ahead 10 = .ok (.bipush 8, 2) := by decide +kernel
theorem dX5_ahead_12 : decode cX5_ahead 12 = .ok (.invokestatic 55, 3) := by decide +kernel
theorem dX5_ahead_15 : decode cX5_ahead 15 = .ok (.ifCond .eq 12, 3) := by decide +kernel
theorem dX5_ahead_18 : decode cX5_ahead 18 = .ok (.iload_n 3, 1) := by decide +kernel
theorem dX5_ahead_19 : decode cX5_ahead 19 = .ok (.iconst 0, 1) := by decide +kernel
theorem dX5_ahead_20 : decode cX5_ahead 20 = .ok (.iconst 2, 1) := by decide +kernel
theorem dX5_ahead_21 : decode cX5_ahead 21 = .ok (.invokestatic 55, 3) := by decide +kernel
theorem dX5_ahead_24 : decode cX5_ahead 24 = .ok (.ifCond .ne 5, 3) := by decide +kernel
theorem dX5_ahead_27 : decode cX5_ahead 27 = .ok (.iconst (-1), 1) := by decide +kernel
theorem dX5_ahead_28 : decode cX5_ahead 28 = .ok (.ireturn, 1) := by decide +kernel
theorem dX5_ahead_29 : decode cX5_ahead 29 = .ok (.aload_n 0, 1) := by decide +kernel
theorem dX5_ahead_30 : decode cX5_ahead 30 = .ok (.getfield 23, 3) := by decide +kernel
theorem dX5_ahead_33 : decode cX5_ahead 33 = .ok (.aload_n 0, 1) := by decide +kernel
theorem dX5_ahead_34 : decode cX5_ahead 34 = .ok (.getfield 19, 3) := by decide +kernel
theorem dX5_ahead_37 : decode cX5_ahead 37 = .ok (.invokevirtual 84, 3) := by decide +kernel
theorem dX5_ahead_40 : decode cX5_ahead 40 = .ok (.aload_n 0, 1) := by decide +kernel
theorem dX5_ahead_41 : decode cX5_ahead 41 = .ok (.getfield 23, 3) := by decide +kernel
theorem dX5_ahead_44 : decode cX5_ahead 44 = .ok (.iload_n 1, 1) := by decide +kernel
theorem dX5_ahead_45 : decode cX5_ahead 45 = .ok (.iload_n 2, 1) := by decide +kernel
theorem dX5_ahead_46 : decode cX5_ahead 46 = .ok (.invokevirtual 182, 3) := by decide +kernel
theorem dX5_ahead_49 : decode cX5_ahead 49 = .ok (.iload_n 3, 1) := by decide +kernel
theorem dX5_ahead_50 : decode cX5_ahead 50 = .ok (.ifCond .ne 11, 3) := by decide +kernel
theorem dX5_ahead_53 : decode cX5_ahead 53 = .ok (.aload_n 0, 1) := by decide +kernel
theorem dX5_ahead_54 : decode cX5_ahead 54 = .ok (.getfield 23, 3) := by decide +kernel
theorem dX5_ahead_57 : decode cX5_ahead 57 = .ok (.getfield 108, 3) := by decide +kernel
theorem dX5_ahead_60 : decode cX5_ahead 60 = .ok (.ireturn, 1) := by decide +kernel
theorem dX5_ahead_61 : decode cX5_ahead 61 = .ok (.iload_n 3, 1) := by decide +kernel
theorem dX5_ahead_62 : decode cX5_ahead 62 = .ok (.iconst 1, 1) := by decide +kernel
theorem dX5_ahead_63 : decode cX5_ahead 63 = .ok (.if_icmp .ne 21, 3) := by decide +kernel
theorem dX5_ahead_66 : decode cX5_ahead 66 = .ok (.aload_n 0, 1) := by decide +kernel
theorem dX5_ahead_67 : decode cX5_ahead 67 = .ok (.getfield 23, 3) := by decide +kernel
theorem dX5_ahead_70 : decode cX5_ahead 70 = .ok (.getfield 126, 3) := by decide +kernel
theorem dX5_ahead_73 : decode cX5_ahead 73 = .ok (.aload_n 0, 1) := by decide +kernel
theorem dX5_ahead_74 : decode cX5_ahead 74 = .ok (.getfield 19, 3) := by decide +kernel
theorem dX5_ahead_77 : decode cX5_ahead 77 = .ok (.getfield 126, 3) := by decide +kernel
theorem dX5_ahead_80 : decode cX5_ahead 80 = .ok (.isub, 1) := by decide +kernel
theorem dX5_ahead_81 : decode cX5_ahead 81 = .ok (.goto 18, 3) := by decide +kernel
theorem dX5_ahead_84 : decode cX5_ahead 84 = .ok (.aload_n 0, 1) := by decide +kernel
theorem dX5_ahead_85 : decode cX5_ahead 85 = .ok (.getfield 23, 3) := by decide +kernel
theorem dX5_ahead_88 : decode cX5_ahead 88 = .ok (.getfield 129, 3) := by decide +kernel
theorem dX5_ahead_91 : decode cX5_ahead 91 = .ok (.aload_n 0, 1) := by decide +kernel
theorem dX5_ahead_92 : decode cX5_ahead 92 = .ok (.getfield 19, 3) := by decide +kernel
theorem dX5_ahead_95 : decode cX5_ahead 95 = .ok (.getfield 129, 3) := by decide +kernel
theorem dX5_ahead_98 : decode cX5_ahead 98 = .ok (.isub, 1) := by decide +kernel
theorem dX5_ahead_99 : decode cX5_ahead 99 = .ok (.ireturn, 1) := by decide +kernel
theorem dX5_when_0 : decode cX5_when 0 = .ok (.aload_n 0, 1) := by decide +kernel
theorem dX5_when_1 : decode cX5_when 1 = .ok (.iload_n 1, 1) := by decide +kernel
theorem dX5_when_2 : decode cX5_when 2 = .ok (.invokevirtual 142, 3) := by decide +kernel
theorem dX5_when_5 : decode cX5_when 5 = .ok (.ifCond .ne 5, 3) := by decide +kernel
theorem dX5_when_8 : decode cX5_when 8 = .ok (.iconst (-1), 1) := by decide +kernel
theorem dX5_when_9 : decode cX5_when 9 = .ok (.ireturn, 1) := by decide +kernel
theorem dX5_when_10 : decode cX5_when 10 = .ok (.aload_n 0, 1) := by decide +kernel
theorem dX5_when_11 : decode cX5_when 11 = .ok (.getfield 23, 3) := by decide +kernel
theorem dX5_when_14 : decode cX5_when 14 = .ok (.aload_n 0, 1) := by decide +kernel
theorem dX5_when_15 : decode cX5_when 15 = .ok (.getfield 19, 3) := by decide +kernel
theorem dX5_when_18 : decode cX5_when 18 = .ok (.invokevirtual 84, 3) := by decide +kernel
theorem dX5_when_21 : decode cX5_when 21 = .ok (.aload_n 0, 1) := by decide +kernel
theorem dX5_when_22 : decode cX5_when 22 = .ok (.getfield 23, 3) := by decide +kernel
theorem dX5_when_25 : decode cX5_when 25 = .ok (.iload_n 1, 1) := by decide +kernel
theorem dX5_when_26 : decode cX5_when 26 = .ok (.invokevirtual 185, 3) := by decide +kernel
theorem dX5_when_29 : decode cX5_when 29 = .ok (.ireturn, 1) := by decide +kernel
theorem dX5_can_0 : decode cX5_can 0 = .ok (.aload_n 0, 1) := by decide +kernel
theorem dX5_can_1 : decode cX5_can 1 = .ok (.getfield 19, 3) := by decide +kernel
theorem dX5_can_4 : decode cX5_can 4 = .ok (.invokevirtual 188, 3) := by decide +kernel
theorem dX5_can_7 : decode cX5_can 7 = .ok (.ireturn, 1) := by decide +kernel
theorem dX5_fat_0 : decode cX5_fat 0 = .ok (.iload_n 1, 1) := by decide +kernel
theorem dX5_fat_1 : decode cX5_fat 1 = .ok (.iconst 0, 1) := by decide +kernel
theorem dX5_fat_2 : decode cX5_fat 2 = .ok (.bipush 7, 2) := by decide +kernel
theorem dX5_fat_4 : decode cX5_fat 4 = .ok (.invokestatic 55, 3) := by decide +kernel
theorem dX5_fat_7 : decode cX5_fat 7 = .ok (.ifCond .eq 10, 3) := by decide +kernel
theorem dX5_fat_10 : decode cX5_fat 10 = .ok (.iload_n 2, 1) := by decide +kernel
theorem dX5_fat_11 : decode cX5_fat 11 = .ok (.invokestatic 135, 3) := by decide +kernel
theorem dX5_fat_14 : decode cX5_fat 14 = .ok (.ifCond .ne 7, 3) := by decide +kernel
theorem dX5_fat_17 : decode cX5_fat 17 = .ok (.ldc2_w 192, 3) := by decide +kernel
theorem dX5_fat_20 : decode cX5_fat 20 = .ok (.lreturn, 1) := by decide +kernel
theorem dX5_fat_21 : decode cX5_fat 21 = .ok (.aload_n 0, 1) := by decide +kernel
theorem dX5_fat_22 : decode cX5_fat 22 = .ok (.getfield 19, 3) := by decide +kernel
theorem dX5_fat_25 : decode cX5_fat 25 = .ok (.invokevirtual 188, 3) := by decide +kernel
theorem dX5_fat_28 : decode cX5_fat 28 = .ok (.istore_n 3, 1) := by decide +kernel
theorem dX5_fat_29 : decode cX5_fat 29 = .ok (.iload_n 3, 1) := by decide +kernel
theorem dX5_fat_30 : decode cX5_fat 30 = .ok (.ifCond .ne 7, 3) := by decide +kernel
theorem dX5_fat_33 : decode cX5_fat 33 = .ok (.ldc2_w 194, 3) := by decide +kernel
theorem dX5_fat_36 : decode cX5_fat 36 = .ok (.lreturn, 1) := by decide +kernel
theorem dX5_fat_37 : decode cX5_fat 37 = .ok (.aload_n 0, 1) := by decide +kernel
theorem dX5_fat_38 : decode cX5_fat 38 = .ok (.getfield 19, 3) := by decide +kernel
theorem dX5_fat_41 : decode cX5_fat 41 = .ok (.iload_n 3, 1) := by decide +kernel
theorem dX5_fat_42 : decode cX5_fat 42 = .ok (.iload_n 1, 1) := by decide +kernel
theorem dX5_fat_43 : decode cX5_fat 43 = .ok (.iconst 1, 1) := by decide +kernel
theorem dX5_fat_44 : decode cX5_fat 44 = .ok (.invokevirtual 196, 3) := by decide +kernel
theorem dX5_fat_47 : decode cX5_fat 47 = .ok (.istore 4, 2) := by decide +kernel
theorem dX5_fat_49 : decode cX5_fat 49 = .ok (.aload_n 0, 1) := by decide +kernel
theorem dX5_fat_50 : decode cX5_fat 50 = .ok (.getfield 19, 3) := by decide +kernel
theorem dX5_fat_53 : decode cX5_fat 53 = .ok (.iload 4, 2) := by decide +kernel
theorem dX5_fat_55 : decode cX5_fat 55 = .ok (.invokevirtual 200, 3) := by decide +kernel
theorem dX5_fat_58 : decode cX5_fat 58 = .ok (.aload_n 0, 1) := by decide +kernel
theorem dX5_fat_59 : decode cX5_fat 59 = .ok (.getfield 19, 3) := by decide +kernel
theorem dX5_fat_62 : decode cX5_fat 62 = .ok (.iload_n 3, 1) := by decide +kernel
theorem dX5_fat_63 : decode cX5_fat 63 = .ok (.invokevirtual 200, 3) := by decide +kernel
theorem dX5_fat_66 : decode cX5_fat 66 = .ok (.iload_n 2, 1) := by decide +kernel
theorem dX5_fat_67 : decode cX5_fat 67 = .ok (.invokestatic 203, 3) := by decide +kernel
theorem dX5_fat_70 : decode cX5_fat 70 = .ok (.lreturn, 1) := by decide +kernel
theorem dX5_best_0 : decode cX5_best 0 = .ok (.iload_n 1, 1) := by decide +kernel
theorem dX5_best_1 : decode cX5_best 1 = .ok (.iconst 0, 1) := by decide +kernel
theorem dX5_best_2 : decode cX5_best 2 = .ok (.iconst 5, 1) := by decide +kernel
theorem dX5_best_3 : decode cX5_best 3 = .ok (.invokestatic 55, 3) := by decide +kernel
theorem dX5_best_6 : decode cX5_best 6 = .ok (.ifCond .eq 10, 3) := by decide +kernel
theorem dX5_best_9 : decode cX5_best 9 = .ok (.iload_n 2, 1) := by decide +kernel
theorem dX5_best_10 : decode cX5_best 10 = .ok (.invokestatic 135, 3) := by decide +kernel
theorem dX5_best_13 : decode cX5_best 13 = .ok (.ifCond .ne 7, 3) := by decide +kernel
theorem dX5_best_16 : decode cX5_best 16 = .ok (.ldc2_w 192, 3) := by decide +kernel
theorem dX5_best_19 : decode cX5_best 19 = .ok (.lreturn, 1) := by decide +kernel
theorem dX5_best_20 : decode cX5_best 20 = .ok (.aload_n 0, 1) := by decide +kernel
theorem dX5_best_21 : decode cX5_best 21 = .ok (.getfield 19, 3) := by decide +kernel
theorem dX5_best_24 : decode cX5_best 24 = .ok (.invokevirtual 188, 3) := by decide +kernel
theorem dX5_best_27 : decode cX5_best 27 = .ok (.istore_n 3, 1) := by decide +kernel
theorem dX5_best_28 : decode cX5_best 28 = .ok (.iload_n 3, 1) := by decide +kernel
theorem dX5_best_29 : decode cX5_best 29 = .ok (.ifCond .ne 7, 3) := by decide +kernel
theorem dX5_best_32 : decode cX5_best 32 = .ok (.ldc2_w 194, 3) := by decide +kernel
theorem dX5_best_35 : decode cX5_best 35 = .ok (.lreturn, 1) := by decide +kernel
theorem dX5_best_36 : decode cX5_best 36 = .ok (.aload_n 0, 1) := by decide +kernel
theorem dX5_best_37 : decode cX5_best 37 = .ok (.getfield 29, 3) := by decide +kernel
theorem dX5_best_40 : decode cX5_best 40 = .ok (.aload_n 0, 1) := by decide +kernel
theorem dX5_best_41 : decode cX5_best 41 = .ok (.getfield 19, 3) := by decide +kernel
theorem dX5_best_44 : decode cX5_best 44 = .ok (.iload_n 1, 1) := by decide +kernel
theorem dX5_best_45 : decode cX5_best 45 = .ok (.iload_n 3, 1) := by decide +kernel
theorem dX5_best_46 : decode cX5_best 46 = .ok (.invokevirtual 207, 3) := by decide +kernel
theorem dX5_best_49 : decode cX5_best 49 = .ok (.aload_n 0, 1) := by decide +kernel
theorem dX5_best_50 : decode cX5_best 50 = .ok (.getfield 19, 3) := by decide +kernel
theorem dX5_best_53 : decode cX5_best 53 = .ok (.iload_n 3, 1) := by decide +kernel
theorem dX5_best_54 : decode cX5_best 54 = .ok (.invokevirtual 200, 3) := by decide +kernel
theorem dX5_best_57 : decode cX5_best 57 = .ok (.iload_n 2, 1) := by decide +kernel
theorem dX5_best_58 : decode cX5_best 58 = .ok (.invokestatic 203, 3) := by decide +kernel
theorem dX5_best_61 : decode cX5_best 61 = .ok (.lreturn, 1) := by decide +kernel
theorem dX5_choice_0 : decode cX5_choice 0 = .ok (.iload_n 1, 1) := by decide +kernel
theorem dX5_choice_1 : decode cX5_choice 1 = .ok (.iconst 1, 1) := by decide +kernel
theorem dX5_choice_2 : decode cX5_choice 2 = .ok (.iconst 5, 1) := by decide +kernel
theorem dX5_choice_3 : decode cX5_choice 3 = .ok (.invokestatic 55, 3) := by decide +kernel
theorem dX5_choice_6 : decode cX5_choice 6 = .ok (.ifCond .eq 10, 3) := by decide +kernel
theorem dX5_choice_9 : decode cX5_choice 9 = .ok (.iload_n 2, 1) := by decide +kernel
theorem dX5_choice_10 : decode cX5_choice 10 = .ok (.invokestatic 135, 3) := by decide +kernel
theorem dX5_choice_13 : decode cX5_choice 13 = .ok (.ifCond .ne 5, 3) := by decide +kernel
theorem dX5_choice_16 : decode cX5_choice 16 = .ok (.iconst (-1), 1) := by decide +kernel
theorem dX5_choice_17 : decode cX5_choice 17 = .ok (.ireturn, 1) := by decide +kernel
theorem dX5_choice_18 : decode cX5_choice 18 = .ok (.aload_n 0, 1) := by decide +kernel
theorem dX5_choice_19 : decode cX5_choice 19 = .ok (.getfield 19, 3) := by decide +kernel
theorem dX5_choice_22 : decode cX5_choice 22 = .ok (.invokevirtual 188, 3) := by decide +kernel
theorem dX5_choice_25 : decode cX5_choice 25 = .ok (.istore_n 3, 1) := by decide +kernel
theorem dX5_choice_26 : decode cX5_choice 26 = .ok (.iload_n 3, 1) := by decide +kernel
theorem dX5_choice_27 : decode cX5_choice 27 = .ok (.ifCond .eq 13, 3) := by decide +kernel
theorem dX5_choice_30 : decode cX5_choice 30 = .ok (.aload_n 0, 1) := by decide +kernel
theorem dX5_choice_31 : decode cX5_choice 31 = .ok (.getfield 19, 3) := by decide +kernel
theorem dX5_choice_34 : decode cX5_choice 34 = .ok (.invokevirtual 173, 3) := by decide +kernel
theorem dX5_choice_37 : decode cX5_choice 37 = .ok (.ifCond .eq 6, 3) := by decide +kernel
theorem dX5_choice_40 : decode cX5_choice 40 = .ok (.bipush (-2), 2) := by decide +kernel
theorem dX5_choice_42 : decode cX5_choice 42 = .ok (.ireturn, 1) := by decide +kernel
theorem dX5_choice_43 : decode cX5_choice 43 = .ok (.aload_n 0, 1) := by decide +kernel
theorem dX5_choice_44 : decode cX5_choice 44 = .ok (.getfield 19, 3) := by decide +kernel
theorem dX5_choice_47 : decode cX5_choice 47 = .ok (.iload_n 3, 1) := by decide +kernel
theorem dX5_choice_48 : decode cX5_choice 48 = .ok (.aload_n 0, 1) := by decide +kernel
theorem dX5_choice_49 : decode cX5_choice 49 = .ok (.getfield 19, 3) := by decide +kernel
theorem dX5_choice_52 : decode cX5_choice 52 = .ok (.getfield 123, 3) := by decide +kernel
theorem dX5_choice_55 : decode cX5_choice 55 = .ok (.iload_n 2, 1) := by decide +kernel
theorem dX5_choice_56 : decode cX5_choice 56 = .ok (.invokevirtual 196, 3) := by decide +kernel
theorem dX5_choice_59 : decode cX5_choice 59 = .ok (.istore 4, 2) := by decide +kernel
theorem dX5_choice_61 : decode cX5_choice 61 = .ok (.iload 4, 2) := by decide +kernel
theorem dX5_choice_63 : decode cX5_choice 63 = .ok (.ifCond .ne 8, 3) := by decide +kernel
theorem dX5_choice_66 : decode cX5_choice 66 = .ok (.bipush (-4), 2) := by decide +kernel
theorem dX5_choice_68 : decode cX5_choice 68 = .ok (.goto 18, 3) := by decide +kernel
theorem dX5_choice_71 : decode cX5_choice 71 = .ok (.aload_n 0, 1) := by decide +kernel
theorem dX5_choice_72 : decode cX5_choice 72 = .ok (.getfield 29, 3) := by decide +kernel
theorem dX5_choice_75 : decode cX5_choice 75 = .ok (.aload_n 0, 1) := by decide +kernel
theorem dX5_choice_76 : decode cX5_choice 76 = .ok (.getfield 19, 3) := by decide +kernel
theorem dX5_choice_79 : decode cX5_choice 79 = .ok (.iload_n 1, 1) := by decide +kernel
theorem dX5_choice_80 : decode cX5_choice 80 = .ok (.iload 4, 2) := by decide +kernel
theorem dX5_choice_82 : decode cX5_choice 82 = .ok (.iload_n 2, 1) := by decide +kernel
theorem dX5_choice_83 : decode cX5_choice 83 = .ok (.invokevirtual 211, 3) := by decide +kernel
theorem dX5_choice_86 : decode cX5_choice 86 = .ok (.ireturn, 1) := by decide +kernel
theorem dX5_knowing_0 : decode cX5_knowing 0 = .ok (.iload_n 1, 1) := by decide +kernel
theorem dX5_knowing_1 : decode cX5_knowing 1 = .ok (.iconst 0, 1) := by decide +kernel
theorem dX5_knowing_2 : decode cX5_knowing 2 = .ok (.iconst 5, 1) := by decide +kernel
theorem dX5_knowing_3 : decode cX5_knowing 3 = .ok (.invokestatic 55, 3) := by decide +kernel
theorem dX5_knowing_6 : decode cX5_knowing 6 = .ok (.ifCond .eq 10, 3) := by decide +kernel
theorem dX5_knowing_9 : decode cX5_knowing 9 = .ok (.iload_n 2, 1) := by decide +kernel
theorem dX5_knowing_10 : decode cX5_knowing 10 = .ok (.invokestatic 135, 3) := by decide +kernel
theorem dX5_knowing_13 : decode cX5_knowing 13 = .ok (.ifCond .ne 7, 3) := by decide +kernel
theorem dX5_knowing_16 : decode cX5_knowing 16 = .ok (.ldc2_w 192, 3) := by decide +kernel
theorem dX5_knowing_19 : decode cX5_knowing 19 = .ok (.lreturn, 1) := by decide +kernel
theorem dX5_knowing_20 : decode cX5_knowing 20 = .ok (.aload_n 0, 1) := by decide +kernel
theorem dX5_knowing_21 : decode cX5_knowing 21 = .ok (.getfield 19, 3) := by decide +kernel
theorem dX5_knowing_24 : decode cX5_knowing 24 = .ok (.invokevirtual 188, 3) := by decide +kernel
theorem dX5_knowing_27 : decode cX5_knowing 27 = .ok (.istore_n 3, 1) := by decide +kernel
theorem dX5_knowing_28 : decode cX5_knowing 28 = .ok (.iload_n 3, 1) := by decide +kernel
theorem dX5_knowing_29 : decode cX5_knowing 29 = .ok (.ifCond .ne 7, 3) := by decide +kernel
theorem dX5_knowing_32 : decode cX5_knowing 32 = .ok (.ldc2_w 194, 3) := by decide +kernel
theorem dX5_knowing_35 : decode cX5_knowing 35 = .ok (.lreturn, 1) := by decide +kernel
theorem dX5_knowing_36 : decode cX5_knowing 36 = .ok (.iconst 0, 1) := by decide +kernel
theorem dX5_knowing_37 : decode cX5_knowing 37 = .ok (.istore 4, 2) := by decide +kernel
theorem dX5_knowing_39 : decode cX5_knowing 39 = .ok (.iconst 0, 1) := by decide +kernel
theorem dX5_knowing_40 : decode cX5_knowing 40 = .ok (.istore 5, 2) := by decide +kernel
theorem dX5_knowing_42 : decode cX5_knowing 42 = .ok (.iload 5, 2) := by decide +kernel
theorem dX5_knowing_44 : decode cX5_knowing 44 = .ok (.aload_n 0, 1) := by decide +kernel
theorem dX5_knowing_45 : decode cX5_knowing 45 = .ok (.getfield 19, 3) := by decide +kernel
theorem dX5_knowing_48 : decode cX5_knowing 48 = .ok (.getfield 93, 3) := by decide +kernel
theorem dX5_knowing_51 : decode cX5_knowing 51 = .ok (.if_icmp .ge 39, 3) := by decide +kernel
theorem dX5_knowing_54 : decode cX5_knowing 54 = .ok (.iload_n 3, 1) := by decide +kernel
theorem dX5_knowing_55 : decode cX5_knowing 55 = .ok (.iload 5, 2) := by decide +kernel
theorem dX5_knowing_57 : decode cX5_knowing 57 = .ok (.invokestatic 215, 3) := by decide +kernel
theorem dX5_knowing_60 : decode cX5_knowing 60 = .ok (.ifCond .eq 24, 3) := by decide +kernel
theorem dX5_knowing_63 : decode cX5_knowing 63 = .ok (.iload 4, 2) := by decide +kernel
theorem dX5_knowing_65 : decode cX5_knowing 65 = .ok (.aload_n 0, 1) := by decide +kernel
theorem dX5_knowing_66 : decode cX5_knowing 66 = .ok (.getfield 29, 3) := by decide +kernel
theorem dX5_knowing_69 : decode cX5_knowing 69 = .ok (.aload_n 0, 1) := by decide +kernel
theorem dX5_knowing_70 : decode cX5_knowing 70 = .ok (.getfield 19, 3) := by decide +kernel
theorem dX5_knowing_73 : decode cX5_knowing 73 = .ok (.iload_n 1, 1) := by decide +kernel
theorem dX5_knowing_74 : decode cX5_knowing 74 = .ok (.iconst 1, 1) := by decide +kernel
theorem dX5_knowing_75 : decode cX5_knowing 75 = .ok (.iload 5, 2) := by decide +kernel
theorem dX5_knowing_77 : decode cX5_knowing 77 = .ok (.ishl, 1) := by decide +kernel
theorem dX5_knowing_78 : decode cX5_knowing 78 = .ok (.invokevirtual 207, 3) := by decide +kernel
theorem dX5_knowing_81 : decode cX5_knowing 81 = .ok (.iadd, 1) := by decide +kernel
theorem dX5_knowing_82 : decode cX5_knowing 82 = .ok (.istore 4, 2) := by decide +kernel
theorem dX5_knowing_84 : decode cX5_knowing 84 = .ok (.iinc 5 1, 3) := by decide +kernel
theorem dX5_knowing_87 : decode cX5_knowing 87 = .ok (.goto (-45), 3) := by decide +kernel
theorem dX5_knowing_90 : decode cX5_knowing 90 = .ok (.aload_n 0, 1) := by decide +kernel
theorem dX5_knowing_91 : decode cX5_knowing 91 = .ok (.getfield 29, 3) := by decide +kernel
theorem dX5_knowing_94 : decode cX5_knowing 94 = .ok (.aload_n 0, 1) := by decide +kernel
theorem dX5_knowing_95 : decode cX5_knowing 95 = .ok (.getfield 19, 3) := by decide +kernel
theorem dX5_knowing_98 : decode cX5_knowing 98 = .ok (.iload_n 1, 1) := by decide +kernel
theorem dX5_knowing_99 : decode cX5_knowing 99 = .ok (.iload_n 3, 1) := by decide +kernel
theorem dX5_knowing_100 : decode cX5_knowing 100 = .ok (.invokevirtual 207, 3) := by decide +kernel
theorem dX5_knowing_103 : decode cX5_knowing 103 = .ok (.istore 5, 2) := by decide +kernel
theorem dX5_knowing_105 : decode cX5_knowing 105 = .ok (.iload 4, 2) := by decide +kernel
theorem dX5_knowing_107 : decode cX5_knowing 107 = .ok (.iload 5, 2) := by decide +kernel
theorem dX5_knowing_109 : decode cX5_knowing 109 = .ok (.isub, 1) := by decide +kernel
theorem dX5_knowing_110 : decode cX5_knowing 110 = .ok (.aload_n 0, 1) := by decide +kernel
theorem dX5_knowing_111 : decode cX5_knowing 111 = .ok (.getfield 19, 3) := by decide +kernel
theorem dX5_knowing_114 : decode cX5_knowing 114 = .ok (.iload_n 3, 1) := by decide +kernel
theorem dX5_knowing_115 : decode cX5_knowing 115 = .ok (.invokevirtual 200, 3) := by decide +kernel
theorem dX5_knowing_118 : decode cX5_knowing 118 = .ok (.iload_n 2, 1) := by decide +kernel
theorem dX5_knowing_119 : decode cX5_knowing 119 = .ok (.invokestatic 203, 3) := by decide +kernel
theorem dX5_knowing_122 : decode cX5_knowing 122 = .ok (.lreturn, 1) := by decide +kernel
theorem dX5_worth_0 : decode cX5_worth 0 = .ok (.aload_n 0, 1) := by decide +kernel
theorem dX5_worth_1 : decode cX5_worth 1 = .ok (.iload_n 1, 1) := by decide +kernel
theorem dX5_worth_2 : decode cX5_worth 2 = .ok (.invokevirtual 132, 3) := by decide +kernel
theorem dX5_worth_5 : decode cX5_worth 5 = .ok (.ifCond .eq 19, 3) := by decide +kernel
theorem dX5_worth_8 : decode cX5_worth 8 = .ok (.iload_n 2, 1) := by decide +kernel
theorem dX5_worth_9 : decode cX5_worth 9 = .ok (.iconst 0, 1) := by decide +kernel
theorem dX5_worth_10 : decode cX5_worth 10 = .ok (.iconst 5, 1) := by decide +kernel
theorem dX5_worth_11 : decode cX5_worth 11 = .ok (.invokestatic 55, 3) := by decide +kernel
theorem dX5_worth_14 : decode cX5_worth 14 = .ok (.ifCond .eq 10, 3) := by decide +kernel
theorem dX5_worth_17 : decode cX5_worth 17 = .ok (.iload_n 3, 1) := by decide +kernel
theorem dX5_worth_18 : decode cX5_worth 18 = .ok (.invokestatic 135, 3) := by decide +kernel
theorem dX5_worth_21 : decode cX5_worth 21 = .ok (.ifCond .ne 7, 3) := by decide +kernel
theorem dX5_worth_24 : decode cX5_worth 24 = .ok (.ldc2_w 192, 3) := by decide +kernel
theorem dX5_worth_27 : decode cX5_worth 27 = .ok (.lreturn, 1) := by decide +kernel
theorem dX5_worth_28 : decode cX5_worth 28 = .ok (.aload_n 0, 1) := by decide +kernel
theorem dX5_worth_29 : decode cX5_worth 29 = .ok (.getfield 19, 3) := by decide +kernel
theorem dX5_worth_32 : decode cX5_worth 32 = .ok (.invokevirtual 188, 3) := by decide +kernel
theorem dX5_worth_35 : decode cX5_worth 35 = .ok (.istore 4, 2) := by decide +kernel
theorem dX5_worth_37 : decode cX5_worth 37 = .ok (.iload 4, 2) := by decide +kernel
theorem dX5_worth_39 : decode cX5_worth 39 = .ok (.ifCond .ne 7, 3) := by decide +kernel
theorem dX5_worth_42 : decode cX5_worth 42 = .ok (.ldc2_w 194, 3) := by decide +kernel
theorem dX5_worth_45 : decode cX5_worth 45 = .ok (.lreturn, 1) := by decide +kernel
theorem dX5_worth_46 : decode cX5_worth 46 = .ok (.aload_n 0, 1) := by decide +kernel
theorem dX5_worth_47 : decode cX5_worth 47 = .ok (.getfield 23, 3) := by decide +kernel
theorem dX5_worth_50 : decode cX5_worth 50 = .ok (.aload_n 0, 1) := by decide +kernel
theorem dX5_worth_51 : decode cX5_worth 51 = .ok (.getfield 19, 3) := by decide +kernel
theorem dX5_worth_54 : decode cX5_worth 54 = .ok (.invokevirtual 84, 3) := by decide +kernel
theorem dX5_worth_57 : decode cX5_worth 57 = .ok (.aload_n 0, 1) := by decide +kernel
theorem dX5_worth_58 : decode cX5_worth 58 = .ok (.getfield 23, 3) := by decide +kernel
theorem dX5_worth_61 : decode cX5_worth 61 = .ok (.iconst 0, 1) := by decide +kernel
theorem dX5_worth_62 : decode cX5_worth 62 = .ok (.invokevirtual 138, 3) := by decide +kernel
theorem dX5_worth_65 : decode cX5_worth 65 = .ok (.iload_n 1, 1) := by decide +kernel
theorem dX5_worth_66 : decode cX5_worth 66 = .ok (.iconst 0, 1) := by decide +kernel
theorem dX5_worth_67 : decode cX5_worth 67 = .ok (.iastore, 1) := by decide +kernel
theorem dX5_worth_68 : decode cX5_worth 68 = .ok (.aload_n 0, 1) := by decide +kernel
theorem dX5_worth_69 : decode cX5_worth 69 = .ok (.getfield 23, 3) := by decide +kernel
theorem dX5_worth_72 : decode cX5_worth 72 = .ok (.iconst 1, 1) := by decide +kernel
theorem dX5_worth_73 : decode cX5_worth 73 = .ok (.invokevirtual 138, 3) := by decide +kernel
theorem dX5_worth_76 : decode cX5_worth 76 = .ok (.iload_n 1, 1) := by decide +kernel
theorem dX5_worth_77 : decode cX5_worth 77 = .ok (.iconst 0, 1) := by decide +kernel
theorem dX5_worth_78 : decode cX5_worth 78 = .ok (.iastore, 1) := by decide +kernel
theorem dX5_worth_79 : decode cX5_worth 79 = .ok (.aload_n 0, 1) := by decide +kernel
theorem dX5_worth_80 : decode cX5_worth 80 = .ok (.getfield 29, 3) := by decide +kernel
theorem dX5_worth_83 : decode cX5_worth 83 = .ok (.aload_n 0, 1) := by decide +kernel
theorem dX5_worth_84 : decode cX5_worth 84 = .ok (.getfield 19, 3) := by decide +kernel
theorem dX5_worth_87 : decode cX5_worth 87 = .ok (.iload_n 2, 1) := by decide +kernel
theorem dX5_worth_88 : decode cX5_worth 88 = .ok (.iload 4, 2) := by decide +kernel
theorem dX5_worth_90 : decode cX5_worth 90 = .ok (.invokevirtual 207, 3) := by decide +kernel
theorem dX5_worth_93 : decode cX5_worth 93 = .ok (.istore 5, 2) := by decide +kernel
theorem dX5_worth_95 : decode cX5_worth 95 = .ok (.aload_n 0, 1) := by decide +kernel
theorem dX5_worth_96 : decode cX5_worth 96 = .ok (.getfield 29, 3) := by decide +kernel
theorem dX5_worth_99 : decode cX5_worth 99 = .ok (.aload_n 0, 1) := by decide +kernel
theorem dX5_worth_100 : decode cX5_worth 100 = .ok (.getfield 23, 3) := by decide +kernel
theorem dX5_worth_103 : decode cX5_worth 103 = .ok (.iload_n 2, 1) := by decide +kernel
theorem dX5_worth_104 : decode cX5_worth 104 = .ok (.iload 4, 2) := by decide +kernel
theorem dX5_worth_106 : decode cX5_worth 106 = .ok (.invokevirtual 207, 3) := by decide +kernel
theorem dX5_worth_109 : decode cX5_worth 109 = .ok (.istore 6, 2) := by decide +kernel
theorem dX5_worth_111 : decode cX5_worth 111 = .ok (.iload 5, 2) := by decide +kernel
theorem dX5_worth_113 : decode cX5_worth 113 = .ok (.iload 6, 2) := by decide +kernel
theorem dX5_worth_115 : decode cX5_worth 115 = .ok (.isub, 1) := by decide +kernel
theorem dX5_worth_116 : decode cX5_worth 116 = .ok (.aload_n 0, 1) := by decide +kernel
theorem dX5_worth_117 : decode cX5_worth 117 = .ok (.getfield 19, 3) := by decide +kernel
theorem dX5_worth_120 : decode cX5_worth 120 = .ok (.iload 4, 2) := by decide +kernel
theorem dX5_worth_122 : decode cX5_worth 122 = .ok (.invokevirtual 200, 3) := by decide +kernel
theorem dX5_worth_125 : decode cX5_worth 125 = .ok (.iload_n 3, 1) := by decide +kernel
theorem dX5_worth_126 : decode cX5_worth 126 = .ok (.invokestatic 203, 3) := by decide +kernel
theorem dX5_worth_129 : decode cX5_worth 129 = .ok (.lreturn, 1) := by decide +kernel
theorem dX5_safe_0 : decode cX5_safe 0 = .ok (.iload_n 1, 1) := by decide +kernel
theorem dX5_safe_1 : decode cX5_safe 1 = .ok (.iconst 0, 1) := by decide +kernel
theorem dX5_safe_2 : decode cX5_safe 2 = .ok (.iconst 4, 1) := by decide +kernel
theorem dX5_safe_3 : decode cX5_safe 3 = .ok (.invokestatic 55, 3) := by decide +kernel
theorem dX5_safe_6 : decode cX5_safe 6 = .ok (.ifCond .ne 5, 3) := by decide +kernel
theorem dX5_safe_9 : decode cX5_safe 9 = .ok (.iconst (-1), 1) := by decide +kernel
theorem dX5_safe_10 : decode cX5_safe 10 = .ok (.ireturn, 1) := by decide +kernel
theorem dX5_safe_11 : decode cX5_safe 11 = .ok (.iconst 0, 1) := by decide +kernel
theorem dX5_safe_12 : decode cX5_safe 12 = .ok (.istore_n 2, 1) := by decide +kernel
theorem dX5_safe_13 : decode cX5_safe 13 = .ok (.iconst 0, 1) := by decide +kernel
theorem dX5_safe_14 : decode cX5_safe 14 = .ok (.istore_n 3, 1) := by decide +kernel
theorem dX5_safe_15 : decode cX5_safe 15 = .ok (.iload_n 3, 1) := by decide +kernel
theorem dX5_safe_16 : decode cX5_safe 16 = .ok (.bipush 9, 2) := by decide +kernel
theorem dX5_safe_18 : decode cX5_safe 18 = .ok (.if_icmp .gt 38, 3) := by decide +kernel
theorem dX5_safe_21 : decode cX5_safe 21 = .ok (.aload_n 0, 1) := by decide +kernel
theorem dX5_safe_22 : decode cX5_safe 22 = .ok (.iload_n 1, 1) := by decide +kernel
theorem dX5_safe_23 : decode cX5_safe 23 = .ok (.iload_n 3, 1) := by decide +kernel
theorem dX5_safe_24 : decode cX5_safe 24 = .ok (.aload_n 0, 1) := by decide +kernel
theorem dX5_safe_25 : decode cX5_safe 25 = .ok (.getfield 19, 3) := by decide +kernel
theorem dX5_safe_28 : decode cX5_safe 28 = .ok (.getfield 102, 3) := by decide +kernel
theorem dX5_safe_31 : decode cX5_safe 31 = .ok (.aload_n 0, 1) := by decide +kernel
theorem dX5_safe_32 : decode cX5_safe 32 = .ok (.getfield 19, 3) := by decide +kernel
theorem dX5_safe_35 : decode cX5_safe 35 = .ok (.getfield 108, 3) := by decide +kernel
theorem dX5_safe_38 : decode cX5_safe 38 = .ok (.invokevirtual 219, 3) := by decide +kernel
theorem dX5_safe_41 : decode cX5_safe 41 = .ok (.ifCond .eq 9, 3) := by decide +kernel
theorem dX5_safe_44 : decode cX5_safe 44 = .ok (.iload_n 2, 1) := by decide +kernel
theorem dX5_safe_45 : decode cX5_safe 45 = .ok (.iconst 1, 1) := by decide +kernel
theorem dX5_safe_46 : decode cX5_safe 46 = .ok (.iload_n 3, 1) := by decide +kernel
theorem dX5_safe_47 : decode cX5_safe 47 = .ok (.ishl, 1) := by decide +kernel
theorem dX5_safe_48 : decode cX5_safe 48 = .ok (.ior, 1) := by decide +kernel
theorem dX5_safe_49 : decode cX5_safe 49 = .ok (.istore_n 2, 1) := by decide +kernel
theorem dX5_safe_50 : decode cX5_safe 50 = .ok (.iinc 3 1, 3) := by decide +kernel
theorem dX5_safe_53 : decode cX5_safe 53 = .ok (.goto (-38), 3) := by decide +kernel
theorem dX5_safe_56 : decode cX5_safe 56 = .ok (.iload_n 2, 1) := by decide +kernel
theorem dX5_safe_57 : decode cX5_safe 57 = .ok (.ireturn, 1) := by decide +kernel
theorem dX5_granary_0 : decode cX5_granary 0 = .ok (.aload_n 0, 1) := by decide +kernel
theorem dX5_granary_1 : decode cX5_granary 1 = .ok (.getfield 19, 3) := by decide +kernel
theorem dX5_granary_4 : decode cX5_granary 4 = .ok (.getfield 108, 3) := by decide +kernel
theorem dX5_granary_7 : decode cX5_granary 7 = .ok (.istore_n 1, 1) := by decide +kernel
theorem dX5_granary_8 : decode cX5_granary 8 = .ok (.iload_n 1, 1) := by decide +kernel
theorem dX5_granary_9 : decode cX5_granary 9 = .ok (.bipush 40, 2) := by decide +kernel
theorem dX5_granary_11 : decode cX5_granary 11 = .ok (.if_icmp .gt 28, 3) := by decide +kernel
theorem dX5_granary_14 : decode cX5_granary 14 = .ok (.aload_n 0, 1) := by decide +kernel
theorem dX5_granary_15 : decode cX5_granary 15 = .ok (.iconst 0, 1) := by decide +kernel
theorem dX5_granary_16 : decode cX5_granary 16 = .ok (.iconst 0, 1) := by decide +kernel
theorem dX5_granary_17 : decode cX5_granary 17 = .ok (.iload_n 1, 1) := by decide +kernel
theorem dX5_granary_18 : decode cX5_granary 18 = .ok (.aload_n 0, 1) := by decide +kernel
theorem dX5_granary_19 : decode cX5_granary 19 = .ok (.getfield 19, 3) := by decide +kernel
theorem dX5_granary_22 : decode cX5_granary 22 = .ok (.getfield 108, 3) := by decide +kernel
theorem dX5_granary_25 : decode cX5_granary 25 = .ok (.invokevirtual 219, 3) := by decide +kernel
theorem dX5_granary_28 : decode cX5_granary 28 = .ok (.ifCond .eq 5, 3) := by decide +kernel
theorem dX5_granary_31 : decode cX5_granary 31 = .ok (.iload_n 1, 1) := by decide +kernel
theorem dX5_granary_32 : decode cX5_granary 32 = .ok (.ireturn, 1) := by decide +kernel
theorem dX5_granary_33 : decode cX5_granary 33 = .ok (.iinc 1 1, 3) := by decide +kernel
theorem dX5_granary_36 : decode cX5_granary 36 = .ok (.goto (-28), 3) := by decide +kernel
theorem dX5_granary_39 : decode cX5_granary 39 = .ok (.bipush (-4), 2) := by decide +kernel
theorem dX5_granary_41 : decode cX5_granary 41 = .ok (.ireturn, 1) := by decide +kernel
theorem dX5_least_0 : decode cX5_least 0 = .ok (.iconst 0, 1) := by decide +kernel
theorem dX5_least_1 : decode cX5_least 1 = .ok (.istore_n 1, 1) := by decide +kernel
theorem dX5_least_2 : decode cX5_least 2 = .ok (.iload_n 1, 1) := by decide +kernel
theorem dX5_least_3 : decode cX5_least 3 = .ok (.aload_n 0, 1) := by decide +kernel
theorem dX5_least_4 : decode cX5_least 4 = .ok (.getfield 19, 3) := by decide +kernel
theorem dX5_least_7 : decode cX5_least 7 = .ok (.getfield 102, 3) := by decide +kernel
theorem dX5_least_10 : decode cX5_least 10 = .ok (.if_icmp .gt 40, 3) := by decide +kernel
theorem dX5_least_13 : decode cX5_least 13 = .ok (.aload_n 0, 1) := by decide +kernel
theorem dX5_least_14 : decode cX5_least 14 = .ok (.aload_n 0, 1) := by decide +kernel
theorem dX5_least_15 : decode cX5_least 15 = .ok (.getfield 19, 3) := by decide +kernel
theorem dX5_least_18 : decode cX5_least 18 = .ok (.getfield 117, 3) := by decide +kernel
theorem dX5_least_21 : decode cX5_least 21 = .ok (.aload_n 0, 1) := by decide +kernel
theorem dX5_least_22 : decode cX5_least 22 = .ok (.getfield 19, 3) := by decide +kernel
theorem dX5_least_25 : decode cX5_least 25 = .ok (.getfield 120, 3) := by decide +kernel
theorem dX5_least_28 : decode cX5_least 28 = .ok (.aload_n 0, 1) := by decide +kernel
theorem dX5_least_29 : decode cX5_least 29 = .ok (.getfield 19, 3) := by decide +kernel
theorem dX5_least_32 : decode cX5_least 32 = .ok (.getfield 102, 3) := by decide +kernel
theorem dX5_least_35 : decode cX5_least 35 = .ok (.iload_n 1, 1) := by decide +kernel
theorem dX5_least_36 : decode cX5_least 36 = .ok (.invokevirtual 219, 3) := by decide +kernel
theorem dX5_least_39 : decode cX5_least 39 = .ok (.ifCond .eq 5, 3) := by decide +kernel
theorem dX5_least_42 : decode cX5_least 42 = .ok (.iload_n 1, 1) := by decide +kernel
theorem dX5_least_43 : decode cX5_least 43 = .ok (.ireturn, 1) := by decide +kernel
theorem dX5_least_44 : decode cX5_least 44 = .ok (.iinc 1 1, 3) := by decide +kernel
theorem dX5_least_47 : decode cX5_least 47 = .ok (.goto (-45), 3) := by decide +kernel
theorem dX5_least_50 : decode cX5_least 50 = .ok (.bipush (-4), 2) := by decide +kernel
theorem dX5_least_52 : decode cX5_least 52 = .ok (.ireturn, 1) := by decide +kernel
theorem dX5_see_0 : decode cX5_see 0 = .ok (.iload_n 1, 1) := by decide +kernel
theorem dX5_see_1 : decode cX5_see 1 = .ok (.iconst 1, 1) := by decide +kernel
theorem dX5_see_2 : decode cX5_see 2 = .ok (.bipush 8, 2) := by decide +kernel
theorem dX5_see_4 : decode cX5_see 4 = .ok (.invokestatic 55, 3) := by decide +kernel
theorem dX5_see_7 : decode cX5_see 7 = .ok (.ifCond .eq 13, 3) := by decide +kernel
theorem dX5_see_10 : decode cX5_see 10 = .ok (.iload_n 2, 1) := by decide +kernel
theorem dX5_see_11 : decode cX5_see 11 = .ok (.iconst 0, 1) := by decide +kernel
theorem dX5_see_12 : decode cX5_see 12 = .ok (.bipush 40, 2) := by decide +kernel
theorem dX5_see_14 : decode cX5_see 14 = .ok (.invokestatic 55, 3) := by decide +kernel
theorem dX5_see_17 : decode cX5_see 17 = .ok (.ifCond .ne 5, 3) := by decide +kernel
theorem dX5_see_20 : decode cX5_see 20 = .ok (.iconst (-1), 1) := by decide +kernel
theorem dX5_see_21 : decode cX5_see 21 = .ok (.ireturn, 1) := by decide +kernel
theorem dX5_see_22 : decode cX5_see 22 = .ok (.aload_n 0, 1) := by decide +kernel
theorem dX5_see_23 : decode cX5_see 23 = .ok (.getfield 36, 3) := by decide +kernel
theorem dX5_see_26 : decode cX5_see 26 = .ok (.iload_n 1, 1) := by decide +kernel
theorem dX5_see_27 : decode cX5_see 27 = .ok (.iload_n 2, 1) := by decide +kernel
theorem dX5_see_28 : decode cX5_see 28 = .ok (.invokevirtual 223, 3) := by decide +kernel
theorem dX5_see_31 : decode cX5_see 31 = .ok (.ifCond .eq 13, 3) := by decide +kernel
theorem dX5_see_34 : decode cX5_see 34 = .ok (.aload_n 0, 1) := by decide +kernel
theorem dX5_see_35 : decode cX5_see 35 = .ok (.getfield 36, 3) := by decide +kernel
theorem dX5_see_38 : decode cX5_see 38 = .ok (.getfield 87, 3) := by decide +kernel
theorem dX5_see_41 : decode cX5_see 41 = .ok (.goto 5, 3) := by decide +kernel
theorem dX5_see_44 : decode cX5_see 44 = .ok (.bipush (-3), 2) := by decide +kernel
theorem dX5_see_46 : decode cX5_see 46 = .ok (.ireturn, 1) := by decide +kernel
theorem dX5_forget_0 : decode cX5_forget 0 = .ok (.iload_n 1, 1) := by decide +kernel
theorem dX5_forget_1 : decode cX5_forget 1 = .ok (.iconst 0, 1) := by decide +kernel
theorem dX5_forget_2 : decode cX5_forget 2 = .ok (.aload_n 0, 1) := by decide +kernel
theorem dX5_forget_3 : decode cX5_forget 3 = .ok (.getfield 36, 3) := by decide +kernel
theorem dX5_forget_6 : decode cX5_forget 6 = .ok (.getfield 87, 3) := by decide +kernel
theorem dX5_forget_9 : decode cX5_forget 9 = .ok (.invokestatic 55, 3) := by decide +kernel
theorem dX5_forget_12 : decode cX5_forget 12 = .ok (.ifCond .ne 5, 3) := by decide +kernel
theorem dX5_forget_15 : decode cX5_forget 15 = .ok (.iconst (-1), 1) := by decide +kernel
theorem dX5_forget_16 : decode cX5_forget 16 = .ok (.ireturn, 1) := by decide +kernel
theorem dX5_forget_17 : decode cX5_forget 17 = .ok (.aload_n 0, 1) := by decide +kernel
theorem dX5_forget_18 : decode cX5_forget 18 = .ok (.getfield 36, 3) := by decide +kernel
theorem dX5_forget_21 : decode cX5_forget 21 = .ok (.getfield 87, 3) := by decide +kernel
theorem dX5_forget_24 : decode cX5_forget 24 = .ok (.istore_n 2, 1) := by decide +kernel
theorem dX5_forget_25 : decode cX5_forget 25 = .ok (.aload_n 0, 1) := by decide +kernel
theorem dX5_forget_26 : decode cX5_forget 26 = .ok (.getfield 36, 3) := by decide +kernel
theorem dX5_forget_29 : decode cX5_forget 29 = .ok (.iload_n 1, 1) := by decide +kernel
theorem dX5_forget_30 : decode cX5_forget 30 = .ok (.putfield 87, 3) := by decide +kernel
theorem dX5_forget_33 : decode cX5_forget 33 = .ok (.iload_n 2, 1) := by decide +kernel
theorem dX5_forget_34 : decode cX5_forget 34 = .ok (.ireturn, 1) := by decide +kernel
theorem dX5_stewards_0 : decode cX5_stewards 0 = .ok (.aload_n 0, 1) := by decide +kernel
theorem dX5_stewards_1 : decode cX5_stewards 1 = .ok (.iload_n 1, 1) := by decide +kernel
theorem dX5_stewards_2 : decode cX5_stewards 2 = .ok (.invokevirtual 142, 3) := by decide +kernel
theorem dX5_stewards_5 : decode cX5_stewards 5 = .ok (.ifCond .eq 10, 3) := by decide +kernel
theorem dX5_stewards_8 : decode cX5_stewards 8 = .ok (.iload_n 2, 1) := by decide +kernel
theorem dX5_stewards_9 : decode cX5_stewards 9 = .ok (.invokestatic 135, 3) := by decide +kernel
theorem dX5_stewards_12 : decode cX5_stewards 12 = .ok (.ifCond .ne 5, 3) := by decide +kernel
theorem dX5_stewards_15 : decode cX5_stewards 15 = .ok (.iconst (-1), 1) := by decide +kernel
theorem dX5_stewards_16 : decode cX5_stewards 16 = .ok (.ireturn, 1) := by decide +kernel
theorem dX5_stewards_17 : decode cX5_stewards 17 = .ok (.iconst 0, 1) := by decide +kernel
theorem dX5_stewards_18 : decode cX5_stewards 18 = .ok (.istore_n 3, 1) := by decide +kernel
theorem dX5_stewards_19 : decode cX5_stewards 19 = .ok (.bipush (-4), 2) := by decide +kernel
theorem dX5_stewards_21 : decode cX5_stewards 21 = .ok (.istore 4, 2) := by decide +kernel
theorem dX5_stewards_23 : decode cX5_stewards 23 = .ok (.iconst 0, 1) := by decide +kernel
theorem dX5_stewards_24 : decode cX5_stewards 24 = .ok (.istore 5, 2) := by decide +kernel
theorem dX5_stewards_26 : decode cX5_stewards 26 = .ok (.iload 5, 2) := by decide +kernel
theorem dX5_stewards_28 : decode cX5_stewards 28 = .ok (.iconst 4, 1) := by decide +kernel
theorem dX5_stewards_29 : decode cX5_stewards 29 = .ok (.if_icmp .gt 60, 3) := by decide +kernel
theorem dX5_stewards_32 : decode cX5_stewards 32 = .ok (.iconst 0, 1) := by decide +kernel
theorem dX5_stewards_33 : decode cX5_stewards 33 = .ok (.istore 6, 2) := by decide +kernel
theorem dX5_stewards_35 : decode cX5_stewards 35 = .ok (.iload 6, 2) := by decide +kernel
theorem dX5_stewards_37 : decode cX5_stewards 37 = .ok (.bipush 9, 2) := by decide +kernel
theorem dX5_stewards_39 : decode cX5_stewards 39 = .ok (.if_icmp .gt 44, 3) := by decide +kernel
theorem dX5_stewards_42 : decode cX5_stewards 42 = .ok (.aload_n 0, 1) := by decide +kernel
theorem dX5_stewards_43 : decode cX5_stewards 43 = .ok (.iload_n 1, 1) := by decide +kernel
theorem dX5_stewards_44 : decode cX5_stewards 44 = .ok (.iload 5, 2) := by decide +kernel
theorem dX5_stewards_46 : decode cX5_stewards 46 = .ok (.iload 6, 2) := by decide +kernel
theorem dX5_stewards_48 : decode cX5_stewards 48 = .ok (.iconst 0, 1) := by decide +kernel
theorem dX5_stewards_49 : decode cX5_stewards 49 = .ok (.invokevirtual 226, 3) := by decide +kernel
theorem dX5_stewards_52 : decode cX5_stewards 52 = .ok (.ifCond .eq 25, 3) := by decide +kernel
theorem dX5_stewards_55 : decode cX5_stewards 55 = .ok (.iload_n 3, 1) := by decide +kernel
theorem dX5_stewards_56 : decode cX5_stewards 56 = .ok (.ifCond .ne 14, 3) := by decide +kernel
theorem dX5_stewards_59 : decode cX5_stewards 59 = .ok (.bipush 10, 2) := by decide +kernel
theorem dX5_stewards_61 : decode cX5_stewards 61 = .ok (.iload 5, 2) := by decide +kernel
theorem dX5_stewards_63 : decode cX5_stewards 63 = .ok (.imul, 1) := by decide +kernel
theorem dX5_stewards_64 : decode cX5_stewards 64 = .ok (.iload 6, 2) := by decide +kernel
theorem dX5_stewards_66 : decode cX5_stewards 66 = .ok (.iadd, 1) := by decide +kernel
theorem dX5_stewards_67 : decode cX5_stewards 67 = .ok (.goto 5, 3) := by decide +kernel
theorem dX5_stewards_70 : decode cX5_stewards 70 = .ok (.iload 4, 2) := by decide +kernel
theorem dX5_stewards_72 : decode cX5_stewards 72 = .ok (.istore 4, 2) := by decide +kernel
theorem dX5_stewards_74 : decode cX5_stewards 74 = .ok (.iinc 3 1, 3) := by decide +kernel
theorem dX5_stewards_77 : decode cX5_stewards 77 = .ok (.iinc 6 1, 3) := by decide +kernel
theorem dX5_stewards_80 : decode cX5_stewards 80 = .ok (.goto (-45), 3) := by decide +kernel
theorem dX5_stewards_83 : decode cX5_stewards 83 = .ok (.iinc 5 1, 3) := by decide +kernel
theorem dX5_stewards_86 : decode cX5_stewards 86 = .ok (.goto (-60), 3) := by decide +kernel
theorem dX5_stewards_89 : decode cX5_stewards 89 = .ok (.iload_n 2, 1) := by decide +kernel
theorem dX5_stewards_90 : decode cX5_stewards 90 = .ok (.ifCond .ne 7, 3) := by decide +kernel
theorem dX5_stewards_93 : decode cX5_stewards 93 = .ok (.iload_n 3, 1) := by decide +kernel
theorem dX5_stewards_94 : decode cX5_stewards 94 = .ok (.goto 5, 3) := by decide +kernel
theorem dX5_stewards_97 : decode cX5_stewards 97 = .ok (.iload 4, 2) := by decide +kernel
theorem dX5_stewards_99 : decode cX5_stewards 99 = .ok (.ireturn, 1) := by decide +kernel
theorem dX5_hoards_0 : decode cX5_hoards 0 = .ok (.aload_n 0, 1) := by decide +kernel
theorem dX5_hoards_1 : decode cX5_hoards 1 = .ok (.iload_n 1, 1) := by decide +kernel
theorem dX5_hoards_2 : decode cX5_hoards 2 = .ok (.invokevirtual 142, 3) := by decide +kernel
theorem dX5_hoards_5 : decode cX5_hoards 5 = .ok (.ifCond .ne 5, 3) := by decide +kernel
theorem dX5_hoards_8 : decode cX5_hoards 8 = .ok (.iconst (-1), 1) := by decide +kernel
theorem dX5_hoards_9 : decode cX5_hoards 9 = .ok (.ireturn, 1) := by decide +kernel
theorem dX5_hoards_10 : decode cX5_hoards 10 = .ok (.iconst 0, 1) := by decide +kernel
theorem dX5_hoards_11 : decode cX5_hoards 11 = .ok (.istore_n 2, 1) := by decide +kernel
theorem dX5_hoards_12 : decode cX5_hoards 12 = .ok (.iconst 0, 1) := by decide +kernel
theorem dX5_hoards_13 : decode cX5_hoards 13 = .ok (.istore_n 3, 1) := by decide +kernel
theorem dX5_hoards_14 : decode cX5_hoards 14 = .ok (.iload_n 3, 1) := by decide +kernel
theorem dX5_hoards_15 : decode cX5_hoards 15 = .ok (.bipush 9, 2) := by decide +kernel
theorem dX5_hoards_17 : decode cX5_hoards 17 = .ok (.if_icmp .gt 38, 3) := by decide +kernel
theorem dX5_hoards_20 : decode cX5_hoards 20 = .ok (.aload_n 0, 1) := by decide +kernel
theorem dX5_hoards_21 : decode cX5_hoards 21 = .ok (.iload_n 1, 1) := by decide +kernel
theorem dX5_hoards_22 : decode cX5_hoards 22 = .ok (.aload_n 0, 1) := by decide +kernel
theorem dX5_hoards_23 : decode cX5_hoards 23 = .ok (.getfield 19, 3) := by decide +kernel
theorem dX5_hoards_26 : decode cX5_hoards 26 = .ok (.getfield 117, 3) := by decide +kernel
theorem dX5_hoards_29 : decode cX5_hoards 29 = .ok (.aload_n 0, 1) := by decide +kernel
theorem dX5_hoards_30 : decode cX5_hoards 30 = .ok (.getfield 19, 3) := by decide +kernel
theorem dX5_hoards_33 : decode cX5_hoards 33 = .ok (.getfield 120, 3) := by decide +kernel
theorem dX5_hoards_36 : decode cX5_hoards 36 = .ok (.iload_n 3, 1) := by decide +kernel
theorem dX5_hoards_37 : decode cX5_hoards 37 = .ok (.invokevirtual 226, 3) := by decide +kernel
theorem dX5_hoards_40 : decode cX5_hoards 40 = .ok (.ifCond .eq 9, 3) := by decide +kernel
theorem dX5_hoards_43 : decode cX5_hoards 43 = .ok (.iload_n 2, 1) := by decide +kernel
theorem dX5_hoards_44 : decode cX5_hoards 44 = .ok (.iconst 1, 1) := by decide +kernel
theorem dX5_hoards_45 : decode cX5_hoards 45 = .ok (.iload_n 3, 1) := by decide +kernel
theorem dX5_hoards_46 : decode cX5_hoards 46 = .ok (.ishl, 1) := by decide +kernel
theorem dX5_hoards_47 : decode cX5_hoards 47 = .ok (.ior, 1) := by decide +kernel
theorem dX5_hoards_48 : decode cX5_hoards 48 = .ok (.istore_n 2, 1) := by decide +kernel
theorem dX5_hoards_49 : decode cX5_hoards 49 = .ok (.iinc 3 1, 3) := by decide +kernel
theorem dX5_hoards_52 : decode cX5_hoards 52 = .ok (.goto (-38), 3) := by decide +kernel
theorem dX5_hoards_55 : decode cX5_hoards 55 = .ok (.iload_n 2, 1) := by decide +kernel
theorem dX5_hoards_56 : decode cX5_hoards 56 = .ok (.ireturn, 1) := by decide +kernel
theorem dX5_fits_0 : decode cX5_fits 0 = .ok (.iconst 0, 1) := by decide +kernel
theorem dX5_fits_1 : decode cX5_fits 1 = .ok (.istore_n 1, 1) := by decide +kernel
theorem dX5_fits_2 : decode cX5_fits 2 = .ok (.iconst 0, 1) := by decide +kernel
theorem dX5_fits_3 : decode cX5_fits 3 = .ok (.istore_n 2, 1) := by decide +kernel
theorem dX5_fits_4 : decode cX5_fits 4 = .ok (.iload_n 2, 1) := by decide +kernel
theorem dX5_fits_5 : decode cX5_fits 5 = .ok (.aload_n 0, 1) := by decide +kernel
theorem dX5_fits_6 : decode cX5_fits 6 = .ok (.getfield 19, 3) := by decide +kernel
theorem dX5_fits_9 : decode cX5_fits 9 = .ok (.getfield 93, 3) := by decide +kernel
theorem dX5_fits_12 : decode cX5_fits 12 = .ok (.if_icmp .ge 38, 3) := by decide +kernel
theorem dX5_fits_15 : decode cX5_fits 15 = .ok (.aload_n 0, 1) := by decide +kernel
theorem dX5_fits_16 : decode cX5_fits 16 = .ok (.iload_n 2, 1) := by decide +kernel
theorem dX5_fits_17 : decode cX5_fits 17 = .ok (.aload_n 0, 1) := by decide +kernel
theorem dX5_fits_18 : decode cX5_fits 18 = .ok (.getfield 19, 3) := by decide +kernel
theorem dX5_fits_21 : decode cX5_fits 21 = .ok (.getfield 117, 3) := by decide +kernel
theorem dX5_fits_24 : decode cX5_fits 24 = .ok (.aload_n 0, 1) := by decide +kernel
theorem dX5_fits_25 : decode cX5_fits 25 = .ok (.getfield 19, 3) := by decide +kernel
theorem dX5_fits_28 : decode cX5_fits 28 = .ok (.getfield 120, 3) := by decide +kernel
theorem dX5_fits_31 : decode cX5_fits 31 = .ok (.iconst 0, 1) := by decide +kernel
theorem dX5_fits_32 : decode cX5_fits 32 = .ok (.invokevirtual 226, 3) := by decide +kernel
theorem dX5_fits_35 : decode cX5_fits 35 = .ok (.ifCond .eq 9, 3) := by decide +kernel
theorem dX5_fits_38 : decode cX5_fits 38 = .ok (.iload_n 1, 1) := by decide +kernel
theorem dX5_fits_39 : decode cX5_fits 39 = .ok (.iconst 1, 1) := by decide +kernel
theorem dX5_fits_40 : decode cX5_fits 40 = .ok (.iload_n 2, 1) := by decide +kernel
theorem dX5_fits_41 : decode cX5_fits 41 = .ok (.ishl, 1) := by decide +kernel
theorem dX5_fits_42 : decode cX5_fits 42 = .ok (.ior, 1) := by decide +kernel
theorem dX5_fits_43 : decode cX5_fits 43 = .ok (.istore_n 1, 1) := by decide +kernel
theorem dX5_fits_44 : decode cX5_fits 44 = .ok (.iinc 2 1, 3) := by decide +kernel
theorem dX5_fits_47 : decode cX5_fits 47 = .ok (.goto (-43), 3) := by decide +kernel
theorem dX5_fits_50 : decode cX5_fits 50 = .ok (.iload_n 1, 1) := by decide +kernel
theorem dX5_fits_51 : decode cX5_fits 51 = .ok (.ireturn, 1) := by decide +kernel
theorem dX5_drift_0 : decode cX5_drift 0 = .ok (.iload_n 2, 1) := by decide +kernel
theorem dX5_drift_1 : decode cX5_drift 1 = .ok (.iconst 0, 1) := by decide +kernel
theorem dX5_drift_2 : decode cX5_drift 2 = .ok (.bipush 10, 2) := by decide +kernel
theorem dX5_drift_4 : decode cX5_drift 4 = .ok (.invokestatic 55, 3) := by decide +kernel
theorem dX5_drift_7 : decode cX5_drift 7 = .ok (.ifCond .eq 12, 3) := by decide +kernel
theorem dX5_drift_10 : decode cX5_drift 10 = .ok (.iload_n 3, 1) := by decide +kernel
theorem dX5_drift_11 : decode cX5_drift 11 = .ok (.iconst 0, 1) := by decide +kernel
theorem dX5_drift_12 : decode cX5_drift 12 = .ok (.iconst 2, 1) := by decide +kernel
theorem dX5_drift_13 : decode cX5_drift 13 = .ok (.invokestatic 55, 3) := by decide +kernel
theorem dX5_drift_16 : decode cX5_drift 16 = .ok (.ifCond .ne 5, 3) := by decide +kernel
theorem dX5_drift_19 : decode cX5_drift 19 = .ok (.iconst (-1), 1) := by decide +kernel
theorem dX5_drift_20 : decode cX5_drift 20 = .ok (.ireturn, 1) := by decide +kernel
theorem dX5_drift_21 : decode cX5_drift 21 = .ok (.aload_n 0, 1) := by decide +kernel
theorem dX5_drift_22 : decode cX5_drift 22 = .ok (.getfield 23, 3) := by decide +kernel
theorem dX5_drift_25 : decode cX5_drift 25 = .ok (.aload_n 0, 1) := by decide +kernel
theorem dX5_drift_26 : decode cX5_drift 26 = .ok (.getfield 19, 3) := by decide +kernel
theorem dX5_drift_29 : decode cX5_drift 29 = .ok (.invokevirtual 84, 3) := by decide +kernel
theorem dX5_drift_32 : decode cX5_drift 32 = .ok (.iload_n 1, 1) := by decide +kernel
theorem dX5_drift_33 : decode cX5_drift 33 = .ok (.istore 4, 2) := by decide +kernel
theorem dX5_drift_35 : decode cX5_drift 35 = .ok (.aload_n 0, 1) := by decide +kernel
theorem dX5_drift_36 : decode cX5_drift 36 = .ok (.getfield 19, 3) := by decide +kernel
theorem dX5_drift_39 : decode cX5_drift 39 = .ok (.getfield 123, 3) := by decide +kernel
theorem dX5_drift_42 : decode cX5_drift 42 = .ok (.istore 5, 2) := by decide +kernel
theorem dX5_drift_44 : decode cX5_drift 44 = .ok (.iload 5, 2) := by decide +kernel
theorem dX5_drift_46 : decode cX5_drift 46 = .ok (.bipush 8, 2) := by decide +kernel
theorem dX5_drift_48 : decode cX5_drift 48 = .ok (.if_icmp .ge 53, 3) := by decide +kernel
theorem dX5_drift_51 : decode cX5_drift 51 = .ok (.iload 4, 2) := by decide +kernel
theorem dX5_drift_53 : decode cX5_drift 53 = .ok (.ldc 229, 2) := by decide +kernel
theorem dX5_drift_55 : decode cX5_drift 55 = .ok (.imul, 1) := by decide +kernel
theorem dX5_drift_56 : decode cX5_drift 56 = .ok (.sipush 12345, 3) := by decide +kernel
theorem dX5_drift_59 : decode cX5_drift 59 = .ok (.iadd, 1) := by decide +kernel
theorem dX5_drift_60 : decode cX5_drift 60 = .ok (.istore 4, 2) := by decide +kernel
theorem dX5_drift_62 : decode cX5_drift 62 = .ok (.iload 4, 2) := by decide +kernel
theorem dX5_drift_64 : decode cX5_drift 64 = .ok (.bipush 16, 2) := by decide +kernel
theorem dX5_drift_66 : decode cX5_drift 66 = .ok (.iushr, 1) := by decide +kernel
theorem dX5_drift_67 : decode cX5_drift 67 = .ok (.sipush 32767, 3) := by decide +kernel
theorem dX5_drift_70 : decode cX5_drift 70 = .ok (.iand, 1) := by decide +kernel
theorem dX5_drift_71 : decode cX5_drift 71 = .ok (.bipush 10, 2) := by decide +kernel
theorem dX5_drift_73 : decode cX5_drift 73 = .ok (.irem, 1) := by decide +kernel
theorem dX5_drift_74 : decode cX5_drift 74 = .ok (.istore 6, 2) := by decide +kernel
theorem dX5_drift_76 : decode cX5_drift 76 = .ok (.aload_n 0, 1) := by decide +kernel
theorem dX5_drift_77 : decode cX5_drift 77 = .ok (.getfield 23, 3) := by decide +kernel
theorem dX5_drift_80 : decode cX5_drift 80 = .ok (.iload 6, 2) := by decide +kernel
theorem dX5_drift_82 : decode cX5_drift 82 = .ok (.iload_n 2, 1) := by decide +kernel
theorem dX5_drift_83 : decode cX5_drift 83 = .ok (.if_icmp .ge 7, 3) := by decide +kernel
theorem dX5_drift_86 : decode cX5_drift 86 = .ok (.iconst 1, 1) := by decide +kernel
theorem dX5_drift_87 : decode cX5_drift 87 = .ok (.goto 4, 3) := by decide +kernel
theorem dX5_drift_90 : decode cX5_drift 90 = .ok (.iconst 0, 1) := by decide +kernel
theorem dX5_drift_91 : decode cX5_drift 91 = .ok (.invokevirtual 176, 3) := by decide +kernel
theorem dX5_drift_94 : decode cX5_drift 94 = .ok (.pop, 1) := by decide +kernel
theorem dX5_drift_95 : decode cX5_drift 95 = .ok (.iinc 5 1, 3) := by decide +kernel
theorem dX5_drift_98 : decode cX5_drift 98 = .ok (.goto (-54), 3) := by decide +kernel
theorem dX5_drift_101 : decode cX5_drift 101 = .ok (.iload_n 3, 1) := by decide +kernel
theorem dX5_drift_102 : decode cX5_drift 102 = .ok (.iconst 2, 1) := by decide +kernel
theorem dX5_drift_103 : decode cX5_drift 103 = .ok (.if_icmp .ne 11, 3) := by decide +kernel
theorem dX5_drift_106 : decode cX5_drift 106 = .ok (.aload_n 0, 1) := by decide +kernel
theorem dX5_drift_107 : decode cX5_drift 107 = .ok (.getfield 23, 3) := by decide +kernel
theorem dX5_drift_110 : decode cX5_drift 110 = .ok (.getfield 108, 3) := by decide +kernel
theorem dX5_drift_113 : decode cX5_drift 113 = .ok (.ireturn, 1) := by decide +kernel
theorem dX5_drift_114 : decode cX5_drift 114 = .ok (.iload_n 3, 1) := by decide +kernel
theorem dX5_drift_115 : decode cX5_drift 115 = .ok (.ifCond .ne 21, 3) := by decide +kernel
theorem dX5_drift_118 : decode cX5_drift 118 = .ok (.aload_n 0, 1) := by decide +kernel
theorem dX5_drift_119 : decode cX5_drift 119 = .ok (.getfield 23, 3) := by decide +kernel
theorem dX5_drift_122 : decode cX5_drift 122 = .ok (.getfield 129, 3) := by decide +kernel
theorem dX5_drift_125 : decode cX5_drift 125 = .ok (.aload_n 0, 1) := by decide +kernel
theorem dX5_drift_126 : decode cX5_drift 126 = .ok (.getfield 19, 3) := by decide +kernel
theorem dX5_drift_129 : decode cX5_drift 129 = .ok (.getfield 129, 3) := by decide +kernel
theorem dX5_drift_132 : decode cX5_drift 132 = .ok (.isub, 1) := by decide +kernel
theorem dX5_drift_133 : decode cX5_drift 133 = .ok (.goto 18, 3) := by decide +kernel
theorem dX5_drift_136 : decode cX5_drift 136 = .ok (.aload_n 0, 1) := by decide +kernel
theorem dX5_drift_137 : decode cX5_drift 137 = .ok (.getfield 23, 3) := by decide +kernel
theorem dX5_drift_140 : decode cX5_drift 140 = .ok (.getfield 126, 3) := by decide +kernel
theorem dX5_drift_143 : decode cX5_drift 143 = .ok (.aload_n 0, 1) := by decide +kernel
theorem dX5_drift_144 : decode cX5_drift 144 = .ok (.getfield 19, 3) := by decide +kernel
theorem dX5_drift_147 : decode cX5_drift 147 = .ok (.getfield 126, 3) := by decide +kernel
theorem dX5_drift_150 : decode cX5_drift 150 = .ok (.isub, 1) := by decide +kernel
theorem dX5_drift_151 : decode cX5_drift 151 = .ok (.ireturn, 1) := by decide +kernel
theorem dX5_keep_0 : decode cX5_keep 0 = .ok (.iload_n 1, 1) := by decide +kernel
theorem dX5_keep_1 : decode cX5_keep 1 = .ok (.iconst 0, 1) := by decide +kernel
theorem dX5_keep_2 : decode cX5_keep 2 = .ok (.iconst 1, 1) := by decide +kernel
theorem dX5_keep_3 : decode cX5_keep 3 = .ok (.invokestatic 55, 3) := by decide +kernel
theorem dX5_keep_6 : decode cX5_keep 6 = .ok (.ifCond .ne 5, 3) := by decide +kernel
theorem dX5_keep_9 : decode cX5_keep 9 = .ok (.iconst (-1), 1) := by decide +kernel
theorem dX5_keep_10 : decode cX5_keep 10 = .ok (.ireturn, 1) := by decide +kernel
theorem dX5_keep_11 : decode cX5_keep 11 = .ok (.aload_n 0, 1) := by decide +kernel
theorem dX5_keep_12 : decode cX5_keep 12 = .ok (.getfield 44, 3) := by decide +kernel
theorem dX5_keep_15 : decode cX5_keep 15 = .ok (.iload_n 1, 1) := by decide +kernel
theorem dX5_keep_16 : decode cX5_keep 16 = .ok (.baload, 1) := by decide +kernel
theorem dX5_keep_17 : decode cX5_keep 17 = .ok (.ifCond .eq 7, 3) := by decide +kernel
theorem dX5_keep_20 : decode cX5_keep 20 = .ok (.iconst 1, 1) := by decide +kernel
theorem dX5_keep_21 : decode cX5_keep 21 = .ok (.goto 4, 3) := by decide +kernel
theorem dX5_keep_24 : decode cX5_keep 24 = .ok (.iconst 0, 1) := by decide +kernel
theorem dX5_keep_25 : decode cX5_keep 25 = .ok (.istore_n 2, 1) := by decide +kernel
theorem dX5_keep_26 : decode cX5_keep 26 = .ok (.aload_n 0, 1) := by decide +kernel
theorem dX5_keep_27 : decode cX5_keep 27 = .ok (.getfield 40, 3) := by decide +kernel
theorem dX5_keep_30 : decode cX5_keep 30 = .ok (.iload_n 1, 1) := by decide +kernel
theorem dX5_keep_31 : decode cX5_keep 31 = .ok (.aaload, 1) := by decide +kernel
theorem dX5_keep_32 : decode cX5_keep 32 = .ok (.aload_n 0, 1) := by decide +kernel
theorem dX5_keep_33 : decode cX5_keep 33 = .ok (.getfield 19, 3) := by decide +kernel
theorem dX5_keep_36 : decode cX5_keep 36 = .ok (.invokevirtual 84, 3) := by decide +kernel
theorem dX5_keep_39 : decode cX5_keep 39 = .ok (.aload_n 0, 1) := by decide +kernel
theorem dX5_keep_40 : decode cX5_keep 40 = .ok (.getfield 44, 3) := by decide +kernel
theorem dX5_keep_43 : decode cX5_keep 43 = .ok (.iload_n 1, 1) := by decide +kernel
theorem dX5_keep_44 : decode cX5_keep 44 = .ok (.iconst 1, 1) := by decide +kernel
theorem dX5_keep_45 : decode cX5_keep 45 = .ok (.bastore, 1) := by decide +kernel
theorem dX5_keep_46 : decode cX5_keep 46 = .ok (.iload_n 2, 1) := by decide +kernel
theorem dX5_keep_47 : decode cX5_keep 47 = .ok (.ireturn, 1) := by decide +kernel
theorem dX5_back_0 : decode cX5_back 0 = .ok (.iload_n 1, 1) := by decide +kernel
theorem dX5_back_1 : decode cX5_back 1 = .ok (.iconst 0, 1) := by decide +kernel
theorem dX5_back_2 : decode cX5_back 2 = .ok (.iconst 1, 1) := by decide +kernel
theorem dX5_back_3 : decode cX5_back 3 = .ok (.invokestatic 55, 3) := by decide +kernel
theorem dX5_back_6 : decode cX5_back 6 = .ok (.ifCond .ne 5, 3) := by decide +kernel
theorem dX5_back_9 : decode cX5_back 9 = .ok (.iconst (-1), 1) := by decide +kernel
theorem dX5_back_10 : decode cX5_back 10 = .ok (.ireturn, 1) := by decide +kernel
theorem dX5_back_11 : decode cX5_back 11 = .ok (.aload_n 0, 1) := by decide +kernel
theorem dX5_back_12 : decode cX5_back 12 = .ok (.getfield 44, 3) := by decide +kernel
theorem dX5_back_15 : decode cX5_back 15 = .ok (.iload_n 1, 1) := by decide +kernel
theorem dX5_back_16 : decode cX5_back 16 = .ok (.baload, 1) := by decide +kernel
theorem dX5_back_17 : decode cX5_back 17 = .ok (.ifCond .ne 6, 3) := by decide +kernel
theorem dX5_back_20 : decode cX5_back 20 = .ok (.bipush (-2), 2) := by decide +kernel
theorem dX5_back_22 : decode cX5_back 22 = .ok (.ireturn, 1) := by decide +kernel
theorem dX5_back_23 : decode cX5_back 23 = .ok (.aload_n 0, 1) := by decide +kernel
theorem dX5_back_24 : decode cX5_back 24 = .ok (.getfield 19, 3) := by decide +kernel
theorem dX5_back_27 : decode cX5_back 27 = .ok (.aload_n 0, 1) := by decide +kernel
theorem dX5_back_28 : decode cX5_back 28 = .ok (.getfield 40, 3) := by decide +kernel
theorem dX5_back_31 : decode cX5_back 31 = .ok (.iload_n 1, 1) := by decide +kernel
theorem dX5_back_32 : decode cX5_back 32 = .ok (.aaload, 1) := by decide +kernel
theorem dX5_back_33 : decode cX5_back 33 = .ok (.invokevirtual 84, 3) := by decide +kernel
theorem dX5_back_36 : decode cX5_back 36 = .ok (.aload_n 0, 1) := by decide +kernel
theorem dX5_back_37 : decode cX5_back 37 = .ok (.getfield 19, 3) := by decide +kernel
theorem dX5_back_40 : decode cX5_back 40 = .ok (.getfield 123, 3) := by decide +kernel
theorem dX5_back_43 : decode cX5_back 43 = .ok (.ireturn, 1) := by decide +kernel
theorem dX5_sheet_0 : decode cX5_sheet 0 = .ok (.iload_n 1, 1) := by decide +kernel
theorem dX5_sheet_1 : decode cX5_sheet 1 = .ok (.invokestatic 230, 3) := by decide +kernel
theorem dX5_sheet_4 : decode cX5_sheet 4 = .ok (.ifCond .eq 16, 3) := by decide +kernel
theorem dX5_sheet_7 : decode cX5_sheet 7 = .ok (.iload_n 2, 1) := by decide +kernel
theorem dX5_sheet_8 : decode cX5_sheet 8 = .ok (.invokestatic 233, 3) := by decide +kernel
theorem dX5_sheet_11 : decode cX5_sheet 11 = .ok (.ifCond .eq 9, 3) := by decide +kernel
theorem dX5_sheet_14 : decode cX5_sheet 14 = .ok (.iload_n 3, 1) := by decide +kernel
theorem dX5_sheet_15 : decode cX5_sheet 15 = .ok (.bipush 40, 2) := by decide +kernel
theorem dX5_sheet_17 : decode cX5_sheet 17 = .ok (.if_icmp .le 5, 3) := by decide +kernel
theorem dX5_sheet_20 : decode cX5_sheet 20 = .ok (.iconst (-1), 1) := by decide +kernel
theorem dX5_sheet_21 : decode cX5_sheet 21 = .ok (.ireturn, 1) := by decide +kernel
theorem dX5_sheet_22 : decode cX5_sheet 22 = .ok (.iload_n 3, 1) := by decide +kernel
theorem dX5_sheet_23 : decode cX5_sheet 23 = .ok (.ifCond .ge 6, 3) := by decide +kernel
theorem dX5_sheet_26 : decode cX5_sheet 26 = .ok (.bipush (-14), 2) := by decide +kernel
theorem dX5_sheet_28 : decode cX5_sheet 28 = .ok (.ireturn, 1) := by decide +kernel
theorem dX5_sheet_29 : decode cX5_sheet 29 = .ok (.aload_n 0, 1) := by decide +kernel
theorem dX5_sheet_30 : decode cX5_sheet 30 = .ok (.getfield 50, 3) := by decide +kernel
theorem dX5_sheet_33 : decode cX5_sheet 33 = .ok (.iload_n 1, 1) := by decide +kernel
theorem dX5_sheet_34 : decode cX5_sheet 34 = .ok (.aaload, 1) := by decide +kernel
theorem dX5_sheet_35 : decode cX5_sheet 35 = .ok (.iload_n 2, 1) := by decide +kernel
theorem dX5_sheet_36 : decode cX5_sheet 36 = .ok (.iload_n 3, 1) := by decide +kernel
theorem dX5_sheet_37 : decode cX5_sheet 37 = .ok (.invokevirtual 236, 3) := by decide +kernel
theorem dX5_sheet_40 : decode cX5_sheet 40 = .ok (.iconst 1, 1) := by decide +kernel
theorem dX5_sheet_41 : decode cX5_sheet 41 = .ok (.ireturn, 1) := by decide +kernel
theorem dX5_lay_0 : decode cX5_lay 0 = .ok (.iload_n 1, 1) := by decide +kernel
theorem dX5_lay_1 : decode cX5_lay 1 = .ok (.invokestatic 230, 3) := by decide +kernel
theorem dX5_lay_4 : decode cX5_lay 4 = .ok (.ifCond .ne 5, 3) := by decide +kernel
theorem dX5_lay_7 : decode cX5_lay 7 = .ok (.iconst (-1), 1) := by decide +kernel
theorem dX5_lay_8 : decode cX5_lay 8 = .ok (.ireturn, 1) := by decide +kernel
theorem dX5_lay_9 : decode cX5_lay 9 = .ok (.aload_n 0, 1) := by decide +kernel
theorem dX5_lay_10 : decode cX5_lay 10 = .ok (.getfield 50, 3) := by decide +kernel
theorem dX5_lay_13 : decode cX5_lay 13 = .ok (.iload_n 1, 1) := by decide +kernel
theorem dX5_lay_14 : decode cX5_lay 14 = .ok (.aaload, 1) := by decide +kernel
theorem dX5_lay_15 : decode cX5_lay 15 = .ok (.iload_n 2, 1) := by decide +kernel
theorem dX5_lay_16 : decode cX5_lay 16 = .ok (.invokevirtual 239, 3) := by decide +kernel
theorem dX5_lay_19 : decode cX5_lay 19 = .ok (.istore 4, 2) := by decide +kernel
theorem dX5_lay_21 : decode cX5_lay 21 = .ok (.iload 4, 2) := by decide +kernel
theorem dX5_lay_23 : decode cX5_lay 23 = .ok (.ifCond .eq 9, 3) := by decide +kernel
theorem dX5_lay_26 : decode cX5_lay 26 = .ok (.bipush (-10), 2) := by decide +kernel
theorem dX5_lay_28 : decode cX5_lay 28 = .ok (.iload 4, 2) := by decide +kernel
theorem dX5_lay_30 : decode cX5_lay 30 = .ok (.isub, 1) := by decide +kernel
theorem dX5_lay_31 : decode cX5_lay 31 = .ok (.ireturn, 1) := by decide +kernel
theorem dX5_lay_32 : decode cX5_lay 32 = .ok (.aload_n 0, 1) := by decide +kernel
theorem dX5_lay_33 : decode cX5_lay 33 = .ok (.getfield 50, 3) := by decide +kernel
theorem dX5_lay_36 : decode cX5_lay 36 = .ok (.iload_n 1, 1) := by decide +kernel
theorem dX5_lay_37 : decode cX5_lay 37 = .ok (.aaload, 1) := by decide +kernel
theorem dX5_lay_38 : decode cX5_lay 38 = .ok (.iload_n 2, 1) := by decide +kernel
theorem dX5_lay_39 : decode cX5_lay 39 = .ok (.iload_n 3, 1) := by decide +kernel
theorem dX5_lay_40 : decode cX5_lay 40 = .ok (.invokevirtual 242, 3) := by decide +kernel
theorem dX5_lay_43 : decode cX5_lay 43 = .ok (.iconst 1, 1) := by decide +kernel
theorem dX5_lay_44 : decode cX5_lay 44 = .ok (.ireturn, 1) := by decide +kernel
theorem dX5_read_0 : decode cX5_read 0 = .ok (.iload_n 1, 1) := by decide +kernel
theorem dX5_read_1 : decode cX5_read 1 = .ok (.invokestatic 230, 3) := by decide +kernel
theorem dX5_read_4 : decode cX5_read 4 = .ok (.ifCond .eq 21, 3) := by decide +kernel
theorem dX5_read_7 : decode cX5_read 7 = .ok (.iload_n 2, 1) := by decide +kernel
theorem dX5_read_8 : decode cX5_read 8 = .ok (.invokestatic 233, 3) := by decide +kernel
theorem dX5_read_11 : decode cX5_read 11 = .ok (.ifCond .eq 14, 3) := by decide +kernel
theorem dX5_read_14 : decode cX5_read 14 = .ok (.iload 4, 2) := by decide +kernel
theorem dX5_read_16 : decode cX5_read 16 = .ok (.iconst 0, 1) := by decide +kernel
theorem dX5_read_17 : decode cX5_read 17 = .ok (.bipush 20, 2) := by decide +kernel
theorem dX5_read_19 : decode cX5_read 19 = .ok (.invokestatic 55, 3) := by decide +kernel
theorem dX5_read_22 : decode cX5_read 22 = .ok (.ifCond .ne 5, 3) := by decide +kernel
theorem dX5_read_25 : decode cX5_read 25 = .ok (.iconst (-1), 1) := by decide +kernel
theorem dX5_read_26 : decode cX5_read 26 = .ok (.ireturn, 1) := by decide +kernel
theorem dX5_read_27 : decode cX5_read 27 = .ok (.aload_n 0, 1) := by decide +kernel
theorem dX5_read_28 : decode cX5_read 28 = .ok (.getfield 50, 3) := by decide +kernel
theorem dX5_read_31 : decode cX5_read 31 = .ok (.iload_n 1, 1) := by decide +kernel
theorem dX5_read_32 : decode cX5_read 32 = .ok (.aaload, 1) := by decide +kernel
theorem dX5_read_33 : decode cX5_read 33 = .ok (.astore 5, 2) := by decide +kernel
theorem dX5_read_35 : decode cX5_read 35 = .ok (.iconst 0, 1) := by decide +kernel
theorem dX5_read_36 : decode cX5_read 36 = .ok (.istore 6, 2) := by decide +kernel
theorem dX5_read_38 : decode cX5_read 38 = .ok (.iconst 0, 1) := by decide +kernel
theorem dX5_read_39 : decode cX5_read 39 = .ok (.istore 7, 2) := by decide +kernel
theorem dX5_read_41 : decode cX5_read 41 = .ok (.aload_n 0, 1) := by decide +kernel
theorem dX5_read_42 : decode cX5_read 42 = .ok (.getfield 23, 3) := by decide +kernel
theorem dX5_read_45 : decode cX5_read 45 = .ok (.aload_n 0, 1) := by decide +kernel
theorem dX5_read_46 : decode cX5_read 46 = .ok (.getfield 19, 3) := by decide +kernel
theorem dX5_read_49 : decode cX5_read 49 = .ok (.invokevirtual 84, 3) := by decide +kernel
theorem dX5_read_52 : decode cX5_read 52 = .ok (.iconst 0, 1) := by decide +kernel
theorem dX5_read_53 : decode cX5_read 53 = .ok (.istore 8, 2) := by decide +kernel
theorem dX5_read_55 : decode cX5_read 55 = .ok (.iload 8, 2) := by decide +kernel
theorem dX5_read_57 : decode cX5_read 57 = .ok (.iload 4, 2) := by decide +kernel
theorem dX5_read_59 : decode cX5_read 59 = .ok (.if_icmp .ge 74, 3) := by decide +kernel
theorem dX5_read_62 : decode cX5_read 62 = .ok (.iload 6, 2) := by decide +kernel
theorem dX5_read_64 : decode cX5_read 64 = .ok (.ifCond .ne 69, 3) := by decide +kernel
theorem dX5_read_67 : decode cX5_read 67 = .ok (.iload_n 3, 1) := by decide +kernel
theorem dX5_read_68 : decode cX5_read 68 = .ok (.iconst 2, 1) := by decide +kernel
theorem dX5_read_69 : decode cX5_read 69 = .ok (.iload 8, 2) := by decide +kernel
theorem dX5_read_71 : decode cX5_read 71 = .ok (.imul, 1) := by decide +kernel
theorem dX5_read_72 : decode cX5_read 72 = .ok (.iadd, 1) := by decide +kernel
theorem dX5_read_73 : decode cX5_read 73 = .ok (.istore 9, 2) := by decide +kernel
theorem dX5_read_75 : decode cX5_read 75 = .ok (.aload 5, 2) := by decide +kernel
theorem dX5_read_77 : decode cX5_read 77 = .ok (.iload_n 2, 1) := by decide +kernel
theorem dX5_read_78 : decode cX5_read 78 = .ok (.iload 9, 2) := by decide +kernel
theorem dX5_read_80 : decode cX5_read 80 = .ok (.invokevirtual 245, 3) := by decide +kernel
theorem dX5_read_83 : decode cX5_read 83 = .ok (.istore 6, 2) := by decide +kernel
theorem dX5_read_85 : decode cX5_read 85 = .ok (.iload 6, 2) := by decide +kernel
theorem dX5_read_87 : decode cX5_read 87 = .ok (.ifCond .ne 40, 3) := by decide +kernel
theorem dX5_read_90 : decode cX5_read 90 = .ok (.aload_n 0, 1) := by decide +kernel
theorem dX5_read_91 : decode cX5_read 91 = .ok (.getfield 23, 3) := by decide +kernel
theorem dX5_read_94 : decode cX5_read 94 = .ok (.aload 5, 2) := by decide +kernel
theorem dX5_read_96 : decode cX5_read 96 = .ok (.getfield 248, 3) := by decide +kernel
theorem dX5_read_99 : decode cX5_read 99 = .ok (.iload 9, 2) := by decide +kernel
theorem dX5_read_101 : decode cX5_read 101 = .ok (.iaload, 1) := by decide +kernel
theorem dX5_read_102 : decode cX5_read 102 = .ok (.aload 5, 2) := by decide +kernel
theorem dX5_read_104 : decode cX5_read 104 = .ok (.getfield 248, 3) := by decide +kernel
theorem dX5_read_107 : decode cX5_read 107 = .ok (.iload 9, 2) := by decide +kernel
theorem dX5_read_109 : decode cX5_read 109 = .ok (.iconst 1, 1) := by decide +kernel
theorem dX5_read_110 : decode cX5_read 110 = .ok (.iadd, 1) := by decide +kernel
theorem dX5_read_111 : decode cX5_read 111 = .ok (.iaload, 1) := by decide +kernel
theorem dX5_read_112 : decode cX5_read 112 = .ok (.invokevirtual 170, 3) := by decide +kernel
theorem dX5_read_115 : decode cX5_read 115 = .ok (.ifCond .ge 9, 3) := by decide +kernel
theorem dX5_read_118 : decode cX5_read 118 = .ok (.bipush (-20), 2) := by decide +kernel
theorem dX5_read_120 : decode cX5_read 120 = .ok (.iload 8, 2) := by decide +kernel
theorem dX5_read_122 : decode cX5_read 122 = .ok (.isub, 1) := by decide +kernel
theorem dX5_read_123 : decode cX5_read 123 = .ok (.ireturn, 1) := by decide +kernel
theorem dX5_read_124 : decode cX5_read 124 = .ok (.iinc 7 1, 3) := by decide +kernel
theorem dX5_read_127 : decode cX5_read 127 = .ok (.iinc 8 1, 3) := by decide +kernel
theorem dX5_read_130 : decode cX5_read 130 = .ok (.goto (-75), 3) := by decide +kernel
theorem dX5_read_133 : decode cX5_read 133 = .ok (.aload_n 0, 1) := by decide +kernel
theorem dX5_read_134 : decode cX5_read 134 = .ok (.getfield 19, 3) := by decide +kernel
theorem dX5_read_137 : decode cX5_read 137 = .ok (.aload_n 0, 1) := by decide +kernel
theorem dX5_read_138 : decode cX5_read 138 = .ok (.getfield 23, 3) := by decide +kernel
theorem dX5_read_141 : decode cX5_read 141 = .ok (.invokevirtual 84, 3) := by decide +kernel
theorem dX5_read_144 : decode cX5_read 144 = .ok (.aload_n 0, 1) := by decide +kernel
theorem dX5_read_145 : decode cX5_read 145 = .ok (.iload 6, 2) := by decide +kernel
theorem dX5_read_147 : decode cX5_read 147 = .ok (.putfield 251, 3) := by decide +kernel
theorem dX5_read_150 : decode cX5_read 150 = .ok (.iload 7, 2) := by decide +kernel
theorem dX5_read_152 : decode cX5_read 152 = .ok (.ireturn, 1) := by decide +kernel
theorem dX5_torn_0 : decode cX5_torn 0 = .ok (.aload_n 0, 1) := by decide +kernel
theorem dX5_torn_1 : decode cX5_torn 1 = .ok (.getfield 251, 3) := by decide +kernel
theorem dX5_torn_4 : decode cX5_torn 4 = .ok (.ireturn, 1) := by decide +kernel
theorem dX5_count_0 : decode cX5_count 0 = .ok (.iload_n 1, 1) := by decide +kernel
theorem dX5_count_1 : decode cX5_count 1 = .ok (.tableswitch 134 0 5 #[39, 47, 77, 85, 112, 123], 39) := by decide +kernel
theorem dX5_count_40 : decode cX5_count 40 = .ok (.aload_n 0, 1) := by decide +kernel
theorem dX5_count_41 : decode cX5_count 41 = .ok (.getfield 36, 3) := by decide +kernel
theorem dX5_count_44 : decode cX5_count 44 = .ok (.getfield 87, 3) := by decide +kernel
theorem dX5_count_47 : decode cX5_count 47 = .ok (.ireturn, 1) := by decide +kernel
theorem dX5_count_48 : decode cX5_count 48 = .ok (.aload_n 0, 1) := by decide +kernel
theorem dX5_count_49 : decode cX5_count 49 = .ok (.getfield 44, 3) := by decide +kernel
theorem dX5_count_52 : decode cX5_count 52 = .ok (.iconst 0, 1) := by decide +kernel
theorem dX5_count_53 : decode cX5_count 53 = .ok (.baload, 1) := by decide +kernel
theorem dX5_count_54 : decode cX5_count 54 = .ok (.ifCond .eq 7, 3) := by decide +kernel
theorem dX5_count_57 : decode cX5_count 57 = .ok (.iconst 1, 1) := by decide +kernel
theorem dX5_count_58 : decode cX5_count 58 = .ok (.goto 4, 3) := by decide +kernel
theorem dX5_count_61 : decode cX5_count 61 = .ok (.iconst 0, 1) := by decide +kernel
theorem dX5_count_62 : decode cX5_count 62 = .ok (.aload_n 0, 1) := by decide +kernel
theorem dX5_count_63 : decode cX5_count 63 = .ok (.getfield 44, 3) := by decide +kernel
theorem dX5_count_66 : decode cX5_count 66 = .ok (.iconst 1, 1) := by decide +kernel
theorem dX5_count_67 : decode cX5_count 67 = .ok (.baload, 1) := by decide +kernel
theorem dX5_count_68 : decode cX5_count 68 = .ok (.ifCond .eq 7, 3) := by decide +kernel
theorem dX5_count_71 : decode cX5_count 71 = .ok (.iconst 1, 1) := by decide +kernel
theorem dX5_count_72 : decode cX5_count 72 = .ok (.goto 4, 3) := by decide +kernel
theorem dX5_count_75 : decode cX5_count 75 = .ok (.iconst 0, 1) := by decide +kernel
theorem dX5_count_76 : decode cX5_count 76 = .ok (.iadd, 1) := by decide +kernel
theorem dX5_count_77 : decode cX5_count 77 = .ok (.ireturn, 1) := by decide +kernel
theorem dX5_count_78 : decode cX5_count 78 = .ok (.aload_n 0, 1) := by decide +kernel
theorem dX5_count_79 : decode cX5_count 79 = .ok (.getfield 12, 3) := by decide +kernel
theorem dX5_count_82 : decode cX5_count 82 = .ok (.getfield 63, 3) := by decide +kernel
theorem dX5_count_85 : decode cX5_count 85 = .ok (.ireturn, 1) := by decide +kernel
theorem dX5_count_86 : decode cX5_count 86 = .ok (.aload_n 0, 1) := by decide +kernel
theorem dX5_count_87 : decode cX5_count 87 = .ok (.getfield 50, 3) := by decide +kernel
theorem dX5_count_90 : decode cX5_count 90 = .ok (.iconst 0, 1) := by decide +kernel
theorem dX5_count_91 : decode cX5_count 91 = .ok (.aaload, 1) := by decide +kernel
theorem dX5_count_92 : decode cX5_count 92 = .ok (.invokevirtual 254, 3) := by decide +kernel
theorem dX5_count_95 : decode cX5_count 95 = .ok (.ifCond .eq 8, 3) := by decide +kernel
theorem dX5_count_98 : decode cX5_count 98 = .ok (.bipush (-4), 2) := by decide +kernel
theorem dX5_count_100 : decode cX5_count 100 = .ok (.goto 12, 3) := by decide +kernel
theorem dX5_count_103 : decode cX5_count 103 = .ok (.aload_n 0, 1) := by decide +kernel
theorem dX5_count_104 : decode cX5_count 104 = .ok (.getfield 50, 3) := by decide +kernel
theorem dX5_count_107 : decode cX5_count 107 = .ok (.iconst 0, 1) := by decide +kernel
theorem dX5_count_108 : decode cX5_count 108 = .ok (.aaload, 1) := by decide +kernel
theorem dX5_count_109 : decode cX5_count 109 = .ok (.getfield 257, 3) := by decide +kernel
theorem dX5_count_112 : decode cX5_count 112 = .ok (.ireturn, 1) := by decide +kernel
theorem dX5_count_113 : decode cX5_count 113 = .ok (.aload_n 0, 1) := by decide +kernel
theorem dX5_count_114 : decode cX5_count 114 = .ok (.getfield 19, 3) := by decide +kernel
theorem dX5_count_117 : decode cX5_count 117 = .ok (.invokevirtual 188, 3) := by decide +kernel
theorem dX5_count_120 : decode cX5_count 120 = .ok (.invokestatic 260, 3) := by decide +kernel
theorem dX5_count_123 : decode cX5_count 123 = .ok (.ireturn, 1) := by decide +kernel
theorem dX5_count_124 : decode cX5_count 124 = .ok (.aload_n 0, 1) := by decide +kernel
theorem dX5_count_125 : decode cX5_count 125 = .ok (.getfield 19, 3) := by decide +kernel
theorem dX5_count_128 : decode cX5_count 128 = .ok (.getfield 265, 3) := by decide +kernel
theorem dX5_count_131 : decode cX5_count 131 = .ok (.invokestatic 260, 3) := by decide +kernel
theorem dX5_count_134 : decode cX5_count 134 = .ok (.ireturn, 1) := by decide +kernel
theorem dX5_count_135 : decode cX5_count 135 = .ok (.iconst (-1), 1) := by decide +kernel
theorem dX5_count_136 : decode cX5_count 136 = .ok (.ireturn, 1) := by decide +kernel
theorem dX5_within_0 : decode cX5_within 0 = .ok (.iload_n 0, 1) := by decide +kernel
theorem dX5_within_1 : decode cX5_within 1 = .ok (.iload_n 1, 1) := by decide +kernel
theorem dX5_within_2 : decode cX5_within 2 = .ok (.if_icmp .lt 12, 3) := by decide +kernel
theorem dX5_within_5 : decode cX5_within 5 = .ok (.iload_n 0, 1) := by decide +kernel
theorem dX5_within_6 : decode cX5_within 6 = .ok (.iload_n 2, 1) := by decide +kernel
theorem dX5_within_7 : decode cX5_within 7 = .ok (.if_icmp .gt 7, 3) := by decide +kernel
theorem dX5_within_10 : decode cX5_within 10 = .ok (.iconst 1, 1) := by decide +kernel
theorem dX5_within_11 : decode cX5_within 11 = .ok (.goto 4, 3) := by decide +kernel
theorem dX5_within_14 : decode cX5_within 14 = .ok (.iconst 0, 1) := by decide +kernel
theorem dX5_within_15 : decode cX5_within 15 = .ok (.ireturn, 1) := by decide +kernel
theorem dX5_isFlag_0 : decode cX5_isFlag 0 = .ok (.iload_n 0, 1) := by decide +kernel
theorem dX5_isFlag_1 : decode cX5_isFlag 1 = .ok (.ifCond .eq 8, 3) := by decide +kernel
theorem dX5_isFlag_4 : decode cX5_isFlag 4 = .ok (.iload_n 0, 1) := by decide +kernel
theorem dX5_isFlag_5 : decode cX5_isFlag 5 = .ok (.iconst 1, 1) := by decide +kernel
theorem dX5_isFlag_6 : decode cX5_isFlag 6 = .ok (.if_icmp .ne 7, 3) := by decide +kernel
theorem dX5_isFlag_9 : decode cX5_isFlag 9 = .ok (.iconst 1, 1) := by decide +kernel
theorem dX5_isFlag_10 : decode cX5_isFlag 10 = .ok (.goto 4, 3) := by decide +kernel
theorem dX5_isFlag_13 : decode cX5_isFlag 13 = .ok (.iconst 0, 1) := by decide +kernel
theorem dX5_isFlag_14 : decode cX5_isFlag 14 = .ok (.ireturn, 1) := by decide +kernel
theorem dX5_has_0 : decode cX5_has 0 = .ok (.iload_n 0, 1) := by decide +kernel
theorem dX5_has_1 : decode cX5_has 1 = .ok (.iload_n 1, 1) := by decide +kernel
theorem dX5_has_2 : decode cX5_has 2 = .ok (.ishr, 1) := by decide +kernel
theorem dX5_has_3 : decode cX5_has 3 = .ok (.iconst 1, 1) := by decide +kernel
theorem dX5_has_4 : decode cX5_has 4 = .ok (.iand, 1) := by decide +kernel
theorem dX5_has_5 : decode cX5_has 5 = .ok (.iconst 1, 1) := by decide +kernel
theorem dX5_has_6 : decode cX5_has 6 = .ok (.if_icmp .ne 7, 3) := by decide +kernel
theorem dX5_has_9 : decode cX5_has 9 = .ok (.iconst 1, 1) := by decide +kernel
theorem dX5_has_10 : decode cX5_has 10 = .ok (.goto 4, 3) := by decide +kernel
theorem dX5_has_13 : decode cX5_has 13 = .ok (.iconst 0, 1) := by decide +kernel
theorem dX5_has_14 : decode cX5_has 14 = .ok (.ireturn, 1) := by decide +kernel
theorem dX5_isRot_0 : decode cX5_isRot 0 = .ok (.iload_n 0, 1) := by decide +kernel
theorem dX5_isRot_1 : decode cX5_isRot 1 = .ok (.iconst 1, 1) := by decide +kernel
theorem dX5_isRot_2 : decode cX5_isRot 2 = .ok (.if_icmp .eq 17, 3) := by decide +kernel
theorem dX5_isRot_5 : decode cX5_isRot 5 = .ok (.iload_n 0, 1) := by decide +kernel
theorem dX5_isRot_6 : decode cX5_isRot 6 = .ok (.iconst 0, 1) := by decide +kernel
theorem dX5_isRot_7 : decode cX5_isRot 7 = .ok (.bipush 9, 2) := by decide +kernel
theorem dX5_isRot_9 : decode cX5_isRot 9 = .ok (.invokestatic 55, 3) := by decide +kernel
theorem dX5_isRot_12 : decode cX5_isRot 12 = .ok (.ifCond .eq 7, 3) := by decide +kernel
theorem dX5_isRot_15 : decode cX5_isRot 15 = .ok (.iconst 1, 1) := by decide +kernel
theorem dX5_isRot_16 : decode cX5_isRot 16 = .ok (.goto 4, 3) := by decide +kernel
theorem dX5_isRot_19 : decode cX5_isRot 19 = .ok (.iconst 0, 1) := by decide +kernel
theorem dX5_isRot_20 : decode cX5_isRot 20 = .ok (.ireturn, 1) := by decide +kernel
theorem dX5_isSheet_0 : decode cX5_isSheet 0 = .ok (.iload_n 0, 1) := by decide +kernel
theorem dX5_isSheet_1 : decode cX5_isSheet 1 = .ok (.iconst 0, 1) := by decide +kernel
theorem dX5_isSheet_2 : decode cX5_isSheet 2 = .ok (.iconst 3, 1) := by decide +kernel
theorem dX5_isSheet_3 : decode cX5_isSheet 3 = .ok (.invokestatic 55, 3) := by decide +kernel
theorem dX5_isSheet_6 : decode cX5_isSheet 6 = .ok (.ireturn, 1) := by decide +kernel
theorem dX5_isLane_0 : decode cX5_isLane 0 = .ok (.iload_n 0, 1) := by decide +kernel
theorem dX5_isLane_1 : decode cX5_isLane 1 = .ok (.iconst 0, 1) := by decide +kernel
theorem dX5_isLane_2 : decode cX5_isLane 2 = .ok (.iconst 2, 1) := by decide +kernel
theorem dX5_isLane_3 : decode cX5_isLane 3 = .ok (.invokestatic 55, 3) := by decide +kernel
theorem dX5_isLane_6 : decode cX5_isLane 6 = .ok (.ireturn, 1) := by decide +kernel
theorem dX5_isLand_0 : decode cX5_isLand 0 = .ok (.iload_n 1, 1) := by decide +kernel
theorem dX5_isLand_1 : decode cX5_isLand 1 = .ok (.iconst 0, 1) := by decide +kernel
theorem dX5_isLand_2 : decode cX5_isLand 2 = .ok (.aload_n 0, 1) := by decide +kernel
theorem dX5_isLand_3 : decode cX5_isLand 3 = .ok (.getfield 19, 3) := by decide +kernel
theorem dX5_isLand_6 : decode cX5_isLand 6 = .ok (.getfield 90, 3) := by decide +kernel
theorem dX5_isLand_9 : decode cX5_isLand 9 = .ok (.iconst 1, 1) := by decide +kernel
theorem dX5_isLand_10 : decode cX5_isLand 10 = .ok (.isub, 1) := by decide +kernel
theorem dX5_isLand_11 : decode cX5_isLand 11 = .ok (.invokestatic 55, 3) := by decide +kernel
theorem dX5_isLand_14 : decode cX5_isLand 14 = .ok (.ireturn, 1) := by decide +kernel
theorem dX5_isReading_0 : decode cX5_isReading 0 = .ok (.iload_n 1, 1) := by decide +kernel
theorem dX5_isReading_1 : decode cX5_isReading 1 = .ok (.iconst 0, 1) := by decide +kernel
theorem dX5_isReading_2 : decode cX5_isReading 2 = .ok (.aload_n 0, 1) := by decide +kernel
theorem dX5_isReading_3 : decode cX5_isReading 3 = .ok (.getfield 19, 3) := by decide +kernel
theorem dX5_isReading_6 : decode cX5_isReading 6 = .ok (.getfield 93, 3) := by decide +kernel
theorem dX5_isReading_9 : decode cX5_isReading 9 = .ok (.iconst 1, 1) := by decide +kernel
theorem dX5_isReading_10 : decode cX5_isReading 10 = .ok (.isub, 1) := by decide +kernel
theorem dX5_isReading_11 : decode cX5_isReading 11 = .ok (.invokestatic 55, 3) := by decide +kernel
theorem dX5_isReading_14 : decode cX5_isReading 14 = .ok (.ireturn, 1) := by decide +kernel
theorem dX5_isSafe_0 : decode cX5_isSafe 0 = .ok (.iconst 0, 1) := by decide +kernel
theorem dX5_isSafe_1 : decode cX5_isSafe 1 = .ok (.istore 5, 2) := by decide +kernel
theorem dX5_isSafe_3 : decode cX5_isSafe 3 = .ok (.iload 5, 2) := by decide +kernel
theorem dX5_isSafe_5 : decode cX5_isSafe 5 = .ok (.aload_n 0, 1) := by decide +kernel
theorem dX5_isSafe_6 : decode cX5_isSafe 6 = .ok (.getfield 19, 3) := by decide +kernel
theorem dX5_isSafe_9 : decode cX5_isSafe 9 = .ok (.getfield 93, 3) := by decide +kernel
theorem dX5_isSafe_12 : decode cX5_isSafe 12 = .ok (.if_icmp .ge 74, 3) := by decide +kernel
theorem dX5_isSafe_15 : decode cX5_isSafe 15 = .ok (.aload_n 0, 1) := by decide +kernel
theorem dX5_isSafe_16 : decode cX5_isSafe 16 = .ok (.getfield 19, 3) := by decide +kernel
theorem dX5_isSafe_19 : decode cX5_isSafe 19 = .ok (.iload 5, 2) := by decide +kernel
theorem dX5_isSafe_21 : decode cX5_isSafe 21 = .ok (.invokevirtual 149, 3) := by decide +kernel
theorem dX5_isSafe_24 : decode cX5_isSafe 24 = .ok (.ifCond .eq 56, 3) := by decide +kernel
theorem dX5_isSafe_27 : decode cX5_isSafe 27 = .ok (.aload_n 0, 1) := by decide +kernel
theorem dX5_isSafe_28 : decode cX5_isSafe 28 = .ok (.getfield 23, 3) := by decide +kernel
theorem dX5_isSafe_31 : decode cX5_isSafe 31 = .ok (.aload_n 0, 1) := by decide +kernel
theorem dX5_isSafe_32 : decode cX5_isSafe 32 = .ok (.getfield 19, 3) := by decide +kernel
theorem dX5_isSafe_35 : decode cX5_isSafe 35 = .ok (.invokevirtual 84, 3) := by decide +kernel
theorem dX5_isSafe_38 : decode cX5_isSafe 38 = .ok (.aload_n 0, 1) := by decide +kernel
theorem dX5_isSafe_39 : decode cX5_isSafe 39 = .ok (.getfield 23, 3) := by decide +kernel
theorem dX5_isSafe_42 : decode cX5_isSafe 42 = .ok (.iload_n 1, 1) := by decide +kernel
theorem dX5_isSafe_43 : decode cX5_isSafe 43 = .ok (.iload_n 2, 1) := by decide +kernel
theorem dX5_isSafe_44 : decode cX5_isSafe 44 = .ok (.invokevirtual 166, 3) := by decide +kernel
theorem dX5_isSafe_47 : decode cX5_isSafe 47 = .ok (.aload_n 0, 1) := by decide +kernel
theorem dX5_isSafe_48 : decode cX5_isSafe 48 = .ok (.getfield 23, 3) := by decide +kernel
theorem dX5_isSafe_51 : decode cX5_isSafe 51 = .ok (.iload_n 3, 1) := by decide +kernel
theorem dX5_isSafe_52 : decode cX5_isSafe 52 = .ok (.putfield 102, 3) := by decide +kernel
theorem dX5_isSafe_55 : decode cX5_isSafe 55 = .ok (.aload_n 0, 1) := by decide +kernel
theorem dX5_isSafe_56 : decode cX5_isSafe 56 = .ok (.getfield 23, 3) := by decide +kernel
theorem dX5_isSafe_59 : decode cX5_isSafe 59 = .ok (.iload 4, 2) := by decide +kernel
theorem dX5_isSafe_61 : decode cX5_isSafe 61 = .ok (.putfield 108, 3) := by decide +kernel
theorem dX5_isSafe_64 : decode cX5_isSafe 64 = .ok (.aload_n 0, 1) := by decide +kernel
theorem dX5_isSafe_65 : decode cX5_isSafe 65 = .ok (.getfield 23, 3) := by decide +kernel
theorem dX5_isSafe_68 : decode cX5_isSafe 68 = .ok (.iload 5, 2) := by decide +kernel
theorem dX5_isSafe_70 : decode cX5_isSafe 70 = .ok (.invokevirtual 185, 3) := by decide +kernel
theorem dX5_isSafe_73 : decode cX5_isSafe 73 = .ok (.bipush (-4), 2) := by decide +kernel
theorem dX5_isSafe_75 : decode cX5_isSafe 75 = .ok (.if_icmp .eq 5, 3) := by decide +kernel
theorem dX5_isSafe_78 : decode cX5_isSafe 78 = .ok (.iconst 0, 1) := by decide +kernel
theorem dX5_isSafe_79 : decode cX5_isSafe 79 = .ok (.ireturn, 1) := by decide +kernel
theorem dX5_isSafe_80 : decode cX5_isSafe 80 = .ok (.iinc 5 1, 3) := by decide +kernel
theorem dX5_isSafe_83 : decode cX5_isSafe 83 = .ok (.goto (-80), 3) := by decide +kernel
theorem dX5_isSafe_86 : decode cX5_isSafe 86 = .ok (.iconst 1, 1) := by decide +kernel
theorem dX5_isSafe_87 : decode cX5_isSafe 87 = .ok (.ireturn, 1) := by decide +kernel
theorem dX5_isAsSeen_0 : decode cX5_isAsSeen 0 = .ok (.aload_n 0, 1) := by decide +kernel
theorem dX5_isAsSeen_1 : decode cX5_isAsSeen 1 = .ok (.getfield 23, 3) := by decide +kernel
theorem dX5_isAsSeen_4 : decode cX5_isAsSeen 4 = .ok (.aload_n 0, 1) := by decide +kernel
theorem dX5_isAsSeen_5 : decode cX5_isAsSeen 5 = .ok (.getfield 19, 3) := by decide +kernel
theorem dX5_isAsSeen_8 : decode cX5_isAsSeen 8 = .ok (.invokevirtual 84, 3) := by decide +kernel
theorem dX5_isAsSeen_11 : decode cX5_isAsSeen 11 = .ok (.aload_n 0, 1) := by decide +kernel
theorem dX5_isAsSeen_12 : decode cX5_isAsSeen 12 = .ok (.getfield 23, 3) := by decide +kernel
theorem dX5_isAsSeen_15 : decode cX5_isAsSeen 15 = .ok (.iload_n 2, 1) := by decide +kernel
theorem dX5_isAsSeen_16 : decode cX5_isAsSeen 16 = .ok (.iload_n 3, 1) := by decide +kernel
theorem dX5_isAsSeen_17 : decode cX5_isAsSeen 17 = .ok (.invokevirtual 166, 3) := by decide +kernel
theorem dX5_isAsSeen_20 : decode cX5_isAsSeen 20 = .ok (.iconst 1, 1) := by decide +kernel
theorem dX5_isAsSeen_21 : decode cX5_isAsSeen 21 = .ok (.istore 5, 2) := by decide +kernel
theorem dX5_isAsSeen_23 : decode cX5_isAsSeen 23 = .ok (.iload 5, 2) := by decide +kernel
theorem dX5_isAsSeen_25 : decode cX5_isAsSeen 25 = .ok (.bipush 8, 2) := by decide +kernel
theorem dX5_isAsSeen_27 : decode cX5_isAsSeen 27 = .ok (.if_icmp .gt 84, 3) := by decide +kernel
theorem dX5_isAsSeen_30 : decode cX5_isAsSeen 30 = .ok (.aload_n 0, 1) := by decide +kernel
theorem dX5_isAsSeen_31 : decode cX5_isAsSeen 31 = .ok (.getfield 23, 3) := by decide +kernel
theorem dX5_isAsSeen_34 : decode cX5_isAsSeen 34 = .ok (.invokevirtual 173, 3) := by decide +kernel
theorem dX5_isAsSeen_37 : decode cX5_isAsSeen 37 = .ok (.ifCond .ne 47, 3) := by decide +kernel
theorem dX5_isAsSeen_40 : decode cX5_isAsSeen 40 = .ok (.aload_n 0, 1) := by decide +kernel
theorem dX5_isAsSeen_41 : decode cX5_isAsSeen 41 = .ok (.getfield 23, 3) := by decide +kernel
theorem dX5_isAsSeen_44 : decode cX5_isAsSeen 44 = .ok (.aload_n 0, 1) := by decide +kernel
theorem dX5_isAsSeen_45 : decode cX5_isAsSeen 45 = .ok (.getfield 23, 3) := by decide +kernel
theorem dX5_isAsSeen_48 : decode cX5_isAsSeen 48 = .ok (.iload_n 1, 1) := by decide +kernel
theorem dX5_isAsSeen_49 : decode cX5_isAsSeen 49 = .ok (.aload_n 0, 1) := by decide +kernel
theorem dX5_isAsSeen_50 : decode cX5_isAsSeen 50 = .ok (.getfield 23, 3) := by decide +kernel
theorem dX5_isAsSeen_53 : decode cX5_isAsSeen 53 = .ok (.getfield 123, 3) := by decide +kernel
theorem dX5_isAsSeen_56 : decode cX5_isAsSeen 56 = .ok (.invokevirtual 152, 3) := by decide +kernel
theorem dX5_isAsSeen_59 : decode cX5_isAsSeen 59 = .ok (.invokevirtual 176, 3) := by decide +kernel
theorem dX5_isAsSeen_62 : decode cX5_isAsSeen 62 = .ok (.pop, 1) := by decide +kernel
theorem dX5_isAsSeen_63 : decode cX5_isAsSeen 63 = .ok (.aload_n 0, 1) := by decide +kernel
theorem dX5_isAsSeen_64 : decode cX5_isAsSeen 64 = .ok (.getfield 23, 3) := by decide +kernel
theorem dX5_isAsSeen_67 : decode cX5_isAsSeen 67 = .ok (.iconst 0, 1) := by decide +kernel
theorem dX5_isAsSeen_68 : decode cX5_isAsSeen 68 = .ok (.aload_n 0, 1) := by decide +kernel
theorem dX5_isAsSeen_69 : decode cX5_isAsSeen 69 = .ok (.getfield 23, 3) := by decide +kernel
theorem dX5_isAsSeen_72 : decode cX5_isAsSeen 72 = .ok (.getfield 108, 3) := by decide +kernel
theorem dX5_isAsSeen_75 : decode cX5_isAsSeen 75 = .ok (.iload 4, 2) := by decide +kernel
theorem dX5_isAsSeen_77 : decode cX5_isAsSeen 77 = .ok (.isub, 1) := by decide +kernel
theorem dX5_isAsSeen_78 : decode cX5_isAsSeen 78 = .ok (.invokestatic 268, 3) := by decide +kernel
theorem dX5_isAsSeen_81 : decode cX5_isAsSeen 81 = .ok (.putfield 108, 3) := by decide +kernel
theorem dX5_isAsSeen_84 : decode cX5_isAsSeen 84 = .ok (.aload_n 0, 1) := by decide +kernel
theorem dX5_isAsSeen_85 : decode cX5_isAsSeen 85 = .ok (.getfield 36, 3) := by decide +kernel
theorem dX5_isAsSeen_88 : decode cX5_isAsSeen 88 = .ok (.iload 5, 2) := by decide +kernel
theorem dX5_isAsSeen_90 : decode cX5_isAsSeen 90 = .ok (.aload_n 0, 1) := by decide +kernel
theorem dX5_isAsSeen_91 : decode cX5_isAsSeen 91 = .ok (.getfield 23, 3) := by decide +kernel
theorem dX5_isAsSeen_94 : decode cX5_isAsSeen 94 = .ok (.getfield 108, 3) := by decide +kernel
theorem dX5_isAsSeen_97 : decode cX5_isAsSeen 97 = .ok (.invokevirtual 273, 3) := by decide +kernel
theorem dX5_isAsSeen_100 : decode cX5_isAsSeen 100 = .ok (.ifCond .ne 5, 3) := by decide +kernel
theorem dX5_isAsSeen_103 : decode cX5_isAsSeen 103 = .ok (.iconst 0, 1) := by decide +kernel
theorem dX5_isAsSeen_104 : decode cX5_isAsSeen 104 = .ok (.ireturn, 1) := by decide +kernel
theorem dX5_isAsSeen_105 : decode cX5_isAsSeen 105 = .ok (.iinc 5 1, 3) := by decide +kernel
theorem dX5_isAsSeen_108 : decode cX5_isAsSeen 108 = .ok (.goto (-85), 3) := by decide +kernel
theorem dX5_isAsSeen_111 : decode cX5_isAsSeen 111 = .ok (.iconst 1, 1) := by decide +kernel
theorem dX5_isAsSeen_112 : decode cX5_isAsSeen 112 = .ok (.ireturn, 1) := by decide +kernel
theorem dX5_fraction_0 : decode cX5_fraction 0 = .ok (.iload_n 0, 1) := by decide +kernel
theorem dX5_fraction_1 : decode cX5_fraction 1 = .ok (.invokestatic 276, 3) := by decide +kernel
theorem dX5_fraction_4 : decode cX5_fraction 4 = .ok (.iload_n 1, 1) := by decide +kernel
theorem dX5_fraction_5 : decode cX5_fraction 5 = .ok (.invokestatic 279, 3) := by decide +kernel
theorem dX5_fraction_8 : decode cX5_fraction 8 = .ok (.istore_n 3, 1) := by decide +kernel
theorem dX5_fraction_9 : decode cX5_fraction 9 = .ok (.iload_n 3, 1) := by decide +kernel
theorem dX5_fraction_10 : decode cX5_fraction 10 = .ok (.ifCond .ne 6, 3) := by decide +kernel
theorem dX5_fraction_13 : decode cX5_fraction 13 = .ok (.iload_n 2, 1) := by decide +kernel
theorem dX5_fraction_14 : decode cX5_fraction 14 = .ok (.i2l, 1) := by decide +kernel
theorem dX5_fraction_15 : decode cX5_fraction 15 = .ok (.lreturn, 1) := by decide +kernel
theorem dX5_fraction_16 : decode cX5_fraction 16 = .ok (.iload_n 2, 1) := by decide +kernel
theorem dX5_fraction_17 : decode cX5_fraction 17 = .ok (.ifCond .ne 10, 3) := by decide +kernel
theorem dX5_fraction_20 : decode cX5_fraction 20 = .ok (.iload_n 0, 1) := by decide +kernel
theorem dX5_fraction_21 : decode cX5_fraction 21 = .ok (.iload_n 3, 1) := by decide +kernel
theorem dX5_fraction_22 : decode cX5_fraction 22 = .ok (.idiv, 1) := by decide +kernel
theorem dX5_fraction_23 : decode cX5_fraction 23 = .ok (.i2l, 1) := by decide +kernel
theorem dX5_fraction_24 : decode cX5_fraction 24 = .ok (.goto 7, 3) := by decide +kernel
theorem dX5_fraction_27 : decode cX5_fraction 27 = .ok (.iload_n 1, 1) := by decide +kernel
theorem dX5_fraction_28 : decode cX5_fraction 28 = .ok (.iload_n 3, 1) := by decide +kernel
theorem dX5_fraction_29 : decode cX5_fraction 29 = .ok (.idiv, 1) := by decide +kernel
theorem dX5_fraction_30 : decode cX5_fraction 30 = .ok (.i2l, 1) := by decide +kernel
theorem dX5_fraction_31 : decode cX5_fraction 31 = .ok (.lreturn, 1) := by decide +kernel
theorem dX5_greatestDivisor_0 : decode cX5_greatestDivisor 0 = .ok (.iload_n 0, 1) := by decide +kernel
theorem dX5_greatestDivisor_1 : decode cX5_greatestDivisor 1 = .ok (.istore_n 2, 1) := by decide +kernel
theorem dX5_greatestDivisor_2 : decode cX5_greatestDivisor 2 = .ok (.iload_n 1, 1) := by decide +kernel
theorem dX5_greatestDivisor_3 : decode cX5_greatestDivisor 3 = .ok (.istore_n 3, 1) := by decide +kernel
theorem dX5_greatestDivisor_4 : decode cX5_greatestDivisor 4 = .ok (.iconst 0, 1) := by decide +kernel
theorem dX5_greatestDivisor_5 : decode cX5_greatestDivisor 5 = .ok (.istore 4, 2) := by decide +kernel
theorem dX5_greatestDivisor_7 : decode cX5_greatestDivisor 7 = .ok (.iload 4, 2) := by decide +kernel
theorem dX5_greatestDivisor_9 : decode cX5_greatestDivisor 9 = .ok (.bipush 64, 2) := by decide +kernel
theorem dX5_greatestDivisor_11 : decode cX5_greatestDivisor 11 = .ok (.if_icmp .ge 23, 3) := by decide +kernel
theorem dX5_greatestDivisor_14 : decode cX5_greatestDivisor 14 = .ok (.iload_n 3, 1) := by decide +kernel
theorem dX5_greatestDivisor_15 : decode cX5_greatestDivisor 15 = .ok (.ifCond .eq 19, 3) := by decide +kernel
theorem dX5_greatestDivisor_18 : decode cX5_greatestDivisor 18 = .ok (.iload_n 2, 1) := by decide +kernel
theorem dX5_greatestDivisor_19 : decode cX5_greatestDivisor 19 = .ok (.iload_n 3, 1) := by decide +kernel
theorem dX5_greatestDivisor_20 : decode cX5_greatestDivisor 20 = .ok (.irem, 1) := by decide +kernel
theorem dX5_greatestDivisor_21 : decode cX5_greatestDivisor 21 = .ok (.istore 5, 2) := by decide +kernel
theorem dX5_greatestDivisor_23 : decode cX5_greatestDivisor 23 = .ok (.iload_n 3, 1) := by decide +kernel
theorem dX5_greatestDivisor_24 : decode cX5_greatestDivisor 24 = .ok (.istore_n 2, 1) := by decide +kernel
theorem dX5_greatestDivisor_25 : decode cX5_greatestDivisor 25 = .ok (.iload 5, 2) := by decide +kernel
theorem dX5_greatestDivisor_27 : decode cX5_greatestDivisor 27 = .ok (.istore_n 3, 1) := by decide +kernel
theorem dX5_greatestDivisor_28 : decode cX5_greatestDivisor 28 = .ok (.iinc 4 1, 3) := by decide +kernel
theorem dX5_greatestDivisor_31 : decode cX5_greatestDivisor 31 = .ok (.goto (-24), 3) := by decide +kernel
theorem dX5_greatestDivisor_34 : decode cX5_greatestDivisor 34 = .ok (.iload_n 2, 1) := by decide +kernel
theorem dX5_greatestDivisor_35 : decode cX5_greatestDivisor 35 = .ok (.ireturn, 1) := by decide +kernel
