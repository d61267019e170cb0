theorem d_Model_init_0 : decode b_Model_init 0 = .ok (.aload_n 0, 1) := by decide +kernel
theorem d_Model_init_1 : decode b_Model_init 1 = .ok (.invokespecial 1, 3) := by decide +kernel
theorem d_Model_init_4 : decode b_Model_init 4 = .ok (.aload_n 0, 1) := by decide +kernel
theorem d_Model_init_5 : decode b_Model_init 5 = .ok (.sipush 2000, 3) := by decide +kernel
theorem d_Model_init_8 : decode b_Model_init 8 = .ok (.newarray .int, 2) := by decide +kernel
theorem d_Model_init_10 : decode b_Model_init 10 = .ok (.putfield 7, 3) := by decide +kernel
theorem d_Model_init_13 : decode b_Model_init 13 = .ok (.aload_n 0, 1) := by decide +kernel
theorem d_Model_init_14 : decode b_Model_init 14 = .ok (.iconst (-1), 1) := by decide +kernel
theorem d_Model_init_15 : decode b_Model_init 15 = .ok (.putfield 13, 3) := by decide +kernel
theorem d_Model_init_18 : decode b_Model_init 18 = .ok (.aload_n 0, 1) := by decide +kernel
theorem d_Model_init_19 : decode b_Model_init 19 = .ok (.bipush 8, 2) := by decide +kernel
theorem d_Model_init_21 : decode b_Model_init 21 = .ok (.newarray .int, 2) := by decide +kernel
theorem d_Model_init_23 : decode b_Model_init 23 = .ok (.putfield 17, 3) := by decide +kernel
theorem d_Model_init_26 : decode b_Model_init 26 = .ok (.aload_n 0, 1) := by decide +kernel
theorem d_Model_init_27 : decode b_Model_init 27 = .ok (.sipush 16000, 3) := by decide +kernel
theorem d_Model_init_30 : decode b_Model_init 30 = .ok (.newarray .int, 2) := by decide +kernel
theorem d_Model_init_32 : decode b_Model_init 32 = .ok (.putfield 20, 3) := by decide +kernel
theorem d_Model_init_35 : decode b_Model_init 35 = .ok (.aload_n 0, 1) := by decide +kernel
theorem d_Model_init_36 : decode b_Model_init 36 = .ok (.sipush 4400, 3) := by decide +kernel
theorem d_Model_init_39 : decode b_Model_init 39 = .ok (.newarray .int, 2) := by decide +kernel
theorem d_Model_init_41 : decode b_Model_init 41 = .ok (.putfield 23, 3) := by decide +kernel
theorem d_Model_init_44 : decode b_Model_init 44 = .ok (.aload_n 0, 1) := by decide +kernel
theorem d_Model_init_45 : decode b_Model_init 45 = .ok (.sipush 1000, 3) := by decide +kernel
theorem d_Model_init_48 : decode b_Model_init 48 = .ok (.newarray .int, 2) := by decide +kernel
theorem d_Model_init_50 : decode b_Model_init 50 = .ok (.putfield 26, 3) := by decide +kernel
theorem d_Model_init_53 : decode b_Model_init 53 = .ok (.aload_n 0, 1) := by decide +kernel
theorem d_Model_init_54 : decode b_Model_init 54 = .ok (.sipush 1000, 3) := by decide +kernel
theorem d_Model_init_57 : decode b_Model_init 57 = .ok (.newarray .int, 2) := by decide +kernel
theorem d_Model_init_59 : decode b_Model_init 59 = .ok (.putfield 29, 3) := by decide +kernel
theorem d_Model_init_62 : decode b_Model_init 62 = .ok (.aload_n 0, 1) := by decide +kernel
theorem d_Model_init_63 : decode b_Model_init 63 = .ok (.sipush 1000, 3) := by decide +kernel
theorem d_Model_init_66 : decode b_Model_init 66 = .ok (.newarray .int, 2) := by decide +kernel
theorem d_Model_init_68 : decode b_Model_init 68 = .ok (.putfield 32, 3) := by decide +kernel
theorem d_Model_init_71 : decode b_Model_init 71 = .ok (.aload_n 0, 1) := by decide +kernel
theorem d_Model_init_72 : decode b_Model_init 72 = .ok (.sipush 1000, 3) := by decide +kernel
theorem d_Model_init_75 : decode b_Model_init 75 = .ok (.newarray .int, 2) := by decide +kernel
theorem d_Model_init_77 : decode b_Model_init 77 = .ok (.putfield 35, 3) := by decide +kernel
theorem d_Model_init_80 : decode b_Model_init 80 = .ok (.aload_n 0, 1) := by decide +kernel
theorem d_Model_init_81 : decode b_Model_init 81 = .ok (.sipush 1000, 3) := by decide +kernel
theorem d_Model_init_84 : decode b_Model_init 84 = .ok (.newarray .int, 2) := by decide +kernel
theorem d_Model_init_86 : decode b_Model_init 86 = .ok (.putfield 38, 3) := by decide +kernel
theorem d_Model_init_89 : decode b_Model_init 89 = .ok (.aload_n 0, 1) := by decide +kernel
theorem d_Model_init_90 : decode b_Model_init 90 = .ok (.bipush 20, 2) := by decide +kernel
theorem d_Model_init_92 : decode b_Model_init 92 = .ok (.newarray .int, 2) := by decide +kernel
theorem d_Model_init_94 : decode b_Model_init 94 = .ok (.putfield 41, 3) := by decide +kernel
theorem d_Model_init_97 : decode b_Model_init 97 = .ok (.aload_n 0, 1) := by decide +kernel
theorem d_Model_init_98 : decode b_Model_init 98 = .ok (.bipush 20, 2) := by decide +kernel
theorem d_Model_init_100 : decode b_Model_init 100 = .ok (.newarray .int, 2) := by decide +kernel
theorem d_Model_init_102 : decode b_Model_init 102 = .ok (.putfield 44, 3) := by decide +kernel
theorem d_Model_init_105 : decode b_Model_init 105 = .ok (.aload_n 0, 1) := by decide +kernel
theorem d_Model_init_106 : decode b_Model_init 106 = .ok (.bipush 20, 2) := by decide +kernel
theorem d_Model_init_108 : decode b_Model_init 108 = .ok (.newarray .int, 2) := by decide +kernel
theorem d_Model_init_110 : decode b_Model_init 110 = .ok (.putfield 47, 3) := by decide +kernel
theorem d_Model_init_113 : decode b_Model_init 113 = .ok (.aload_n 0, 1) := by decide +kernel
theorem d_Model_init_114 : decode b_Model_init 114 = .ok (.bipush 20, 2) := by decide +kernel
theorem d_Model_init_116 : decode b_Model_init 116 = .ok (.newarray .int, 2) := by decide +kernel
theorem d_Model_init_118 : decode b_Model_init 118 = .ok (.putfield 50, 3) := by decide +kernel
theorem d_Model_init_121 : decode b_Model_init 121 = .ok (.aload_n 0, 1) := by decide +kernel
theorem d_Model_init_122 : decode b_Model_init 122 = .ok (.sipush 4200, 3) := by decide +kernel
theorem d_Model_init_125 : decode b_Model_init 125 = .ok (.newarray .int, 2) := by decide +kernel
theorem d_Model_init_127 : decode b_Model_init 127 = .ok (.putfield 53, 3) := by decide +kernel
theorem d_Model_init_130 : decode b_Model_init 130 = .ok (.iconst 0, 1) := by decide +kernel
theorem d_Model_init_131 : decode b_Model_init 131 = .ok (.istore_n 1, 1) := by decide +kernel
theorem d_Model_init_132 : decode b_Model_init 132 = .ok (.iload_n 1, 1) := by decide +kernel
theorem d_Model_init_133 : decode b_Model_init 133 = .ok (.bipush 8, 2) := by decide +kernel
theorem d_Model_init_135 : decode b_Model_init 135 = .ok (.if_icmp .ge 27, 3) := by decide +kernel
theorem d_Model_init_138 : decode b_Model_init 138 = .ok (.aload_n 0, 1) := by decide +kernel
theorem d_Model_init_139 : decode b_Model_init 139 = .ok (.getfield 17, 3) := by decide +kernel
theorem d_Model_init_142 : decode b_Model_init 142 = .ok (.iload_n 1, 1) := by decide +kernel
theorem d_Model_init_143 : decode b_Model_init 143 = .ok (.iconst 5, 1) := by decide +kernel
theorem d_Model_init_144 : decode b_Model_init 144 = .ok (.iastore, 1) := by decide +kernel
theorem d_Model_init_145 : decode b_Model_init 145 = .ok (.aload_n 0, 1) := by decide +kernel
theorem d_Model_init_146 : decode b_Model_init 146 = .ok (.getfield 20, 3) := by decide +kernel
theorem d_Model_init_149 : decode b_Model_init 149 = .ok (.sipush 2000, 3) := by decide +kernel
theorem d_Model_init_152 : decode b_Model_init 152 = .ok (.iload_n 1, 1) := by decide +kernel
theorem d_Model_init_153 : decode b_Model_init 153 = .ok (.imul, 1) := by decide +kernel
theorem d_Model_init_154 : decode b_Model_init 154 = .ok (.iconst 5, 1) := by decide +kernel
theorem d_Model_init_155 : decode b_Model_init 155 = .ok (.iastore, 1) := by decide +kernel
theorem d_Model_init_156 : decode b_Model_init 156 = .ok (.iinc 1 1, 3) := by decide +kernel
theorem d_Model_init_159 : decode b_Model_init 159 = .ok (.goto (-27), 3) := by decide +kernel
theorem d_Model_init_162 : decode b_Model_init 162 = .ok (.return_, 1) := by decide +kernel
theorem d_Model_feed_0 : decode b_Model_feed 0 = .ok (.aload_n 0, 1) := by decide +kernel
theorem d_Model_feed_1 : decode b_Model_feed 1 = .ok (.getfield 59, 3) := by decide +kernel
theorem d_Model_feed_4 : decode b_Model_feed 4 = .ok (.bipush 20, 2) := by decide +kernel
theorem d_Model_feed_6 : decode b_Model_feed 6 = .ok (.iadd, 1) := by decide +kernel
theorem d_Model_feed_7 : decode b_Model_feed 7 = .ok (.sipush 2000, 3) := by decide +kernel
theorem d_Model_feed_10 : decode b_Model_feed 10 = .ok (.if_icmp .le 5, 3) := by decide +kernel
theorem d_Model_feed_13 : decode b_Model_feed 13 = .ok (.iconst (-1), 1) := by decide +kernel
theorem d_Model_feed_14 : decode b_Model_feed 14 = .ok (.ireturn, 1) := by decide +kernel
theorem d_Model_feed_15 : decode b_Model_feed 15 = .ok (.aload_n 0, 1) := by decide +kernel
theorem d_Model_feed_16 : decode b_Model_feed 16 = .ok (.iload_n 1, 1) := by decide +kernel
theorem d_Model_feed_17 : decode b_Model_feed 17 = .ok (.invokevirtual 62, 3) := by decide +kernel
theorem d_Model_feed_20 : decode b_Model_feed 20 = .ok (.aload_n 0, 1) := by decide +kernel
theorem d_Model_feed_21 : decode b_Model_feed 21 = .ok (.iload_n 2, 1) := by decide +kernel
theorem d_Model_feed_22 : decode b_Model_feed 22 = .ok (.invokevirtual 62, 3) := by decide +kernel
theorem d_Model_feed_25 : decode b_Model_feed 25 = .ok (.aload_n 0, 1) := by decide +kernel
theorem d_Model_feed_26 : decode b_Model_feed 26 = .ok (.iload_n 3, 1) := by decide +kernel
theorem d_Model_feed_27 : decode b_Model_feed 27 = .ok (.invokevirtual 62, 3) := by decide +kernel
theorem d_Model_feed_30 : decode b_Model_feed 30 = .ok (.aload_n 0, 1) := by decide +kernel
theorem d_Model_feed_31 : decode b_Model_feed 31 = .ok (.iload 4, 2) := by decide +kernel
theorem d_Model_feed_33 : decode b_Model_feed 33 = .ok (.invokevirtual 62, 3) := by decide +kernel
theorem d_Model_feed_36 : decode b_Model_feed 36 = .ok (.aload_n 0, 1) := by decide +kernel
theorem d_Model_feed_37 : decode b_Model_feed 37 = .ok (.iload 5, 2) := by decide +kernel
theorem d_Model_feed_39 : decode b_Model_feed 39 = .ok (.invokevirtual 62, 3) := by decide +kernel
theorem d_Model_feed_42 : decode b_Model_feed 42 = .ok (.aload_n 0, 1) := by decide +kernel
theorem d_Model_feed_43 : decode b_Model_feed 43 = .ok (.getfield 59, 3) := by decide +kernel
theorem d_Model_feed_46 : decode b_Model_feed 46 = .ok (.ireturn, 1) := by decide +kernel
theorem d_Model_put_0 : decode b_Model_put 0 = .ok (.bipush 24, 2) := by decide +kernel
theorem d_Model_put_2 : decode b_Model_put 2 = .ok (.istore_n 2, 1) := by decide +kernel
theorem d_Model_put_3 : decode b_Model_put 3 = .ok (.iload_n 2, 1) := by decide +kernel
theorem d_Model_put_4 : decode b_Model_put 4 = .ok (.ifCond .lt 35, 3) := by decide +kernel
theorem d_Model_put_7 : decode b_Model_put 7 = .ok (.aload_n 0, 1) := by decide +kernel
theorem d_Model_put_8 : decode b_Model_put 8 = .ok (.getfield 7, 3) := by decide +kernel
theorem d_Model_put_11 : decode b_Model_put 11 = .ok (.aload_n 0, 1) := by decide +kernel
theorem d_Model_put_12 : decode b_Model_put 12 = .ok (.getfield 59, 3) := by decide +kernel
theorem d_Model_put_15 : decode b_Model_put 15 = .ok (.iload_n 1, 1) := by decide +kernel
theorem d_Model_put_16 : decode b_Model_put 16 = .ok (.iload_n 2, 1) := by decide +kernel
theorem d_Model_put_17 : decode b_Model_put 17 = .ok (.ishr, 1) := by decide +kernel
theorem d_Model_put_18 : decode b_Model_put 18 = .ok (.sipush 255, 3) := by decide +kernel
theorem d_Model_put_21 : decode b_Model_put 21 = .ok (.iand, 1) := by decide +kernel
theorem d_Model_put_22 : decode b_Model_put 22 = .ok (.iastore, 1) := by decide +kernel
theorem d_Model_put_23 : decode b_Model_put 23 = .ok (.aload_n 0, 1) := by decide +kernel
theorem d_Model_put_24 : decode b_Model_put 24 = .ok (.dup, 1) := by decide +kernel
theorem d_Model_put_25 : decode b_Model_put 25 = .ok (.getfield 59, 3) := by decide +kernel
theorem d_Model_put_28 : decode b_Model_put 28 = .ok (.iconst 1, 1) := by decide +kernel
theorem d_Model_put_29 : decode b_Model_put 29 = .ok (.iadd, 1) := by decide +kernel
theorem d_Model_put_30 : decode b_Model_put 30 = .ok (.putfield 59, 3) := by decide +kernel
theorem d_Model_put_33 : decode b_Model_put 33 = .ok (.iinc 2 (-8), 3) := by decide +kernel
theorem d_Model_put_36 : decode b_Model_put 36 = .ok (.goto (-33), 3) := by decide +kernel
theorem d_Model_put_39 : decode b_Model_put 39 = .ok (.return_, 1) := by decide +kernel
theorem d_Model_stop_0 : decode b_Model_stop 0 = .ok (.aload_n 0, 1) := by decide +kernel
theorem d_Model_stop_1 : decode b_Model_stop 1 = .ok (.getfield 66, 3) := by decide +kernel
theorem d_Model_stop_4 : decode b_Model_stop 4 = .ok (.ifCond .eq 4, 3) := by decide +kernel
theorem d_Model_stop_7 : decode b_Model_stop 7 = .ok (.return_, 1) := by decide +kernel
theorem d_Model_stop_8 : decode b_Model_stop 8 = .ok (.aload_n 0, 1) := by decide +kernel
theorem d_Model_stop_9 : decode b_Model_stop 9 = .ok (.iload_n 1, 1) := by decide +kernel
theorem d_Model_stop_10 : decode b_Model_stop 10 = .ok (.putfield 66, 3) := by decide +kernel
theorem d_Model_stop_13 : decode b_Model_stop 13 = .ok (.aload_n 0, 1) := by decide +kernel
theorem d_Model_stop_14 : decode b_Model_stop 14 = .ok (.iload_n 2, 1) := by decide +kernel
theorem d_Model_stop_15 : decode b_Model_stop 15 = .ok (.putfield 13, 3) := by decide +kernel
theorem d_Model_stop_18 : decode b_Model_stop 18 = .ok (.return_, 1) := by decide +kernel
theorem d_Model_low_0 : decode b_Model_low 0 = .ok (.lconst 0, 1) := by decide +kernel
theorem d_Model_low_1 : decode b_Model_low 1 = .ok (.lstore_n 3, 1) := by decide +kernel
theorem d_Model_low_2 : decode b_Model_low 2 = .ok (.iload_n 2, 1) := by decide +kernel
theorem d_Model_low_3 : decode b_Model_low 3 = .ok (.iconst 1, 1) := by decide +kernel
theorem d_Model_low_4 : decode b_Model_low 4 = .ok (.isub, 1) := by decide +kernel
theorem d_Model_low_5 : decode b_Model_low 5 = .ok (.istore 5, 2) := by decide +kernel
theorem d_Model_low_7 : decode b_Model_low 7 = .ok (.iload 5, 2) := by decide +kernel
theorem d_Model_low_9 : decode b_Model_low 9 = .ok (.ifCond .lt 25, 3) := by decide +kernel
theorem d_Model_low_12 : decode b_Model_low 12 = .ok (.lload_n 3, 1) := by decide +kernel
theorem d_Model_low_13 : decode b_Model_low 13 = .ok (.bipush 8, 2) := by decide +kernel
theorem d_Model_low_15 : decode b_Model_low 15 = .ok (.lshl, 1) := by decide +kernel
theorem d_Model_low_16 : decode b_Model_low 16 = .ok (.aload_n 0, 1) := by decide +kernel
theorem d_Model_low_17 : decode b_Model_low 17 = .ok (.getfield 23, 3) := by decide +kernel
theorem d_Model_low_20 : decode b_Model_low 20 = .ok (.iload_n 1, 1) := by decide +kernel
theorem d_Model_low_21 : decode b_Model_low 21 = .ok (.iload 5, 2) := by decide +kernel
theorem d_Model_low_23 : decode b_Model_low 23 = .ok (.iadd, 1) := by decide +kernel
theorem d_Model_low_24 : decode b_Model_low 24 = .ok (.iaload, 1) := by decide +kernel
theorem d_Model_low_25 : decode b_Model_low 25 = .ok (.i2l, 1) := by decide +kernel
theorem d_Model_low_26 : decode b_Model_low 26 = .ok (.lor, 1) := by decide +kernel
theorem d_Model_low_27 : decode b_Model_low 27 = .ok (.lstore_n 3, 1) := by decide +kernel
theorem d_Model_low_28 : decode b_Model_low 28 = .ok (.iinc 5 (-1), 3) := by decide +kernel
theorem d_Model_low_31 : decode b_Model_low 31 = .ok (.goto (-24), 3) := by decide +kernel
theorem d_Model_low_34 : decode b_Model_low 34 = .ok (.lload_n 3, 1) := by decide +kernel
theorem d_Model_low_35 : decode b_Model_low 35 = .ok (.lreturn, 1) := by decide +kernel
theorem d_Model_character_0 : decode b_Model_character 0 = .ok (.aload_n 0, 1) := by decide +kernel
theorem d_Model_character_1 : decode b_Model_character 1 = .ok (.iload_n 1, 1) := by decide +kernel
theorem d_Model_character_2 : decode b_Model_character 2 = .ok (.iaload, 1) := by decide +kernel
theorem d_Model_character_3 : decode b_Model_character 3 = .ok (.istore_n 3, 1) := by decide +kernel
theorem d_Model_character_4 : decode b_Model_character 4 = .ok (.iload_n 3, 1) := by decide +kernel
theorem d_Model_character_5 : decode b_Model_character 5 = .ok (.sipush 128, 3) := by decide +kernel
theorem d_Model_character_8 : decode b_Model_character 8 = .ok (.if_icmp .ge 5, 3) := by decide +kernel
theorem d_Model_character_11 : decode b_Model_character 11 = .ok (.iconst 1, 1) := by decide +kernel
theorem d_Model_character_12 : decode b_Model_character 12 = .ok (.ireturn, 1) := by decide +kernel
theorem d_Model_character_13 : decode b_Model_character 13 = .ok (.iload_n 3, 1) := by decide +kernel
theorem d_Model_character_14 : decode b_Model_character 14 = .ok (.sipush 192, 3) := by decide +kernel
theorem d_Model_character_17 : decode b_Model_character 17 = .ok (.if_icmp .lt 14, 3) := by decide +kernel
theorem d_Model_character_20 : decode b_Model_character 20 = .ok (.iload_n 3, 1) := by decide +kernel
theorem d_Model_character_21 : decode b_Model_character 21 = .ok (.sipush 224, 3) := by decide +kernel
theorem d_Model_character_24 : decode b_Model_character 24 = .ok (.if_icmp .ge 7, 3) := by decide +kernel
theorem d_Model_character_27 : decode b_Model_character 27 = .ok (.iconst 2, 1) := by decide +kernel
theorem d_Model_character_28 : decode b_Model_character 28 = .ok (.goto 40, 3) := by decide +kernel
theorem d_Model_character_31 : decode b_Model_character 31 = .ok (.iload_n 3, 1) := by decide +kernel
theorem d_Model_character_32 : decode b_Model_character 32 = .ok (.sipush 224, 3) := by decide +kernel
theorem d_Model_character_35 : decode b_Model_character 35 = .ok (.if_icmp .lt 14, 3) := by decide +kernel
theorem d_Model_character_38 : decode b_Model_character 38 = .ok (.iload_n 3, 1) := by decide +kernel
theorem d_Model_character_39 : decode b_Model_character 39 = .ok (.sipush 240, 3) := by decide +kernel
theorem d_Model_character_42 : decode b_Model_character 42 = .ok (.if_icmp .ge 7, 3) := by decide +kernel
theorem d_Model_character_45 : decode b_Model_character 45 = .ok (.iconst 3, 1) := by decide +kernel
theorem d_Model_character_46 : decode b_Model_character 46 = .ok (.goto 22, 3) := by decide +kernel
theorem d_Model_character_49 : decode b_Model_character 49 = .ok (.iload_n 3, 1) := by decide +kernel
theorem d_Model_character_50 : decode b_Model_character 50 = .ok (.sipush 240, 3) := by decide +kernel
theorem d_Model_character_53 : decode b_Model_character 53 = .ok (.if_icmp .lt 14, 3) := by decide +kernel
theorem d_Model_character_56 : decode b_Model_character 56 = .ok (.iload_n 3, 1) := by decide +kernel
theorem d_Model_character_57 : decode b_Model_character 57 = .ok (.sipush 248, 3) := by decide +kernel
theorem d_Model_character_60 : decode b_Model_character 60 = .ok (.if_icmp .ge 7, 3) := by decide +kernel
theorem d_Model_character_63 : decode b_Model_character 63 = .ok (.iconst 4, 1) := by decide +kernel
theorem d_Model_character_64 : decode b_Model_character 64 = .ok (.goto 4, 3) := by decide +kernel
theorem d_Model_character_67 : decode b_Model_character 67 = .ok (.iconst 0, 1) := by decide +kernel
theorem d_Model_character_68 : decode b_Model_character 68 = .ok (.istore 4, 2) := by decide +kernel
theorem d_Model_character_70 : decode b_Model_character 70 = .ok (.iload 4, 2) := by decide +kernel
theorem d_Model_character_72 : decode b_Model_character 72 = .ok (.ifCond .eq 11, 3) := by decide +kernel
theorem d_Model_character_75 : decode b_Model_character 75 = .ok (.iload_n 1, 1) := by decide +kernel
theorem d_Model_character_76 : decode b_Model_character 76 = .ok (.iload 4, 2) := by decide +kernel
theorem d_Model_character_78 : decode b_Model_character 78 = .ok (.iadd, 1) := by decide +kernel
theorem d_Model_character_79 : decode b_Model_character 79 = .ok (.iload_n 2, 1) := by decide +kernel
theorem d_Model_character_80 : decode b_Model_character 80 = .ok (.if_icmp .le 5, 3) := by decide +kernel
theorem d_Model_character_83 : decode b_Model_character 83 = .ok (.iconst 0, 1) := by decide +kernel
theorem d_Model_character_84 : decode b_Model_character 84 = .ok (.ireturn, 1) := by decide +kernel
theorem d_Model_character_85 : decode b_Model_character 85 = .ok (.iload 4, 2) := by decide +kernel
theorem d_Model_character_87 : decode b_Model_character 87 = .ok (.iconst 2, 1) := by decide +kernel
theorem d_Model_character_88 : decode b_Model_character 88 = .ok (.if_icmp .ne 11, 3) := by decide +kernel
theorem d_Model_character_91 : decode b_Model_character 91 = .ok (.iload_n 3, 1) := by decide +kernel
theorem d_Model_character_92 : decode b_Model_character 92 = .ok (.sipush 192, 3) := by decide +kernel
theorem d_Model_character_95 : decode b_Model_character 95 = .ok (.isub, 1) := by decide +kernel
theorem d_Model_character_96 : decode b_Model_character 96 = .ok (.goto 22, 3) := by decide +kernel
theorem d_Model_character_99 : decode b_Model_character 99 = .ok (.iload 4, 2) := by decide +kernel
theorem d_Model_character_101 : decode b_Model_character 101 = .ok (.iconst 3, 1) := by decide +kernel
theorem d_Model_character_102 : decode b_Model_character 102 = .ok (.if_icmp .ne 11, 3) := by decide +kernel
theorem d_Model_character_105 : decode b_Model_character 105 = .ok (.iload_n 3, 1) := by decide +kernel
theorem d_Model_character_106 : decode b_Model_character 106 = .ok (.sipush 224, 3) := by decide +kernel
theorem d_Model_character_109 : decode b_Model_character 109 = .ok (.isub, 1) := by decide +kernel
theorem d_Model_character_110 : decode b_Model_character 110 = .ok (.goto 8, 3) := by decide +kernel
theorem d_Model_character_113 : decode b_Model_character 113 = .ok (.iload_n 3, 1) := by decide +kernel
theorem d_Model_character_114 : decode b_Model_character 114 = .ok (.sipush 240, 3) := by decide +kernel
theorem d_Model_character_117 : decode b_Model_character 117 = .ok (.isub, 1) := by decide +kernel
theorem d_Model_character_118 : decode b_Model_character 118 = .ok (.istore 5, 2) := by decide +kernel
theorem d_Model_character_120 : decode b_Model_character 120 = .ok (.iconst 1, 1) := by decide +kernel
theorem d_Model_character_121 : decode b_Model_character 121 = .ok (.istore 6, 2) := by decide +kernel
theorem d_Model_character_123 : decode b_Model_character 123 = .ok (.iload 6, 2) := by decide +kernel
theorem d_Model_character_125 : decode b_Model_character 125 = .ok (.iload 4, 2) := by decide +kernel
theorem d_Model_character_127 : decode b_Model_character 127 = .ok (.if_icmp .ge 53, 3) := by decide +kernel
theorem d_Model_character_130 : decode b_Model_character 130 = .ok (.aload_n 0, 1) := by decide +kernel
theorem d_Model_character_131 : decode b_Model_character 131 = .ok (.iload_n 1, 1) := by decide +kernel
theorem d_Model_character_132 : decode b_Model_character 132 = .ok (.iload 6, 2) := by decide +kernel
theorem d_Model_character_134 : decode b_Model_character 134 = .ok (.iadd, 1) := by decide +kernel
theorem d_Model_character_135 : decode b_Model_character 135 = .ok (.iaload, 1) := by decide +kernel
theorem d_Model_character_136 : decode b_Model_character 136 = .ok (.sipush 128, 3) := by decide +kernel
theorem d_Model_character_139 : decode b_Model_character 139 = .ok (.if_icmp .lt 15, 3) := by decide +kernel
theorem d_Model_character_142 : decode b_Model_character 142 = .ok (.aload_n 0, 1) := by decide +kernel
theorem d_Model_character_143 : decode b_Model_character 143 = .ok (.iload_n 1, 1) := by decide +kernel
theorem d_Model_character_144 : decode b_Model_character 144 = .ok (.iload 6, 2) := by decide +kernel
theorem d_Model_character_146 : decode b_Model_character 146 = .ok (.iadd, 1) := by decide +kernel
theorem d_Model_character_147 : decode b_Model_character 147 = .ok (.iaload, 1) := by decide +kernel
theorem d_Model_character_148 : decode b_Model_character 148 = .ok (.sipush 191, 3) := by decide +kernel
theorem d_Model_character_151 : decode b_Model_character 151 = .ok (.if_icmp .le 5, 3) := by decide +kernel
theorem d_Model_character_154 : decode b_Model_character 154 = .ok (.iconst 0, 1) := by decide +kernel
theorem d_Model_character_155 : decode b_Model_character 155 = .ok (.ireturn, 1) := by decide +kernel
theorem d_Model_character_156 : decode b_Model_character 156 = .ok (.bipush 64, 2) := by decide +kernel
theorem d_Model_character_158 : decode b_Model_character 158 = .ok (.iload 5, 2) := by decide +kernel
theorem d_Model_character_160 : decode b_Model_character 160 = .ok (.imul, 1) := by decide +kernel
theorem d_Model_character_161 : decode b_Model_character 161 = .ok (.aload_n 0, 1) := by decide +kernel
theorem d_Model_character_162 : decode b_Model_character 162 = .ok (.iload_n 1, 1) := by decide +kernel
theorem d_Model_character_163 : decode b_Model_character 163 = .ok (.iload 6, 2) := by decide +kernel
theorem d_Model_character_165 : decode b_Model_character 165 = .ok (.iadd, 1) := by decide +kernel
theorem d_Model_character_166 : decode b_Model_character 166 = .ok (.iaload, 1) := by decide +kernel
theorem d_Model_character_167 : decode b_Model_character 167 = .ok (.iadd, 1) := by decide +kernel
theorem d_Model_character_168 : decode b_Model_character 168 = .ok (.sipush 128, 3) := by decide +kernel
theorem d_Model_character_171 : decode b_Model_character 171 = .ok (.isub, 1) := by decide +kernel
theorem d_Model_character_172 : decode b_Model_character 172 = .ok (.istore 5, 2) := by decide +kernel
theorem d_Model_character_174 : decode b_Model_character 174 = .ok (.iinc 6 1, 3) := by decide +kernel
theorem d_Model_character_177 : decode b_Model_character 177 = .ok (.goto (-54), 3) := by decide +kernel
theorem d_Model_character_180 : decode b_Model_character 180 = .ok (.iload 4, 2) := by decide +kernel
theorem d_Model_character_182 : decode b_Model_character 182 = .ok (.iconst 2, 1) := by decide +kernel
theorem d_Model_character_183 : decode b_Model_character 183 = .ok (.if_icmp .ne 9, 3) := by decide +kernel
theorem d_Model_character_186 : decode b_Model_character 186 = .ok (.sipush 128, 3) := by decide +kernel
theorem d_Model_character_189 : decode b_Model_character 189 = .ok (.goto 17, 3) := by decide +kernel
theorem d_Model_character_192 : decode b_Model_character 192 = .ok (.iload 4, 2) := by decide +kernel
theorem d_Model_character_194 : decode b_Model_character 194 = .ok (.iconst 3, 1) := by decide +kernel
theorem d_Model_character_195 : decode b_Model_character 195 = .ok (.if_icmp .ne 9, 3) := by decide +kernel
theorem d_Model_character_198 : decode b_Model_character 198 = .ok (.sipush 2048, 3) := by decide +kernel
theorem d_Model_character_201 : decode b_Model_character 201 = .ok (.goto 5, 3) := by decide +kernel
theorem d_Model_character_204 : decode b_Model_character 204 = .ok (.ldc 69, 2) := by decide +kernel
theorem d_Model_character_206 : decode b_Model_character 206 = .ok (.istore 6, 2) := by decide +kernel
theorem d_Model_character_208 : decode b_Model_character 208 = .ok (.iload 5, 2) := by decide +kernel
theorem d_Model_character_210 : decode b_Model_character 210 = .ok (.iload 6, 2) := by decide +kernel
theorem d_Model_character_212 : decode b_Model_character 212 = .ok (.if_icmp .lt 24, 3) := by decide +kernel
theorem d_Model_character_215 : decode b_Model_character 215 = .ok (.iload 5, 2) := by decide +kernel
theorem d_Model_character_217 : decode b_Model_character 217 = .ok (.ldc 70, 2) := by decide +kernel
theorem d_Model_character_219 : decode b_Model_character 219 = .ok (.if_icmp .gt 17, 3) := by decide +kernel
theorem d_Model_character_222 : decode b_Model_character 222 = .ok (.iload 5, 2) := by decide +kernel
theorem d_Model_character_224 : decode b_Model_character 224 = .ok (.ldc 71, 2) := by decide +kernel
theorem d_Model_character_226 : decode b_Model_character 226 = .ok (.if_icmp .le 14, 3) := by decide +kernel
theorem d_Model_character_229 : decode b_Model_character 229 = .ok (.iload 5, 2) := by decide +kernel
theorem d_Model_character_231 : decode b_Model_character 231 = .ok (.ldc 72, 2) := by decide +kernel
theorem d_Model_character_233 : decode b_Model_character 233 = .ok (.if_icmp .ge 7, 3) := by decide +kernel
theorem d_Model_character_236 : decode b_Model_character 236 = .ok (.iconst 0, 1) := by decide +kernel
theorem d_Model_character_237 : decode b_Model_character 237 = .ok (.goto 5, 3) := by decide +kernel
theorem d_Model_character_240 : decode b_Model_character 240 = .ok (.iload 4, 2) := by decide +kernel
theorem d_Model_character_242 : decode b_Model_character 242 = .ok (.ireturn, 1) := by decide +kernel
theorem d_Model_badText_0 : decode b_Model_badText 0 = .ok (.iload_n 1, 1) := by decide +kernel
theorem d_Model_badText_1 : decode b_Model_badText 1 = .ok (.istore_n 3, 1) := by decide +kernel
theorem d_Model_badText_2 : decode b_Model_badText 2 = .ok (.iload_n 3, 1) := by decide +kernel
theorem d_Model_badText_3 : decode b_Model_badText 3 = .ok (.iload_n 2, 1) := by decide +kernel
theorem d_Model_badText_4 : decode b_Model_badText 4 = .ok (.if_icmp .ge 26, 3) := by decide +kernel
theorem d_Model_badText_7 : decode b_Model_badText 7 = .ok (.aload_n 0, 1) := by decide +kernel
theorem d_Model_badText_8 : decode b_Model_badText 8 = .ok (.iload_n 3, 1) := by decide +kernel
theorem d_Model_badText_9 : decode b_Model_badText 9 = .ok (.iload_n 2, 1) := by decide +kernel
theorem d_Model_badText_10 : decode b_Model_badText 10 = .ok (.invokestatic 73, 3) := by decide +kernel
theorem d_Model_badText_13 : decode b_Model_badText 13 = .ok (.istore 4, 2) := by decide +kernel
theorem d_Model_badText_15 : decode b_Model_badText 15 = .ok (.iload 4, 2) := by decide +kernel
theorem d_Model_badText_17 : decode b_Model_badText 17 = .ok (.ifCond .ne 5, 3) := by decide +kernel
theorem d_Model_badText_20 : decode b_Model_badText 20 = .ok (.iload_n 3, 1) := by decide +kernel
theorem d_Model_badText_21 : decode b_Model_badText 21 = .ok (.ireturn, 1) := by decide +kernel
theorem d_Model_badText_22 : decode b_Model_badText 22 = .ok (.iload_n 3, 1) := by decide +kernel
theorem d_Model_badText_23 : decode b_Model_badText 23 = .ok (.iload 4, 2) := by decide +kernel
theorem d_Model_badText_25 : decode b_Model_badText 25 = .ok (.iadd, 1) := by decide +kernel
theorem d_Model_badText_26 : decode b_Model_badText 26 = .ok (.istore_n 3, 1) := by decide +kernel
theorem d_Model_badText_27 : decode b_Model_badText 27 = .ok (.goto (-25), 3) := by decide +kernel
theorem d_Model_badText_30 : decode b_Model_badText 30 = .ok (.iconst (-1), 1) := by decide +kernel
theorem d_Model_badText_31 : decode b_Model_badText 31 = .ok (.ireturn, 1) := by decide +kernel
theorem d_Model_opens_0 : decode b_Model_opens 0 = .ok (.iload_n 2, 1) := by decide +kernel
theorem d_Model_opens_1 : decode b_Model_opens 1 = .ok (.iconst 4, 1) := by decide +kernel
theorem d_Model_opens_2 : decode b_Model_opens 2 = .ok (.if_icmp .ge 11, 3) := by decide +kernel
theorem d_Model_opens_5 : decode b_Model_opens 5 = .ok (.aload_n 0, 1) := by decide +kernel
theorem d_Model_opens_6 : decode b_Model_opens 6 = .ok (.iconst 1, 1) := by decide +kernel
theorem d_Model_opens_7 : decode b_Model_opens 7 = .ok (.iload_n 1, 1) := by decide +kernel
theorem d_Model_opens_8 : decode b_Model_opens 8 = .ok (.invokevirtual 77, 3) := by decide +kernel
theorem d_Model_opens_11 : decode b_Model_opens 11 = .ok (.iconst 0, 1) := by decide +kernel
theorem d_Model_opens_12 : decode b_Model_opens 12 = .ok (.ireturn, 1) := by decide +kernel
theorem d_Model_opens_13 : decode b_Model_opens 13 = .ok (.aload_n 0, 1) := by decide +kernel
theorem d_Model_opens_14 : decode b_Model_opens 14 = .ok (.iload_n 1, 1) := by decide +kernel
theorem d_Model_opens_15 : decode b_Model_opens 15 = .ok (.iconst 4, 1) := by decide +kernel
theorem d_Model_opens_16 : decode b_Model_opens 16 = .ok (.invokevirtual 81, 3) := by decide +kernel
theorem d_Model_opens_19 : decode b_Model_opens 19 = .ok (.lstore 6, 2) := by decide +kernel
theorem d_Model_opens_21 : decode b_Model_opens 21 = .ok (.lload 6, 2) := by decide +kernel
theorem d_Model_opens_23 : decode b_Model_opens 23 = .ok (.ldc2_w 85, 3) := by decide +kernel
theorem d_Model_opens_26 : decode b_Model_opens 26 = .ok (.lcmp, 1) := by decide +kernel
theorem d_Model_opens_27 : decode b_Model_opens 27 = .ok (.ifCond .lt 15, 3) := by decide +kernel
theorem d_Model_opens_30 : decode b_Model_opens 30 = .ok (.iload_n 3, 1) := by decide +kernel
theorem d_Model_opens_31 : decode b_Model_opens 31 = .ok (.ifCond .ne 20, 3) := by decide +kernel
theorem d_Model_opens_34 : decode b_Model_opens 34 = .ok (.lload 6, 2) := by decide +kernel
theorem d_Model_opens_36 : decode b_Model_opens 36 = .ok (.iload_n 2, 1) := by decide +kernel
theorem d_Model_opens_37 : decode b_Model_opens 37 = .ok (.i2l, 1) := by decide +kernel
theorem d_Model_opens_38 : decode b_Model_opens 38 = .ok (.lcmp, 1) := by decide +kernel
theorem d_Model_opens_39 : decode b_Model_opens 39 = .ok (.ifCond .ge 12, 3) := by decide +kernel
theorem d_Model_opens_42 : decode b_Model_opens 42 = .ok (.aload_n 0, 1) := by decide +kernel
theorem d_Model_opens_43 : decode b_Model_opens 43 = .ok (.iconst 2, 1) := by decide +kernel
theorem d_Model_opens_44 : decode b_Model_opens 44 = .ok (.iload_n 1, 1) := by decide +kernel
theorem d_Model_opens_45 : decode b_Model_opens 45 = .ok (.invokevirtual 77, 3) := by decide +kernel
theorem d_Model_opens_48 : decode b_Model_opens 48 = .ok (.goto 33, 3) := by decide +kernel
theorem d_Model_opens_51 : decode b_Model_opens 51 = .ok (.lload 6, 2) := by decide +kernel
theorem d_Model_opens_53 : decode b_Model_opens 53 = .ok (.iload_n 2, 1) := by decide +kernel
theorem d_Model_opens_54 : decode b_Model_opens 54 = .ok (.i2l, 1) := by decide +kernel
theorem d_Model_opens_55 : decode b_Model_opens 55 = .ok (.lcmp, 1) := by decide +kernel
theorem d_Model_opens_56 : decode b_Model_opens 56 = .ok (.ifCond .le 12, 3) := by decide +kernel
theorem d_Model_opens_59 : decode b_Model_opens 59 = .ok (.aload_n 0, 1) := by decide +kernel
theorem d_Model_opens_60 : decode b_Model_opens 60 = .ok (.iconst 1, 1) := by decide +kernel
theorem d_Model_opens_61 : decode b_Model_opens 61 = .ok (.iload_n 1, 1) := by decide +kernel
theorem d_Model_opens_62 : decode b_Model_opens 62 = .ok (.invokevirtual 77, 3) := by decide +kernel
theorem d_Model_opens_65 : decode b_Model_opens 65 = .ok (.goto 16, 3) := by decide +kernel
theorem d_Model_opens_68 : decode b_Model_opens 68 = .ok (.iload_n 3, 1) := by decide +kernel
theorem d_Model_opens_69 : decode b_Model_opens 69 = .ok (.bipush 16, 2) := by decide +kernel
theorem d_Model_opens_71 : decode b_Model_opens 71 = .ok (.if_icmp .ne 10, 3) := by decide +kernel
theorem d_Model_opens_74 : decode b_Model_opens 74 = .ok (.aload_n 0, 1) := by decide +kernel
theorem d_Model_opens_75 : decode b_Model_opens 75 = .ok (.bipush 8, 2) := by decide +kernel
theorem d_Model_opens_77 : decode b_Model_opens 77 = .ok (.iload_n 1, 1) := by decide +kernel
theorem d_Model_opens_78 : decode b_Model_opens 78 = .ok (.invokevirtual 77, 3) := by decide +kernel
theorem d_Model_opens_81 : decode b_Model_opens 81 = .ok (.aload_n 0, 1) := by decide +kernel
theorem d_Model_opens_82 : decode b_Model_opens 82 = .ok (.getfield 66, 3) := by decide +kernel
theorem d_Model_opens_85 : decode b_Model_opens 85 = .ok (.ifCond .eq 5, 3) := by decide +kernel
theorem d_Model_opens_88 : decode b_Model_opens 88 = .ok (.iconst 0, 1) := by decide +kernel
theorem d_Model_opens_89 : decode b_Model_opens 89 = .ok (.ireturn, 1) := by decide +kernel
theorem d_Model_opens_90 : decode b_Model_opens 90 = .ok (.aload_n 0, 1) := by decide +kernel
theorem d_Model_opens_91 : decode b_Model_opens 91 = .ok (.getfield 41, 3) := by decide +kernel
theorem d_Model_opens_94 : decode b_Model_opens 94 = .ok (.iload_n 3, 1) := by decide +kernel
theorem d_Model_opens_95 : decode b_Model_opens 95 = .ok (.iload_n 1, 1) := by decide +kernel
theorem d_Model_opens_96 : decode b_Model_opens 96 = .ok (.lload 6, 2) := by decide +kernel
theorem d_Model_opens_98 : decode b_Model_opens 98 = .ok (.l2i, 1) := by decide +kernel
theorem d_Model_opens_99 : decode b_Model_opens 99 = .ok (.iadd, 1) := by decide +kernel
theorem d_Model_opens_100 : decode b_Model_opens 100 = .ok (.iastore, 1) := by decide +kernel
theorem d_Model_opens_101 : decode b_Model_opens 101 = .ok (.aload_n 0, 1) := by decide +kernel
theorem d_Model_opens_102 : decode b_Model_opens 102 = .ok (.getfield 44, 3) := by decide +kernel
theorem d_Model_opens_105 : decode b_Model_opens 105 = .ok (.iload_n 3, 1) := by decide +kernel
theorem d_Model_opens_106 : decode b_Model_opens 106 = .ok (.iload 4, 2) := by decide +kernel
theorem d_Model_opens_108 : decode b_Model_opens 108 = .ok (.iastore, 1) := by decide +kernel
theorem d_Model_opens_109 : decode b_Model_opens 109 = .ok (.aload_n 0, 1) := by decide +kernel
theorem d_Model_opens_110 : decode b_Model_opens 110 = .ok (.getfield 47, 3) := by decide +kernel
theorem d_Model_opens_113 : decode b_Model_opens 113 = .ok (.iload_n 3, 1) := by decide +kernel
theorem d_Model_opens_114 : decode b_Model_opens 114 = .ok (.iconst 0, 1) := by decide +kernel
theorem d_Model_opens_115 : decode b_Model_opens 115 = .ok (.iastore, 1) := by decide +kernel
theorem d_Model_opens_116 : decode b_Model_opens 116 = .ok (.aload_n 0, 1) := by decide +kernel
theorem d_Model_opens_117 : decode b_Model_opens 117 = .ok (.getfield 50, 3) := by decide +kernel
theorem d_Model_opens_120 : decode b_Model_opens 120 = .ok (.iload_n 3, 1) := by decide +kernel
theorem d_Model_opens_121 : decode b_Model_opens 121 = .ok (.iload 5, 2) := by decide +kernel
theorem d_Model_opens_123 : decode b_Model_opens 123 = .ok (.ifCond .eq 7, 3) := by decide +kernel
theorem d_Model_opens_126 : decode b_Model_opens 126 = .ok (.iconst 1, 1) := by decide +kernel
theorem d_Model_opens_127 : decode b_Model_opens 127 = .ok (.goto 4, 3) := by decide +kernel
theorem d_Model_opens_130 : decode b_Model_opens 130 = .ok (.iconst 0, 1) := by decide +kernel
theorem d_Model_opens_131 : decode b_Model_opens 131 = .ok (.iastore, 1) := by decide +kernel
theorem d_Model_opens_132 : decode b_Model_opens 132 = .ok (.aload_n 0, 1) := by decide +kernel
theorem d_Model_opens_133 : decode b_Model_opens 133 = .ok (.iload_n 3, 1) := by decide +kernel
theorem d_Model_opens_134 : decode b_Model_opens 134 = .ok (.iconst 1, 1) := by decide +kernel
theorem d_Model_opens_135 : decode b_Model_opens 135 = .ok (.iadd, 1) := by decide +kernel
theorem d_Model_opens_136 : decode b_Model_opens 136 = .ok (.aload_n 0, 1) := by decide +kernel
theorem d_Model_opens_137 : decode b_Model_opens 137 = .ok (.getfield 87, 3) := by decide +kernel
theorem d_Model_opens_140 : decode b_Model_opens 140 = .ok (.if_icmp .le 9, 3) := by decide +kernel
theorem d_Model_opens_143 : decode b_Model_opens 143 = .ok (.iload_n 3, 1) := by decide +kernel
theorem d_Model_opens_144 : decode b_Model_opens 144 = .ok (.iconst 1, 1) := by decide +kernel
theorem d_Model_opens_145 : decode b_Model_opens 145 = .ok (.iadd, 1) := by decide +kernel
theorem d_Model_opens_146 : decode b_Model_opens 146 = .ok (.goto 7, 3) := by decide +kernel
theorem d_Model_opens_149 : decode b_Model_opens 149 = .ok (.aload_n 0, 1) := by decide +kernel
theorem d_Model_opens_150 : decode b_Model_opens 150 = .ok (.getfield 87, 3) := by decide +kernel
theorem d_Model_opens_153 : decode b_Model_opens 153 = .ok (.putfield 87, 3) := by decide +kernel
theorem d_Model_opens_156 : decode b_Model_opens 156 = .ok (.iconst 1, 1) := by decide +kernel
theorem d_Model_opens_157 : decode b_Model_opens 157 = .ok (.ireturn, 1) := by decide +kernel
theorem d_Model_isKind_0 : decode b_Model_isKind 0 = .ok (.iload_n 1, 1) := by decide +kernel
theorem d_Model_isKind_1 : decode b_Model_isKind 1 = .ok (.iconst 2, 1) := by decide +kernel
theorem d_Model_isKind_2 : decode b_Model_isKind 2 = .ok (.if_icmp .eq 37, 3) := by decide +kernel
theorem d_Model_isKind_5 : decode b_Model_isKind 5 = .ok (.iload_n 1, 1) := by decide +kernel
theorem d_Model_isKind_6 : decode b_Model_isKind 6 = .ok (.iconst 3, 1) := by decide +kernel
theorem d_Model_isKind_7 : decode b_Model_isKind 7 = .ok (.if_icmp .eq 32, 3) := by decide +kernel
theorem d_Model_isKind_10 : decode b_Model_isKind 10 = .ok (.iload_n 1, 1) := by decide +kernel
theorem d_Model_isKind_11 : decode b_Model_isKind 11 = .ok (.iconst 4, 1) := by decide +kernel
theorem d_Model_isKind_12 : decode b_Model_isKind 12 = .ok (.if_icmp .eq 27, 3) := by decide +kernel
theorem d_Model_isKind_15 : decode b_Model_isKind 15 = .ok (.iload_n 1, 1) := by decide +kernel
theorem d_Model_isKind_16 : decode b_Model_isKind 16 = .ok (.bipush 8, 2) := by decide +kernel
theorem d_Model_isKind_18 : decode b_Model_isKind 18 = .ok (.if_icmp .eq 21, 3) := by decide +kernel
theorem d_Model_isKind_21 : decode b_Model_isKind 21 = .ok (.iload_n 1, 1) := by decide +kernel
theorem d_Model_isKind_22 : decode b_Model_isKind 22 = .ok (.bipush 10, 2) := by decide +kernel
theorem d_Model_isKind_24 : decode b_Model_isKind 24 = .ok (.if_icmp .eq 15, 3) := by decide +kernel
theorem d_Model_isKind_27 : decode b_Model_isKind 27 = .ok (.iload_n 1, 1) := by decide +kernel
theorem d_Model_isKind_28 : decode b_Model_isKind 28 = .ok (.bipush 16, 2) := by decide +kernel
theorem d_Model_isKind_30 : decode b_Model_isKind 30 = .ok (.if_icmp .eq 9, 3) := by decide +kernel
theorem d_Model_isKind_33 : decode b_Model_isKind 33 = .ok (.iload_n 1, 1) := by decide +kernel
theorem d_Model_isKind_34 : decode b_Model_isKind 34 = .ok (.bipush 18, 2) := by decide +kernel
theorem d_Model_isKind_36 : decode b_Model_isKind 36 = .ok (.if_icmp .ne 7, 3) := by decide +kernel
theorem d_Model_isKind_39 : decode b_Model_isKind 39 = .ok (.iconst 1, 1) := by decide +kernel
theorem d_Model_isKind_40 : decode b_Model_isKind 40 = .ok (.goto 4, 3) := by decide +kernel
theorem d_Model_isKind_43 : decode b_Model_isKind 43 = .ok (.iconst 0, 1) := by decide +kernel
theorem d_Model_isKind_44 : decode b_Model_isKind 44 = .ok (.ireturn, 1) := by decide +kernel
theorem d_Model_goOver_0 : decode b_Model_goOver 0 = .ok (.aload_n 0, 1) := by decide +kernel
theorem d_Model_goOver_1 : decode b_Model_goOver 1 = .ok (.iconst 0, 1) := by decide +kernel
theorem d_Model_goOver_2 : decode b_Model_goOver 2 = .ok (.putfield 66, 3) := by decide +kernel
theorem d_Model_goOver_5 : decode b_Model_goOver 5 = .ok (.aload_n 0, 1) := by decide +kernel
theorem d_Model_goOver_6 : decode b_Model_goOver 6 = .ok (.iconst (-1), 1) := by decide +kernel
theorem d_Model_goOver_7 : decode b_Model_goOver 7 = .ok (.putfield 13, 3) := by decide +kernel
theorem d_Model_goOver_10 : decode b_Model_goOver 10 = .ok (.aload_n 0, 1) := by decide +kernel
theorem d_Model_goOver_11 : decode b_Model_goOver 11 = .ok (.iconst 0, 1) := by decide +kernel
theorem d_Model_goOver_12 : decode b_Model_goOver 12 = .ok (.putfield 87, 3) := by decide +kernel
theorem d_Model_goOver_15 : decode b_Model_goOver 15 = .ok (.aload_n 0, 1) := by decide +kernel
theorem d_Model_goOver_16 : decode b_Model_goOver 16 = .ok (.iconst 1, 1) := by decide +kernel
theorem d_Model_goOver_17 : decode b_Model_goOver 17 = .ok (.putfield 90, 3) := by decide +kernel
theorem d_Model_goOver_20 : decode b_Model_goOver 20 = .ok (.aload_n 0, 1) := by decide +kernel
theorem d_Model_goOver_21 : decode b_Model_goOver 21 = .ok (.getfield 26, 3) := by decide +kernel
theorem d_Model_goOver_24 : decode b_Model_goOver 24 = .ok (.iconst 0, 1) := by decide +kernel
theorem d_Model_goOver_25 : decode b_Model_goOver 25 = .ok (.iconst (-1), 1) := by decide +kernel
theorem d_Model_goOver_26 : decode b_Model_goOver 26 = .ok (.iastore, 1) := by decide +kernel
theorem d_Model_goOver_27 : decode b_Model_goOver 27 = .ok (.aload_n 0, 1) := by decide +kernel
theorem d_Model_goOver_28 : decode b_Model_goOver 28 = .ok (.getfield 29, 3) := by decide +kernel
theorem d_Model_goOver_31 : decode b_Model_goOver 31 = .ok (.iconst 0, 1) := by decide +kernel
theorem d_Model_goOver_32 : decode b_Model_goOver 32 = .ok (.iconst 0, 1) := by decide +kernel
theorem d_Model_goOver_33 : decode b_Model_goOver 33 = .ok (.iastore, 1) := by decide +kernel
theorem d_Model_goOver_34 : decode b_Model_goOver 34 = .ok (.aload_n 0, 1) := by decide +kernel
theorem d_Model_goOver_35 : decode b_Model_goOver 35 = .ok (.getfield 32, 3) := by decide +kernel
theorem d_Model_goOver_38 : decode b_Model_goOver 38 = .ok (.iconst 0, 1) := by decide +kernel
theorem d_Model_goOver_39 : decode b_Model_goOver 39 = .ok (.iconst 0, 1) := by decide +kernel
theorem d_Model_goOver_40 : decode b_Model_goOver 40 = .ok (.iastore, 1) := by decide +kernel
theorem d_Model_goOver_41 : decode b_Model_goOver 41 = .ok (.aload_n 0, 1) := by decide +kernel
theorem d_Model_goOver_42 : decode b_Model_goOver 42 = .ok (.getfield 35, 3) := by decide +kernel
theorem d_Model_goOver_45 : decode b_Model_goOver 45 = .ok (.iconst 0, 1) := by decide +kernel
theorem d_Model_goOver_46 : decode b_Model_goOver 46 = .ok (.iload_n 1, 1) := by decide +kernel
theorem d_Model_goOver_47 : decode b_Model_goOver 47 = .ok (.iastore, 1) := by decide +kernel
theorem d_Model_goOver_48 : decode b_Model_goOver 48 = .ok (.aload_n 0, 1) := by decide +kernel
theorem d_Model_goOver_49 : decode b_Model_goOver 49 = .ok (.getfield 38, 3) := by decide +kernel
theorem d_Model_goOver_52 : decode b_Model_goOver 52 = .ok (.iconst 0, 1) := by decide +kernel
theorem d_Model_goOver_53 : decode b_Model_goOver 53 = .ok (.iconst 1, 1) := by decide +kernel
theorem d_Model_goOver_54 : decode b_Model_goOver 54 = .ok (.iastore, 1) := by decide +kernel
theorem d_Model_goOver_55 : decode b_Model_goOver 55 = .ok (.aload_n 0, 1) := by decide +kernel
theorem d_Model_goOver_56 : decode b_Model_goOver 56 = .ok (.iconst 0, 1) := by decide +kernel
theorem d_Model_goOver_57 : decode b_Model_goOver 57 = .ok (.iload_n 1, 1) := by decide +kernel
theorem d_Model_goOver_58 : decode b_Model_goOver 58 = .ok (.iconst 0, 1) := by decide +kernel
theorem d_Model_goOver_59 : decode b_Model_goOver 59 = .ok (.iconst 0, 1) := by decide +kernel
theorem d_Model_goOver_60 : decode b_Model_goOver 60 = .ok (.iconst 0, 1) := by decide +kernel
theorem d_Model_goOver_61 : decode b_Model_goOver 61 = .ok (.invokevirtual 93, 3) := by decide +kernel
theorem d_Model_goOver_64 : decode b_Model_goOver 64 = .ok (.ifCond .eq 7, 3) := by decide +kernel
theorem d_Model_goOver_67 : decode b_Model_goOver 67 = .ok (.iconst 1, 1) := by decide +kernel
theorem d_Model_goOver_68 : decode b_Model_goOver 68 = .ok (.goto 4, 3) := by decide +kernel
theorem d_Model_goOver_71 : decode b_Model_goOver 71 = .ok (.iconst 0, 1) := by decide +kernel
theorem d_Model_goOver_72 : decode b_Model_goOver 72 = .ok (.istore_n 2, 1) := by decide +kernel
theorem d_Model_goOver_73 : decode b_Model_goOver 73 = .ok (.iconst 4, 1) := by decide +kernel
theorem d_Model_goOver_74 : decode b_Model_goOver 74 = .ok (.istore_n 3, 1) := by decide +kernel
theorem d_Model_goOver_75 : decode b_Model_goOver 75 = .ok (.iload_n 2, 1) := by decide +kernel
theorem d_Model_goOver_76 : decode b_Model_goOver 76 = .ok (.ifCond .le 222, 3) := by decide +kernel
theorem d_Model_goOver_79 : decode b_Model_goOver 79 = .ok (.aload_n 0, 1) := by decide +kernel
theorem d_Model_goOver_80 : decode b_Model_goOver 80 = .ok (.getfield 66, 3) := by decide +kernel
theorem d_Model_goOver_83 : decode b_Model_goOver 83 = .ok (.ifCond .ne 215, 3) := by decide +kernel
theorem d_Model_goOver_86 : decode b_Model_goOver 86 = .ok (.aload_n 0, 1) := by decide +kernel
theorem d_Model_goOver_87 : decode b_Model_goOver 87 = .ok (.getfield 41, 3) := by decide +kernel
theorem d_Model_goOver_90 : decode b_Model_goOver 90 = .ok (.iload_n 2, 1) := by decide +kernel
theorem d_Model_goOver_91 : decode b_Model_goOver 91 = .ok (.iconst 1, 1) := by decide +kernel
theorem d_Model_goOver_92 : decode b_Model_goOver 92 = .ok (.isub, 1) := by decide +kernel
theorem d_Model_goOver_93 : decode b_Model_goOver 93 = .ok (.iaload, 1) := by decide +kernel
theorem d_Model_goOver_94 : decode b_Model_goOver 94 = .ok (.iconst 1, 1) := by decide +kernel
theorem d_Model_goOver_95 : decode b_Model_goOver 95 = .ok (.isub, 1) := by decide +kernel
theorem d_Model_goOver_96 : decode b_Model_goOver 96 = .ok (.istore 4, 2) := by decide +kernel
theorem d_Model_goOver_98 : decode b_Model_goOver 98 = .ok (.iload_n 3, 1) := by decide +kernel
theorem d_Model_goOver_99 : decode b_Model_goOver 99 = .ok (.iload 4, 2) := by decide +kernel
theorem d_Model_goOver_101 : decode b_Model_goOver 101 = .ok (.if_icmp .ne 43, 3) := by decide +kernel
theorem d_Model_goOver_104 : decode b_Model_goOver 104 = .ok (.aload_n 0, 1) := by decide +kernel
theorem d_Model_goOver_105 : decode b_Model_goOver 105 = .ok (.getfield 23, 3) := by decide +kernel
theorem d_Model_goOver_108 : decode b_Model_goOver 108 = .ok (.iload_n 3, 1) := by decide +kernel
theorem d_Model_goOver_109 : decode b_Model_goOver 109 = .ok (.iaload, 1) := by decide +kernel
theorem d_Model_goOver_110 : decode b_Model_goOver 110 = .ok (.ifCond .eq 9, 3) := by decide +kernel
theorem d_Model_goOver_113 : decode b_Model_goOver 113 = .ok (.aload_n 0, 1) := by decide +kernel
theorem d_Model_goOver_114 : decode b_Model_goOver 114 = .ok (.iconst 2, 1) := by decide +kernel
theorem d_Model_goOver_115 : decode b_Model_goOver 115 = .ok (.iload_n 3, 1) := by decide +kernel
theorem d_Model_goOver_116 : decode b_Model_goOver 116 = .ok (.invokevirtual 77, 3) := by decide +kernel
theorem d_Model_goOver_119 : decode b_Model_goOver 119 = .ok (.aload_n 0, 1) := by decide +kernel
theorem d_Model_goOver_120 : decode b_Model_goOver 120 = .ok (.getfield 35, 3) := by decide +kernel
theorem d_Model_goOver_123 : decode b_Model_goOver 123 = .ok (.aload_n 0, 1) := by decide +kernel
theorem d_Model_goOver_124 : decode b_Model_goOver 124 = .ok (.getfield 44, 3) := by decide +kernel
theorem d_Model_goOver_127 : decode b_Model_goOver 127 = .ok (.iload_n 2, 1) := by decide +kernel
theorem d_Model_goOver_128 : decode b_Model_goOver 128 = .ok (.iconst 1, 1) := by decide +kernel
theorem d_Model_goOver_129 : decode b_Model_goOver 129 = .ok (.isub, 1) := by decide +kernel
theorem d_Model_goOver_130 : decode b_Model_goOver 130 = .ok (.iaload, 1) := by decide +kernel
theorem d_Model_goOver_131 : decode b_Model_goOver 131 = .ok (.iload_n 3, 1) := by decide +kernel
theorem d_Model_goOver_132 : decode b_Model_goOver 132 = .ok (.iconst 1, 1) := by decide +kernel
theorem d_Model_goOver_133 : decode b_Model_goOver 133 = .ok (.iadd, 1) := by decide +kernel
theorem d_Model_goOver_134 : decode b_Model_goOver 134 = .ok (.iastore, 1) := by decide +kernel
theorem d_Model_goOver_135 : decode b_Model_goOver 135 = .ok (.iinc 3 1, 3) := by decide +kernel
theorem d_Model_goOver_138 : decode b_Model_goOver 138 = .ok (.iinc 2 (-1), 3) := by decide +kernel
theorem d_Model_goOver_141 : decode b_Model_goOver 141 = .ok (.goto 154, 3) := by decide +kernel
theorem d_Model_goOver_144 : decode b_Model_goOver 144 = .ok (.aload_n 0, 1) := by decide +kernel
theorem d_Model_goOver_145 : decode b_Model_goOver 145 = .ok (.getfield 23, 3) := by decide +kernel
theorem d_Model_goOver_148 : decode b_Model_goOver 148 = .ok (.iload_n 3, 1) := by decide +kernel
theorem d_Model_goOver_149 : decode b_Model_goOver 149 = .ok (.iaload, 1) := by decide +kernel
theorem d_Model_goOver_150 : decode b_Model_goOver 150 = .ok (.ifCond .ne 12, 3) := by decide +kernel
theorem d_Model_goOver_153 : decode b_Model_goOver 153 = .ok (.aload_n 0, 1) := by decide +kernel
theorem d_Model_goOver_154 : decode b_Model_goOver 154 = .ok (.iconst 2, 1) := by decide +kernel
theorem d_Model_goOver_155 : decode b_Model_goOver 155 = .ok (.iload_n 3, 1) := by decide +kernel
theorem d_Model_goOver_156 : decode b_Model_goOver 156 = .ok (.invokevirtual 77, 3) := by decide +kernel
theorem d_Model_goOver_159 : decode b_Model_goOver 159 = .ok (.goto 136, 3) := by decide +kernel
theorem d_Model_goOver_162 : decode b_Model_goOver 162 = .ok (.aload_n 0, 1) := by decide +kernel
theorem d_Model_goOver_163 : decode b_Model_goOver 163 = .ok (.aload_n 0, 1) := by decide +kernel
theorem d_Model_goOver_164 : decode b_Model_goOver 164 = .ok (.getfield 23, 3) := by decide +kernel
theorem d_Model_goOver_167 : decode b_Model_goOver 167 = .ok (.iload_n 3, 1) := by decide +kernel
theorem d_Model_goOver_168 : decode b_Model_goOver 168 = .ok (.iaload, 1) := by decide +kernel
theorem d_Model_goOver_169 : decode b_Model_goOver 169 = .ok (.invokevirtual 97, 3) := by decide +kernel
theorem d_Model_goOver_172 : decode b_Model_goOver 172 = .ok (.ifCond .ne 12, 3) := by decide +kernel
theorem d_Model_goOver_175 : decode b_Model_goOver 175 = .ok (.aload_n 0, 1) := by decide +kernel
theorem d_Model_goOver_176 : decode b_Model_goOver 176 = .ok (.iconst 3, 1) := by decide +kernel
theorem d_Model_goOver_177 : decode b_Model_goOver 177 = .ok (.iload_n 3, 1) := by decide +kernel
theorem d_Model_goOver_178 : decode b_Model_goOver 178 = .ok (.invokevirtual 77, 3) := by decide +kernel
theorem d_Model_goOver_181 : decode b_Model_goOver 181 = .ok (.goto 114, 3) := by decide +kernel
theorem d_Model_goOver_184 : decode b_Model_goOver 184 = .ok (.aload_n 0, 1) := by decide +kernel
theorem d_Model_goOver_185 : decode b_Model_goOver 185 = .ok (.iload_n 3, 1) := by decide +kernel
theorem d_Model_goOver_186 : decode b_Model_goOver 186 = .ok (.iload 4, 2) := by decide +kernel
theorem d_Model_goOver_188 : decode b_Model_goOver 188 = .ok (.iload_n 2, 1) := by decide +kernel
theorem d_Model_goOver_189 : decode b_Model_goOver 189 = .ok (.invokevirtual 101, 3) := by decide +kernel
theorem d_Model_goOver_192 : decode b_Model_goOver 192 = .ok (.istore_n 3, 1) := by decide +kernel
theorem d_Model_goOver_193 : decode b_Model_goOver 193 = .ok (.aload_n 0, 1) := by decide +kernel
theorem d_Model_goOver_194 : decode b_Model_goOver 194 = .ok (.getfield 66, 3) := by decide +kernel
theorem d_Model_goOver_197 : decode b_Model_goOver 197 = .ok (.ifCond .ne 98, 3) := by decide +kernel
theorem d_Model_goOver_200 : decode b_Model_goOver 200 = .ok (.aload_n 0, 1) := by decide +kernel
theorem d_Model_goOver_201 : decode b_Model_goOver 201 = .ok (.getfield 23, 3) := by decide +kernel
theorem d_Model_goOver_204 : decode b_Model_goOver 204 = .ok (.aload_n 0, 1) := by decide +kernel
theorem d_Model_goOver_205 : decode b_Model_goOver 205 = .ok (.getfield 29, 3) := by decide +kernel
theorem d_Model_goOver_208 : decode b_Model_goOver 208 = .ok (.aload_n 0, 1) := by decide +kernel
theorem d_Model_goOver_209 : decode b_Model_goOver 209 = .ok (.getfield 90, 3) := by decide +kernel
theorem d_Model_goOver_212 : decode b_Model_goOver 212 = .ok (.iconst 1, 1) := by decide +kernel
theorem d_Model_goOver_213 : decode b_Model_goOver 213 = .ok (.isub, 1) := by decide +kernel
theorem d_Model_goOver_214 : decode b_Model_goOver 214 = .ok (.iaload, 1) := by decide +kernel
theorem d_Model_goOver_215 : decode b_Model_goOver 215 = .ok (.iaload, 1) := by decide +kernel
theorem d_Model_goOver_216 : decode b_Model_goOver 216 = .ok (.iconst 3, 1) := by decide +kernel
theorem d_Model_goOver_217 : decode b_Model_goOver 217 = .ok (.if_icmp .eq 23, 3) := by decide +kernel
theorem d_Model_goOver_220 : decode b_Model_goOver 220 = .ok (.aload_n 0, 1) := by decide +kernel
theorem d_Model_goOver_221 : decode b_Model_goOver 221 = .ok (.getfield 23, 3) := by decide +kernel
theorem d_Model_goOver_224 : decode b_Model_goOver 224 = .ok (.aload_n 0, 1) := by decide +kernel
theorem d_Model_goOver_225 : decode b_Model_goOver 225 = .ok (.getfield 29, 3) := by decide +kernel
theorem d_Model_goOver_228 : decode b_Model_goOver 228 = .ok (.aload_n 0, 1) := by decide +kernel
theorem d_Model_goOver_229 : decode b_Model_goOver 229 = .ok (.getfield 90, 3) := by decide +kernel
theorem d_Model_goOver_232 : decode b_Model_goOver 232 = .ok (.iconst 1, 1) := by decide +kernel
theorem d_Model_goOver_233 : decode b_Model_goOver 233 = .ok (.isub, 1) := by decide +kernel
theorem d_Model_goOver_234 : decode b_Model_goOver 234 = .ok (.iaload, 1) := by decide +kernel
theorem d_Model_goOver_235 : decode b_Model_goOver 235 = .ok (.iaload, 1) := by decide +kernel
theorem d_Model_goOver_236 : decode b_Model_goOver 236 = .ok (.iconst 4, 1) := by decide +kernel
theorem d_Model_goOver_237 : decode b_Model_goOver 237 = .ok (.if_icmp .ne 58, 3) := by decide +kernel
theorem d_Model_goOver_240 : decode b_Model_goOver 240 = .ok (.aload_n 0, 1) := by decide +kernel
theorem d_Model_goOver_241 : decode b_Model_goOver 241 = .ok (.iload_n 3, 1) := by decide +kernel
theorem d_Model_goOver_242 : decode b_Model_goOver 242 = .ok (.iload 4, 2) := by decide +kernel
theorem d_Model_goOver_244 : decode b_Model_goOver 244 = .ok (.iload_n 3, 1) := by decide +kernel
theorem d_Model_goOver_245 : decode b_Model_goOver 245 = .ok (.isub, 1) := by decide +kernel
theorem d_Model_goOver_246 : decode b_Model_goOver 246 = .ok (.iload_n 2, 1) := by decide +kernel
theorem d_Model_goOver_247 : decode b_Model_goOver 247 = .ok (.aload_n 0, 1) := by decide +kernel
theorem d_Model_goOver_248 : decode b_Model_goOver 248 = .ok (.getfield 90, 3) := by decide +kernel
theorem d_Model_goOver_251 : decode b_Model_goOver 251 = .ok (.iconst 1, 1) := by decide +kernel
theorem d_Model_goOver_252 : decode b_Model_goOver 252 = .ok (.isub, 1) := by decide +kernel
theorem d_Model_goOver_253 : decode b_Model_goOver 253 = .ok (.aload_n 0, 1) := by decide +kernel
theorem d_Model_goOver_254 : decode b_Model_goOver 254 = .ok (.getfield 23, 3) := by decide +kernel
theorem d_Model_goOver_257 : decode b_Model_goOver 257 = .ok (.aload_n 0, 1) := by decide +kernel
theorem d_Model_goOver_258 : decode b_Model_goOver 258 = .ok (.getfield 29, 3) := by decide +kernel
theorem d_Model_goOver_261 : decode b_Model_goOver 261 = .ok (.aload_n 0, 1) := by decide +kernel
theorem d_Model_goOver_262 : decode b_Model_goOver 262 = .ok (.getfield 90, 3) := by decide +kernel
theorem d_Model_goOver_265 : decode b_Model_goOver 265 = .ok (.iconst 1, 1) := by decide +kernel
theorem d_Model_goOver_266 : decode b_Model_goOver 266 = .ok (.isub, 1) := by decide +kernel
theorem d_Model_goOver_267 : decode b_Model_goOver 267 = .ok (.iaload, 1) := by decide +kernel
theorem d_Model_goOver_268 : decode b_Model_goOver 268 = .ok (.iaload, 1) := by decide +kernel
theorem d_Model_goOver_269 : decode b_Model_goOver 269 = .ok (.iconst 4, 1) := by decide +kernel
theorem d_Model_goOver_270 : decode b_Model_goOver 270 = .ok (.if_icmp .ne 7, 3) := by decide +kernel
theorem d_Model_goOver_273 : decode b_Model_goOver 273 = .ok (.iconst 1, 1) := by decide +kernel
theorem d_Model_goOver_274 : decode b_Model_goOver 274 = .ok (.goto 4, 3) := by decide +kernel
theorem d_Model_goOver_277 : decode b_Model_goOver 277 = .ok (.iconst 0, 1) := by decide +kernel
theorem d_Model_goOver_278 : decode b_Model_goOver 278 = .ok (.invokevirtual 93, 3) := by decide +kernel
theorem d_Model_goOver_281 : decode b_Model_goOver 281 = .ok (.ifCond .eq 9, 3) := by decide +kernel
theorem d_Model_goOver_284 : decode b_Model_goOver 284 = .ok (.iload_n 2, 1) := by decide +kernel
theorem d_Model_goOver_285 : decode b_Model_goOver 285 = .ok (.iconst 1, 1) := by decide +kernel
theorem d_Model_goOver_286 : decode b_Model_goOver 286 = .ok (.iadd, 1) := by decide +kernel
theorem d_Model_goOver_287 : decode b_Model_goOver 287 = .ok (.goto 4, 3) := by decide +kernel
theorem d_Model_goOver_290 : decode b_Model_goOver 290 = .ok (.iload_n 2, 1) := by decide +kernel
theorem d_Model_goOver_291 : decode b_Model_goOver 291 = .ok (.istore_n 2, 1) := by decide +kernel
theorem d_Model_goOver_292 : decode b_Model_goOver 292 = .ok (.iinc 3 4, 3) := by decide +kernel
theorem d_Model_goOver_295 : decode b_Model_goOver 295 = .ok (.goto (-220), 3) := by decide +kernel
theorem d_Model_goOver_298 : decode b_Model_goOver 298 = .ok (.return_, 1) := by decide +kernel
theorem d_Model_element_0 : decode b_Model_element 0 = .ok (.iload_n 1, 1) := by decide +kernel
theorem d_Model_element_1 : decode b_Model_element 1 = .ok (.iconst 1, 1) := by decide +kernel
theorem d_Model_element_2 : decode b_Model_element 2 = .ok (.iadd, 1) := by decide +kernel
theorem d_Model_element_3 : decode b_Model_element 3 = .ok (.istore 4, 2) := by decide +kernel
theorem d_Model_element_5 : decode b_Model_element 5 = .ok (.iload 4, 2) := by decide +kernel
theorem d_Model_element_7 : decode b_Model_element 7 = .ok (.istore 5, 2) := by decide +kernel
theorem d_Model_element_9 : decode b_Model_element 9 = .ok (.iload 5, 2) := by decide +kernel
theorem d_Model_element_11 : decode b_Model_element 11 = .ok (.iload_n 2, 1) := by decide +kernel
theorem d_Model_element_12 : decode b_Model_element 12 = .ok (.if_icmp .ge 19, 3) := by decide +kernel
theorem d_Model_element_15 : decode b_Model_element 15 = .ok (.aload_n 0, 1) := by decide +kernel
theorem d_Model_element_16 : decode b_Model_element 16 = .ok (.getfield 23, 3) := by decide +kernel
theorem d_Model_element_19 : decode b_Model_element 19 = .ok (.iload 5, 2) := by decide +kernel
theorem d_Model_element_21 : decode b_Model_element 21 = .ok (.iaload, 1) := by decide +kernel
theorem d_Model_element_22 : decode b_Model_element 22 = .ok (.ifCond .eq 9, 3) := by decide +kernel
theorem d_Model_element_25 : decode b_Model_element 25 = .ok (.iinc 5 1, 3) := by decide +kernel
theorem d_Model_element_28 : decode b_Model_element 28 = .ok (.goto (-19), 3) := by decide +kernel
theorem d_Model_element_31 : decode b_Model_element 31 = .ok (.iload 5, 2) := by decide +kernel
theorem d_Model_element_33 : decode b_Model_element 33 = .ok (.iload_n 2, 1) := by decide +kernel
theorem d_Model_element_34 : decode b_Model_element 34 = .ok (.if_icmp .lt 13, 3) := by decide +kernel
theorem d_Model_element_37 : decode b_Model_element 37 = .ok (.aload_n 0, 1) := by decide +kernel
theorem d_Model_element_38 : decode b_Model_element 38 = .ok (.iconst 1, 1) := by decide +kernel
theorem d_Model_element_39 : decode b_Model_element 39 = .ok (.iload 4, 2) := by decide +kernel
theorem d_Model_element_41 : decode b_Model_element 41 = .ok (.invokevirtual 77, 3) := by decide +kernel
theorem d_Model_element_44 : decode b_Model_element 44 = .ok (.iload 5, 2) := by decide +kernel
theorem d_Model_element_46 : decode b_Model_element 46 = .ok (.ireturn, 1) := by decide +kernel
theorem d_Model_element_47 : decode b_Model_element 47 = .ok (.aload_n 0, 1) := by decide +kernel
theorem d_Model_element_48 : decode b_Model_element 48 = .ok (.getfield 23, 3) := by decide +kernel
theorem d_Model_element_51 : decode b_Model_element 51 = .ok (.iload 4, 2) := by decide +kernel
theorem d_Model_element_53 : decode b_Model_element 53 = .ok (.iload 5, 2) := by decide +kernel
theorem d_Model_element_55 : decode b_Model_element 55 = .ok (.invokestatic 105, 3) := by decide +kernel
theorem d_Model_element_58 : decode b_Model_element 58 = .ok (.istore 6, 2) := by decide +kernel
theorem d_Model_element_60 : decode b_Model_element 60 = .ok (.iload 6, 2) := by decide +kernel
theorem d_Model_element_62 : decode b_Model_element 62 = .ok (.ifCond .lt 13, 3) := by decide +kernel
theorem d_Model_element_65 : decode b_Model_element 65 = .ok (.aload_n 0, 1) := by decide +kernel
theorem d_Model_element_66 : decode b_Model_element 66 = .ok (.iconst 4, 1) := by decide +kernel
theorem d_Model_element_67 : decode b_Model_element 67 = .ok (.iload 6, 2) := by decide +kernel
theorem d_Model_element_69 : decode b_Model_element 69 = .ok (.invokevirtual 77, 3) := by decide +kernel
theorem d_Model_element_72 : decode b_Model_element 72 = .ok (.goto 23, 3) := by decide +kernel
theorem d_Model_element_75 : decode b_Model_element 75 = .ok (.aload_n 0, 1) := by decide +kernel
theorem d_Model_element_76 : decode b_Model_element 76 = .ok (.iload 4, 2) := by decide +kernel
theorem d_Model_element_78 : decode b_Model_element 78 = .ok (.iload 5, 2) := by decide +kernel
theorem d_Model_element_80 : decode b_Model_element 80 = .ok (.iload_n 3, 1) := by decide +kernel
theorem d_Model_element_81 : decode b_Model_element 81 = .ok (.invokevirtual 108, 3) := by decide +kernel
theorem d_Model_element_84 : decode b_Model_element 84 = .ok (.ifCond .ne 11, 3) := by decide +kernel
theorem d_Model_element_87 : decode b_Model_element 87 = .ok (.aload_n 0, 1) := by decide +kernel
theorem d_Model_element_88 : decode b_Model_element 88 = .ok (.bipush 7, 2) := by decide +kernel
theorem d_Model_element_90 : decode b_Model_element 90 = .ok (.iload 4, 2) := by decide +kernel
theorem d_Model_element_92 : decode b_Model_element 92 = .ok (.invokevirtual 77, 3) := by decide +kernel
theorem d_Model_element_95 : decode b_Model_element 95 = .ok (.aload_n 0, 1) := by decide +kernel
theorem d_Model_element_96 : decode b_Model_element 96 = .ok (.getfield 66, 3) := by decide +kernel
theorem d_Model_element_99 : decode b_Model_element 99 = .ok (.ifCond .eq 6, 3) := by decide +kernel
theorem d_Model_element_102 : decode b_Model_element 102 = .ok (.iload 5, 2) := by decide +kernel
theorem d_Model_element_104 : decode b_Model_element 104 = .ok (.ireturn, 1) := by decide +kernel
theorem d_Model_element_105 : decode b_Model_element 105 = .ok (.aload_n 0, 1) := by decide +kernel
theorem d_Model_element_106 : decode b_Model_element 106 = .ok (.getfield 90, 3) := by decide +kernel
theorem d_Model_element_109 : decode b_Model_element 109 = .ok (.istore 7, 2) := by decide +kernel
theorem d_Model_element_111 : decode b_Model_element 111 = .ok (.aload_n 0, 1) := by decide +kernel
theorem d_Model_element_112 : decode b_Model_element 112 = .ok (.dup, 1) := by decide +kernel
theorem d_Model_element_113 : decode b_Model_element 113 = .ok (.getfield 90, 3) := by decide +kernel
theorem d_Model_element_116 : decode b_Model_element 116 = .ok (.iconst 1, 1) := by decide +kernel
theorem d_Model_element_117 : decode b_Model_element 117 = .ok (.iadd, 1) := by decide +kernel
theorem d_Model_element_118 : decode b_Model_element 118 = .ok (.putfield 90, 3) := by decide +kernel
theorem d_Model_element_121 : decode b_Model_element 121 = .ok (.aload_n 0, 1) := by decide +kernel
theorem d_Model_element_122 : decode b_Model_element 122 = .ok (.getfield 26, 3) := by decide +kernel
theorem d_Model_element_125 : decode b_Model_element 125 = .ok (.iload 7, 2) := by decide +kernel
theorem d_Model_element_127 : decode b_Model_element 127 = .ok (.aload_n 0, 1) := by decide +kernel
theorem d_Model_element_128 : decode b_Model_element 128 = .ok (.getfield 44, 3) := by decide +kernel
theorem d_Model_element_131 : decode b_Model_element 131 = .ok (.iload_n 3, 1) := by decide +kernel
theorem d_Model_element_132 : decode b_Model_element 132 = .ok (.iconst 1, 1) := by decide +kernel
theorem d_Model_element_133 : decode b_Model_element 133 = .ok (.isub, 1) := by decide +kernel
theorem d_Model_element_134 : decode b_Model_element 134 = .ok (.iaload, 1) := by decide +kernel
theorem d_Model_element_135 : decode b_Model_element 135 = .ok (.iastore, 1) := by decide +kernel
theorem d_Model_element_136 : decode b_Model_element 136 = .ok (.aload_n 0, 1) := by decide +kernel
theorem d_Model_element_137 : decode b_Model_element 137 = .ok (.getfield 29, 3) := by decide +kernel
theorem d_Model_element_140 : decode b_Model_element 140 = .ok (.iload 7, 2) := by decide +kernel
theorem d_Model_element_142 : decode b_Model_element 142 = .ok (.iload_n 1, 1) := by decide +kernel
theorem d_Model_element_143 : decode b_Model_element 143 = .ok (.iastore, 1) := by decide +kernel
theorem d_Model_element_144 : decode b_Model_element 144 = .ok (.aload_n 0, 1) := by decide +kernel
theorem d_Model_element_145 : decode b_Model_element 145 = .ok (.getfield 32, 3) := by decide +kernel
theorem d_Model_element_148 : decode b_Model_element 148 = .ok (.iload 7, 2) := by decide +kernel
theorem d_Model_element_150 : decode b_Model_element 150 = .ok (.iload 5, 2) := by decide +kernel
theorem d_Model_element_152 : decode b_Model_element 152 = .ok (.iastore, 1) := by decide +kernel
theorem d_Model_element_153 : decode b_Model_element 153 = .ok (.aload_n 0, 1) := by decide +kernel
theorem d_Model_element_154 : decode b_Model_element 154 = .ok (.getfield 47, 3) := by decide +kernel
theorem d_Model_element_157 : decode b_Model_element 157 = .ok (.iload_n 3, 1) := by decide +kernel
theorem d_Model_element_158 : decode b_Model_element 158 = .ok (.iconst 1, 1) := by decide +kernel
theorem d_Model_element_159 : decode b_Model_element 159 = .ok (.isub, 1) := by decide +kernel
theorem d_Model_element_160 : decode b_Model_element 160 = .ok (.dup2, 1) := by decide +kernel
theorem d_Model_element_161 : decode b_Model_element 161 = .ok (.iaload, 1) := by decide +kernel
theorem d_Model_element_162 : decode b_Model_element 162 = .ok (.iconst 1, 1) := by decide +kernel
theorem d_Model_element_163 : decode b_Model_element 163 = .ok (.iadd, 1) := by decide +kernel
theorem d_Model_element_164 : decode b_Model_element 164 = .ok (.iastore, 1) := by decide +kernel
theorem d_Model_element_165 : decode b_Model_element 165 = .ok (.aload_n 0, 1) := by decide +kernel
theorem d_Model_element_166 : decode b_Model_element 166 = .ok (.getfield 38, 3) := by decide +kernel
theorem d_Model_element_169 : decode b_Model_element 169 = .ok (.iload 7, 2) := by decide +kernel
theorem d_Model_element_171 : decode b_Model_element 171 = .ok (.iload_n 3, 1) := by decide +kernel
theorem d_Model_element_172 : decode b_Model_element 172 = .ok (.aload_n 0, 1) := by decide +kernel
theorem d_Model_element_173 : decode b_Model_element 173 = .ok (.getfield 23, 3) := by decide +kernel
theorem d_Model_element_176 : decode b_Model_element 176 = .ok (.iload_n 1, 1) := by decide +kernel
theorem d_Model_element_177 : decode b_Model_element 177 = .ok (.iaload, 1) := by decide +kernel
theorem d_Model_element_178 : decode b_Model_element 178 = .ok (.iconst 3, 1) := by decide +kernel
theorem d_Model_element_179 : decode b_Model_element 179 = .ok (.if_icmp .eq 13, 3) := by decide +kernel
theorem d_Model_element_182 : decode b_Model_element 182 = .ok (.aload_n 0, 1) := by decide +kernel
theorem d_Model_element_183 : decode b_Model_element 183 = .ok (.getfield 23, 3) := by decide +kernel
theorem d_Model_element_186 : decode b_Model_element 186 = .ok (.iload_n 1, 1) := by decide +kernel
theorem d_Model_element_187 : decode b_Model_element 187 = .ok (.iaload, 1) := by decide +kernel
theorem d_Model_element_188 : decode b_Model_element 188 = .ok (.iconst 4, 1) := by decide +kernel
theorem d_Model_element_189 : decode b_Model_element 189 = .ok (.if_icmp .ne 7, 3) := by decide +kernel
theorem d_Model_element_192 : decode b_Model_element 192 = .ok (.iconst 1, 1) := by decide +kernel
theorem d_Model_element_193 : decode b_Model_element 193 = .ok (.goto 4, 3) := by decide +kernel
theorem d_Model_element_196 : decode b_Model_element 196 = .ok (.iconst 0, 1) := by decide +kernel
theorem d_Model_element_197 : decode b_Model_element 197 = .ok (.iadd, 1) := by decide +kernel
theorem d_Model_element_198 : decode b_Model_element 198 = .ok (.iastore, 1) := by decide +kernel
theorem d_Model_element_199 : decode b_Model_element 199 = .ok (.aload_n 0, 1) := by decide +kernel
theorem d_Model_element_200 : decode b_Model_element 200 = .ok (.getfield 35, 3) := by decide +kernel
theorem d_Model_element_203 : decode b_Model_element 203 = .ok (.iload 7, 2) := by decide +kernel
theorem d_Model_element_205 : decode b_Model_element 205 = .ok (.aload_n 0, 1) := by decide +kernel
theorem d_Model_element_206 : decode b_Model_element 206 = .ok (.aload_n 0, 1) := by decide +kernel
theorem d_Model_element_207 : decode b_Model_element 207 = .ok (.getfield 23, 3) := by decide +kernel
theorem d_Model_element_210 : decode b_Model_element 210 = .ok (.iload_n 1, 1) := by decide +kernel
theorem d_Model_element_211 : decode b_Model_element 211 = .ok (.iaload, 1) := by decide +kernel
theorem d_Model_element_212 : decode b_Model_element 212 = .ok (.iload 5, 2) := by decide +kernel
theorem d_Model_element_214 : decode b_Model_element 214 = .ok (.iconst 1, 1) := by decide +kernel
theorem d_Model_element_215 : decode b_Model_element 215 = .ok (.iadd, 1) := by decide +kernel
theorem d_Model_element_216 : decode b_Model_element 216 = .ok (.iload_n 2, 1) := by decide +kernel
theorem d_Model_element_217 : decode b_Model_element 217 = .ok (.invokevirtual 112, 3) := by decide +kernel
theorem d_Model_element_220 : decode b_Model_element 220 = .ok (.iastore, 1) := by decide +kernel
theorem d_Model_element_221 : decode b_Model_element 221 = .ok (.aload_n 0, 1) := by decide +kernel
theorem d_Model_element_222 : decode b_Model_element 222 = .ok (.getfield 23, 3) := by decide +kernel
theorem d_Model_element_225 : decode b_Model_element 225 = .ok (.iload_n 1, 1) := by decide +kernel
theorem d_Model_element_226 : decode b_Model_element 226 = .ok (.iaload, 1) := by decide +kernel
theorem d_Model_element_227 : decode b_Model_element 227 = .ok (.iconst 3, 1) := by decide +kernel
theorem d_Model_element_228 : decode b_Model_element 228 = .ok (.if_icmp .eq 13, 3) := by decide +kernel
theorem d_Model_element_231 : decode b_Model_element 231 = .ok (.aload_n 0, 1) := by decide +kernel
theorem d_Model_element_232 : decode b_Model_element 232 = .ok (.getfield 23, 3) := by decide +kernel
theorem d_Model_element_235 : decode b_Model_element 235 = .ok (.iload_n 1, 1) := by decide +kernel
theorem d_Model_element_236 : decode b_Model_element 236 = .ok (.iaload, 1) := by decide +kernel
theorem d_Model_element_237 : decode b_Model_element 237 = .ok (.iconst 4, 1) := by decide +kernel
theorem d_Model_element_238 : decode b_Model_element 238 = .ok (.if_icmp .ne 10, 3) := by decide +kernel
theorem d_Model_element_241 : decode b_Model_element 241 = .ok (.iload 5, 2) := by decide +kernel
theorem d_Model_element_243 : decode b_Model_element 243 = .ok (.iconst 1, 1) := by decide +kernel
theorem d_Model_element_244 : decode b_Model_element 244 = .ok (.iadd, 1) := by decide +kernel
theorem d_Model_element_245 : decode b_Model_element 245 = .ok (.goto 10, 3) := by decide +kernel
theorem d_Model_element_248 : decode b_Model_element 248 = .ok (.aload_n 0, 1) := by decide +kernel
theorem d_Model_element_249 : decode b_Model_element 249 = .ok (.getfield 35, 3) := by decide +kernel
theorem d_Model_element_252 : decode b_Model_element 252 = .ok (.iload 7, 2) := by decide +kernel
theorem d_Model_element_254 : decode b_Model_element 254 = .ok (.iaload, 1) := by decide +kernel
theorem d_Model_element_255 : decode b_Model_element 255 = .ok (.ireturn, 1) := by decide +kernel
theorem d_Model_isName_0 : decode b_Model_isName 0 = .ok (.aload_n 0, 1) := by decide +kernel
theorem d_Model_isName_1 : decode b_Model_isName 1 = .ok (.getfield 50, 3) := by decide +kernel
theorem d_Model_isName_4 : decode b_Model_isName 4 = .ok (.iload_n 3, 1) := by decide +kernel
theorem d_Model_isName_5 : decode b_Model_isName 5 = .ok (.iconst 1, 1) := by decide +kernel
theorem d_Model_isName_6 : decode b_Model_isName 6 = .ok (.isub, 1) := by decide +kernel
theorem d_Model_isName_7 : decode b_Model_isName 7 = .ok (.iaload, 1) := by decide +kernel
theorem d_Model_isName_8 : decode b_Model_isName 8 = .ok (.iconst 1, 1) := by decide +kernel
theorem d_Model_isName_9 : decode b_Model_isName 9 = .ok (.if_icmp .ne 36, 3) := by decide +kernel
theorem d_Model_isName_12 : decode b_Model_isName 12 = .ok (.aload_n 0, 1) := by decide +kernel
theorem d_Model_isName_13 : decode b_Model_isName 13 = .ok (.getfield 115, 3) := by decide +kernel
theorem d_Model_isName_16 : decode b_Model_isName 16 = .ok (.ifCond .ne 23, 3) := by decide +kernel
theorem d_Model_isName_19 : decode b_Model_isName 19 = .ok (.aload_n 0, 1) := by decide +kernel
theorem d_Model_isName_20 : decode b_Model_isName 20 = .ok (.getfield 23, 3) := by decide +kernel
theorem d_Model_isName_23 : decode b_Model_isName 23 = .ok (.iload_n 1, 1) := by decide +kernel
theorem d_Model_isName_24 : decode b_Model_isName 24 = .ok (.iload_n 2, 1) := by decide +kernel
theorem d_Model_isName_25 : decode b_Model_isName 25 = .ok (.aload_n 0, 1) := by decide +kernel
theorem d_Model_isName_26 : decode b_Model_isName 26 = .ok (.getfield 47, 3) := by decide +kernel
theorem d_Model_isName_29 : decode b_Model_isName 29 = .ok (.iload_n 3, 1) := by decide +kernel
theorem d_Model_isName_30 : decode b_Model_isName 30 = .ok (.iconst 1, 1) := by decide +kernel
theorem d_Model_isName_31 : decode b_Model_isName 31 = .ok (.isub, 1) := by decide +kernel
theorem d_Model_isName_32 : decode b_Model_isName 32 = .ok (.iaload, 1) := by decide +kernel
theorem d_Model_isName_33 : decode b_Model_isName 33 = .ok (.invokestatic 119, 3) := by decide +kernel
theorem d_Model_isName_36 : decode b_Model_isName 36 = .ok (.ifCond .eq 7, 3) := by decide +kernel
theorem d_Model_isName_39 : decode b_Model_isName 39 = .ok (.iconst 1, 1) := by decide +kernel
theorem d_Model_isName_40 : decode b_Model_isName 40 = .ok (.goto 4, 3) := by decide +kernel
theorem d_Model_isName_43 : decode b_Model_isName 43 = .ok (.iconst 0, 1) := by decide +kernel
theorem d_Model_isName_44 : decode b_Model_isName 44 = .ok (.ireturn, 1) := by decide +kernel
theorem d_Model_isName_45 : decode b_Model_isName 45 = .ok (.iconst 1, 1) := by decide +kernel
theorem d_Model_isName_46 : decode b_Model_isName 46 = .ok (.istore 4, 2) := by decide +kernel
theorem d_Model_isName_48 : decode b_Model_isName 48 = .ok (.iload 4, 2) := by decide +kernel
theorem d_Model_isName_50 : decode b_Model_isName 50 = .ok (.aload_n 0, 1) := by decide +kernel
theorem d_Model_isName_51 : decode b_Model_isName 51 = .ok (.getfield 90, 3) := by decide +kernel
theorem d_Model_isName_54 : decode b_Model_isName 54 = .ok (.if_icmp .ge 122, 3) := by decide +kernel
theorem d_Model_isName_57 : decode b_Model_isName 57 = .ok (.aload_n 0, 1) := by decide +kernel
theorem d_Model_isName_58 : decode b_Model_isName 58 = .ok (.getfield 26, 3) := by decide +kernel
theorem d_Model_isName_61 : decode b_Model_isName 61 = .ok (.iload 4, 2) := by decide +kernel
theorem d_Model_isName_63 : decode b_Model_isName 63 = .ok (.iaload, 1) := by decide +kernel
theorem d_Model_isName_64 : decode b_Model_isName 64 = .ok (.aload_n 0, 1) := by decide +kernel
theorem d_Model_isName_65 : decode b_Model_isName 65 = .ok (.getfield 44, 3) := by decide +kernel
theorem d_Model_isName_68 : decode b_Model_isName 68 = .ok (.iload_n 3, 1) := by decide +kernel
theorem d_Model_isName_69 : decode b_Model_isName 69 = .ok (.iconst 1, 1) := by decide +kernel
theorem d_Model_isName_70 : decode b_Model_isName 70 = .ok (.isub, 1) := by decide +kernel
theorem d_Model_isName_71 : decode b_Model_isName 71 = .ok (.iaload, 1) := by decide +kernel
theorem d_Model_isName_72 : decode b_Model_isName 72 = .ok (.if_icmp .ne 30, 3) := by decide +kernel
theorem d_Model_isName_75 : decode b_Model_isName 75 = .ok (.aload_n 0, 1) := by decide +kernel
theorem d_Model_isName_76 : decode b_Model_isName 76 = .ok (.getfield 32, 3) := by decide +kernel
theorem d_Model_isName_79 : decode b_Model_isName 79 = .ok (.iload 4, 2) := by decide +kernel
theorem d_Model_isName_81 : decode b_Model_isName 81 = .ok (.iaload, 1) := by decide +kernel
theorem d_Model_isName_82 : decode b_Model_isName 82 = .ok (.aload_n 0, 1) := by decide +kernel
theorem d_Model_isName_83 : decode b_Model_isName 83 = .ok (.getfield 29, 3) := by decide +kernel
theorem d_Model_isName_86 : decode b_Model_isName 86 = .ok (.iload 4, 2) := by decide +kernel
theorem d_Model_isName_88 : decode b_Model_isName 88 = .ok (.iaload, 1) := by decide +kernel
theorem d_Model_isName_89 : decode b_Model_isName 89 = .ok (.isub, 1) := by decide +kernel
theorem d_Model_isName_90 : decode b_Model_isName 90 = .ok (.iconst 1, 1) := by decide +kernel
theorem d_Model_isName_91 : decode b_Model_isName 91 = .ok (.isub, 1) := by decide +kernel
theorem d_Model_isName_92 : decode b_Model_isName 92 = .ok (.iload_n 2, 1) := by decide +kernel
theorem d_Model_isName_93 : decode b_Model_isName 93 = .ok (.iload_n 1, 1) := by decide +kernel
theorem d_Model_isName_94 : decode b_Model_isName 94 = .ok (.isub, 1) := by decide +kernel
theorem d_Model_isName_95 : decode b_Model_isName 95 = .ok (.if_icmp .ne 7, 3) := by decide +kernel
theorem d_Model_isName_98 : decode b_Model_isName 98 = .ok (.iconst 1, 1) := by decide +kernel
theorem d_Model_isName_99 : decode b_Model_isName 99 = .ok (.goto 4, 3) := by decide +kernel
theorem d_Model_isName_102 : decode b_Model_isName 102 = .ok (.iconst 0, 1) := by decide +kernel
theorem d_Model_isName_103 : decode b_Model_isName 103 = .ok (.istore 5, 2) := by decide +kernel
theorem d_Model_isName_105 : decode b_Model_isName 105 = .ok (.iconst 0, 1) := by decide +kernel
theorem d_Model_isName_106 : decode b_Model_isName 106 = .ok (.istore 6, 2) := by decide +kernel
theorem d_Model_isName_108 : decode b_Model_isName 108 = .ok (.iload 6, 2) := by decide +kernel
theorem d_Model_isName_110 : decode b_Model_isName 110 = .ok (.iload_n 2, 1) := by decide +kernel
theorem d_Model_isName_111 : decode b_Model_isName 111 = .ok (.iload_n 1, 1) := by decide +kernel
theorem d_Model_isName_112 : decode b_Model_isName 112 = .ok (.isub, 1) := by decide +kernel
theorem d_Model_isName_113 : decode b_Model_isName 113 = .ok (.if_icmp .ge 50, 3) := by decide +kernel
theorem d_Model_isName_116 : decode b_Model_isName 116 = .ok (.iload 5, 2) := by decide +kernel
theorem d_Model_isName_118 : decode b_Model_isName 118 = .ok (.ifCond .eq 45, 3) := by decide +kernel
theorem d_Model_isName_121 : decode b_Model_isName 121 = .ok (.aload_n 0, 1) := by decide +kernel
theorem d_Model_isName_122 : decode b_Model_isName 122 = .ok (.getfield 23, 3) := by decide +kernel
theorem d_Model_isName_125 : decode b_Model_isName 125 = .ok (.aload_n 0, 1) := by decide +kernel
theorem d_Model_isName_126 : decode b_Model_isName 126 = .ok (.getfield 29, 3) := by decide +kernel
theorem d_Model_isName_129 : decode b_Model_isName 129 = .ok (.iload 4, 2) := by decide +kernel
theorem d_Model_isName_131 : decode b_Model_isName 131 = .ok (.iaload, 1) := by decide +kernel
theorem d_Model_isName_132 : decode b_Model_isName 132 = .ok (.iconst 1, 1) := by decide +kernel
theorem d_Model_isName_133 : decode b_Model_isName 133 = .ok (.iadd, 1) := by decide +kernel
theorem d_Model_isName_134 : decode b_Model_isName 134 = .ok (.iload 6, 2) := by decide +kernel
theorem d_Model_isName_136 : decode b_Model_isName 136 = .ok (.iadd, 1) := by decide +kernel
theorem d_Model_isName_137 : decode b_Model_isName 137 = .ok (.iaload, 1) := by decide +kernel
theorem d_Model_isName_138 : decode b_Model_isName 138 = .ok (.aload_n 0, 1) := by decide +kernel
theorem d_Model_isName_139 : decode b_Model_isName 139 = .ok (.getfield 23, 3) := by decide +kernel
theorem d_Model_isName_142 : decode b_Model_isName 142 = .ok (.iload_n 1, 1) := by decide +kernel
theorem d_Model_isName_143 : decode b_Model_isName 143 = .ok (.iload 6, 2) := by decide +kernel
theorem d_Model_isName_145 : decode b_Model_isName 145 = .ok (.iadd, 1) := by decide +kernel
theorem d_Model_isName_146 : decode b_Model_isName 146 = .ok (.iaload, 1) := by decide +kernel
theorem d_Model_isName_147 : decode b_Model_isName 147 = .ok (.if_icmp .ne 7, 3) := by decide +kernel
theorem d_Model_isName_150 : decode b_Model_isName 150 = .ok (.iconst 1, 1) := by decide +kernel
theorem d_Model_isName_151 : decode b_Model_isName 151 = .ok (.goto 4, 3) := by decide +kernel
theorem d_Model_isName_154 : decode b_Model_isName 154 = .ok (.iconst 0, 1) := by decide +kernel
theorem d_Model_isName_155 : decode b_Model_isName 155 = .ok (.istore 5, 2) := by decide +kernel
theorem d_Model_isName_157 : decode b_Model_isName 157 = .ok (.iinc 6 1, 3) := by decide +kernel
theorem d_Model_isName_160 : decode b_Model_isName 160 = .ok (.goto (-52), 3) := by decide +kernel
theorem d_Model_isName_163 : decode b_Model_isName 163 = .ok (.iload 5, 2) := by decide +kernel
theorem d_Model_isName_165 : decode b_Model_isName 165 = .ok (.ifCond .eq 5, 3) := by decide +kernel
theorem d_Model_isName_168 : decode b_Model_isName 168 = .ok (.iconst 0, 1) := by decide +kernel
theorem d_Model_isName_169 : decode b_Model_isName 169 = .ok (.ireturn, 1) := by decide +kernel
theorem d_Model_isName_170 : decode b_Model_isName 170 = .ok (.iinc 4 1, 3) := by decide +kernel
theorem d_Model_isName_173 : decode b_Model_isName 173 = .ok (.goto (-125), 3) := by decide +kernel
theorem d_Model_isName_176 : decode b_Model_isName 176 = .ok (.iconst 1, 1) := by decide +kernel
theorem d_Model_isName_177 : decode b_Model_isName 177 = .ok (.ireturn, 1) := by decide +kernel
theorem d_Model_digits_0 : decode b_Model_digits 0 = .ok (.iload_n 0, 1) := by decide +kernel
theorem d_Model_digits_1 : decode b_Model_digits 1 = .ok (.sipush 999, 3) := by decide +kernel
theorem d_Model_digits_4 : decode b_Model_digits 4 = .ok (.if_icmp .le 7, 3) := by decide +kernel
theorem d_Model_digits_7 : decode b_Model_digits 7 = .ok (.iconst 4, 1) := by decide +kernel
theorem d_Model_digits_8 : decode b_Model_digits 8 = .ok (.goto 24, 3) := by decide +kernel
theorem d_Model_digits_11 : decode b_Model_digits 11 = .ok (.iload_n 0, 1) := by decide +kernel
theorem d_Model_digits_12 : decode b_Model_digits 12 = .ok (.bipush 99, 2) := by decide +kernel
theorem d_Model_digits_14 : decode b_Model_digits 14 = .ok (.if_icmp .le 7, 3) := by decide +kernel
theorem d_Model_digits_17 : decode b_Model_digits 17 = .ok (.iconst 3, 1) := by decide +kernel
theorem d_Model_digits_18 : decode b_Model_digits 18 = .ok (.goto 14, 3) := by decide +kernel
theorem d_Model_digits_21 : decode b_Model_digits 21 = .ok (.iload_n 0, 1) := by decide +kernel
theorem d_Model_digits_22 : decode b_Model_digits 22 = .ok (.bipush 9, 2) := by decide +kernel
theorem d_Model_digits_24 : decode b_Model_digits 24 = .ok (.if_icmp .le 7, 3) := by decide +kernel
theorem d_Model_digits_27 : decode b_Model_digits 27 = .ok (.iconst 2, 1) := by decide +kernel
theorem d_Model_digits_28 : decode b_Model_digits 28 = .ok (.goto 4, 3) := by decide +kernel
theorem d_Model_digits_31 : decode b_Model_digits 31 = .ok (.iconst 1, 1) := by decide +kernel
theorem d_Model_digits_32 : decode b_Model_digits 32 = .ok (.ireturn, 1) := by decide +kernel
theorem d_Model_digit_0 : decode b_Model_digit 0 = .ok (.iload_n 0, 1) := by decide +kernel
theorem d_Model_digit_1 : decode b_Model_digit 1 = .ok (.istore_n 2, 1) := by decide +kernel
theorem d_Model_digit_2 : decode b_Model_digit 2 = .ok (.iload_n 0, 1) := by decide +kernel
theorem d_Model_digit_3 : decode b_Model_digit 3 = .ok (.invokestatic 123, 3) := by decide +kernel
theorem d_Model_digit_6 : decode b_Model_digit 6 = .ok (.iconst 1, 1) := by decide +kernel
theorem d_Model_digit_7 : decode b_Model_digit 7 = .ok (.isub, 1) := by decide +kernel
theorem d_Model_digit_8 : decode b_Model_digit 8 = .ok (.istore_n 3, 1) := by decide +kernel
theorem d_Model_digit_9 : decode b_Model_digit 9 = .ok (.iload_n 3, 1) := by decide +kernel
theorem d_Model_digit_10 : decode b_Model_digit 10 = .ok (.iload_n 1, 1) := by decide +kernel
theorem d_Model_digit_11 : decode b_Model_digit 11 = .ok (.if_icmp .le 14, 3) := by decide +kernel
theorem d_Model_digit_14 : decode b_Model_digit 14 = .ok (.iload_n 2, 1) := by decide +kernel
theorem d_Model_digit_15 : decode b_Model_digit 15 = .ok (.bipush 10, 2) := by decide +kernel
theorem d_Model_digit_17 : decode b_Model_digit 17 = .ok (.idiv, 1) := by decide +kernel
theorem d_Model_digit_18 : decode b_Model_digit 18 = .ok (.istore_n 2, 1) := by decide +kernel
theorem d_Model_digit_19 : decode b_Model_digit 19 = .ok (.iinc 3 (-1), 3) := by decide +kernel
theorem d_Model_digit_22 : decode b_Model_digit 22 = .ok (.goto (-13), 3) := by decide +kernel
theorem d_Model_digit_25 : decode b_Model_digit 25 = .ok (.bipush 48, 2) := by decide +kernel
theorem d_Model_digit_27 : decode b_Model_digit 27 = .ok (.iload_n 2, 1) := by decide +kernel
theorem d_Model_digit_28 : decode b_Model_digit 28 = .ok (.bipush 10, 2) := by decide +kernel
theorem d_Model_digit_30 : decode b_Model_digit 30 = .ok (.irem, 1) := by decide +kernel
theorem d_Model_digit_31 : decode b_Model_digit 31 = .ok (.iadd, 1) := by decide +kernel
theorem d_Model_digit_32 : decode b_Model_digit 32 = .ok (.ireturn, 1) := by decide +kernel
theorem d_Model_isNumber_0 : decode b_Model_isNumber 0 = .ok (.iload_n 2, 1) := by decide +kernel
theorem d_Model_isNumber_1 : decode b_Model_isNumber 1 = .ok (.iload_n 1, 1) := by decide +kernel
theorem d_Model_isNumber_2 : decode b_Model_isNumber 2 = .ok (.isub, 1) := by decide +kernel
theorem d_Model_isNumber_3 : decode b_Model_isNumber 3 = .ok (.iload_n 3, 1) := by decide +kernel
theorem d_Model_isNumber_4 : decode b_Model_isNumber 4 = .ok (.invokestatic 123, 3) := by decide +kernel
theorem d_Model_isNumber_7 : decode b_Model_isNumber 7 = .ok (.if_icmp .eq 5, 3) := by decide +kernel
theorem d_Model_isNumber_10 : decode b_Model_isNumber 10 = .ok (.iconst 0, 1) := by decide +kernel
theorem d_Model_isNumber_11 : decode b_Model_isNumber 11 = .ok (.ireturn, 1) := by decide +kernel
theorem d_Model_isNumber_12 : decode b_Model_isNumber 12 = .ok (.iconst 0, 1) := by decide +kernel
theorem d_Model_isNumber_13 : decode b_Model_isNumber 13 = .ok (.istore 4, 2) := by decide +kernel
theorem d_Model_isNumber_15 : decode b_Model_isNumber 15 = .ok (.iload 4, 2) := by decide +kernel
theorem d_Model_isNumber_17 : decode b_Model_isNumber 17 = .ok (.iload_n 2, 1) := by decide +kernel
theorem d_Model_isNumber_18 : decode b_Model_isNumber 18 = .ok (.iload_n 1, 1) := by decide +kernel
theorem d_Model_isNumber_19 : decode b_Model_isNumber 19 = .ok (.isub, 1) := by decide +kernel
theorem d_Model_isNumber_20 : decode b_Model_isNumber 20 = .ok (.if_icmp .ge 26, 3) := by decide +kernel
theorem d_Model_isNumber_23 : decode b_Model_isNumber 23 = .ok (.aload_n 0, 1) := by decide +kernel
theorem d_Model_isNumber_24 : decode b_Model_isNumber 24 = .ok (.iload_n 1, 1) := by decide +kernel
theorem d_Model_isNumber_25 : decode b_Model_isNumber 25 = .ok (.iload 4, 2) := by decide +kernel
theorem d_Model_isNumber_27 : decode b_Model_isNumber 27 = .ok (.iadd, 1) := by decide +kernel
theorem d_Model_isNumber_28 : decode b_Model_isNumber 28 = .ok (.iaload, 1) := by decide +kernel
theorem d_Model_isNumber_29 : decode b_Model_isNumber 29 = .ok (.iload_n 3, 1) := by decide +kernel
theorem d_Model_isNumber_30 : decode b_Model_isNumber 30 = .ok (.iload 4, 2) := by decide +kernel
theorem d_Model_isNumber_32 : decode b_Model_isNumber 32 = .ok (.invokestatic 127, 3) := by decide +kernel
theorem d_Model_isNumber_35 : decode b_Model_isNumber 35 = .ok (.if_icmp .eq 5, 3) := by decide +kernel
theorem d_Model_isNumber_38 : decode b_Model_isNumber 38 = .ok (.iconst 0, 1) := by decide +kernel
theorem d_Model_isNumber_39 : decode b_Model_isNumber 39 = .ok (.ireturn, 1) := by decide +kernel
theorem d_Model_isNumber_40 : decode b_Model_isNumber 40 = .ok (.iinc 4 1, 3) := by decide +kernel
theorem d_Model_isNumber_43 : decode b_Model_isNumber 43 = .ok (.goto (-28), 3) := by decide +kernel
theorem d_Model_isNumber_46 : decode b_Model_isNumber 46 = .ok (.iconst 1, 1) := by decide +kernel
theorem d_Model_isNumber_47 : decode b_Model_isNumber 47 = .ok (.ireturn, 1) := by decide +kernel
theorem d_Model_value_0 : decode b_Model_value 0 = .ok (.iload_n 3, 1) := by decide +kernel
theorem d_Model_value_1 : decode b_Model_value 1 = .ok (.iload_n 2, 1) := by decide +kernel
theorem d_Model_value_2 : decode b_Model_value 2 = .ok (.isub, 1) := by decide +kernel
theorem d_Model_value_3 : decode b_Model_value 3 = .ok (.istore 4, 2) := by decide +kernel
theorem d_Model_value_5 : decode b_Model_value 5 = .ok (.iload_n 1, 1) := by decide +kernel
theorem d_Model_value_6 : decode b_Model_value 6 = .ok (.bipush 16, 2) := by decide +kernel
theorem d_Model_value_8 : decode b_Model_value 8 = .ok (.if_icmp .eq 15, 3) := by decide +kernel
theorem d_Model_value_11 : decode b_Model_value 11 = .ok (.iload_n 1, 1) := by decide +kernel
theorem d_Model_value_12 : decode b_Model_value 12 = .ok (.bipush 18, 2) := by decide +kernel
theorem d_Model_value_14 : decode b_Model_value 14 = .ok (.if_icmp .eq 9, 3) := by decide +kernel
theorem d_Model_value_17 : decode b_Model_value 17 = .ok (.iload_n 1, 1) := by decide +kernel
theorem d_Model_value_18 : decode b_Model_value 18 = .ok (.bipush 8, 2) := by decide +kernel
theorem d_Model_value_20 : decode b_Model_value 20 = .ok (.if_icmp .ne 70, 3) := by decide +kernel
theorem d_Model_value_23 : decode b_Model_value 23 = .ok (.iload_n 1, 1) := by decide +kernel
theorem d_Model_value_24 : decode b_Model_value 24 = .ok (.bipush 16, 2) := by decide +kernel
theorem d_Model_value_26 : decode b_Model_value 26 = .ok (.if_icmp .ne 7, 3) := by decide +kernel
theorem d_Model_value_29 : decode b_Model_value 29 = .ok (.iconst 4, 1) := by decide +kernel
theorem d_Model_value_30 : decode b_Model_value 30 = .ok (.goto 15, 3) := by decide +kernel
theorem d_Model_value_33 : decode b_Model_value 33 = .ok (.iload_n 1, 1) := by decide +kernel
theorem d_Model_value_34 : decode b_Model_value 34 = .ok (.bipush 18, 2) := by decide +kernel
theorem d_Model_value_36 : decode b_Model_value 36 = .ok (.if_icmp .ne 8, 3) := by decide +kernel
theorem d_Model_value_39 : decode b_Model_value 39 = .ok (.bipush 8, 2) := by decide +kernel
theorem d_Model_value_41 : decode b_Model_value 41 = .ok (.goto 4, 3) := by decide +kernel
theorem d_Model_value_44 : decode b_Model_value 44 = .ok (.iconst 1, 1) := by decide +kernel
theorem d_Model_value_45 : decode b_Model_value 45 = .ok (.istore 5, 2) := by decide +kernel
theorem d_Model_value_47 : decode b_Model_value 47 = .ok (.iload 4, 2) := by decide +kernel
theorem d_Model_value_49 : decode b_Model_value 49 = .ok (.iload 5, 2) := by decide +kernel
theorem d_Model_value_51 : decode b_Model_value 51 = .ok (.if_icmp .ge 12, 3) := by decide +kernel
theorem d_Model_value_54 : decode b_Model_value 54 = .ok (.aload_n 0, 1) := by decide +kernel
theorem d_Model_value_55 : decode b_Model_value 55 = .ok (.iconst 1, 1) := by decide +kernel
theorem d_Model_value_56 : decode b_Model_value 56 = .ok (.iload_n 2, 1) := by decide +kernel
theorem d_Model_value_57 : decode b_Model_value 57 = .ok (.invokevirtual 77, 3) := by decide +kernel
theorem d_Model_value_60 : decode b_Model_value 60 = .ok (.goto 25, 3) := by decide +kernel
theorem d_Model_value_63 : decode b_Model_value 63 = .ok (.iload_n 1, 1) := by decide +kernel
theorem d_Model_value_64 : decode b_Model_value 64 = .ok (.bipush 8, 2) := by decide +kernel
theorem d_Model_value_66 : decode b_Model_value 66 = .ok (.if_icmp .ne 19, 3) := by decide +kernel
theorem d_Model_value_69 : decode b_Model_value 69 = .ok (.aload_n 0, 1) := by decide +kernel
theorem d_Model_value_70 : decode b_Model_value 70 = .ok (.getfield 23, 3) := by decide +kernel
theorem d_Model_value_73 : decode b_Model_value 73 = .ok (.iload_n 2, 1) := by decide +kernel
theorem d_Model_value_74 : decode b_Model_value 74 = .ok (.iaload, 1) := by decide +kernel
theorem d_Model_value_75 : decode b_Model_value 75 = .ok (.iconst 1, 1) := by decide +kernel
theorem d_Model_value_76 : decode b_Model_value 76 = .ok (.if_icmp .le 9, 3) := by decide +kernel
theorem d_Model_value_79 : decode b_Model_value 79 = .ok (.aload_n 0, 1) := by decide +kernel
theorem d_Model_value_80 : decode b_Model_value 80 = .ok (.iconst 5, 1) := by decide +kernel
theorem d_Model_value_81 : decode b_Model_value 81 = .ok (.iload_n 2, 1) := by decide +kernel
theorem d_Model_value_82 : decode b_Model_value 82 = .ok (.invokevirtual 77, 3) := by decide +kernel
theorem d_Model_value_85 : decode b_Model_value 85 = .ok (.iload_n 2, 1) := by decide +kernel
theorem d_Model_value_86 : decode b_Model_value 86 = .ok (.iload 5, 2) := by decide +kernel
theorem d_Model_value_88 : decode b_Model_value 88 = .ok (.iadd, 1) := by decide +kernel
theorem d_Model_value_89 : decode b_Model_value 89 = .ok (.ireturn, 1) := by decide +kernel
theorem d_Model_value_90 : decode b_Model_value 90 = .ok (.iload_n 1, 1) := by decide +kernel
theorem d_Model_value_91 : decode b_Model_value 91 = .ok (.iconst 2, 1) := by decide +kernel
theorem d_Model_value_92 : decode b_Model_value 92 = .ok (.if_icmp .ne 12, 3) := by decide +kernel
theorem d_Model_value_95 : decode b_Model_value 95 = .ok (.aload_n 0, 1) := by decide +kernel
theorem d_Model_value_96 : decode b_Model_value 96 = .ok (.iload_n 2, 1) := by decide +kernel
theorem d_Model_value_97 : decode b_Model_value 97 = .ok (.iload_n 3, 1) := by decide +kernel
theorem d_Model_value_98 : decode b_Model_value 98 = .ok (.invokevirtual 131, 3) := by decide +kernel
theorem d_Model_value_101 : decode b_Model_value 101 = .ok (.goto 4, 3) := by decide +kernel
theorem d_Model_value_104 : decode b_Model_value 104 = .ok (.iload_n 2, 1) := by decide +kernel
theorem d_Model_value_105 : decode b_Model_value 105 = .ok (.ireturn, 1) := by decide +kernel
theorem d_Model_text_0 : decode b_Model_text 0 = .ok (.iload_n 2, 1) := by decide +kernel
theorem d_Model_text_1 : decode b_Model_text 1 = .ok (.iload_n 1, 1) := by decide +kernel
theorem d_Model_text_2 : decode b_Model_text 2 = .ok (.isub, 1) := by decide +kernel
theorem d_Model_text_3 : decode b_Model_text 3 = .ok (.istore_n 3, 1) := by decide +kernel
theorem d_Model_text_4 : decode b_Model_text 4 = .ok (.iload_n 3, 1) := by decide +kernel
theorem d_Model_text_5 : decode b_Model_text 5 = .ok (.iconst 4, 1) := by decide +kernel
theorem d_Model_text_6 : decode b_Model_text 6 = .ok (.if_icmp .ge 11, 3) := by decide +kernel
theorem d_Model_text_9 : decode b_Model_text 9 = .ok (.aload_n 0, 1) := by decide +kernel
theorem d_Model_text_10 : decode b_Model_text 10 = .ok (.iconst 1, 1) := by decide +kernel
theorem d_Model_text_11 : decode b_Model_text 11 = .ok (.iload_n 1, 1) := by decide +kernel
theorem d_Model_text_12 : decode b_Model_text 12 = .ok (.invokevirtual 77, 3) := by decide +kernel
theorem d_Model_text_15 : decode b_Model_text 15 = .ok (.iload_n 1, 1) := by decide +kernel
theorem d_Model_text_16 : decode b_Model_text 16 = .ok (.ireturn, 1) := by decide +kernel
theorem d_Model_text_17 : decode b_Model_text 17 = .ok (.aload_n 0, 1) := by decide +kernel
theorem d_Model_text_18 : decode b_Model_text 18 = .ok (.iload_n 1, 1) := by decide +kernel
theorem d_Model_text_19 : decode b_Model_text 19 = .ok (.iconst 4, 1) := by decide +kernel
theorem d_Model_text_20 : decode b_Model_text 20 = .ok (.invokevirtual 81, 3) := by decide +kernel
theorem d_Model_text_23 : decode b_Model_text 23 = .ok (.lstore 4, 2) := by decide +kernel
theorem d_Model_text_25 : decode b_Model_text 25 = .ok (.lload 4, 2) := by decide +kernel
theorem d_Model_text_27 : decode b_Model_text 27 = .ok (.lconst 1, 1) := by decide +kernel
theorem d_Model_text_28 : decode b_Model_text 28 = .ok (.lcmp, 1) := by decide +kernel
theorem d_Model_text_29 : decode b_Model_text 29 = .ok (.ifCond .ge 13, 3) := by decide +kernel
theorem d_Model_text_32 : decode b_Model_text 32 = .ok (.aload_n 0, 1) := by decide +kernel
theorem d_Model_text_33 : decode b_Model_text 33 = .ok (.bipush 6, 2) := by decide +kernel
theorem d_Model_text_35 : decode b_Model_text 35 = .ok (.iload_n 1, 1) := by decide +kernel
theorem d_Model_text_36 : decode b_Model_text 36 = .ok (.invokevirtual 77, 3) := by decide +kernel
theorem d_Model_text_39 : decode b_Model_text 39 = .ok (.goto 19, 3) := by decide +kernel
theorem d_Model_text_42 : decode b_Model_text 42 = .ok (.lload 4, 2) := by decide +kernel
theorem d_Model_text_44 : decode b_Model_text 44 = .ok (.iload_n 3, 1) := by decide +kernel
theorem d_Model_text_45 : decode b_Model_text 45 = .ok (.iconst 4, 1) := by decide +kernel
theorem d_Model_text_46 : decode b_Model_text 46 = .ok (.isub, 1) := by decide +kernel
theorem d_Model_text_47 : decode b_Model_text 47 = .ok (.i2l, 1) := by decide +kernel
theorem d_Model_text_48 : decode b_Model_text 48 = .ok (.lcmp, 1) := by decide +kernel
theorem d_Model_text_49 : decode b_Model_text 49 = .ok (.ifCond .le 9, 3) := by decide +kernel
theorem d_Model_text_52 : decode b_Model_text 52 = .ok (.aload_n 0, 1) := by decide +kernel
theorem d_Model_text_53 : decode b_Model_text 53 = .ok (.iconst 1, 1) := by decide +kernel
theorem d_Model_text_54 : decode b_Model_text 54 = .ok (.iload_n 1, 1) := by decide +kernel
theorem d_Model_text_55 : decode b_Model_text 55 = .ok (.invokevirtual 77, 3) := by decide +kernel
theorem d_Model_text_58 : decode b_Model_text 58 = .ok (.aload_n 0, 1) := by decide +kernel
theorem d_Model_text_59 : decode b_Model_text 59 = .ok (.getfield 66, 3) := by decide +kernel
theorem d_Model_text_62 : decode b_Model_text 62 = .ok (.ifCond .eq 5, 3) := by decide +kernel
theorem d_Model_text_65 : decode b_Model_text 65 = .ok (.iload_n 1, 1) := by decide +kernel
theorem d_Model_text_66 : decode b_Model_text 66 = .ok (.ireturn, 1) := by decide +kernel
theorem d_Model_text_67 : decode b_Model_text 67 = .ok (.iload_n 1, 1) := by decide +kernel
theorem d_Model_text_68 : decode b_Model_text 68 = .ok (.iconst 4, 1) := by decide +kernel
theorem d_Model_text_69 : decode b_Model_text 69 = .ok (.iadd, 1) := by decide +kernel
theorem d_Model_text_70 : decode b_Model_text 70 = .ok (.lload 4, 2) := by decide +kernel
theorem d_Model_text_72 : decode b_Model_text 72 = .ok (.l2i, 1) := by decide +kernel
theorem d_Model_text_73 : decode b_Model_text 73 = .ok (.iadd, 1) := by decide +kernel
theorem d_Model_text_74 : decode b_Model_text 74 = .ok (.istore 6, 2) := by decide +kernel
theorem d_Model_text_76 : decode b_Model_text 76 = .ok (.aload_n 0, 1) := by decide +kernel
theorem d_Model_text_77 : decode b_Model_text 77 = .ok (.getfield 23, 3) := by decide +kernel
theorem d_Model_text_80 : decode b_Model_text 80 = .ok (.iload 6, 2) := by decide +kernel
theorem d_Model_text_82 : decode b_Model_text 82 = .ok (.iconst 1, 1) := by decide +kernel
theorem d_Model_text_83 : decode b_Model_text 83 = .ok (.isub, 1) := by decide +kernel
theorem d_Model_text_84 : decode b_Model_text 84 = .ok (.iaload, 1) := by decide +kernel
theorem d_Model_text_85 : decode b_Model_text 85 = .ok (.ifCond .eq 13, 3) := by decide +kernel
theorem d_Model_text_88 : decode b_Model_text 88 = .ok (.aload_n 0, 1) := by decide +kernel
theorem d_Model_text_89 : decode b_Model_text 89 = .ok (.bipush 6, 2) := by decide +kernel
theorem d_Model_text_91 : decode b_Model_text 91 = .ok (.iload 6, 2) := by decide +kernel
theorem d_Model_text_93 : decode b_Model_text 93 = .ok (.iconst 1, 1) := by decide +kernel
theorem d_Model_text_94 : decode b_Model_text 94 = .ok (.isub, 1) := by decide +kernel
theorem d_Model_text_95 : decode b_Model_text 95 = .ok (.invokevirtual 77, 3) := by decide +kernel
theorem d_Model_text_98 : decode b_Model_text 98 = .ok (.aload_n 0, 1) := by decide +kernel
theorem d_Model_text_99 : decode b_Model_text 99 = .ok (.getfield 23, 3) := by decide +kernel
theorem d_Model_text_102 : decode b_Model_text 102 = .ok (.iload_n 1, 1) := by decide +kernel
theorem d_Model_text_103 : decode b_Model_text 103 = .ok (.iconst 4, 1) := by decide +kernel
theorem d_Model_text_104 : decode b_Model_text 104 = .ok (.iadd, 1) := by decide +kernel
theorem d_Model_text_105 : decode b_Model_text 105 = .ok (.iload 6, 2) := by decide +kernel
theorem d_Model_text_107 : decode b_Model_text 107 = .ok (.iconst 1, 1) := by decide +kernel
theorem d_Model_text_108 : decode b_Model_text 108 = .ok (.isub, 1) := by decide +kernel
theorem d_Model_text_109 : decode b_Model_text 109 = .ok (.invokestatic 105, 3) := by decide +kernel
theorem d_Model_text_112 : decode b_Model_text 112 = .ok (.istore 7, 2) := by decide +kernel
theorem d_Model_text_114 : decode b_Model_text 114 = .ok (.iload 7, 2) := by decide +kernel
theorem d_Model_text_116 : decode b_Model_text 116 = .ok (.ifCond .lt 10, 3) := by decide +kernel
theorem d_Model_text_119 : decode b_Model_text 119 = .ok (.aload_n 0, 1) := by decide +kernel
theorem d_Model_text_120 : decode b_Model_text 120 = .ok (.iconst 4, 1) := by decide +kernel
theorem d_Model_text_121 : decode b_Model_text 121 = .ok (.iload 7, 2) := by decide +kernel
theorem d_Model_text_123 : decode b_Model_text 123 = .ok (.invokevirtual 77, 3) := by decide +kernel
theorem d_Model_text_126 : decode b_Model_text 126 = .ok (.iload 6, 2) := by decide +kernel
theorem d_Model_text_128 : decode b_Model_text 128 = .ok (.ireturn, 1) := by decide +kernel
theorem d_Model_isSlot_0 : decode b_Model_isSlot 0 = .ok (.iload_n 0, 1) := by decide +kernel
theorem d_Model_isSlot_1 : decode b_Model_isSlot 1 = .ok (.ifCond .lt 13, 3) := by decide +kernel
theorem d_Model_isSlot_4 : decode b_Model_isSlot 4 = .ok (.iload_n 0, 1) := by decide +kernel
theorem d_Model_isSlot_5 : decode b_Model_isSlot 5 = .ok (.bipush 8, 2) := by decide +kernel
theorem d_Model_isSlot_7 : decode b_Model_isSlot 7 = .ok (.if_icmp .ge 7, 3) := by decide +kernel
theorem d_Model_isSlot_10 : decode b_Model_isSlot 10 = .ok (.iconst 1, 1) := by decide +kernel
theorem d_Model_isSlot_11 : decode b_Model_isSlot 11 = .ok (.goto 4, 3) := by decide +kernel
theorem d_Model_isSlot_14 : decode b_Model_isSlot 14 = .ok (.iconst 0, 1) := by decide +kernel
theorem d_Model_isSlot_15 : decode b_Model_isSlot 15 = .ok (.ireturn, 1) := by decide +kernel
theorem d_Model_load_0 : decode b_Model_load 0 = .ok (.aload_n 0, 1) := by decide +kernel
theorem d_Model_load_1 : decode b_Model_load 1 = .ok (.getfield 13, 3) := by decide +kernel
theorem d_Model_load_4 : decode b_Model_load 4 = .ok (.istore_n 2, 1) := by decide +kernel
theorem d_Model_load_5 : decode b_Model_load 5 = .ok (.iconst 0, 1) := by decide +kernel
theorem d_Model_load_6 : decode b_Model_load 6 = .ok (.istore_n 3, 1) := by decide +kernel
theorem d_Model_load_7 : decode b_Model_load 7 = .ok (.iload_n 3, 1) := by decide +kernel
theorem d_Model_load_8 : decode b_Model_load 8 = .ok (.aload_n 0, 1) := by decide +kernel
theorem d_Model_load_9 : decode b_Model_load 9 = .ok (.getfield 17, 3) := by decide +kernel
theorem d_Model_load_12 : decode b_Model_load 12 = .ok (.iload_n 1, 1) := by decide +kernel
theorem d_Model_load_13 : decode b_Model_load 13 = .ok (.iaload, 1) := by decide +kernel
theorem d_Model_load_14 : decode b_Model_load 14 = .ok (.if_icmp .ge 27, 3) := by decide +kernel
theorem d_Model_load_17 : decode b_Model_load 17 = .ok (.aload_n 0, 1) := by decide +kernel
theorem d_Model_load_18 : decode b_Model_load 18 = .ok (.getfield 23, 3) := by decide +kernel
theorem d_Model_load_21 : decode b_Model_load 21 = .ok (.iload_n 3, 1) := by decide +kernel
theorem d_Model_load_22 : decode b_Model_load 22 = .ok (.aload_n 0, 1) := by decide +kernel
theorem d_Model_load_23 : decode b_Model_load 23 = .ok (.getfield 20, 3) := by decide +kernel
theorem d_Model_load_26 : decode b_Model_load 26 = .ok (.sipush 2000, 3) := by decide +kernel
theorem d_Model_load_29 : decode b_Model_load 29 = .ok (.iload_n 1, 1) := by decide +kernel
theorem d_Model_load_30 : decode b_Model_load 30 = .ok (.imul, 1) := by decide +kernel
theorem d_Model_load_31 : decode b_Model_load 31 = .ok (.iload_n 3, 1) := by decide +kernel
theorem d_Model_load_32 : decode b_Model_load 32 = .ok (.iadd, 1) := by decide +kernel
theorem d_Model_load_33 : decode b_Model_load 33 = .ok (.iaload, 1) := by decide +kernel
theorem d_Model_load_34 : decode b_Model_load 34 = .ok (.iastore, 1) := by decide +kernel
theorem d_Model_load_35 : decode b_Model_load 35 = .ok (.iinc 3 1, 3) := by decide +kernel
theorem d_Model_load_38 : decode b_Model_load 38 = .ok (.goto (-31), 3) := by decide +kernel
theorem d_Model_load_41 : decode b_Model_load 41 = .ok (.aload_n 0, 1) := by decide +kernel
theorem d_Model_load_42 : decode b_Model_load 42 = .ok (.aload_n 0, 1) := by decide +kernel
theorem d_Model_load_43 : decode b_Model_load 43 = .ok (.getfield 17, 3) := by decide +kernel
theorem d_Model_load_46 : decode b_Model_load 46 = .ok (.iload_n 1, 1) := by decide +kernel
theorem d_Model_load_47 : decode b_Model_load 47 = .ok (.iaload, 1) := by decide +kernel
theorem d_Model_load_48 : decode b_Model_load 48 = .ok (.putfield 134, 3) := by decide +kernel
theorem d_Model_load_51 : decode b_Model_load 51 = .ok (.aload_n 0, 1) := by decide +kernel
theorem d_Model_load_52 : decode b_Model_load 52 = .ok (.aload_n 0, 1) := by decide +kernel
theorem d_Model_load_53 : decode b_Model_load 53 = .ok (.getfield 134, 3) := by decide +kernel
theorem d_Model_load_56 : decode b_Model_load 56 = .ok (.invokevirtual 137, 3) := by decide +kernel
theorem d_Model_load_59 : decode b_Model_load 59 = .ok (.aload_n 0, 1) := by decide +kernel
theorem d_Model_load_60 : decode b_Model_load 60 = .ok (.iload_n 2, 1) := by decide +kernel
theorem d_Model_load_61 : decode b_Model_load 61 = .ok (.putfield 13, 3) := by decide +kernel
theorem d_Model_load_64 : decode b_Model_load 64 = .ok (.return_, 1) := by decide +kernel
theorem d_Model_store_0 : decode b_Model_store 0 = .ok (.iconst 0, 1) := by decide +kernel
theorem d_Model_store_1 : decode b_Model_store 1 = .ok (.istore_n 2, 1) := by decide +kernel
theorem d_Model_store_2 : decode b_Model_store 2 = .ok (.iload_n 2, 1) := by decide +kernel
theorem d_Model_store_3 : decode b_Model_store 3 = .ok (.aload_n 0, 1) := by decide +kernel
theorem d_Model_store_4 : decode b_Model_store 4 = .ok (.getfield 134, 3) := by decide +kernel
theorem d_Model_store_7 : decode b_Model_store 7 = .ok (.if_icmp .ge 27, 3) := by decide +kernel
theorem d_Model_store_10 : decode b_Model_store 10 = .ok (.aload_n 0, 1) := by decide +kernel
theorem d_Model_store_11 : decode b_Model_store 11 = .ok (.getfield 20, 3) := by decide +kernel
theorem d_Model_store_14 : decode b_Model_store 14 = .ok (.sipush 2000, 3) := by decide +kernel
theorem d_Model_store_17 : decode b_Model_store 17 = .ok (.iload_n 1, 1) := by decide +kernel
theorem d_Model_store_18 : decode b_Model_store 18 = .ok (.imul, 1) := by decide +kernel
theorem d_Model_store_19 : decode b_Model_store 19 = .ok (.iload_n 2, 1) := by decide +kernel
theorem d_Model_store_20 : decode b_Model_store 20 = .ok (.iadd, 1) := by decide +kernel
theorem d_Model_store_21 : decode b_Model_store 21 = .ok (.aload_n 0, 1) := by decide +kernel
theorem d_Model_store_22 : decode b_Model_store 22 = .ok (.getfield 23, 3) := by decide +kernel
theorem d_Model_store_25 : decode b_Model_store 25 = .ok (.iload_n 2, 1) := by decide +kernel
theorem d_Model_store_26 : decode b_Model_store 26 = .ok (.iaload, 1) := by decide +kernel
theorem d_Model_store_27 : decode b_Model_store 27 = .ok (.iastore, 1) := by decide +kernel
theorem d_Model_store_28 : decode b_Model_store 28 = .ok (.iinc 2 1, 3) := by decide +kernel
theorem d_Model_store_31 : decode b_Model_store 31 = .ok (.goto (-29), 3) := by decide +kernel
theorem d_Model_store_34 : decode b_Model_store 34 = .ok (.aload_n 0, 1) := by decide +kernel
theorem d_Model_store_35 : decode b_Model_store 35 = .ok (.getfield 17, 3) := by decide +kernel
theorem d_Model_store_38 : decode b_Model_store 38 = .ok (.iload_n 1, 1) := by decide +kernel
theorem d_Model_store_39 : decode b_Model_store 39 = .ok (.aload_n 0, 1) := by decide +kernel
theorem d_Model_store_40 : decode b_Model_store 40 = .ok (.getfield 134, 3) := by decide +kernel
theorem d_Model_store_43 : decode b_Model_store 43 = .ok (.iastore, 1) := by decide +kernel
theorem d_Model_store_44 : decode b_Model_store 44 = .ok (.return_, 1) := by decide +kernel
theorem d_Model_read_0 : decode b_Model_read 0 = .ok (.iload_n 1, 1) := by decide +kernel
theorem d_Model_read_1 : decode b_Model_read 1 = .ok (.invokestatic 140, 3) := by decide +kernel
theorem d_Model_read_4 : decode b_Model_read 4 = .ok (.ifCond .eq 15, 3) := by decide +kernel
theorem d_Model_read_7 : decode b_Model_read 7 = .ok (.iload_n 2, 1) := by decide +kernel
theorem d_Model_read_8 : decode b_Model_read 8 = .ok (.ifCond .lt 11, 3) := by decide +kernel
theorem d_Model_read_11 : decode b_Model_read 11 = .ok (.iload_n 2, 1) := by decide +kernel
theorem d_Model_read_12 : decode b_Model_read 12 = .ok (.aload_n 0, 1) := by decide +kernel
theorem d_Model_read_13 : decode b_Model_read 13 = .ok (.getfield 59, 3) := by decide +kernel
theorem d_Model_read_16 : decode b_Model_read 16 = .ok (.if_icmp .le 5, 3) := by decide +kernel
theorem d_Model_read_19 : decode b_Model_read 19 = .ok (.iconst (-1), 1) := by decide +kernel
theorem d_Model_read_20 : decode b_Model_read 20 = .ok (.ireturn, 1) := by decide +kernel
theorem d_Model_read_21 : decode b_Model_read 21 = .ok (.iconst 0, 1) := by decide +kernel
theorem d_Model_read_22 : decode b_Model_read 22 = .ok (.istore_n 3, 1) := by decide +kernel
theorem d_Model_read_23 : decode b_Model_read 23 = .ok (.iload_n 3, 1) := by decide +kernel
theorem d_Model_read_24 : decode b_Model_read 24 = .ok (.iload_n 2, 1) := by decide +kernel
theorem d_Model_read_25 : decode b_Model_read 25 = .ok (.if_icmp .ge 21, 3) := by decide +kernel
theorem d_Model_read_28 : decode b_Model_read 28 = .ok (.aload_n 0, 1) := by decide +kernel
theorem d_Model_read_29 : decode b_Model_read 29 = .ok (.getfield 23, 3) := by decide +kernel
theorem d_Model_read_32 : decode b_Model_read 32 = .ok (.iload_n 3, 1) := by decide +kernel
theorem d_Model_read_33 : decode b_Model_read 33 = .ok (.aload_n 0, 1) := by decide +kernel
theorem d_Model_read_34 : decode b_Model_read 34 = .ok (.getfield 7, 3) := by decide +kernel
theorem d_Model_read_37 : decode b_Model_read 37 = .ok (.iload_n 3, 1) := by decide +kernel
theorem d_Model_read_38 : decode b_Model_read 38 = .ok (.iaload, 1) := by decide +kernel
theorem d_Model_read_39 : decode b_Model_read 39 = .ok (.iastore, 1) := by decide +kernel
theorem d_Model_read_40 : decode b_Model_read 40 = .ok (.iinc 3 1, 3) := by decide +kernel
theorem d_Model_read_43 : decode b_Model_read 43 = .ok (.goto (-20), 3) := by decide +kernel
theorem d_Model_read_46 : decode b_Model_read 46 = .ok (.aload_n 0, 1) := by decide +kernel
theorem d_Model_read_47 : decode b_Model_read 47 = .ok (.iload_n 2, 1) := by decide +kernel
theorem d_Model_read_48 : decode b_Model_read 48 = .ok (.putfield 134, 3) := by decide +kernel
theorem d_Model_read_51 : decode b_Model_read 51 = .ok (.aload_n 0, 1) := by decide +kernel
theorem d_Model_read_52 : decode b_Model_read 52 = .ok (.iconst 0, 1) := by decide +kernel
theorem d_Model_read_53 : decode b_Model_read 53 = .ok (.putfield 59, 3) := by decide +kernel
theorem d_Model_read_56 : decode b_Model_read 56 = .ok (.aload_n 0, 1) := by decide +kernel
theorem d_Model_read_57 : decode b_Model_read 57 = .ok (.iload_n 2, 1) := by decide +kernel
theorem d_Model_read_58 : decode b_Model_read 58 = .ok (.invokevirtual 137, 3) := by decide +kernel
theorem d_Model_read_61 : decode b_Model_read 61 = .ok (.aload_n 0, 1) := by decide +kernel
theorem d_Model_read_62 : decode b_Model_read 62 = .ok (.getfield 66, 3) := by decide +kernel
theorem d_Model_read_65 : decode b_Model_read 65 = .ok (.ifCond .ne 8, 3) := by decide +kernel
theorem d_Model_read_68 : decode b_Model_read 68 = .ok (.aload_n 0, 1) := by decide +kernel
theorem d_Model_read_69 : decode b_Model_read 69 = .ok (.iload_n 1, 1) := by decide +kernel
theorem d_Model_read_70 : decode b_Model_read 70 = .ok (.invokevirtual 143, 3) := by decide +kernel
theorem d_Model_read_73 : decode b_Model_read 73 = .ok (.aload_n 0, 1) := by decide +kernel
theorem d_Model_read_74 : decode b_Model_read 74 = .ok (.getfield 66, 3) := by decide +kernel
theorem d_Model_read_77 : decode b_Model_read 77 = .ok (.ireturn, 1) := by decide +kernel
theorem d_Model_place_0 : decode b_Model_place 0 = .ok (.aload_n 0, 1) := by decide +kernel
theorem d_Model_place_1 : decode b_Model_place 1 = .ok (.getfield 13, 3) := by decide +kernel
theorem d_Model_place_4 : decode b_Model_place 4 = .ok (.ireturn, 1) := by decide +kernel
theorem d_Model_many_0 : decode b_Model_many 0 = .ok (.iload_n 1, 1) := by decide +kernel
theorem d_Model_many_1 : decode b_Model_many 1 = .ok (.invokestatic 140, 3) := by decide +kernel
theorem d_Model_many_4 : decode b_Model_many 4 = .ok (.ifCond .eq 12, 3) := by decide +kernel
theorem d_Model_many_7 : decode b_Model_many 7 = .ok (.iload_n 2, 1) := by decide +kernel
theorem d_Model_many_8 : decode b_Model_many 8 = .ok (.ifCond .lt 8, 3) := by decide +kernel
theorem d_Model_many_11 : decode b_Model_many 11 = .ok (.iload_n 2, 1) := by decide +kernel
theorem d_Model_many_12 : decode b_Model_many 12 = .ok (.iconst 2, 1) := by decide +kernel
theorem d_Model_many_13 : decode b_Model_many 13 = .ok (.if_icmp .le 5, 3) := by decide +kernel
theorem d_Model_many_16 : decode b_Model_many 16 = .ok (.iconst (-1), 1) := by decide +kernel
theorem d_Model_many_17 : decode b_Model_many 17 = .ok (.ireturn, 1) := by decide +kernel
theorem d_Model_many_18 : decode b_Model_many 18 = .ok (.aload_n 0, 1) := by decide +kernel
theorem d_Model_many_19 : decode b_Model_many 19 = .ok (.iload_n 1, 1) := by decide +kernel
theorem d_Model_many_20 : decode b_Model_many 20 = .ok (.invokevirtual 146, 3) := by decide +kernel
theorem d_Model_many_23 : decode b_Model_many 23 = .ok (.iload_n 2, 1) := by decide +kernel
theorem d_Model_many_24 : decode b_Model_many 24 = .ok (.ifCond .ne 12, 3) := by decide +kernel
theorem d_Model_many_27 : decode b_Model_many 27 = .ok (.aload_n 0, 1) := by decide +kernel
theorem d_Model_many_28 : decode b_Model_many 28 = .ok (.getfield 17, 3) := by decide +kernel
theorem d_Model_many_31 : decode b_Model_many 31 = .ok (.iload_n 1, 1) := by decide +kernel
theorem d_Model_many_32 : decode b_Model_many 32 = .ok (.iaload, 1) := by decide +kernel
theorem d_Model_many_33 : decode b_Model_many 33 = .ok (.goto 19, 3) := by decide +kernel
theorem d_Model_many_36 : decode b_Model_many 36 = .ok (.iload_n 2, 1) := by decide +kernel
theorem d_Model_many_37 : decode b_Model_many 37 = .ok (.iconst 1, 1) := by decide +kernel
theorem d_Model_many_38 : decode b_Model_many 38 = .ok (.if_icmp .ne 10, 3) := by decide +kernel
theorem d_Model_many_41 : decode b_Model_many 41 = .ok (.aload_n 0, 1) := by decide +kernel
theorem d_Model_many_42 : decode b_Model_many 42 = .ok (.getfield 90, 3) := by decide +kernel
theorem d_Model_many_45 : decode b_Model_many 45 = .ok (.goto 7, 3) := by decide +kernel
theorem d_Model_many_48 : decode b_Model_many 48 = .ok (.aload_n 0, 1) := by decide +kernel
theorem d_Model_many_49 : decode b_Model_many 49 = .ok (.getfield 87, 3) := by decide +kernel
theorem d_Model_many_52 : decode b_Model_many 52 = .ok (.ireturn, 1) := by decide +kernel
theorem d_Model_byteAt_0 : decode b_Model_byteAt 0 = .ok (.iload_n 1, 1) := by decide +kernel
theorem d_Model_byteAt_1 : decode b_Model_byteAt 1 = .ok (.invokestatic 140, 3) := by decide +kernel
theorem d_Model_byteAt_4 : decode b_Model_byteAt 4 = .ok (.ifCond .eq 17, 3) := by decide +kernel
theorem d_Model_byteAt_7 : decode b_Model_byteAt 7 = .ok (.iload_n 2, 1) := by decide +kernel
theorem d_Model_byteAt_8 : decode b_Model_byteAt 8 = .ok (.ifCond .lt 13, 3) := by decide +kernel
theorem d_Model_byteAt_11 : decode b_Model_byteAt 11 = .ok (.iload_n 2, 1) := by decide +kernel
theorem d_Model_byteAt_12 : decode b_Model_byteAt 12 = .ok (.aload_n 0, 1) := by decide +kernel
theorem d_Model_byteAt_13 : decode b_Model_byteAt 13 = .ok (.getfield 17, 3) := by decide +kernel
theorem d_Model_byteAt_16 : decode b_Model_byteAt 16 = .ok (.iload_n 1, 1) := by decide +kernel
theorem d_Model_byteAt_17 : decode b_Model_byteAt 17 = .ok (.iaload, 1) := by decide +kernel
theorem d_Model_byteAt_18 : decode b_Model_byteAt 18 = .ok (.if_icmp .lt 7, 3) := by decide +kernel
theorem d_Model_byteAt_21 : decode b_Model_byteAt 21 = .ok (.iconst (-1), 1) := by decide +kernel
theorem d_Model_byteAt_22 : decode b_Model_byteAt 22 = .ok (.goto 15, 3) := by decide +kernel
theorem d_Model_byteAt_25 : decode b_Model_byteAt 25 = .ok (.aload_n 0, 1) := by decide +kernel
theorem d_Model_byteAt_26 : decode b_Model_byteAt 26 = .ok (.getfield 20, 3) := by decide +kernel
theorem d_Model_byteAt_29 : decode b_Model_byteAt 29 = .ok (.sipush 2000, 3) := by decide +kernel
theorem d_Model_byteAt_32 : decode b_Model_byteAt 32 = .ok (.iload_n 1, 1) := by decide +kernel
theorem d_Model_byteAt_33 : decode b_Model_byteAt 33 = .ok (.imul, 1) := by decide +kernel
theorem d_Model_byteAt_34 : decode b_Model_byteAt 34 = .ok (.iload_n 2, 1) := by decide +kernel
theorem d_Model_byteAt_35 : decode b_Model_byteAt 35 = .ok (.iadd, 1) := by decide +kernel
theorem d_Model_byteAt_36 : decode b_Model_byteAt 36 = .ok (.iaload, 1) := by decide +kernel
theorem d_Model_byteAt_37 : decode b_Model_byteAt 37 = .ok (.ireturn, 1) := by decide +kernel
theorem d_Model_isNode_0 : decode b_Model_isNode 0 = .ok (.iload_n 1, 1) := by decide +kernel
theorem d_Model_isNode_1 : decode b_Model_isNode 1 = .ok (.invokestatic 140, 3) := by decide +kernel
theorem d_Model_isNode_4 : decode b_Model_isNode 4 = .ok (.ifCond .ne 5, 3) := by decide +kernel
theorem d_Model_isNode_7 : decode b_Model_isNode 7 = .ok (.iconst 0, 1) := by decide +kernel
theorem d_Model_isNode_8 : decode b_Model_isNode 8 = .ok (.ireturn, 1) := by decide +kernel
theorem d_Model_isNode_9 : decode b_Model_isNode 9 = .ok (.aload_n 0, 1) := by decide +kernel
theorem d_Model_isNode_10 : decode b_Model_isNode 10 = .ok (.iload_n 1, 1) := by decide +kernel
theorem d_Model_isNode_11 : decode b_Model_isNode 11 = .ok (.invokevirtual 146, 3) := by decide +kernel
theorem d_Model_isNode_14 : decode b_Model_isNode 14 = .ok (.iload_n 2, 1) := by decide +kernel
theorem d_Model_isNode_15 : decode b_Model_isNode 15 = .ok (.ifCond .lt 15, 3) := by decide +kernel
theorem d_Model_isNode_18 : decode b_Model_isNode 18 = .ok (.iload_n 2, 1) := by decide +kernel
theorem d_Model_isNode_19 : decode b_Model_isNode 19 = .ok (.aload_n 0, 1) := by decide +kernel
theorem d_Model_isNode_20 : decode b_Model_isNode 20 = .ok (.getfield 90, 3) := by decide +kernel
theorem d_Model_isNode_23 : decode b_Model_isNode 23 = .ok (.if_icmp .ge 7, 3) := by decide +kernel
theorem d_Model_isNode_26 : decode b_Model_isNode 26 = .ok (.iconst 1, 1) := by decide +kernel
theorem d_Model_isNode_27 : decode b_Model_isNode 27 = .ok (.goto 4, 3) := by decide +kernel
theorem d_Model_isNode_30 : decode b_Model_isNode 30 = .ok (.iconst 0, 1) := by decide +kernel
theorem d_Model_isNode_31 : decode b_Model_isNode 31 = .ok (.ireturn, 1) := by decide +kernel
theorem d_Model_kindOf_0 : decode b_Model_kindOf 0 = .ok (.iload_n 1, 1) := by decide +kernel
theorem d_Model_kindOf_1 : decode b_Model_kindOf 1 = .ok (.ifCond .ne 7, 3) := by decide +kernel
theorem d_Model_kindOf_4 : decode b_Model_kindOf 4 = .ok (.iconst 3, 1) := by decide +kernel
theorem d_Model_kindOf_5 : decode b_Model_kindOf 5 = .ok (.goto 14, 3) := by decide +kernel
theorem d_Model_kindOf_8 : decode b_Model_kindOf 8 = .ok (.aload_n 0, 1) := by decide +kernel
theorem d_Model_kindOf_9 : decode b_Model_kindOf 9 = .ok (.getfield 23, 3) := by decide +kernel
theorem d_Model_kindOf_12 : decode b_Model_kindOf 12 = .ok (.aload_n 0, 1) := by decide +kernel
theorem d_Model_kindOf_13 : decode b_Model_kindOf 13 = .ok (.getfield 29, 3) := by decide +kernel
theorem d_Model_kindOf_16 : decode b_Model_kindOf 16 = .ok (.iload_n 1, 1) := by decide +kernel
theorem d_Model_kindOf_17 : decode b_Model_kindOf 17 = .ok (.iaload, 1) := by decide +kernel
theorem d_Model_kindOf_18 : decode b_Model_kindOf 18 = .ok (.iaload, 1) := by decide +kernel
theorem d_Model_kindOf_19 : decode b_Model_kindOf 19 = .ok (.ireturn, 1) := by decide +kernel
theorem d_Model_isBox_0 : decode b_Model_isBox 0 = .ok (.aload_n 0, 1) := by decide +kernel
theorem d_Model_isBox_1 : decode b_Model_isBox 1 = .ok (.iload_n 1, 1) := by decide +kernel
theorem d_Model_isBox_2 : decode b_Model_isBox 2 = .ok (.invokevirtual 149, 3) := by decide +kernel
theorem d_Model_isBox_5 : decode b_Model_isBox 5 = .ok (.iconst 3, 1) := by decide +kernel
theorem d_Model_isBox_6 : decode b_Model_isBox 6 = .ok (.if_icmp .eq 12, 3) := by decide +kernel
theorem d_Model_isBox_9 : decode b_Model_isBox 9 = .ok (.aload_n 0, 1) := by decide +kernel
theorem d_Model_isBox_10 : decode b_Model_isBox 10 = .ok (.iload_n 1, 1) := by decide +kernel
theorem d_Model_isBox_11 : decode b_Model_isBox 11 = .ok (.invokevirtual 149, 3) := by decide +kernel
theorem d_Model_isBox_14 : decode b_Model_isBox 14 = .ok (.iconst 4, 1) := by decide +kernel
theorem d_Model_isBox_15 : decode b_Model_isBox 15 = .ok (.if_icmp .ne 7, 3) := by decide +kernel
theorem d_Model_isBox_18 : decode b_Model_isBox 18 = .ok (.iconst 1, 1) := by decide +kernel
theorem d_Model_isBox_19 : decode b_Model_isBox 19 = .ok (.goto 4, 3) := by decide +kernel
theorem d_Model_isBox_22 : decode b_Model_isBox 22 = .ok (.iconst 0, 1) := by decide +kernel
theorem d_Model_isBox_23 : decode b_Model_isBox 23 = .ok (.ireturn, 1) := by decide +kernel
theorem d_Model_valueAt_0 : decode b_Model_valueAt 0 = .ok (.iload_n 1, 1) := by decide +kernel
theorem d_Model_valueAt_1 : decode b_Model_valueAt 1 = .ok (.ifCond .ne 7, 3) := by decide +kernel
theorem d_Model_valueAt_4 : decode b_Model_valueAt 4 = .ok (.iconst 0, 1) := by decide +kernel
theorem d_Model_valueAt_5 : decode b_Model_valueAt 5 = .ok (.goto 11, 3) := by decide +kernel
theorem d_Model_valueAt_8 : decode b_Model_valueAt 8 = .ok (.aload_n 0, 1) := by decide +kernel
theorem d_Model_valueAt_9 : decode b_Model_valueAt 9 = .ok (.getfield 32, 3) := by decide +kernel
theorem d_Model_valueAt_12 : decode b_Model_valueAt 12 = .ok (.iload_n 1, 1) := by decide +kernel
theorem d_Model_valueAt_13 : decode b_Model_valueAt 13 = .ok (.iaload, 1) := by decide +kernel
theorem d_Model_valueAt_14 : decode b_Model_valueAt 14 = .ok (.iconst 1, 1) := by decide +kernel
theorem d_Model_valueAt_15 : decode b_Model_valueAt 15 = .ok (.iadd, 1) := by decide +kernel
theorem d_Model_valueAt_16 : decode b_Model_valueAt 16 = .ok (.ireturn, 1) := by decide +kernel
theorem d_Model_nextIn_0 : decode b_Model_nextIn 0 = .ok (.iload_n 2, 1) := by decide +kernel
theorem d_Model_nextIn_1 : decode b_Model_nextIn 1 = .ok (.istore_n 3, 1) := by decide +kernel
theorem d_Model_nextIn_2 : decode b_Model_nextIn 2 = .ok (.iload_n 3, 1) := by decide +kernel
theorem d_Model_nextIn_3 : decode b_Model_nextIn 3 = .ok (.aload_n 0, 1) := by decide +kernel
theorem d_Model_nextIn_4 : decode b_Model_nextIn 4 = .ok (.getfield 90, 3) := by decide +kernel
theorem d_Model_nextIn_7 : decode b_Model_nextIn 7 = .ok (.if_icmp .ge 21, 3) := by decide +kernel
theorem d_Model_nextIn_10 : decode b_Model_nextIn 10 = .ok (.aload_n 0, 1) := by decide +kernel
theorem d_Model_nextIn_11 : decode b_Model_nextIn 11 = .ok (.getfield 26, 3) := by decide +kernel
theorem d_Model_nextIn_14 : decode b_Model_nextIn 14 = .ok (.iload_n 3, 1) := by decide +kernel
theorem d_Model_nextIn_15 : decode b_Model_nextIn 15 = .ok (.iaload, 1) := by decide +kernel
theorem d_Model_nextIn_16 : decode b_Model_nextIn 16 = .ok (.iload_n 1, 1) := by decide +kernel
theorem d_Model_nextIn_17 : decode b_Model_nextIn 17 = .ok (.if_icmp .ne 5, 3) := by decide +kernel
theorem d_Model_nextIn_20 : decode b_Model_nextIn 20 = .ok (.iload_n 3, 1) := by decide +kernel
theorem d_Model_nextIn_21 : decode b_Model_nextIn 21 = .ok (.ireturn, 1) := by decide +kernel
theorem d_Model_nextIn_22 : decode b_Model_nextIn 22 = .ok (.iinc 3 1, 3) := by decide +kernel
theorem d_Model_nextIn_25 : decode b_Model_nextIn 25 = .ok (.goto (-23), 3) := by decide +kernel
theorem d_Model_nextIn_28 : decode b_Model_nextIn 28 = .ok (.iconst (-1), 1) := by decide +kernel
theorem d_Model_nextIn_29 : decode b_Model_nextIn 29 = .ok (.ireturn, 1) := by decide +kernel
theorem d_Model_elements_0 : decode b_Model_elements 0 = .ok (.iconst 0, 1) := by decide +kernel
theorem d_Model_elements_1 : decode b_Model_elements 1 = .ok (.istore_n 2, 1) := by decide +kernel
theorem d_Model_elements_2 : decode b_Model_elements 2 = .ok (.iconst 1, 1) := by decide +kernel
theorem d_Model_elements_3 : decode b_Model_elements 3 = .ok (.istore_n 3, 1) := by decide +kernel
theorem d_Model_elements_4 : decode b_Model_elements 4 = .ok (.iload_n 3, 1) := by decide +kernel
theorem d_Model_elements_5 : decode b_Model_elements 5 = .ok (.aload_n 0, 1) := by decide +kernel
theorem d_Model_elements_6 : decode b_Model_elements 6 = .ok (.getfield 90, 3) := by decide +kernel
theorem d_Model_elements_9 : decode b_Model_elements 9 = .ok (.if_icmp .ge 27, 3) := by decide +kernel
theorem d_Model_elements_12 : decode b_Model_elements 12 = .ok (.iload_n 2, 1) := by decide +kernel
theorem d_Model_elements_13 : decode b_Model_elements 13 = .ok (.aload_n 0, 1) := by decide +kernel
theorem d_Model_elements_14 : decode b_Model_elements 14 = .ok (.getfield 26, 3) := by decide +kernel
theorem d_Model_elements_17 : decode b_Model_elements 17 = .ok (.iload_n 3, 1) := by decide +kernel
theorem d_Model_elements_18 : decode b_Model_elements 18 = .ok (.iaload, 1) := by decide +kernel
theorem d_Model_elements_19 : decode b_Model_elements 19 = .ok (.iload_n 1, 1) := by decide +kernel
theorem d_Model_elements_20 : decode b_Model_elements 20 = .ok (.if_icmp .ne 7, 3) := by decide +kernel
theorem d_Model_elements_23 : decode b_Model_elements 23 = .ok (.iconst 1, 1) := by decide +kernel
theorem d_Model_elements_24 : decode b_Model_elements 24 = .ok (.goto 4, 3) := by decide +kernel
theorem d_Model_elements_27 : decode b_Model_elements 27 = .ok (.iconst 0, 1) := by decide +kernel
theorem d_Model_elements_28 : decode b_Model_elements 28 = .ok (.iadd, 1) := by decide +kernel
theorem d_Model_elements_29 : decode b_Model_elements 29 = .ok (.istore_n 2, 1) := by decide +kernel
theorem d_Model_elements_30 : decode b_Model_elements 30 = .ok (.iinc 3 1, 3) := by decide +kernel
theorem d_Model_elements_33 : decode b_Model_elements 33 = .ok (.goto (-29), 3) := by decide +kernel
theorem d_Model_elements_36 : decode b_Model_elements 36 = .ok (.iload_n 2, 1) := by decide +kernel
theorem d_Model_elements_37 : decode b_Model_elements 37 = .ok (.ireturn, 1) := by decide +kernel
theorem d_Model_look_0 : decode b_Model_look 0 = .ok (.aload_n 0, 1) := by decide +kernel
theorem d_Model_look_1 : decode b_Model_look 1 = .ok (.iload_n 1, 1) := by decide +kernel
theorem d_Model_look_2 : decode b_Model_look 2 = .ok (.iload_n 2, 1) := by decide +kernel
theorem d_Model_look_3 : decode b_Model_look 3 = .ok (.invokevirtual 152, 3) := by decide +kernel
theorem d_Model_look_6 : decode b_Model_look 6 = .ok (.ifCond .ne 5, 3) := by decide +kernel
theorem d_Model_look_9 : decode b_Model_look 9 = .ok (.iconst (-1), 1) := by decide +kernel
theorem d_Model_look_10 : decode b_Model_look 10 = .ok (.ireturn, 1) := by decide +kernel
theorem d_Model_look_11 : decode b_Model_look 11 = .ok (.iload_n 3, 1) := by decide +kernel
theorem d_Model_look_12 : decode b_Model_look 12 = .ok (.tableswitch 184 0 8 #[52, 58, 65, 72, 94, 118, 131, 159, 177], 52) := by decide +kernel
theorem d_Model_look_64 : decode b_Model_look 64 = .ok (.aload_n 0, 1) := by decide +kernel
theorem d_Model_look_65 : decode b_Model_look 65 = .ok (.iload_n 2, 1) := by decide +kernel
theorem d_Model_look_66 : decode b_Model_look 66 = .ok (.invokevirtual 149, 3) := by decide +kernel
theorem d_Model_look_69 : decode b_Model_look 69 = .ok (.ireturn, 1) := by decide +kernel
theorem d_Model_look_70 : decode b_Model_look 70 = .ok (.aload_n 0, 1) := by decide +kernel
theorem d_Model_look_71 : decode b_Model_look 71 = .ok (.getfield 26, 3) := by decide +kernel
theorem d_Model_look_74 : decode b_Model_look 74 = .ok (.iload_n 2, 1) := by decide +kernel
theorem d_Model_look_75 : decode b_Model_look 75 = .ok (.iaload, 1) := by decide +kernel
theorem d_Model_look_76 : decode b_Model_look 76 = .ok (.ireturn, 1) := by decide +kernel
theorem d_Model_look_77 : decode b_Model_look 77 = .ok (.aload_n 0, 1) := by decide +kernel
theorem d_Model_look_78 : decode b_Model_look 78 = .ok (.iload_n 2, 1) := by decide +kernel
theorem d_Model_look_79 : decode b_Model_look 79 = .ok (.iconst 1, 1) := by decide +kernel
theorem d_Model_look_80 : decode b_Model_look 80 = .ok (.invokevirtual 156, 3) := by decide +kernel
theorem d_Model_look_83 : decode b_Model_look 83 = .ok (.ireturn, 1) := by decide +kernel
theorem d_Model_look_84 : decode b_Model_look 84 = .ok (.iload_n 2, 1) := by decide +kernel
theorem d_Model_look_85 : decode b_Model_look 85 = .ok (.ifCond .ne 7, 3) := by decide +kernel
theorem d_Model_look_88 : decode b_Model_look 88 = .ok (.iconst (-1), 1) := by decide +kernel
theorem d_Model_look_89 : decode b_Model_look 89 = .ok (.goto 16, 3) := by decide +kernel
theorem d_Model_look_92 : decode b_Model_look 92 = .ok (.aload_n 0, 1) := by decide +kernel
theorem d_Model_look_93 : decode b_Model_look 93 = .ok (.aload_n 0, 1) := by decide +kernel
theorem d_Model_look_94 : decode b_Model_look 94 = .ok (.getfield 26, 3) := by decide +kernel
theorem d_Model_look_97 : decode b_Model_look 97 = .ok (.iload_n 2, 1) := by decide +kernel
theorem d_Model_look_98 : decode b_Model_look 98 = .ok (.iaload, 1) := by decide +kernel
theorem d_Model_look_99 : decode b_Model_look 99 = .ok (.iload_n 2, 1) := by decide +kernel
theorem d_Model_look_100 : decode b_Model_look 100 = .ok (.iconst 1, 1) := by decide +kernel
theorem d_Model_look_101 : decode b_Model_look 101 = .ok (.iadd, 1) := by decide +kernel
theorem d_Model_look_102 : decode b_Model_look 102 = .ok (.invokevirtual 156, 3) := by decide +kernel
theorem d_Model_look_105 : decode b_Model_look 105 = .ok (.ireturn, 1) := by decide +kernel
theorem d_Model_look_106 : decode b_Model_look 106 = .ok (.iload_n 2, 1) := by decide +kernel
theorem d_Model_look_107 : decode b_Model_look 107 = .ok (.ifCond .ne 7, 3) := by decide +kernel
theorem d_Model_look_110 : decode b_Model_look 110 = .ok (.iconst 0, 1) := by decide +kernel
theorem d_Model_look_111 : decode b_Model_look 111 = .ok (.goto 18, 3) := by decide +kernel
theorem d_Model_look_114 : decode b_Model_look 114 = .ok (.aload_n 0, 1) := by decide +kernel
theorem d_Model_look_115 : decode b_Model_look 115 = .ok (.getfield 32, 3) := by decide +kernel
theorem d_Model_look_118 : decode b_Model_look 118 = .ok (.iload_n 2, 1) := by decide +kernel
theorem d_Model_look_119 : decode b_Model_look 119 = .ok (.iaload, 1) := by decide +kernel
theorem d_Model_look_120 : decode b_Model_look 120 = .ok (.aload_n 0, 1) := by decide +kernel
theorem d_Model_look_121 : decode b_Model_look 121 = .ok (.getfield 29, 3) := by decide +kernel
theorem d_Model_look_124 : decode b_Model_look 124 = .ok (.iload_n 2, 1) := by decide +kernel
theorem d_Model_look_125 : decode b_Model_look 125 = .ok (.iaload, 1) := by decide +kernel
theorem d_Model_look_126 : decode b_Model_look 126 = .ok (.isub, 1) := by decide +kernel
theorem d_Model_look_127 : decode b_Model_look 127 = .ok (.iconst 1, 1) := by decide +kernel
theorem d_Model_look_128 : decode b_Model_look 128 = .ok (.isub, 1) := by decide +kernel
theorem d_Model_look_129 : decode b_Model_look 129 = .ok (.ireturn, 1) := by decide +kernel
theorem d_Model_look_130 : decode b_Model_look 130 = .ok (.aload_n 0, 1) := by decide +kernel
theorem d_Model_look_131 : decode b_Model_look 131 = .ok (.getfield 35, 3) := by decide +kernel
theorem d_Model_look_134 : decode b_Model_look 134 = .ok (.iload_n 2, 1) := by decide +kernel
theorem d_Model_look_135 : decode b_Model_look 135 = .ok (.iaload, 1) := by decide +kernel
theorem d_Model_look_136 : decode b_Model_look 136 = .ok (.aload_n 0, 1) := by decide +kernel
theorem d_Model_look_137 : decode b_Model_look 137 = .ok (.iload_n 2, 1) := by decide +kernel
theorem d_Model_look_138 : decode b_Model_look 138 = .ok (.invokevirtual 159, 3) := by decide +kernel
theorem d_Model_look_141 : decode b_Model_look 141 = .ok (.isub, 1) := by decide +kernel
theorem d_Model_look_142 : decode b_Model_look 142 = .ok (.ireturn, 1) := by decide +kernel
theorem d_Model_look_143 : decode b_Model_look 143 = .ok (.aload_n 0, 1) := by decide +kernel
theorem d_Model_look_144 : decode b_Model_look 144 = .ok (.iload_n 2, 1) := by decide +kernel
theorem d_Model_look_145 : decode b_Model_look 145 = .ok (.invokevirtual 149, 3) := by decide +kernel
theorem d_Model_look_148 : decode b_Model_look 148 = .ok (.iconst 2, 1) := by decide +kernel
theorem d_Model_look_149 : decode b_Model_look 149 = .ok (.if_icmp .ne 20, 3) := by decide +kernel
theorem d_Model_look_152 : decode b_Model_look 152 = .ok (.aload_n 0, 1) := by decide +kernel
theorem d_Model_look_153 : decode b_Model_look 153 = .ok (.getfield 35, 3) := by decide +kernel
theorem d_Model_look_156 : decode b_Model_look 156 = .ok (.iload_n 2, 1) := by decide +kernel
theorem d_Model_look_157 : decode b_Model_look 157 = .ok (.iaload, 1) := by decide +kernel
theorem d_Model_look_158 : decode b_Model_look 158 = .ok (.aload_n 0, 1) := by decide +kernel
theorem d_Model_look_159 : decode b_Model_look 159 = .ok (.iload_n 2, 1) := by decide +kernel
theorem d_Model_look_160 : decode b_Model_look 160 = .ok (.invokevirtual 159, 3) := by decide +kernel
theorem d_Model_look_163 : decode b_Model_look 163 = .ok (.isub, 1) := by decide +kernel
theorem d_Model_look_164 : decode b_Model_look 164 = .ok (.iconst 5, 1) := by decide +kernel
theorem d_Model_look_165 : decode b_Model_look 165 = .ok (.isub, 1) := by decide +kernel
theorem d_Model_look_166 : decode b_Model_look 166 = .ok (.goto 4, 3) := by decide +kernel
theorem d_Model_look_169 : decode b_Model_look 169 = .ok (.iconst 0, 1) := by decide +kernel
theorem d_Model_look_170 : decode b_Model_look 170 = .ok (.ireturn, 1) := by decide +kernel
theorem d_Model_look_171 : decode b_Model_look 171 = .ok (.aload_n 0, 1) := by decide +kernel
theorem d_Model_look_172 : decode b_Model_look 172 = .ok (.iload_n 2, 1) := by decide +kernel
theorem d_Model_look_173 : decode b_Model_look 173 = .ok (.invokevirtual 162, 3) := by decide +kernel
theorem d_Model_look_176 : decode b_Model_look 176 = .ok (.ifCond .eq 11, 3) := by decide +kernel
theorem d_Model_look_179 : decode b_Model_look 179 = .ok (.aload_n 0, 1) := by decide +kernel
theorem d_Model_look_180 : decode b_Model_look 180 = .ok (.iload_n 2, 1) := by decide +kernel
theorem d_Model_look_181 : decode b_Model_look 181 = .ok (.invokevirtual 165, 3) := by decide +kernel
theorem d_Model_look_184 : decode b_Model_look 184 = .ok (.goto 4, 3) := by decide +kernel
theorem d_Model_look_187 : decode b_Model_look 187 = .ok (.iconst 0, 1) := by decide +kernel
theorem d_Model_look_188 : decode b_Model_look 188 = .ok (.ireturn, 1) := by decide +kernel
theorem d_Model_look_189 : decode b_Model_look 189 = .ok (.aload_n 0, 1) := by decide +kernel
theorem d_Model_look_190 : decode b_Model_look 190 = .ok (.getfield 38, 3) := by decide +kernel
theorem d_Model_look_193 : decode b_Model_look 193 = .ok (.iload_n 2, 1) := by decide +kernel
theorem d_Model_look_194 : decode b_Model_look 194 = .ok (.iaload, 1) := by decide +kernel
theorem d_Model_look_195 : decode b_Model_look 195 = .ok (.ireturn, 1) := by decide +kernel
theorem d_Model_look_196 : decode b_Model_look 196 = .ok (.iconst (-1), 1) := by decide +kernel
theorem d_Model_look_197 : decode b_Model_look 197 = .ok (.ireturn, 1) := by decide +kernel
theorem d_Model_numberOf_0 : decode b_Model_numberOf 0 = .ok (.aload_n 0, 1) := by decide +kernel
theorem d_Model_numberOf_1 : decode b_Model_numberOf 1 = .ok (.iload_n 1, 1) := by decide +kernel
theorem d_Model_numberOf_2 : decode b_Model_numberOf 2 = .ok (.invokevirtual 159, 3) := by decide +kernel
theorem d_Model_numberOf_5 : decode b_Model_numberOf 5 = .ok (.istore_n 2, 1) := by decide +kernel
theorem d_Model_numberOf_6 : decode b_Model_numberOf 6 = .ok (.aload_n 0, 1) := by decide +kernel
theorem d_Model_numberOf_7 : decode b_Model_numberOf 7 = .ok (.iload_n 1, 1) := by decide +kernel
theorem d_Model_numberOf_8 : decode b_Model_numberOf 8 = .ok (.invokevirtual 149, 3) := by decide +kernel
theorem d_Model_numberOf_11 : decode b_Model_numberOf 11 = .ok (.lookupswitch 58 #[(8, 50), (16, 33), (18, 42)], 33) := by decide +kernel
theorem d_Model_numberOf_44 : decode b_Model_numberOf 44 = .ok (.aload_n 0, 1) := by decide +kernel
theorem d_Model_numberOf_45 : decode b_Model_numberOf 45 = .ok (.iload_n 2, 1) := by decide +kernel
theorem d_Model_numberOf_46 : decode b_Model_numberOf 46 = .ok (.iconst 4, 1) := by decide +kernel
theorem d_Model_numberOf_47 : decode b_Model_numberOf 47 = .ok (.invokevirtual 81, 3) := by decide +kernel
theorem d_Model_numberOf_50 : decode b_Model_numberOf 50 = .ok (.l2i, 1) := by decide +kernel
theorem d_Model_numberOf_51 : decode b_Model_numberOf 51 = .ok (.i2l, 1) := by decide +kernel
theorem d_Model_numberOf_52 : decode b_Model_numberOf 52 = .ok (.lreturn, 1) := by decide +kernel
theorem d_Model_numberOf_53 : decode b_Model_numberOf 53 = .ok (.aload_n 0, 1) := by decide +kernel
theorem d_Model_numberOf_54 : decode b_Model_numberOf 54 = .ok (.iload_n 2, 1) := by decide +kernel
theorem d_Model_numberOf_55 : decode b_Model_numberOf 55 = .ok (.bipush 8, 2) := by decide +kernel
theorem d_Model_numberOf_57 : decode b_Model_numberOf 57 = .ok (.invokevirtual 81, 3) := by decide +kernel
theorem d_Model_numberOf_60 : decode b_Model_numberOf 60 = .ok (.lreturn, 1) := by decide +kernel
theorem d_Model_numberOf_61 : decode b_Model_numberOf 61 = .ok (.aload_n 0, 1) := by decide +kernel
theorem d_Model_numberOf_62 : decode b_Model_numberOf 62 = .ok (.getfield 23, 3) := by decide +kernel
theorem d_Model_numberOf_65 : decode b_Model_numberOf 65 = .ok (.iload_n 2, 1) := by decide +kernel
theorem d_Model_numberOf_66 : decode b_Model_numberOf 66 = .ok (.iaload, 1) := by decide +kernel
theorem d_Model_numberOf_67 : decode b_Model_numberOf 67 = .ok (.i2l, 1) := by decide +kernel
theorem d_Model_numberOf_68 : decode b_Model_numberOf 68 = .ok (.lreturn, 1) := by decide +kernel
theorem d_Model_numberOf_69 : decode b_Model_numberOf 69 = .ok (.lconst 0, 1) := by decide +kernel
theorem d_Model_numberOf_70 : decode b_Model_numberOf 70 = .ok (.lreturn, 1) := by decide +kernel
theorem d_Model_number_0 : decode b_Model_number 0 = .ok (.aload_n 0, 1) := by decide +kernel
theorem d_Model_number_1 : decode b_Model_number 1 = .ok (.iload_n 1, 1) := by decide +kernel
theorem d_Model_number_2 : decode b_Model_number 2 = .ok (.iload_n 2, 1) := by decide +kernel
theorem d_Model_number_3 : decode b_Model_number 3 = .ok (.invokevirtual 152, 3) := by decide +kernel
theorem d_Model_number_6 : decode b_Model_number 6 = .ok (.ifCond .eq 11, 3) := by decide +kernel
theorem d_Model_number_9 : decode b_Model_number 9 = .ok (.aload_n 0, 1) := by decide +kernel
theorem d_Model_number_10 : decode b_Model_number 10 = .ok (.iload_n 2, 1) := by decide +kernel
theorem d_Model_number_11 : decode b_Model_number 11 = .ok (.invokevirtual 168, 3) := by decide +kernel
theorem d_Model_number_14 : decode b_Model_number 14 = .ok (.goto 4, 3) := by decide +kernel
theorem d_Model_number_17 : decode b_Model_number 17 = .ok (.lconst 0, 1) := by decide +kernel
theorem d_Model_number_18 : decode b_Model_number 18 = .ok (.lreturn, 1) := by decide +kernel
theorem d_Model_letter_0 : decode b_Model_letter 0 = .ok (.aload_n 0, 1) := by decide +kernel
theorem d_Model_letter_1 : decode b_Model_letter 1 = .ok (.iload_n 1, 1) := by decide +kernel
theorem d_Model_letter_2 : decode b_Model_letter 2 = .ok (.iload_n 2, 1) := by decide +kernel
theorem d_Model_letter_3 : decode b_Model_letter 3 = .ok (.invokevirtual 152, 3) := by decide +kernel
theorem d_Model_letter_6 : decode b_Model_letter 6 = .ok (.ifCond .eq 8, 3) := by decide +kernel
theorem d_Model_letter_9 : decode b_Model_letter 9 = .ok (.iload 4, 2) := by decide +kernel
theorem d_Model_letter_11 : decode b_Model_letter 11 = .ok (.ifCond .ge 5, 3) := by decide +kernel
theorem d_Model_letter_14 : decode b_Model_letter 14 = .ok (.iconst (-1), 1) := by decide +kernel
theorem d_Model_letter_15 : decode b_Model_letter 15 = .ok (.ireturn, 1) := by decide +kernel
theorem d_Model_letter_16 : decode b_Model_letter 16 = .ok (.iload_n 3, 1) := by decide +kernel
theorem d_Model_letter_17 : decode b_Model_letter 17 = .ok (.ifCond .eq 51, 3) := by decide +kernel
theorem d_Model_letter_20 : decode b_Model_letter 20 = .ok (.aload_n 0, 1) := by decide +kernel
theorem d_Model_letter_21 : decode b_Model_letter 21 = .ok (.iload_n 2, 1) := by decide +kernel
theorem d_Model_letter_22 : decode b_Model_letter 22 = .ok (.invokevirtual 149, 3) := by decide +kernel
theorem d_Model_letter_25 : decode b_Model_letter 25 = .ok (.iconst 2, 1) := by decide +kernel
theorem d_Model_letter_26 : decode b_Model_letter 26 = .ok (.if_icmp .ne 40, 3) := by decide +kernel
theorem d_Model_letter_29 : decode b_Model_letter 29 = .ok (.iload 4, 2) := by decide +kernel
theorem d_Model_letter_31 : decode b_Model_letter 31 = .ok (.aload_n 0, 1) := by decide +kernel
theorem d_Model_letter_32 : decode b_Model_letter 32 = .ok (.getfield 35, 3) := by decide +kernel
theorem d_Model_letter_35 : decode b_Model_letter 35 = .ok (.iload_n 2, 1) := by decide +kernel
theorem d_Model_letter_36 : decode b_Model_letter 36 = .ok (.iaload, 1) := by decide +kernel
theorem d_Model_letter_37 : decode b_Model_letter 37 = .ok (.aload_n 0, 1) := by decide +kernel
theorem d_Model_letter_38 : decode b_Model_letter 38 = .ok (.iload_n 2, 1) := by decide +kernel
theorem d_Model_letter_39 : decode b_Model_letter 39 = .ok (.invokevirtual 159, 3) := by decide +kernel
theorem d_Model_letter_42 : decode b_Model_letter 42 = .ok (.isub, 1) := by decide +kernel
theorem d_Model_letter_43 : decode b_Model_letter 43 = .ok (.iconst 5, 1) := by decide +kernel
theorem d_Model_letter_44 : decode b_Model_letter 44 = .ok (.isub, 1) := by decide +kernel
theorem d_Model_letter_45 : decode b_Model_letter 45 = .ok (.if_icmp .ge 21, 3) := by decide +kernel
theorem d_Model_letter_48 : decode b_Model_letter 48 = .ok (.aload_n 0, 1) := by decide +kernel
theorem d_Model_letter_49 : decode b_Model_letter 49 = .ok (.getfield 23, 3) := by decide +kernel
theorem d_Model_letter_52 : decode b_Model_letter 52 = .ok (.aload_n 0, 1) := by decide +kernel
theorem d_Model_letter_53 : decode b_Model_letter 53 = .ok (.iload_n 2, 1) := by decide +kernel
theorem d_Model_letter_54 : decode b_Model_letter 54 = .ok (.invokevirtual 159, 3) := by decide +kernel
theorem d_Model_letter_57 : decode b_Model_letter 57 = .ok (.iconst 4, 1) := by decide +kernel
theorem d_Model_letter_58 : decode b_Model_letter 58 = .ok (.iadd, 1) := by decide +kernel
theorem d_Model_letter_59 : decode b_Model_letter 59 = .ok (.iload 4, 2) := by decide +kernel
theorem d_Model_letter_61 : decode b_Model_letter 61 = .ok (.iadd, 1) := by decide +kernel
theorem d_Model_letter_62 : decode b_Model_letter 62 = .ok (.iaload, 1) := by decide +kernel
theorem d_Model_letter_63 : decode b_Model_letter 63 = .ok (.goto 4, 3) := by decide +kernel
theorem d_Model_letter_66 : decode b_Model_letter 66 = .ok (.iconst (-1), 1) := by decide +kernel
theorem d_Model_letter_67 : decode b_Model_letter 67 = .ok (.ireturn, 1) := by decide +kernel
theorem d_Model_letter_68 : decode b_Model_letter 68 = .ok (.iload_n 2, 1) := by decide +kernel
theorem d_Model_letter_69 : decode b_Model_letter 69 = .ok (.ifCond .le 42, 3) := by decide +kernel
theorem d_Model_letter_72 : decode b_Model_letter 72 = .ok (.iload 4, 2) := by decide +kernel
theorem d_Model_letter_74 : decode b_Model_letter 74 = .ok (.aload_n 0, 1) := by decide +kernel
theorem d_Model_letter_75 : decode b_Model_letter 75 = .ok (.getfield 32, 3) := by decide +kernel
theorem d_Model_letter_78 : decode b_Model_letter 78 = .ok (.iload_n 2, 1) := by decide +kernel
theorem d_Model_letter_79 : decode b_Model_letter 79 = .ok (.iaload, 1) := by decide +kernel
theorem d_Model_letter_80 : decode b_Model_letter 80 = .ok (.aload_n 0, 1) := by decide +kernel
theorem d_Model_letter_81 : decode b_Model_letter 81 = .ok (.getfield 29, 3) := by decide +kernel
theorem d_Model_letter_84 : decode b_Model_letter 84 = .ok (.iload_n 2, 1) := by decide +kernel
theorem d_Model_letter_85 : decode b_Model_letter 85 = .ok (.iaload, 1) := by decide +kernel
theorem d_Model_letter_86 : decode b_Model_letter 86 = .ok (.isub, 1) := by decide +kernel
theorem d_Model_letter_87 : decode b_Model_letter 87 = .ok (.iconst 1, 1) := by decide +kernel
theorem d_Model_letter_88 : decode b_Model_letter 88 = .ok (.isub, 1) := by decide +kernel
theorem d_Model_letter_89 : decode b_Model_letter 89 = .ok (.if_icmp .ge 22, 3) := by decide +kernel
theorem d_Model_letter_92 : decode b_Model_letter 92 = .ok (.aload_n 0, 1) := by decide +kernel
theorem d_Model_letter_93 : decode b_Model_letter 93 = .ok (.getfield 23, 3) := by decide +kernel
theorem d_Model_letter_96 : decode b_Model_letter 96 = .ok (.aload_n 0, 1) := by decide +kernel
theorem d_Model_letter_97 : decode b_Model_letter 97 = .ok (.getfield 29, 3) := by decide +kernel
theorem d_Model_letter_100 : decode b_Model_letter 100 = .ok (.iload_n 2, 1) := by decide +kernel
theorem d_Model_letter_101 : decode b_Model_letter 101 = .ok (.iaload, 1) := by decide +kernel
theorem d_Model_letter_102 : decode b_Model_letter 102 = .ok (.iconst 1, 1) := by decide +kernel
theorem d_Model_letter_103 : decode b_Model_letter 103 = .ok (.iadd, 1) := by decide +kernel
theorem d_Model_letter_104 : decode b_Model_letter 104 = .ok (.iload 4, 2) := by decide +kernel
theorem d_Model_letter_106 : decode b_Model_letter 106 = .ok (.iadd, 1) := by decide +kernel
theorem d_Model_letter_107 : decode b_Model_letter 107 = .ok (.iaload, 1) := by decide +kernel
theorem d_Model_letter_108 : decode b_Model_letter 108 = .ok (.goto 4, 3) := by decide +kernel
theorem d_Model_letter_111 : decode b_Model_letter 111 = .ok (.iconst (-1), 1) := by decide +kernel
theorem d_Model_letter_112 : decode b_Model_letter 112 = .ok (.ireturn, 1) := by decide +kernel
theorem d_Model_findName_0 : decode b_Model_findName 0 = .ok (.iconst 1, 1) := by decide +kernel
theorem d_Model_findName_1 : decode b_Model_findName 1 = .ok (.istore_n 3, 1) := by decide +kernel
theorem d_Model_findName_2 : decode b_Model_findName 2 = .ok (.iload_n 3, 1) := by decide +kernel
theorem d_Model_findName_3 : decode b_Model_findName 3 = .ok (.aload_n 0, 1) := by decide +kernel
theorem d_Model_findName_4 : decode b_Model_findName 4 = .ok (.getfield 90, 3) := by decide +kernel
theorem d_Model_findName_7 : decode b_Model_findName 7 = .ok (.if_icmp .ge 105, 3) := by decide +kernel
theorem d_Model_findName_10 : decode b_Model_findName 10 = .ok (.aload_n 0, 1) := by decide +kernel
theorem d_Model_findName_11 : decode b_Model_findName 11 = .ok (.getfield 26, 3) := by decide +kernel
theorem d_Model_findName_14 : decode b_Model_findName 14 = .ok (.iload_n 3, 1) := by decide +kernel
theorem d_Model_findName_15 : decode b_Model_findName 15 = .ok (.iaload, 1) := by decide +kernel
theorem d_Model_findName_16 : decode b_Model_findName 16 = .ok (.iload_n 1, 1) := by decide +kernel
theorem d_Model_findName_17 : decode b_Model_findName 17 = .ok (.if_icmp .ne 26, 3) := by decide +kernel
theorem d_Model_findName_20 : decode b_Model_findName 20 = .ok (.aload_n 0, 1) := by decide +kernel
theorem d_Model_findName_21 : decode b_Model_findName 21 = .ok (.getfield 32, 3) := by decide +kernel
theorem d_Model_findName_24 : decode b_Model_findName 24 = .ok (.iload_n 3, 1) := by decide +kernel
theorem d_Model_findName_25 : decode b_Model_findName 25 = .ok (.iaload, 1) := by decide +kernel
theorem d_Model_findName_26 : decode b_Model_findName 26 = .ok (.aload_n 0, 1) := by decide +kernel
theorem d_Model_findName_27 : decode b_Model_findName 27 = .ok (.getfield 29, 3) := by decide +kernel
theorem d_Model_findName_30 : decode b_Model_findName 30 = .ok (.iload_n 3, 1) := by decide +kernel
theorem d_Model_findName_31 : decode b_Model_findName 31 = .ok (.iaload, 1) := by decide +kernel
theorem d_Model_findName_32 : decode b_Model_findName 32 = .ok (.isub, 1) := by decide +kernel
theorem d_Model_findName_33 : decode b_Model_findName 33 = .ok (.iconst 1, 1) := by decide +kernel
theorem d_Model_findName_34 : decode b_Model_findName 34 = .ok (.isub, 1) := by decide +kernel
theorem d_Model_findName_35 : decode b_Model_findName 35 = .ok (.iload_n 2, 1) := by decide +kernel
theorem d_Model_findName_36 : decode b_Model_findName 36 = .ok (.if_icmp .ne 7, 3) := by decide +kernel
theorem d_Model_findName_39 : decode b_Model_findName 39 = .ok (.iconst 1, 1) := by decide +kernel
theorem d_Model_findName_40 : decode b_Model_findName 40 = .ok (.goto 4, 3) := by decide +kernel
theorem d_Model_findName_43 : decode b_Model_findName 43 = .ok (.iconst 0, 1) := by decide +kernel
theorem d_Model_findName_44 : decode b_Model_findName 44 = .ok (.istore 4, 2) := by decide +kernel
theorem d_Model_findName_46 : decode b_Model_findName 46 = .ok (.iconst 0, 1) := by decide +kernel
theorem d_Model_findName_47 : decode b_Model_findName 47 = .ok (.istore 5, 2) := by decide +kernel
theorem d_Model_findName_49 : decode b_Model_findName 49 = .ok (.iload 5, 2) := by decide +kernel
theorem d_Model_findName_51 : decode b_Model_findName 51 = .ok (.iload_n 2, 1) := by decide +kernel
theorem d_Model_findName_52 : decode b_Model_findName 52 = .ok (.if_icmp .ge 47, 3) := by decide +kernel
theorem d_Model_findName_55 : decode b_Model_findName 55 = .ok (.iload 4, 2) := by decide +kernel
theorem d_Model_findName_57 : decode b_Model_findName 57 = .ok (.ifCond .eq 42, 3) := by decide +kernel
theorem d_Model_findName_60 : decode b_Model_findName 60 = .ok (.aload_n 0, 1) := by decide +kernel
theorem d_Model_findName_61 : decode b_Model_findName 61 = .ok (.getfield 23, 3) := by decide +kernel
theorem d_Model_findName_64 : decode b_Model_findName 64 = .ok (.aload_n 0, 1) := by decide +kernel
theorem d_Model_findName_65 : decode b_Model_findName 65 = .ok (.getfield 29, 3) := by decide +kernel
theorem d_Model_findName_68 : decode b_Model_findName 68 = .ok (.iload_n 3, 1) := by decide +kernel
theorem d_Model_findName_69 : decode b_Model_findName 69 = .ok (.iaload, 1) := by decide +kernel
theorem d_Model_findName_70 : decode b_Model_findName 70 = .ok (.iconst 1, 1) := by decide +kernel
theorem d_Model_findName_71 : decode b_Model_findName 71 = .ok (.iadd, 1) := by decide +kernel
theorem d_Model_findName_72 : decode b_Model_findName 72 = .ok (.iload 5, 2) := by decide +kernel
theorem d_Model_findName_74 : decode b_Model_findName 74 = .ok (.iadd, 1) := by decide +kernel
theorem d_Model_findName_75 : decode b_Model_findName 75 = .ok (.iaload, 1) := by decide +kernel
theorem d_Model_findName_76 : decode b_Model_findName 76 = .ok (.aload_n 0, 1) := by decide +kernel
theorem d_Model_findName_77 : decode b_Model_findName 77 = .ok (.getfield 7, 3) := by decide +kernel
theorem d_Model_findName_80 : decode b_Model_findName 80 = .ok (.iload 5, 2) := by decide +kernel
theorem d_Model_findName_82 : decode b_Model_findName 82 = .ok (.iaload, 1) := by decide +kernel
theorem d_Model_findName_83 : decode b_Model_findName 83 = .ok (.if_icmp .ne 7, 3) := by decide +kernel
theorem d_Model_findName_86 : decode b_Model_findName 86 = .ok (.iconst 1, 1) := by decide +kernel
theorem d_Model_findName_87 : decode b_Model_findName 87 = .ok (.goto 4, 3) := by decide +kernel
theorem d_Model_findName_90 : decode b_Model_findName 90 = .ok (.iconst 0, 1) := by decide +kernel
theorem d_Model_findName_91 : decode b_Model_findName 91 = .ok (.istore 4, 2) := by decide +kernel
theorem d_Model_findName_93 : decode b_Model_findName 93 = .ok (.iinc 5 1, 3) := by decide +kernel
theorem d_Model_findName_96 : decode b_Model_findName 96 = .ok (.goto (-47), 3) := by decide +kernel
theorem d_Model_findName_99 : decode b_Model_findName 99 = .ok (.iload 4, 2) := by decide +kernel
theorem d_Model_findName_101 : decode b_Model_findName 101 = .ok (.ifCond .eq 5, 3) := by decide +kernel
theorem d_Model_findName_104 : decode b_Model_findName 104 = .ok (.iload_n 3, 1) := by decide +kernel
theorem d_Model_findName_105 : decode b_Model_findName 105 = .ok (.ireturn, 1) := by decide +kernel
theorem d_Model_findName_106 : decode b_Model_findName 106 = .ok (.iinc 3 1, 3) := by decide +kernel
theorem d_Model_findName_109 : decode b_Model_findName 109 = .ok (.goto (-107), 3) := by decide +kernel
theorem d_Model_findName_112 : decode b_Model_findName 112 = .ok (.iconst (-1), 1) := by decide +kernel
theorem d_Model_findName_113 : decode b_Model_findName 113 = .ok (.ireturn, 1) := by decide +kernel
theorem d_Model_find_0 : decode b_Model_find 0 = .ok (.iload_n 3, 1) := by decide +kernel
theorem d_Model_find_1 : decode b_Model_find 1 = .ok (.ifCond .lt 11, 3) := by decide +kernel
theorem d_Model_find_4 : decode b_Model_find 4 = .ok (.iload_n 3, 1) := by decide +kernel
theorem d_Model_find_5 : decode b_Model_find 5 = .ok (.aload_n 0, 1) := by decide +kernel
theorem d_Model_find_6 : decode b_Model_find 6 = .ok (.getfield 59, 3) := by decide +kernel
theorem d_Model_find_9 : decode b_Model_find 9 = .ok (.if_icmp .le 5, 3) := by decide +kernel
theorem d_Model_find_12 : decode b_Model_find 12 = .ok (.iconst (-1), 1) := by decide +kernel
theorem d_Model_find_13 : decode b_Model_find 13 = .ok (.ireturn, 1) := by decide +kernel
theorem d_Model_find_14 : decode b_Model_find 14 = .ok (.aload_n 0, 1) := by decide +kernel
theorem d_Model_find_15 : decode b_Model_find 15 = .ok (.iload_n 1, 1) := by decide +kernel
theorem d_Model_find_16 : decode b_Model_find 16 = .ok (.iload_n 2, 1) := by decide +kernel
theorem d_Model_find_17 : decode b_Model_find 17 = .ok (.invokevirtual 152, 3) := by decide +kernel
theorem d_Model_find_20 : decode b_Model_find 20 = .ok (.ifCond .eq 20, 3) := by decide +kernel
theorem d_Model_find_23 : decode b_Model_find 23 = .ok (.aload_n 0, 1) := by decide +kernel
theorem d_Model_find_24 : decode b_Model_find 24 = .ok (.iload_n 2, 1) := by decide +kernel
theorem d_Model_find_25 : decode b_Model_find 25 = .ok (.invokevirtual 162, 3) := by decide +kernel
theorem d_Model_find_28 : decode b_Model_find 28 = .ok (.ifCond .eq 12, 3) := by decide +kernel
theorem d_Model_find_31 : decode b_Model_find 31 = .ok (.aload_n 0, 1) := by decide +kernel
theorem d_Model_find_32 : decode b_Model_find 32 = .ok (.iload_n 2, 1) := by decide +kernel
theorem d_Model_find_33 : decode b_Model_find 33 = .ok (.iload_n 3, 1) := by decide +kernel
theorem d_Model_find_34 : decode b_Model_find 34 = .ok (.invokevirtual 172, 3) := by decide +kernel
theorem d_Model_find_37 : decode b_Model_find 37 = .ok (.goto 4, 3) := by decide +kernel
theorem d_Model_find_40 : decode b_Model_find 40 = .ok (.iconst (-1), 1) := by decide +kernel
theorem d_Model_find_41 : decode b_Model_find 41 = .ok (.istore 4, 2) := by decide +kernel
theorem d_Model_find_43 : decode b_Model_find 43 = .ok (.aload_n 0, 1) := by decide +kernel
theorem d_Model_find_44 : decode b_Model_find 44 = .ok (.iconst 0, 1) := by decide +kernel
theorem d_Model_find_45 : decode b_Model_find 45 = .ok (.putfield 59, 3) := by decide +kernel
theorem d_Model_find_48 : decode b_Model_find 48 = .ok (.iload 4, 2) := by decide +kernel
theorem d_Model_find_50 : decode b_Model_find 50 = .ok (.ireturn, 1) := by decide +kernel
theorem d_Model_splice_0 : decode b_Model_splice 0 = .ok (.aload_n 0, 1) := by decide +kernel
theorem d_Model_splice_1 : decode b_Model_splice 1 = .ok (.getfield 175, 3) := by decide +kernel
theorem d_Model_splice_4 : decode b_Model_splice 4 = .ok (.iload_n 2, 1) := by decide +kernel
theorem d_Model_splice_5 : decode b_Model_splice 5 = .ok (.isub, 1) := by decide +kernel
theorem d_Model_splice_6 : decode b_Model_splice 6 = .ok (.istore 4, 2) := by decide +kernel
theorem d_Model_splice_8 : decode b_Model_splice 8 = .ok (.iload 4, 2) := by decide +kernel
theorem d_Model_splice_10 : decode b_Model_splice 10 = .ok (.ifCond .le 45, 3) := by decide +kernel
theorem d_Model_splice_13 : decode b_Model_splice 13 = .ok (.aload_n 0, 1) := by decide +kernel
theorem d_Model_splice_14 : decode b_Model_splice 14 = .ok (.getfield 134, 3) := by decide +kernel
theorem d_Model_splice_17 : decode b_Model_splice 17 = .ok (.iconst 1, 1) := by decide +kernel
theorem d_Model_splice_18 : decode b_Model_splice 18 = .ok (.isub, 1) := by decide +kernel
theorem d_Model_splice_19 : decode b_Model_splice 19 = .ok (.istore 5, 2) := by decide +kernel
theorem d_Model_splice_21 : decode b_Model_splice 21 = .ok (.iload 5, 2) := by decide +kernel
theorem d_Model_splice_23 : decode b_Model_splice 23 = .ok (.iload_n 1, 1) := by decide +kernel
theorem d_Model_splice_24 : decode b_Model_splice 24 = .ok (.iload_n 2, 1) := by decide +kernel
theorem d_Model_splice_25 : decode b_Model_splice 25 = .ok (.iadd, 1) := by decide +kernel
theorem d_Model_splice_26 : decode b_Model_splice 26 = .ok (.if_icmp .lt 26, 3) := by decide +kernel
theorem d_Model_splice_29 : decode b_Model_splice 29 = .ok (.aload_n 0, 1) := by decide +kernel
theorem d_Model_splice_30 : decode b_Model_splice 30 = .ok (.getfield 23, 3) := by decide +kernel
theorem d_Model_splice_33 : decode b_Model_splice 33 = .ok (.iload 5, 2) := by decide +kernel
theorem d_Model_splice_35 : decode b_Model_splice 35 = .ok (.iload 4, 2) := by decide +kernel
theorem d_Model_splice_37 : decode b_Model_splice 37 = .ok (.iadd, 1) := by decide +kernel
theorem d_Model_splice_38 : decode b_Model_splice 38 = .ok (.aload_n 0, 1) := by decide +kernel
theorem d_Model_splice_39 : decode b_Model_splice 39 = .ok (.getfield 23, 3) := by decide +kernel
theorem d_Model_splice_42 : decode b_Model_splice 42 = .ok (.iload 5, 2) := by decide +kernel
theorem d_Model_splice_44 : decode b_Model_splice 44 = .ok (.iaload, 1) := by decide +kernel
theorem d_Model_splice_45 : decode b_Model_splice 45 = .ok (.iastore, 1) := by decide +kernel
theorem d_Model_splice_46 : decode b_Model_splice 46 = .ok (.iinc 5 (-1), 3) := by decide +kernel
theorem d_Model_splice_49 : decode b_Model_splice 49 = .ok (.goto (-28), 3) := by decide +kernel
theorem d_Model_splice_52 : decode b_Model_splice 52 = .ok (.goto 40, 3) := by decide +kernel
theorem d_Model_splice_55 : decode b_Model_splice 55 = .ok (.iload_n 1, 1) := by decide +kernel
theorem d_Model_splice_56 : decode b_Model_splice 56 = .ok (.iload_n 2, 1) := by decide +kernel
theorem d_Model_splice_57 : decode b_Model_splice 57 = .ok (.iadd, 1) := by decide +kernel
theorem d_Model_splice_58 : decode b_Model_splice 58 = .ok (.istore 5, 2) := by decide +kernel
theorem d_Model_splice_60 : decode b_Model_splice 60 = .ok (.iload 5, 2) := by decide +kernel
theorem d_Model_splice_62 : decode b_Model_splice 62 = .ok (.aload_n 0, 1) := by decide +kernel
theorem d_Model_splice_63 : decode b_Model_splice 63 = .ok (.getfield 134, 3) := by decide +kernel
theorem d_Model_splice_66 : decode b_Model_splice 66 = .ok (.if_icmp .ge 26, 3) := by decide +kernel
theorem d_Model_splice_69 : decode b_Model_splice 69 = .ok (.aload_n 0, 1) := by decide +kernel
theorem d_Model_splice_70 : decode b_Model_splice 70 = .ok (.getfield 23, 3) := by decide +kernel
theorem d_Model_splice_73 : decode b_Model_splice 73 = .ok (.iload 5, 2) := by decide +kernel
theorem d_Model_splice_75 : decode b_Model_splice 75 = .ok (.iload 4, 2) := by decide +kernel
theorem d_Model_splice_77 : decode b_Model_splice 77 = .ok (.iadd, 1) := by decide +kernel
theorem d_Model_splice_78 : decode b_Model_splice 78 = .ok (.aload_n 0, 1) := by decide +kernel
theorem d_Model_splice_79 : decode b_Model_splice 79 = .ok (.getfield 23, 3) := by decide +kernel
theorem d_Model_splice_82 : decode b_Model_splice 82 = .ok (.iload 5, 2) := by decide +kernel
theorem d_Model_splice_84 : decode b_Model_splice 84 = .ok (.iaload, 1) := by decide +kernel
theorem d_Model_splice_85 : decode b_Model_splice 85 = .ok (.iastore, 1) := by decide +kernel
theorem d_Model_splice_86 : decode b_Model_splice 86 = .ok (.iinc 5 1, 3) := by decide +kernel
theorem d_Model_splice_89 : decode b_Model_splice 89 = .ok (.goto (-29), 3) := by decide +kernel
theorem d_Model_splice_92 : decode b_Model_splice 92 = .ok (.aload_n 0, 1) := by decide +kernel
theorem d_Model_splice_93 : decode b_Model_splice 93 = .ok (.dup, 1) := by decide +kernel
theorem d_Model_splice_94 : decode b_Model_splice 94 = .ok (.getfield 134, 3) := by decide +kernel
theorem d_Model_splice_97 : decode b_Model_splice 97 = .ok (.iload 4, 2) := by decide +kernel
theorem d_Model_splice_99 : decode b_Model_splice 99 = .ok (.iadd, 1) := by decide +kernel
theorem d_Model_splice_100 : decode b_Model_splice 100 = .ok (.putfield 134, 3) := by decide +kernel
theorem d_Model_splice_103 : decode b_Model_splice 103 = .ok (.iconst 0, 1) := by decide +kernel
theorem d_Model_splice_104 : decode b_Model_splice 104 = .ok (.istore 5, 2) := by decide +kernel
theorem d_Model_splice_106 : decode b_Model_splice 106 = .ok (.iload 5, 2) := by decide +kernel
theorem d_Model_splice_108 : decode b_Model_splice 108 = .ok (.aload_n 0, 1) := by decide +kernel
theorem d_Model_splice_109 : decode b_Model_splice 109 = .ok (.getfield 175, 3) := by decide +kernel
theorem d_Model_splice_112 : decode b_Model_splice 112 = .ok (.if_icmp .ge 25, 3) := by decide +kernel
theorem d_Model_splice_115 : decode b_Model_splice 115 = .ok (.aload_n 0, 1) := by decide +kernel
theorem d_Model_splice_116 : decode b_Model_splice 116 = .ok (.getfield 23, 3) := by decide +kernel
theorem d_Model_splice_119 : decode b_Model_splice 119 = .ok (.iload_n 1, 1) := by decide +kernel
theorem d_Model_splice_120 : decode b_Model_splice 120 = .ok (.iload 5, 2) := by decide +kernel
theorem d_Model_splice_122 : decode b_Model_splice 122 = .ok (.iadd, 1) := by decide +kernel
theorem d_Model_splice_123 : decode b_Model_splice 123 = .ok (.aload_n 0, 1) := by decide +kernel
theorem d_Model_splice_124 : decode b_Model_splice 124 = .ok (.getfield 53, 3) := by decide +kernel
theorem d_Model_splice_127 : decode b_Model_splice 127 = .ok (.iload 5, 2) := by decide +kernel
theorem d_Model_splice_129 : decode b_Model_splice 129 = .ok (.iaload, 1) := by decide +kernel
theorem d_Model_splice_130 : decode b_Model_splice 130 = .ok (.iastore, 1) := by decide +kernel
theorem d_Model_splice_131 : decode b_Model_splice 131 = .ok (.iinc 5 1, 3) := by decide +kernel
theorem d_Model_splice_134 : decode b_Model_splice 134 = .ok (.goto (-28), 3) := by decide +kernel
theorem d_Model_splice_137 : decode b_Model_splice 137 = .ok (.iload_n 3, 1) := by decide +kernel
theorem d_Model_splice_138 : decode b_Model_splice 138 = .ok (.istore 5, 2) := by decide +kernel
theorem d_Model_splice_140 : decode b_Model_splice 140 = .ok (.iload 5, 2) := by decide +kernel
theorem d_Model_splice_142 : decode b_Model_splice 142 = .ok (.ifCond .lt 40, 3) := by decide +kernel
theorem d_Model_splice_145 : decode b_Model_splice 145 = .ok (.aload_n 0, 1) := by decide +kernel
theorem d_Model_splice_146 : decode b_Model_splice 146 = .ok (.aload_n 0, 1) := by decide +kernel
theorem d_Model_splice_147 : decode b_Model_splice 147 = .ok (.iload 5, 2) := by decide +kernel
theorem d_Model_splice_149 : decode b_Model_splice 149 = .ok (.invokevirtual 159, 3) := by decide +kernel
theorem d_Model_splice_152 : decode b_Model_splice 152 = .ok (.aload_n 0, 1) := by decide +kernel
theorem d_Model_splice_153 : decode b_Model_splice 153 = .ok (.aload_n 0, 1) := by decide +kernel
theorem d_Model_splice_154 : decode b_Model_splice 154 = .ok (.iload 5, 2) := by decide +kernel
theorem d_Model_splice_156 : decode b_Model_splice 156 = .ok (.invokevirtual 159, 3) := by decide +kernel
theorem d_Model_splice_159 : decode b_Model_splice 159 = .ok (.iconst 4, 1) := by decide +kernel
theorem d_Model_splice_160 : decode b_Model_splice 160 = .ok (.invokevirtual 81, 3) := by decide +kernel
theorem d_Model_splice_163 : decode b_Model_splice 163 = .ok (.iload 4, 2) := by decide +kernel
theorem d_Model_splice_165 : decode b_Model_splice 165 = .ok (.i2l, 1) := by decide +kernel
theorem d_Model_splice_166 : decode b_Model_splice 166 = .ok (.ladd, 1) := by decide +kernel
theorem d_Model_splice_167 : decode b_Model_splice 167 = .ok (.invokevirtual 178, 3) := by decide +kernel
theorem d_Model_splice_170 : decode b_Model_splice 170 = .ok (.aload_n 0, 1) := by decide +kernel
theorem d_Model_splice_171 : decode b_Model_splice 171 = .ok (.getfield 26, 3) := by decide +kernel
theorem d_Model_splice_174 : decode b_Model_splice 174 = .ok (.iload 5, 2) := by decide +kernel
theorem d_Model_splice_176 : decode b_Model_splice 176 = .ok (.iaload, 1) := by decide +kernel
theorem d_Model_splice_177 : decode b_Model_splice 177 = .ok (.istore 5, 2) := by decide +kernel
theorem d_Model_splice_179 : decode b_Model_splice 179 = .ok (.goto (-39), 3) := by decide +kernel
theorem d_Model_splice_182 : decode b_Model_splice 182 = .ok (.return_, 1) := by decide +kernel
theorem d_Model_putLow_0 : decode b_Model_putLow 0 = .ok (.iconst 0, 1) := by decide +kernel
theorem d_Model_putLow_1 : decode b_Model_putLow 1 = .ok (.istore 4, 2) := by decide +kernel
theorem d_Model_putLow_3 : decode b_Model_putLow 3 = .ok (.iload 4, 2) := by decide +kernel
theorem d_Model_putLow_5 : decode b_Model_putLow 5 = .ok (.iconst 4, 1) := by decide +kernel
theorem d_Model_putLow_6 : decode b_Model_putLow 6 = .ok (.if_icmp .ge 30, 3) := by decide +kernel
theorem d_Model_putLow_9 : decode b_Model_putLow 9 = .ok (.aload_n 0, 1) := by decide +kernel
theorem d_Model_putLow_10 : decode b_Model_putLow 10 = .ok (.getfield 23, 3) := by decide +kernel
theorem d_Model_putLow_13 : decode b_Model_putLow 13 = .ok (.iload_n 1, 1) := by decide +kernel
theorem d_Model_putLow_14 : decode b_Model_putLow 14 = .ok (.iload 4, 2) := by decide +kernel
theorem d_Model_putLow_16 : decode b_Model_putLow 16 = .ok (.iadd, 1) := by decide +kernel
theorem d_Model_putLow_17 : decode b_Model_putLow 17 = .ok (.lload_n 2, 1) := by decide +kernel
theorem d_Model_putLow_18 : decode b_Model_putLow 18 = .ok (.bipush 8, 2) := by decide +kernel
theorem d_Model_putLow_20 : decode b_Model_putLow 20 = .ok (.iload 4, 2) := by decide +kernel
theorem d_Model_putLow_22 : decode b_Model_putLow 22 = .ok (.imul, 1) := by decide +kernel
theorem d_Model_putLow_23 : decode b_Model_putLow 23 = .ok (.lshr, 1) := by decide +kernel
theorem d_Model_putLow_24 : decode b_Model_putLow 24 = .ok (.ldc2_w 182, 3) := by decide +kernel
theorem d_Model_putLow_27 : decode b_Model_putLow 27 = .ok (.land, 1) := by decide +kernel
theorem d_Model_putLow_28 : decode b_Model_putLow 28 = .ok (.l2i, 1) := by decide +kernel
theorem d_Model_putLow_29 : decode b_Model_putLow 29 = .ok (.iastore, 1) := by decide +kernel
theorem d_Model_putLow_30 : decode b_Model_putLow 30 = .ok (.iinc 4 1, 3) := by decide +kernel
theorem d_Model_putLow_33 : decode b_Model_putLow 33 = .ok (.goto (-30), 3) := by decide +kernel
theorem d_Model_putLow_36 : decode b_Model_putLow 36 = .ok (.return_, 1) := by decide +kernel
theorem d_Model_write_0 : decode b_Model_write 0 = .ok (.aload_n 0, 1) := by decide +kernel
theorem d_Model_write_1 : decode b_Model_write 1 = .ok (.getfield 53, 3) := by decide +kernel
theorem d_Model_write_4 : decode b_Model_write 4 = .ok (.aload_n 0, 1) := by decide +kernel
theorem d_Model_write_5 : decode b_Model_write 5 = .ok (.getfield 175, 3) := by decide +kernel
theorem d_Model_write_8 : decode b_Model_write 8 = .ok (.iload_n 1, 1) := by decide +kernel
theorem d_Model_write_9 : decode b_Model_write 9 = .ok (.iastore, 1) := by decide +kernel
theorem d_Model_write_10 : decode b_Model_write 10 = .ok (.aload_n 0, 1) := by decide +kernel
theorem d_Model_write_11 : decode b_Model_write 11 = .ok (.dup, 1) := by decide +kernel
theorem d_Model_write_12 : decode b_Model_write 12 = .ok (.getfield 175, 3) := by decide +kernel
theorem d_Model_write_15 : decode b_Model_write 15 = .ok (.iconst 1, 1) := by decide +kernel
theorem d_Model_write_16 : decode b_Model_write 16 = .ok (.iadd, 1) := by decide +kernel
theorem d_Model_write_17 : decode b_Model_write 17 = .ok (.putfield 175, 3) := by decide +kernel
theorem d_Model_write_20 : decode b_Model_write 20 = .ok (.return_, 1) := by decide +kernel
theorem d_Model_writeLow_0 : decode b_Model_writeLow 0 = .ok (.iconst 0, 1) := by decide +kernel
theorem d_Model_writeLow_1 : decode b_Model_writeLow 1 = .ok (.istore 4, 2) := by decide +kernel
theorem d_Model_writeLow_3 : decode b_Model_writeLow 3 = .ok (.iload 4, 2) := by decide +kernel
theorem d_Model_writeLow_5 : decode b_Model_writeLow 5 = .ok (.iload_n 3, 1) := by decide +kernel
theorem d_Model_writeLow_6 : decode b_Model_writeLow 6 = .ok (.if_icmp .ge 25, 3) := by decide +kernel
theorem d_Model_writeLow_9 : decode b_Model_writeLow 9 = .ok (.aload_n 0, 1) := by decide +kernel
theorem d_Model_writeLow_10 : decode b_Model_writeLow 10 = .ok (.lload_n 1, 1) := by decide +kernel
theorem d_Model_writeLow_11 : decode b_Model_writeLow 11 = .ok (.bipush 8, 2) := by decide +kernel
theorem d_Model_writeLow_13 : decode b_Model_writeLow 13 = .ok (.iload 4, 2) := by decide +kernel
theorem d_Model_writeLow_15 : decode b_Model_writeLow 15 = .ok (.imul, 1) := by decide +kernel
theorem d_Model_writeLow_16 : decode b_Model_writeLow 16 = .ok (.lshr, 1) := by decide +kernel
theorem d_Model_writeLow_17 : decode b_Model_writeLow 17 = .ok (.ldc2_w 182, 3) := by decide +kernel
theorem d_Model_writeLow_20 : decode b_Model_writeLow 20 = .ok (.land, 1) := by decide +kernel
theorem d_Model_writeLow_21 : decode b_Model_writeLow 21 = .ok (.l2i, 1) := by decide +kernel
theorem d_Model_writeLow_22 : decode b_Model_writeLow 22 = .ok (.invokevirtual 184, 3) := by decide +kernel
theorem d_Model_writeLow_25 : decode b_Model_writeLow 25 = .ok (.iinc 4 1, 3) := by decide +kernel
theorem d_Model_writeLow_28 : decode b_Model_writeLow 28 = .ok (.goto (-25), 3) := by decide +kernel
theorem d_Model_writeLow_31 : decode b_Model_writeLow 31 = .ok (.return_, 1) := by decide +kernel
theorem d_Model_writeHead_0 : decode b_Model_writeHead 0 = .ok (.aload_n 0, 1) := by decide +kernel
theorem d_Model_writeHead_1 : decode b_Model_writeHead 1 = .ok (.iconst 0, 1) := by decide +kernel
theorem d_Model_writeHead_2 : decode b_Model_writeHead 2 = .ok (.putfield 175, 3) := by decide +kernel
theorem d_Model_writeHead_5 : decode b_Model_writeHead 5 = .ok (.aload_n 0, 1) := by decide +kernel
theorem d_Model_writeHead_6 : decode b_Model_writeHead 6 = .ok (.iload_n 2, 1) := by decide +kernel
theorem d_Model_writeHead_7 : decode b_Model_writeHead 7 = .ok (.invokevirtual 184, 3) := by decide +kernel
theorem d_Model_writeHead_10 : decode b_Model_writeHead 10 = .ok (.aload_n 0, 1) := by decide +kernel
theorem d_Model_writeHead_11 : decode b_Model_writeHead 11 = .ok (.iload_n 1, 1) := by decide +kernel
theorem d_Model_writeHead_12 : decode b_Model_writeHead 12 = .ok (.invokevirtual 149, 3) := by decide +kernel
theorem d_Model_writeHead_15 : decode b_Model_writeHead 15 = .ok (.iconst 4, 1) := by decide +kernel
theorem d_Model_writeHead_16 : decode b_Model_writeHead 16 = .ok (.if_icmp .ne 43, 3) := by decide +kernel
theorem d_Model_writeHead_19 : decode b_Model_writeHead 19 = .ok (.aload_n 0, 1) := by decide +kernel
theorem d_Model_writeHead_20 : decode b_Model_writeHead 20 = .ok (.iload_n 1, 1) := by decide +kernel
theorem d_Model_writeHead_21 : decode b_Model_writeHead 21 = .ok (.invokevirtual 165, 3) := by decide +kernel
theorem d_Model_writeHead_24 : decode b_Model_writeHead 24 = .ok (.istore 4, 2) := by decide +kernel
theorem d_Model_writeHead_26 : decode b_Model_writeHead 26 = .ok (.iconst 0, 1) := by decide +kernel
theorem d_Model_writeHead_27 : decode b_Model_writeHead 27 = .ok (.istore 5, 2) := by decide +kernel
theorem d_Model_writeHead_29 : decode b_Model_writeHead 29 = .ok (.iload 5, 2) := by decide +kernel
theorem d_Model_writeHead_31 : decode b_Model_writeHead 31 = .ok (.iload 4, 2) := by decide +kernel
theorem d_Model_writeHead_33 : decode b_Model_writeHead 33 = .ok (.invokestatic 123, 3) := by decide +kernel
theorem d_Model_writeHead_36 : decode b_Model_writeHead 36 = .ok (.if_icmp .ge 20, 3) := by decide +kernel
theorem d_Model_writeHead_39 : decode b_Model_writeHead 39 = .ok (.aload_n 0, 1) := by decide +kernel
theorem d_Model_writeHead_40 : decode b_Model_writeHead 40 = .ok (.iload 4, 2) := by decide +kernel
theorem d_Model_writeHead_42 : decode b_Model_writeHead 42 = .ok (.iload 5, 2) := by decide +kernel
theorem d_Model_writeHead_44 : decode b_Model_writeHead 44 = .ok (.invokestatic 127, 3) := by decide +kernel
theorem d_Model_writeHead_47 : decode b_Model_writeHead 47 = .ok (.invokevirtual 184, 3) := by decide +kernel
theorem d_Model_writeHead_50 : decode b_Model_writeHead 50 = .ok (.iinc 5 1, 3) := by decide +kernel
theorem d_Model_writeHead_53 : decode b_Model_writeHead 53 = .ok (.goto (-24), 3) := by decide +kernel
theorem d_Model_writeHead_56 : decode b_Model_writeHead 56 = .ok (.goto 29, 3) := by decide +kernel
theorem d_Model_writeHead_59 : decode b_Model_writeHead 59 = .ok (.iconst 0, 1) := by decide +kernel
theorem d_Model_writeHead_60 : decode b_Model_writeHead 60 = .ok (.istore 4, 2) := by decide +kernel
theorem d_Model_writeHead_62 : decode b_Model_writeHead 62 = .ok (.iload 4, 2) := by decide +kernel
theorem d_Model_writeHead_64 : decode b_Model_writeHead 64 = .ok (.iload_n 3, 1) := by decide +kernel
theorem d_Model_writeHead_65 : decode b_Model_writeHead 65 = .ok (.if_icmp .ge 20, 3) := by decide +kernel
theorem d_Model_writeHead_68 : decode b_Model_writeHead 68 = .ok (.aload_n 0, 1) := by decide +kernel
theorem d_Model_writeHead_69 : decode b_Model_writeHead 69 = .ok (.aload_n 0, 1) := by decide +kernel
theorem d_Model_writeHead_70 : decode b_Model_writeHead 70 = .ok (.getfield 7, 3) := by decide +kernel
theorem d_Model_writeHead_73 : decode b_Model_writeHead 73 = .ok (.iload 4, 2) := by decide +kernel
theorem d_Model_writeHead_75 : decode b_Model_writeHead 75 = .ok (.iaload, 1) := by decide +kernel
theorem d_Model_writeHead_76 : decode b_Model_writeHead 76 = .ok (.invokevirtual 184, 3) := by decide +kernel
theorem d_Model_writeHead_79 : decode b_Model_writeHead 79 = .ok (.iinc 4 1, 3) := by decide +kernel
theorem d_Model_writeHead_82 : decode b_Model_writeHead 82 = .ok (.goto (-20), 3) := by decide +kernel
theorem d_Model_writeHead_85 : decode b_Model_writeHead 85 = .ok (.aload_n 0, 1) := by decide +kernel
theorem d_Model_writeHead_86 : decode b_Model_writeHead 86 = .ok (.iconst 0, 1) := by decide +kernel
theorem d_Model_writeHead_87 : decode b_Model_writeHead 87 = .ok (.invokevirtual 184, 3) := by decide +kernel
theorem d_Model_writeHead_90 : decode b_Model_writeHead 90 = .ok (.return_, 1) := by decide +kernel
theorem d_Model_lastOf_0 : decode b_Model_lastOf 0 = .ok (.iload_n 1, 1) := by decide +kernel
theorem d_Model_lastOf_1 : decode b_Model_lastOf 1 = .ok (.istore_n 2, 1) := by decide +kernel
theorem d_Model_lastOf_2 : decode b_Model_lastOf 2 = .ok (.iload_n 1, 1) := by decide +kernel
theorem d_Model_lastOf_3 : decode b_Model_lastOf 3 = .ok (.iconst 1, 1) := by decide +kernel
theorem d_Model_lastOf_4 : decode b_Model_lastOf 4 = .ok (.iadd, 1) := by decide +kernel
theorem d_Model_lastOf_5 : decode b_Model_lastOf 5 = .ok (.istore_n 3, 1) := by decide +kernel
theorem d_Model_lastOf_6 : decode b_Model_lastOf 6 = .ok (.iload_n 3, 1) := by decide +kernel
theorem d_Model_lastOf_7 : decode b_Model_lastOf 7 = .ok (.aload_n 0, 1) := by decide +kernel
theorem d_Model_lastOf_8 : decode b_Model_lastOf 8 = .ok (.getfield 90, 3) := by decide +kernel
theorem d_Model_lastOf_11 : decode b_Model_lastOf 11 = .ok (.if_icmp .ge 26, 3) := by decide +kernel
theorem d_Model_lastOf_14 : decode b_Model_lastOf 14 = .ok (.aload_n 0, 1) := by decide +kernel
theorem d_Model_lastOf_15 : decode b_Model_lastOf 15 = .ok (.getfield 29, 3) := by decide +kernel
theorem d_Model_lastOf_18 : decode b_Model_lastOf 18 = .ok (.iload_n 3, 1) := by decide +kernel
theorem d_Model_lastOf_19 : decode b_Model_lastOf 19 = .ok (.iaload, 1) := by decide +kernel
theorem d_Model_lastOf_20 : decode b_Model_lastOf 20 = .ok (.aload_n 0, 1) := by decide +kernel
theorem d_Model_lastOf_21 : decode b_Model_lastOf 21 = .ok (.getfield 35, 3) := by decide +kernel
theorem d_Model_lastOf_24 : decode b_Model_lastOf 24 = .ok (.iload_n 1, 1) := by decide +kernel
theorem d_Model_lastOf_25 : decode b_Model_lastOf 25 = .ok (.iaload, 1) := by decide +kernel
theorem d_Model_lastOf_26 : decode b_Model_lastOf 26 = .ok (.if_icmp .ge 11, 3) := by decide +kernel
theorem d_Model_lastOf_29 : decode b_Model_lastOf 29 = .ok (.iload_n 3, 1) := by decide +kernel
theorem d_Model_lastOf_30 : decode b_Model_lastOf 30 = .ok (.istore_n 2, 1) := by decide +kernel
theorem d_Model_lastOf_31 : decode b_Model_lastOf 31 = .ok (.iinc 3 1, 3) := by decide +kernel
theorem d_Model_lastOf_34 : decode b_Model_lastOf 34 = .ok (.goto (-28), 3) := by decide +kernel
theorem d_Model_lastOf_37 : decode b_Model_lastOf 37 = .ok (.iload_n 2, 1) := by decide +kernel
theorem d_Model_lastOf_38 : decode b_Model_lastOf 38 = .ok (.ireturn, 1) := by decide +kernel
theorem d_Model_canBe_0 : decode b_Model_canBe 0 = .ok (.aload_n 0, 1) := by decide +kernel
theorem d_Model_canBe_1 : decode b_Model_canBe 1 = .ok (.iload_n 2, 1) := by decide +kernel
theorem d_Model_canBe_2 : decode b_Model_canBe 2 = .ok (.invokevirtual 97, 3) := by decide +kernel
theorem d_Model_canBe_5 : decode b_Model_canBe 5 = .ok (.ifCond .eq 27, 3) := by decide +kernel
theorem d_Model_canBe_8 : decode b_Model_canBe 8 = .ok (.aload_n 0, 1) := by decide +kernel
theorem d_Model_canBe_9 : decode b_Model_canBe 9 = .ok (.iload_n 1, 1) := by decide +kernel
theorem d_Model_canBe_10 : decode b_Model_canBe 10 = .ok (.invokevirtual 149, 3) := by decide +kernel
theorem d_Model_canBe_13 : decode b_Model_canBe 13 = .ok (.iconst 4, 1) := by decide +kernel
theorem d_Model_canBe_14 : decode b_Model_canBe 14 = .ok (.if_icmp .ne 8, 3) := by decide +kernel
theorem d_Model_canBe_17 : decode b_Model_canBe 17 = .ok (.iload 5, 2) := by decide +kernel
theorem d_Model_canBe_19 : decode b_Model_canBe 19 = .ok (.ifCond .gt 13, 3) := by decide +kernel
theorem d_Model_canBe_22 : decode b_Model_canBe 22 = .ok (.iload_n 2, 1) := by decide +kernel
theorem d_Model_canBe_23 : decode b_Model_canBe 23 = .ok (.iconst 2, 1) := by decide +kernel
theorem d_Model_canBe_24 : decode b_Model_canBe 24 = .ok (.if_icmp .eq 10, 3) := by decide +kernel
theorem d_Model_canBe_27 : decode b_Model_canBe 27 = .ok (.iload 6, 2) := by decide +kernel
theorem d_Model_canBe_29 : decode b_Model_canBe 29 = .ok (.ifCond .le 5, 3) := by decide +kernel
theorem d_Model_canBe_32 : decode b_Model_canBe 32 = .ok (.iconst 0, 1) := by decide +kernel
theorem d_Model_canBe_33 : decode b_Model_canBe 33 = .ok (.ireturn, 1) := by decide +kernel
theorem d_Model_canBe_34 : decode b_Model_canBe 34 = .ok (.iload_n 2, 1) := by decide +kernel
theorem d_Model_canBe_35 : decode b_Model_canBe 35 = .ok (.bipush 16, 2) := by decide +kernel
theorem d_Model_canBe_37 : decode b_Model_canBe 37 = .ok (.if_icmp .ne 25, 3) := by decide +kernel
theorem d_Model_canBe_40 : decode b_Model_canBe 40 = .ok (.lload_n 3, 1) := by decide +kernel
theorem d_Model_canBe_41 : decode b_Model_canBe 41 = .ok (.ldc2_w 187, 3) := by decide +kernel
theorem d_Model_canBe_44 : decode b_Model_canBe 44 = .ok (.lcmp, 1) := by decide +kernel
theorem d_Model_canBe_45 : decode b_Model_canBe 45 = .ok (.ifCond .lt 15, 3) := by decide +kernel
theorem d_Model_canBe_48 : decode b_Model_canBe 48 = .ok (.lload_n 3, 1) := by decide +kernel
theorem d_Model_canBe_49 : decode b_Model_canBe 49 = .ok (.ldc2_w 189, 3) := by decide +kernel
theorem d_Model_canBe_52 : decode b_Model_canBe 52 = .ok (.lcmp, 1) := by decide +kernel
theorem d_Model_canBe_53 : decode b_Model_canBe 53 = .ok (.ifCond .gt 7, 3) := by decide +kernel
theorem d_Model_canBe_56 : decode b_Model_canBe 56 = .ok (.iconst 1, 1) := by decide +kernel
theorem d_Model_canBe_57 : decode b_Model_canBe 57 = .ok (.goto 4, 3) := by decide +kernel
theorem d_Model_canBe_60 : decode b_Model_canBe 60 = .ok (.iconst 0, 1) := by decide +kernel
theorem d_Model_canBe_61 : decode b_Model_canBe 61 = .ok (.ireturn, 1) := by decide +kernel
theorem d_Model_canBe_62 : decode b_Model_canBe 62 = .ok (.iload_n 2, 1) := by decide +kernel
theorem d_Model_canBe_63 : decode b_Model_canBe 63 = .ok (.bipush 8, 2) := by decide +kernel
theorem d_Model_canBe_65 : decode b_Model_canBe 65 = .ok (.if_icmp .ne 21, 3) := by decide +kernel
theorem d_Model_canBe_68 : decode b_Model_canBe 68 = .ok (.lload_n 3, 1) := by decide +kernel
theorem d_Model_canBe_69 : decode b_Model_canBe 69 = .ok (.lconst 0, 1) := by decide +kernel
theorem d_Model_canBe_70 : decode b_Model_canBe 70 = .ok (.lcmp, 1) := by decide +kernel
theorem d_Model_canBe_71 : decode b_Model_canBe 71 = .ok (.ifCond .eq 9, 3) := by decide +kernel
theorem d_Model_canBe_74 : decode b_Model_canBe 74 = .ok (.lload_n 3, 1) := by decide +kernel
theorem d_Model_canBe_75 : decode b_Model_canBe 75 = .ok (.lconst 1, 1) := by decide +kernel
theorem d_Model_canBe_76 : decode b_Model_canBe 76 = .ok (.lcmp, 1) := by decide +kernel
theorem d_Model_canBe_77 : decode b_Model_canBe 77 = .ok (.ifCond .ne 7, 3) := by decide +kernel
theorem d_Model_canBe_80 : decode b_Model_canBe 80 = .ok (.iconst 1, 1) := by decide +kernel
theorem d_Model_canBe_81 : decode b_Model_canBe 81 = .ok (.goto 4, 3) := by decide +kernel
theorem d_Model_canBe_84 : decode b_Model_canBe 84 = .ok (.iconst 0, 1) := by decide +kernel
theorem d_Model_canBe_85 : decode b_Model_canBe 85 = .ok (.ireturn, 1) := by decide +kernel
theorem d_Model_canBe_86 : decode b_Model_canBe 86 = .ok (.iload_n 2, 1) := by decide +kernel
theorem d_Model_canBe_87 : decode b_Model_canBe 87 = .ok (.bipush 18, 2) := by decide +kernel
theorem d_Model_canBe_89 : decode b_Model_canBe 89 = .ok (.if_icmp .eq 9, 3) := by decide +kernel
theorem d_Model_canBe_92 : decode b_Model_canBe 92 = .ok (.lload_n 3, 1) := by decide +kernel
theorem d_Model_canBe_93 : decode b_Model_canBe 93 = .ok (.lconst 0, 1) := by decide +kernel
theorem d_Model_canBe_94 : decode b_Model_canBe 94 = .ok (.lcmp, 1) := by decide +kernel
theorem d_Model_canBe_95 : decode b_Model_canBe 95 = .ok (.ifCond .ne 7, 3) := by decide +kernel
theorem d_Model_canBe_98 : decode b_Model_canBe 98 = .ok (.iconst 1, 1) := by decide +kernel
theorem d_Model_canBe_99 : decode b_Model_canBe 99 = .ok (.goto 4, 3) := by decide +kernel
theorem d_Model_canBe_102 : decode b_Model_canBe 102 = .ok (.iconst 0, 1) := by decide +kernel
theorem d_Model_canBe_103 : decode b_Model_canBe 103 = .ok (.ireturn, 1) := by decide +kernel
theorem d_Model_isNameFree_0 : decode b_Model_isNameFree 0 = .ok (.aload_n 0, 1) := by decide +kernel
theorem d_Model_isNameFree_1 : decode b_Model_isNameFree 1 = .ok (.iload_n 1, 1) := by decide +kernel
theorem d_Model_isNameFree_2 : decode b_Model_isNameFree 2 = .ok (.invokevirtual 149, 3) := by decide +kernel
theorem d_Model_isNameFree_5 : decode b_Model_isNameFree 5 = .ok (.iconst 4, 1) := by decide +kernel
theorem d_Model_isNameFree_6 : decode b_Model_isNameFree 6 = .ok (.if_icmp .ne 5, 3) := by decide +kernel
theorem d_Model_isNameFree_9 : decode b_Model_isNameFree 9 = .ok (.iconst 1, 1) := by decide +kernel
theorem d_Model_isNameFree_10 : decode b_Model_isNameFree 10 = .ok (.ireturn, 1) := by decide +kernel
theorem d_Model_isNameFree_11 : decode b_Model_isNameFree 11 = .ok (.iconst 0, 1) := by decide +kernel
theorem d_Model_isNameFree_12 : decode b_Model_isNameFree 12 = .ok (.istore_n 3, 1) := by decide +kernel
theorem d_Model_isNameFree_13 : decode b_Model_isNameFree 13 = .ok (.iload_n 3, 1) := by decide +kernel
theorem d_Model_isNameFree_14 : decode b_Model_isNameFree 14 = .ok (.iload_n 2, 1) := by decide +kernel
theorem d_Model_isNameFree_15 : decode b_Model_isNameFree 15 = .ok (.if_icmp .ge 20, 3) := by decide +kernel
theorem d_Model_isNameFree_18 : decode b_Model_isNameFree 18 = .ok (.aload_n 0, 1) := by decide +kernel
theorem d_Model_isNameFree_19 : decode b_Model_isNameFree 19 = .ok (.getfield 7, 3) := by decide +kernel
theorem d_Model_isNameFree_22 : decode b_Model_isNameFree 22 = .ok (.iload_n 3, 1) := by decide +kernel
theorem d_Model_isNameFree_23 : decode b_Model_isNameFree 23 = .ok (.iaload, 1) := by decide +kernel
theorem d_Model_isNameFree_24 : decode b_Model_isNameFree 24 = .ok (.ifCond .ne 5, 3) := by decide +kernel
theorem d_Model_isNameFree_27 : decode b_Model_isNameFree 27 = .ok (.iconst 0, 1) := by decide +kernel
theorem d_Model_isNameFree_28 : decode b_Model_isNameFree 28 = .ok (.ireturn, 1) := by decide +kernel
theorem d_Model_isNameFree_29 : decode b_Model_isNameFree 29 = .ok (.iinc 3 1, 3) := by decide +kernel
theorem d_Model_isNameFree_32 : decode b_Model_isNameFree 32 = .ok (.goto (-19), 3) := by decide +kernel
theorem d_Model_isNameFree_35 : decode b_Model_isNameFree 35 = .ok (.aload_n 0, 1) := by decide +kernel
theorem d_Model_isNameFree_36 : decode b_Model_isNameFree 36 = .ok (.getfield 7, 3) := by decide +kernel
theorem d_Model_isNameFree_39 : decode b_Model_isNameFree 39 = .ok (.iconst 0, 1) := by decide +kernel
theorem d_Model_isNameFree_40 : decode b_Model_isNameFree 40 = .ok (.iload_n 2, 1) := by decide +kernel
theorem d_Model_isNameFree_41 : decode b_Model_isNameFree 41 = .ok (.invokestatic 105, 3) := by decide +kernel
theorem d_Model_isNameFree_44 : decode b_Model_isNameFree 44 = .ok (.ifCond .ge 16, 3) := by decide +kernel
theorem d_Model_isNameFree_47 : decode b_Model_isNameFree 47 = .ok (.aload_n 0, 1) := by decide +kernel
theorem d_Model_isNameFree_48 : decode b_Model_isNameFree 48 = .ok (.iload_n 1, 1) := by decide +kernel
theorem d_Model_isNameFree_49 : decode b_Model_isNameFree 49 = .ok (.iload_n 2, 1) := by decide +kernel
theorem d_Model_isNameFree_50 : decode b_Model_isNameFree 50 = .ok (.invokevirtual 172, 3) := by decide +kernel
theorem d_Model_isNameFree_53 : decode b_Model_isNameFree 53 = .ok (.ifCond .ge 7, 3) := by decide +kernel
theorem d_Model_isNameFree_56 : decode b_Model_isNameFree 56 = .ok (.iconst 1, 1) := by decide +kernel
theorem d_Model_isNameFree_57 : decode b_Model_isNameFree 57 = .ok (.goto 4, 3) := by decide +kernel
theorem d_Model_isNameFree_60 : decode b_Model_isNameFree 60 = .ok (.iconst 0, 1) := by decide +kernel
theorem d_Model_isNameFree_61 : decode b_Model_isNameFree 61 = .ok (.ireturn, 1) := by decide +kernel
theorem d_Model_insert_0 : decode b_Model_insert 0 = .ok (.aload_n 0, 1) := by decide +kernel
theorem d_Model_insert_1 : decode b_Model_insert 1 = .ok (.iconst 0, 1) := by decide +kernel
theorem d_Model_insert_2 : decode b_Model_insert 2 = .ok (.putfield 59, 3) := by decide +kernel
theorem d_Model_insert_5 : decode b_Model_insert 5 = .ok (.aload_n 0, 1) := by decide +kernel
theorem d_Model_insert_6 : decode b_Model_insert 6 = .ok (.getfield 134, 3) := by decide +kernel
theorem d_Model_insert_9 : decode b_Model_insert 9 = .ok (.aload_n 0, 1) := by decide +kernel
theorem d_Model_insert_10 : decode b_Model_insert 10 = .ok (.getfield 175, 3) := by decide +kernel
theorem d_Model_insert_13 : decode b_Model_insert 13 = .ok (.iadd, 1) := by decide +kernel
theorem d_Model_insert_14 : decode b_Model_insert 14 = .ok (.sipush 2000, 3) := by decide +kernel
theorem d_Model_insert_17 : decode b_Model_insert 17 = .ok (.if_icmp .le 6, 3) := by decide +kernel
theorem d_Model_insert_20 : decode b_Model_insert 20 = .ok (.bipush (-5), 2) := by decide +kernel
theorem d_Model_insert_22 : decode b_Model_insert 22 = .ok (.ireturn, 1) := by decide +kernel
theorem d_Model_insert_23 : decode b_Model_insert 23 = .ok (.aload_n 0, 1) := by decide +kernel
theorem d_Model_insert_24 : decode b_Model_insert 24 = .ok (.iload_n 2, 1) := by decide +kernel
theorem d_Model_insert_25 : decode b_Model_insert 25 = .ok (.invokevirtual 191, 3) := by decide +kernel
theorem d_Model_insert_28 : decode b_Model_insert 28 = .ok (.iconst 1, 1) := by decide +kernel
theorem d_Model_insert_29 : decode b_Model_insert 29 = .ok (.iadd, 1) := by decide +kernel
theorem d_Model_insert_30 : decode b_Model_insert 30 = .ok (.istore_n 3, 1) := by decide +kernel
theorem d_Model_insert_31 : decode b_Model_insert 31 = .ok (.aload_n 0, 1) := by decide +kernel
theorem d_Model_insert_32 : decode b_Model_insert 32 = .ok (.aload_n 0, 1) := by decide +kernel
theorem d_Model_insert_33 : decode b_Model_insert 33 = .ok (.getfield 35, 3) := by decide +kernel
theorem d_Model_insert_36 : decode b_Model_insert 36 = .ok (.iload_n 2, 1) := by decide +kernel
theorem d_Model_insert_37 : decode b_Model_insert 37 = .ok (.iaload, 1) := by decide +kernel
theorem d_Model_insert_38 : decode b_Model_insert 38 = .ok (.iconst 1, 1) := by decide +kernel
theorem d_Model_insert_39 : decode b_Model_insert 39 = .ok (.isub, 1) := by decide +kernel
theorem d_Model_insert_40 : decode b_Model_insert 40 = .ok (.iconst 0, 1) := by decide +kernel
theorem d_Model_insert_41 : decode b_Model_insert 41 = .ok (.iload_n 2, 1) := by decide +kernel
theorem d_Model_insert_42 : decode b_Model_insert 42 = .ok (.invokevirtual 194, 3) := by decide +kernel
theorem d_Model_insert_45 : decode b_Model_insert 45 = .ok (.aload_n 0, 1) := by decide +kernel
theorem d_Model_insert_46 : decode b_Model_insert 46 = .ok (.iload_n 1, 1) := by decide +kernel
theorem d_Model_insert_47 : decode b_Model_insert 47 = .ok (.invokevirtual 143, 3) := by decide +kernel
theorem d_Model_insert_50 : decode b_Model_insert 50 = .ok (.iload_n 3, 1) := by decide +kernel
theorem d_Model_insert_51 : decode b_Model_insert 51 = .ok (.ireturn, 1) := by decide +kernel
theorem d_Model_add_0 : decode b_Model_add 0 = .ok (.iload 6, 2) := by decide +kernel
theorem d_Model_add_2 : decode b_Model_add 2 = .ok (.ifCond .lt 41, 3) := by decide +kernel
theorem d_Model_add_5 : decode b_Model_add 5 = .ok (.iload 7, 2) := by decide +kernel
theorem d_Model_add_7 : decode b_Model_add 7 = .ok (.ifCond .lt 36, 3) := by decide +kernel
theorem d_Model_add_10 : decode b_Model_add 10 = .ok (.iload 6, 2) := by decide +kernel
theorem d_Model_add_12 : decode b_Model_add 12 = .ok (.i2l, 1) := by decide +kernel
theorem d_Model_add_13 : decode b_Model_add 13 = .ok (.iload 7, 2) := by decide +kernel
theorem d_Model_add_15 : decode b_Model_add 15 = .ok (.i2l, 1) := by decide +kernel
theorem d_Model_add_16 : decode b_Model_add 16 = .ok (.ladd, 1) := by decide +kernel
theorem d_Model_add_17 : decode b_Model_add 17 = .ok (.aload_n 0, 1) := by decide +kernel
theorem d_Model_add_18 : decode b_Model_add 18 = .ok (.getfield 59, 3) := by decide +kernel
theorem d_Model_add_21 : decode b_Model_add 21 = .ok (.i2l, 1) := by decide +kernel
theorem d_Model_add_22 : decode b_Model_add 22 = .ok (.lcmp, 1) := by decide +kernel
theorem d_Model_add_23 : decode b_Model_add 23 = .ok (.ifCond .gt 20, 3) := by decide +kernel
theorem d_Model_add_26 : decode b_Model_add 26 = .ok (.aload_n 0, 1) := by decide +kernel
theorem d_Model_add_27 : decode b_Model_add 27 = .ok (.iload_n 1, 1) := by decide +kernel
theorem d_Model_add_28 : decode b_Model_add 28 = .ok (.iload_n 2, 1) := by decide +kernel
theorem d_Model_add_29 : decode b_Model_add 29 = .ok (.invokevirtual 152, 3) := by decide +kernel
theorem d_Model_add_32 : decode b_Model_add 32 = .ok (.ifCond .eq 11, 3) := by decide +kernel
theorem d_Model_add_35 : decode b_Model_add 35 = .ok (.aload_n 0, 1) := by decide +kernel
theorem d_Model_add_36 : decode b_Model_add 36 = .ok (.iload_n 2, 1) := by decide +kernel
theorem d_Model_add_37 : decode b_Model_add 37 = .ok (.invokevirtual 162, 3) := by decide +kernel
theorem d_Model_add_40 : decode b_Model_add 40 = .ok (.ifCond .ne 5, 3) := by decide +kernel
theorem d_Model_add_43 : decode b_Model_add 43 = .ok (.iconst (-1), 1) := by decide +kernel
theorem d_Model_add_44 : decode b_Model_add 44 = .ok (.ireturn, 1) := by decide +kernel
theorem d_Model_add_45 : decode b_Model_add 45 = .ok (.aload_n 0, 1) := by decide +kernel
theorem d_Model_add_46 : decode b_Model_add 46 = .ok (.iload_n 2, 1) := by decide +kernel
theorem d_Model_add_47 : decode b_Model_add 47 = .ok (.iload_n 3, 1) := by decide +kernel
theorem d_Model_add_48 : decode b_Model_add 48 = .ok (.lload 4, 2) := by decide +kernel
theorem d_Model_add_50 : decode b_Model_add 50 = .ok (.iload 6, 2) := by decide +kernel
theorem d_Model_add_52 : decode b_Model_add 52 = .ok (.iload 7, 2) := by decide +kernel
theorem d_Model_add_54 : decode b_Model_add 54 = .ok (.invokevirtual 198, 3) := by decide +kernel
theorem d_Model_add_57 : decode b_Model_add 57 = .ok (.ifCond .ne 8, 3) := by decide +kernel
theorem d_Model_add_60 : decode b_Model_add 60 = .ok (.bipush (-2), 2) := by decide +kernel
theorem d_Model_add_62 : decode b_Model_add 62 = .ok (.goto 62, 3) := by decide +kernel
theorem d_Model_add_65 : decode b_Model_add 65 = .ok (.aload_n 0, 1) := by decide +kernel
theorem d_Model_add_66 : decode b_Model_add 66 = .ok (.iload_n 2, 1) := by decide +kernel
theorem d_Model_add_67 : decode b_Model_add 67 = .ok (.iload 6, 2) := by decide +kernel
theorem d_Model_add_69 : decode b_Model_add 69 = .ok (.invokevirtual 202, 3) := by decide +kernel
theorem d_Model_add_72 : decode b_Model_add 72 = .ok (.ifCond .eq 20, 3) := by decide +kernel
theorem d_Model_add_75 : decode b_Model_add 75 = .ok (.aload_n 0, 1) := by decide +kernel
theorem d_Model_add_76 : decode b_Model_add 76 = .ok (.getfield 7, 3) := by decide +kernel
theorem d_Model_add_79 : decode b_Model_add 79 = .ok (.iload 6, 2) := by decide +kernel
theorem d_Model_add_81 : decode b_Model_add 81 = .ok (.iload 6, 2) := by decide +kernel
theorem d_Model_add_83 : decode b_Model_add 83 = .ok (.iload 7, 2) := by decide +kernel
theorem d_Model_add_85 : decode b_Model_add 85 = .ok (.iadd, 1) := by decide +kernel
theorem d_Model_add_86 : decode b_Model_add 86 = .ok (.invokestatic 105, 3) := by decide +kernel
theorem d_Model_add_89 : decode b_Model_add 89 = .ok (.ifCond .lt 8, 3) := by decide +kernel
theorem d_Model_add_92 : decode b_Model_add 92 = .ok (.bipush (-3), 2) := by decide +kernel
theorem d_Model_add_94 : decode b_Model_add 94 = .ok (.goto 30, 3) := by decide +kernel
theorem d_Model_add_97 : decode b_Model_add 97 = .ok (.iload_n 3, 1) := by decide +kernel
theorem d_Model_add_98 : decode b_Model_add 98 = .ok (.iconst 3, 1) := by decide +kernel
theorem d_Model_add_99 : decode b_Model_add 99 = .ok (.if_icmp .eq 8, 3) := by decide +kernel
theorem d_Model_add_102 : decode b_Model_add 102 = .ok (.iload_n 3, 1) := by decide +kernel
theorem d_Model_add_103 : decode b_Model_add 103 = .ok (.iconst 4, 1) := by decide +kernel
theorem d_Model_add_104 : decode b_Model_add 104 = .ok (.if_icmp .ne 19, 3) := by decide +kernel
theorem d_Model_add_107 : decode b_Model_add 107 = .ok (.aload_n 0, 1) := by decide +kernel
theorem d_Model_add_108 : decode b_Model_add 108 = .ok (.getfield 38, 3) := by decide +kernel
theorem d_Model_add_111 : decode b_Model_add 111 = .ok (.iload_n 2, 1) := by decide +kernel
theorem d_Model_add_112 : decode b_Model_add 112 = .ok (.iaload, 1) := by decide +kernel
theorem d_Model_add_113 : decode b_Model_add 113 = .ok (.bipush 16, 2) := by decide +kernel
theorem d_Model_add_115 : decode b_Model_add 115 = .ok (.if_icmp .ne 8, 3) := by decide +kernel
theorem d_Model_add_118 : decode b_Model_add 118 = .ok (.bipush (-4), 2) := by decide +kernel
theorem d_Model_add_120 : decode b_Model_add 120 = .ok (.goto 4, 3) := by decide +kernel
theorem d_Model_add_123 : decode b_Model_add 123 = .ok (.iconst 0, 1) := by decide +kernel
theorem d_Model_add_124 : decode b_Model_add 124 = .ok (.istore 8, 2) := by decide +kernel
theorem d_Model_add_126 : decode b_Model_add 126 = .ok (.iload 8, 2) := by decide +kernel
theorem d_Model_add_128 : decode b_Model_add 128 = .ok (.ifCond .ge 11, 3) := by decide +kernel
theorem d_Model_add_131 : decode b_Model_add 131 = .ok (.aload_n 0, 1) := by decide +kernel
theorem d_Model_add_132 : decode b_Model_add 132 = .ok (.iconst 0, 1) := by decide +kernel
theorem d_Model_add_133 : decode b_Model_add 133 = .ok (.putfield 59, 3) := by decide +kernel
theorem d_Model_add_136 : decode b_Model_add 136 = .ok (.iload 8, 2) := by decide +kernel
theorem d_Model_add_138 : decode b_Model_add 138 = .ok (.ireturn, 1) := by decide +kernel
theorem d_Model_add_139 : decode b_Model_add 139 = .ok (.aload_n 0, 1) := by decide +kernel
theorem d_Model_add_140 : decode b_Model_add 140 = .ok (.iload_n 2, 1) := by decide +kernel
theorem d_Model_add_141 : decode b_Model_add 141 = .ok (.iload_n 3, 1) := by decide +kernel
theorem d_Model_add_142 : decode b_Model_add 142 = .ok (.iload 6, 2) := by decide +kernel
theorem d_Model_add_144 : decode b_Model_add 144 = .ok (.invokevirtual 205, 3) := by decide +kernel
theorem d_Model_add_147 : decode b_Model_add 147 = .ok (.iload_n 3, 1) := by decide +kernel
theorem d_Model_add_148 : decode b_Model_add 148 = .ok (.bipush 16, 2) := by decide +kernel
theorem d_Model_add_150 : decode b_Model_add 150 = .ok (.if_icmp .eq 9, 3) := by decide +kernel
theorem d_Model_add_153 : decode b_Model_add 153 = .ok (.iload_n 3, 1) := by decide +kernel
theorem d_Model_add_154 : decode b_Model_add 154 = .ok (.bipush 18, 2) := by decide +kernel
theorem d_Model_add_156 : decode b_Model_add 156 = .ok (.if_icmp .ne 24, 3) := by decide +kernel
theorem d_Model_add_159 : decode b_Model_add 159 = .ok (.aload_n 0, 1) := by decide +kernel
theorem d_Model_add_160 : decode b_Model_add 160 = .ok (.lload 4, 2) := by decide +kernel
theorem d_Model_add_162 : decode b_Model_add 162 = .ok (.iload_n 3, 1) := by decide +kernel
theorem d_Model_add_163 : decode b_Model_add 163 = .ok (.bipush 16, 2) := by decide +kernel
theorem d_Model_add_165 : decode b_Model_add 165 = .ok (.if_icmp .ne 7, 3) := by decide +kernel
theorem d_Model_add_168 : decode b_Model_add 168 = .ok (.iconst 4, 1) := by decide +kernel
theorem d_Model_add_169 : decode b_Model_add 169 = .ok (.goto 5, 3) := by decide +kernel
theorem d_Model_add_172 : decode b_Model_add 172 = .ok (.bipush 8, 2) := by decide +kernel
theorem d_Model_add_174 : decode b_Model_add 174 = .ok (.invokevirtual 208, 3) := by decide +kernel
theorem d_Model_add_177 : decode b_Model_add 177 = .ok (.goto 91, 3) := by decide +kernel
theorem d_Model_add_180 : decode b_Model_add 180 = .ok (.iload_n 3, 1) := by decide +kernel
theorem d_Model_add_181 : decode b_Model_add 181 = .ok (.bipush 8, 2) := by decide +kernel
theorem d_Model_add_183 : decode b_Model_add 183 = .ok (.if_icmp .ne 13, 3) := by decide +kernel
theorem d_Model_add_186 : decode b_Model_add 186 = .ok (.aload_n 0, 1) := by decide +kernel
theorem d_Model_add_187 : decode b_Model_add 187 = .ok (.lload 4, 2) := by decide +kernel
theorem d_Model_add_189 : decode b_Model_add 189 = .ok (.l2i, 1) := by decide +kernel
theorem d_Model_add_190 : decode b_Model_add 190 = .ok (.invokevirtual 184, 3) := by decide +kernel
theorem d_Model_add_193 : decode b_Model_add 193 = .ok (.goto 75, 3) := by decide +kernel
theorem d_Model_add_196 : decode b_Model_add 196 = .ok (.iload_n 3, 1) := by decide +kernel
theorem d_Model_add_197 : decode b_Model_add 197 = .ok (.iconst 2, 1) := by decide +kernel
theorem d_Model_add_198 : decode b_Model_add 198 = .ok (.if_icmp .ne 51, 3) := by decide +kernel
theorem d_Model_add_201 : decode b_Model_add 201 = .ok (.aload_n 0, 1) := by decide +kernel
theorem d_Model_add_202 : decode b_Model_add 202 = .ok (.iload 7, 2) := by decide +kernel
theorem d_Model_add_204 : decode b_Model_add 204 = .ok (.i2l, 1) := by decide +kernel
theorem d_Model_add_205 : decode b_Model_add 205 = .ok (.lconst 1, 1) := by decide +kernel
theorem d_Model_add_206 : decode b_Model_add 206 = .ok (.ladd, 1) := by decide +kernel
theorem d_Model_add_207 : decode b_Model_add 207 = .ok (.iconst 4, 1) := by decide +kernel
theorem d_Model_add_208 : decode b_Model_add 208 = .ok (.invokevirtual 208, 3) := by decide +kernel
theorem d_Model_add_211 : decode b_Model_add 211 = .ok (.iconst 0, 1) := by decide +kernel
theorem d_Model_add_212 : decode b_Model_add 212 = .ok (.istore 9, 2) := by decide +kernel
theorem d_Model_add_214 : decode b_Model_add 214 = .ok (.iload 9, 2) := by decide +kernel
theorem d_Model_add_216 : decode b_Model_add 216 = .ok (.iload 7, 2) := by decide +kernel
theorem d_Model_add_218 : decode b_Model_add 218 = .ok (.if_icmp .ge 23, 3) := by decide +kernel
theorem d_Model_add_221 : decode b_Model_add 221 = .ok (.aload_n 0, 1) := by decide +kernel
theorem d_Model_add_222 : decode b_Model_add 222 = .ok (.aload_n 0, 1) := by decide +kernel
theorem d_Model_add_223 : decode b_Model_add 223 = .ok (.getfield 7, 3) := by decide +kernel
theorem d_Model_add_226 : decode b_Model_add 226 = .ok (.iload 6, 2) := by decide +kernel
theorem d_Model_add_228 : decode b_Model_add 228 = .ok (.iload 9, 2) := by decide +kernel
theorem d_Model_add_230 : decode b_Model_add 230 = .ok (.iadd, 1) := by decide +kernel
theorem d_Model_add_231 : decode b_Model_add 231 = .ok (.iaload, 1) := by decide +kernel
theorem d_Model_add_232 : decode b_Model_add 232 = .ok (.invokevirtual 184, 3) := by decide +kernel
theorem d_Model_add_235 : decode b_Model_add 235 = .ok (.iinc 9 1, 3) := by decide +kernel
theorem d_Model_add_238 : decode b_Model_add 238 = .ok (.goto (-24), 3) := by decide +kernel
theorem d_Model_add_241 : decode b_Model_add 241 = .ok (.aload_n 0, 1) := by decide +kernel
theorem d_Model_add_242 : decode b_Model_add 242 = .ok (.iconst 0, 1) := by decide +kernel
theorem d_Model_add_243 : decode b_Model_add 243 = .ok (.invokevirtual 184, 3) := by decide +kernel
theorem d_Model_add_246 : decode b_Model_add 246 = .ok (.goto 22, 3) := by decide +kernel
theorem d_Model_add_249 : decode b_Model_add 249 = .ok (.iload_n 3, 1) := by decide +kernel
theorem d_Model_add_250 : decode b_Model_add 250 = .ok (.bipush 10, 2) := by decide +kernel
theorem d_Model_add_252 : decode b_Model_add 252 = .ok (.if_icmp .eq 16, 3) := by decide +kernel
theorem d_Model_add_255 : decode b_Model_add 255 = .ok (.aload_n 0, 1) := by decide +kernel
theorem d_Model_add_256 : decode b_Model_add 256 = .ok (.ldc2_w 85, 3) := by decide +kernel
theorem d_Model_add_259 : decode b_Model_add 259 = .ok (.iconst 4, 1) := by decide +kernel
theorem d_Model_add_260 : decode b_Model_add 260 = .ok (.invokevirtual 208, 3) := by decide +kernel
theorem d_Model_add_263 : decode b_Model_add 263 = .ok (.aload_n 0, 1) := by decide +kernel
theorem d_Model_add_264 : decode b_Model_add 264 = .ok (.iconst 0, 1) := by decide +kernel
theorem d_Model_add_265 : decode b_Model_add 265 = .ok (.invokevirtual 184, 3) := by decide +kernel
theorem d_Model_add_268 : decode b_Model_add 268 = .ok (.aload_n 0, 1) := by decide +kernel
theorem d_Model_add_269 : decode b_Model_add 269 = .ok (.iload_n 1, 1) := by decide +kernel
theorem d_Model_add_270 : decode b_Model_add 270 = .ok (.iload_n 2, 1) := by decide +kernel
theorem d_Model_add_271 : decode b_Model_add 271 = .ok (.invokevirtual 212, 3) := by decide +kernel
theorem d_Model_add_274 : decode b_Model_add 274 = .ok (.ireturn, 1) := by decide +kernel
theorem d_Model_deepIn_0 : decode b_Model_deepIn 0 = .ok (.iconst 0, 1) := by decide +kernel
theorem d_Model_deepIn_1 : decode b_Model_deepIn 1 = .ok (.istore_n 2, 1) := by decide +kernel
theorem d_Model_deepIn_2 : decode b_Model_deepIn 2 = .ok (.aload_n 0, 1) := by decide +kernel
theorem d_Model_deepIn_3 : decode b_Model_deepIn 3 = .ok (.iload_n 1, 1) := by decide +kernel
theorem d_Model_deepIn_4 : decode b_Model_deepIn 4 = .ok (.invokevirtual 191, 3) := by decide +kernel
theorem d_Model_deepIn_7 : decode b_Model_deepIn 7 = .ok (.istore_n 3, 1) := by decide +kernel
theorem d_Model_deepIn_8 : decode b_Model_deepIn 8 = .ok (.iload_n 1, 1) := by decide +kernel
theorem d_Model_deepIn_9 : decode b_Model_deepIn 9 = .ok (.istore 4, 2) := by decide +kernel
theorem d_Model_deepIn_11 : decode b_Model_deepIn 11 = .ok (.iload 4, 2) := by decide +kernel
theorem d_Model_deepIn_13 : decode b_Model_deepIn 13 = .ok (.iload_n 3, 1) := by decide +kernel
theorem d_Model_deepIn_14 : decode b_Model_deepIn 14 = .ok (.if_icmp .gt 55, 3) := by decide +kernel
theorem d_Model_deepIn_17 : decode b_Model_deepIn 17 = .ok (.aload_n 0, 1) := by decide +kernel
theorem d_Model_deepIn_18 : decode b_Model_deepIn 18 = .ok (.iload 4, 2) := by decide +kernel
theorem d_Model_deepIn_20 : decode b_Model_deepIn 20 = .ok (.invokevirtual 162, 3) := by decide +kernel
theorem d_Model_deepIn_23 : decode b_Model_deepIn 23 = .ok (.ifCond .eq 40, 3) := by decide +kernel
theorem d_Model_deepIn_26 : decode b_Model_deepIn 26 = .ok (.aload_n 0, 1) := by decide +kernel
theorem d_Model_deepIn_27 : decode b_Model_deepIn 27 = .ok (.getfield 38, 3) := by decide +kernel
theorem d_Model_deepIn_30 : decode b_Model_deepIn 30 = .ok (.iload 4, 2) := by decide +kernel
theorem d_Model_deepIn_32 : decode b_Model_deepIn 32 = .ok (.iaload, 1) := by decide +kernel
theorem d_Model_deepIn_33 : decode b_Model_deepIn 33 = .ok (.aload_n 0, 1) := by decide +kernel
theorem d_Model_deepIn_34 : decode b_Model_deepIn 34 = .ok (.getfield 38, 3) := by decide +kernel
theorem d_Model_deepIn_37 : decode b_Model_deepIn 37 = .ok (.iload_n 1, 1) := by decide +kernel
theorem d_Model_deepIn_38 : decode b_Model_deepIn 38 = .ok (.iaload, 1) := by decide +kernel
theorem d_Model_deepIn_39 : decode b_Model_deepIn 39 = .ok (.isub, 1) := by decide +kernel
theorem d_Model_deepIn_40 : decode b_Model_deepIn 40 = .ok (.iconst 1, 1) := by decide +kernel
theorem d_Model_deepIn_41 : decode b_Model_deepIn 41 = .ok (.iadd, 1) := by decide +kernel
theorem d_Model_deepIn_42 : decode b_Model_deepIn 42 = .ok (.iload_n 2, 1) := by decide +kernel
theorem d_Model_deepIn_43 : decode b_Model_deepIn 43 = .ok (.if_icmp .le 20, 3) := by decide +kernel
theorem d_Model_deepIn_46 : decode b_Model_deepIn 46 = .ok (.aload_n 0, 1) := by decide +kernel
theorem d_Model_deepIn_47 : decode b_Model_deepIn 47 = .ok (.getfield 38, 3) := by decide +kernel
theorem d_Model_deepIn_50 : decode b_Model_deepIn 50 = .ok (.iload 4, 2) := by decide +kernel
theorem d_Model_deepIn_52 : decode b_Model_deepIn 52 = .ok (.iaload, 1) := by decide +kernel
theorem d_Model_deepIn_53 : decode b_Model_deepIn 53 = .ok (.aload_n 0, 1) := by decide +kernel
theorem d_Model_deepIn_54 : decode b_Model_deepIn 54 = .ok (.getfield 38, 3) := by decide +kernel
theorem d_Model_deepIn_57 : decode b_Model_deepIn 57 = .ok (.iload_n 1, 1) := by decide +kernel
theorem d_Model_deepIn_58 : decode b_Model_deepIn 58 = .ok (.iaload, 1) := by decide +kernel
theorem d_Model_deepIn_59 : decode b_Model_deepIn 59 = .ok (.isub, 1) := by decide +kernel
theorem d_Model_deepIn_60 : decode b_Model_deepIn 60 = .ok (.iconst 1, 1) := by decide +kernel
theorem d_Model_deepIn_61 : decode b_Model_deepIn 61 = .ok (.iadd, 1) := by decide +kernel
theorem d_Model_deepIn_62 : decode b_Model_deepIn 62 = .ok (.istore_n 2, 1) := by decide +kernel
theorem d_Model_deepIn_63 : decode b_Model_deepIn 63 = .ok (.iinc 4 1, 3) := by decide +kernel
theorem d_Model_deepIn_66 : decode b_Model_deepIn 66 = .ok (.goto (-55), 3) := by decide +kernel
theorem d_Model_deepIn_69 : decode b_Model_deepIn 69 = .ok (.iload_n 2, 1) := by decide +kernel
theorem d_Model_deepIn_70 : decode b_Model_deepIn 70 = .ok (.ireturn, 1) := by decide +kernel
theorem d_Model_graft_0 : decode b_Model_graft 0 = .ok (.iload 5, 2) := by decide +kernel
theorem d_Model_graft_2 : decode b_Model_graft 2 = .ok (.ifCond .lt 39, 3) := by decide +kernel
theorem d_Model_graft_5 : decode b_Model_graft 5 = .ok (.iload 5, 2) := by decide +kernel
theorem d_Model_graft_7 : decode b_Model_graft 7 = .ok (.aload_n 0, 1) := by decide +kernel
theorem d_Model_graft_8 : decode b_Model_graft 8 = .ok (.getfield 59, 3) := by decide +kernel
theorem d_Model_graft_11 : decode b_Model_graft 11 = .ok (.if_icmp .gt 30, 3) := by decide +kernel
theorem d_Model_graft_14 : decode b_Model_graft 14 = .ok (.aload_n 0, 1) := by decide +kernel
theorem d_Model_graft_15 : decode b_Model_graft 15 = .ok (.iload_n 1, 1) := by decide +kernel
theorem d_Model_graft_16 : decode b_Model_graft 16 = .ok (.iload_n 2, 1) := by decide +kernel
theorem d_Model_graft_17 : decode b_Model_graft 17 = .ok (.invokevirtual 152, 3) := by decide +kernel
theorem d_Model_graft_20 : decode b_Model_graft 20 = .ok (.ifCond .eq 21, 3) := by decide +kernel
theorem d_Model_graft_23 : decode b_Model_graft 23 = .ok (.aload_n 0, 1) := by decide +kernel
theorem d_Model_graft_24 : decode b_Model_graft 24 = .ok (.iload_n 2, 1) := by decide +kernel
theorem d_Model_graft_25 : decode b_Model_graft 25 = .ok (.invokevirtual 162, 3) := by decide +kernel
theorem d_Model_graft_28 : decode b_Model_graft 28 = .ok (.ifCond .eq 13, 3) := by decide +kernel
theorem d_Model_graft_31 : decode b_Model_graft 31 = .ok (.aload_n 0, 1) := by decide +kernel
theorem d_Model_graft_32 : decode b_Model_graft 32 = .ok (.iload_n 3, 1) := by decide +kernel
theorem d_Model_graft_33 : decode b_Model_graft 33 = .ok (.iload 4, 2) := by decide +kernel
theorem d_Model_graft_35 : decode b_Model_graft 35 = .ok (.invokevirtual 152, 3) := by decide +kernel
theorem d_Model_graft_38 : decode b_Model_graft 38 = .ok (.ifCond .ne 5, 3) := by decide +kernel
theorem d_Model_graft_41 : decode b_Model_graft 41 = .ok (.iconst (-1), 1) := by decide +kernel
theorem d_Model_graft_42 : decode b_Model_graft 42 = .ok (.ireturn, 1) := by decide +kernel
theorem d_Model_graft_43 : decode b_Model_graft 43 = .ok (.aload_n 0, 1) := by decide +kernel
theorem d_Model_graft_44 : decode b_Model_graft 44 = .ok (.iload 4, 2) := by decide +kernel
theorem d_Model_graft_46 : decode b_Model_graft 46 = .ok (.invokevirtual 149, 3) := by decide +kernel
theorem d_Model_graft_49 : decode b_Model_graft 49 = .ok (.istore 6, 2) := by decide +kernel
theorem d_Model_graft_51 : decode b_Model_graft 51 = .ok (.aload_n 0, 1) := by decide +kernel
theorem d_Model_graft_52 : decode b_Model_graft 52 = .ok (.iload 4, 2) := by decide +kernel
theorem d_Model_graft_54 : decode b_Model_graft 54 = .ok (.invokevirtual 162, 3) := by decide +kernel
theorem d_Model_graft_57 : decode b_Model_graft 57 = .ok (.ifCond .eq 12, 3) := by decide +kernel
theorem d_Model_graft_60 : decode b_Model_graft 60 = .ok (.aload_n 0, 1) := by decide +kernel
theorem d_Model_graft_61 : decode b_Model_graft 61 = .ok (.iload 4, 2) := by decide +kernel
theorem d_Model_graft_63 : decode b_Model_graft 63 = .ok (.invokevirtual 215, 3) := by decide +kernel
theorem d_Model_graft_66 : decode b_Model_graft 66 = .ok (.goto 4, 3) := by decide +kernel
theorem d_Model_graft_69 : decode b_Model_graft 69 = .ok (.iconst 0, 1) := by decide +kernel
theorem d_Model_graft_70 : decode b_Model_graft 70 = .ok (.istore 7, 2) := by decide +kernel
theorem d_Model_graft_72 : decode b_Model_graft 72 = .ok (.aload_n 0, 1) := by decide +kernel
theorem d_Model_graft_73 : decode b_Model_graft 73 = .ok (.iload 4, 2) := by decide +kernel
theorem d_Model_graft_75 : decode b_Model_graft 75 = .ok (.invokevirtual 159, 3) := by decide +kernel
theorem d_Model_graft_78 : decode b_Model_graft 78 = .ok (.istore 8, 2) := by decide +kernel
theorem d_Model_graft_80 : decode b_Model_graft 80 = .ok (.aload_n 0, 1) := by decide +kernel
theorem d_Model_graft_81 : decode b_Model_graft 81 = .ok (.getfield 35, 3) := by decide +kernel
theorem d_Model_graft_84 : decode b_Model_graft 84 = .ok (.iload 4, 2) := by decide +kernel
theorem d_Model_graft_86 : decode b_Model_graft 86 = .ok (.iaload, 1) := by decide +kernel
theorem d_Model_graft_87 : decode b_Model_graft 87 = .ok (.iload 8, 2) := by decide +kernel
theorem d_Model_graft_89 : decode b_Model_graft 89 = .ok (.isub, 1) := by decide +kernel
theorem d_Model_graft_90 : decode b_Model_graft 90 = .ok (.istore 9, 2) := by decide +kernel
theorem d_Model_graft_92 : decode b_Model_graft 92 = .ok (.aload_n 0, 1) := by decide +kernel
theorem d_Model_graft_93 : decode b_Model_graft 93 = .ok (.iload_n 1, 1) := by decide +kernel
theorem d_Model_graft_94 : decode b_Model_graft 94 = .ok (.invokevirtual 146, 3) := by decide +kernel
theorem d_Model_graft_97 : decode b_Model_graft 97 = .ok (.aload_n 0, 1) := by decide +kernel
theorem d_Model_graft_98 : decode b_Model_graft 98 = .ok (.iload_n 2, 1) := by decide +kernel
theorem d_Model_graft_99 : decode b_Model_graft 99 = .ok (.invokevirtual 149, 3) := by decide +kernel
theorem d_Model_graft_102 : decode b_Model_graft 102 = .ok (.iconst 4, 1) := by decide +kernel
theorem d_Model_graft_103 : decode b_Model_graft 103 = .ok (.if_icmp .ne 13, 3) := by decide +kernel
theorem d_Model_graft_106 : decode b_Model_graft 106 = .ok (.iload 5, 2) := by decide +kernel
theorem d_Model_graft_108 : decode b_Model_graft 108 = .ok (.ifCond .le 8, 3) := by decide +kernel
theorem d_Model_graft_111 : decode b_Model_graft 111 = .ok (.bipush (-2), 2) := by decide +kernel
theorem d_Model_graft_113 : decode b_Model_graft 113 = .ok (.goto 43, 3) := by decide +kernel
theorem d_Model_graft_116 : decode b_Model_graft 116 = .ok (.aload_n 0, 1) := by decide +kernel
theorem d_Model_graft_117 : decode b_Model_graft 117 = .ok (.iload_n 2, 1) := by decide +kernel
theorem d_Model_graft_118 : decode b_Model_graft 118 = .ok (.iload 5, 2) := by decide +kernel
theorem d_Model_graft_120 : decode b_Model_graft 120 = .ok (.invokevirtual 202, 3) := by decide +kernel
theorem d_Model_graft_123 : decode b_Model_graft 123 = .ok (.ifCond .ne 8, 3) := by decide +kernel
theorem d_Model_graft_126 : decode b_Model_graft 126 = .ok (.bipush (-3), 2) := by decide +kernel
theorem d_Model_graft_128 : decode b_Model_graft 128 = .ok (.goto 28, 3) := by decide +kernel
theorem d_Model_graft_131 : decode b_Model_graft 131 = .ok (.iload 7, 2) := by decide +kernel
theorem d_Model_graft_133 : decode b_Model_graft 133 = .ok (.ifCond .le 22, 3) := by decide +kernel
theorem d_Model_graft_136 : decode b_Model_graft 136 = .ok (.aload_n 0, 1) := by decide +kernel
theorem d_Model_graft_137 : decode b_Model_graft 137 = .ok (.getfield 38, 3) := by decide +kernel
theorem d_Model_graft_140 : decode b_Model_graft 140 = .ok (.iload_n 2, 1) := by decide +kernel
theorem d_Model_graft_141 : decode b_Model_graft 141 = .ok (.iaload, 1) := by decide +kernel
theorem d_Model_graft_142 : decode b_Model_graft 142 = .ok (.iload 7, 2) := by decide +kernel
theorem d_Model_graft_144 : decode b_Model_graft 144 = .ok (.iadd, 1) := by decide +kernel
theorem d_Model_graft_145 : decode b_Model_graft 145 = .ok (.bipush 16, 2) := by decide +kernel
theorem d_Model_graft_147 : decode b_Model_graft 147 = .ok (.if_icmp .le 8, 3) := by decide +kernel
theorem d_Model_graft_150 : decode b_Model_graft 150 = .ok (.bipush (-4), 2) := by decide +kernel
theorem d_Model_graft_152 : decode b_Model_graft 152 = .ok (.goto 4, 3) := by decide +kernel
theorem d_Model_graft_155 : decode b_Model_graft 155 = .ok (.iconst 0, 1) := by decide +kernel
theorem d_Model_graft_156 : decode b_Model_graft 156 = .ok (.istore 10, 2) := by decide +kernel
theorem d_Model_graft_158 : decode b_Model_graft 158 = .ok (.iload 10, 2) := by decide +kernel
theorem d_Model_graft_160 : decode b_Model_graft 160 = .ok (.ifCond .ge 11, 3) := by decide +kernel
theorem d_Model_graft_163 : decode b_Model_graft 163 = .ok (.aload_n 0, 1) := by decide +kernel
theorem d_Model_graft_164 : decode b_Model_graft 164 = .ok (.iconst 0, 1) := by decide +kernel
theorem d_Model_graft_165 : decode b_Model_graft 165 = .ok (.putfield 59, 3) := by decide +kernel
theorem d_Model_graft_168 : decode b_Model_graft 168 = .ok (.iload 10, 2) := by decide +kernel
theorem d_Model_graft_170 : decode b_Model_graft 170 = .ok (.ireturn, 1) := by decide +kernel
theorem d_Model_graft_171 : decode b_Model_graft 171 = .ok (.aload_n 0, 1) := by decide +kernel
theorem d_Model_graft_172 : decode b_Model_graft 172 = .ok (.iload_n 2, 1) := by decide +kernel
theorem d_Model_graft_173 : decode b_Model_graft 173 = .ok (.iload 6, 2) := by decide +kernel
theorem d_Model_graft_175 : decode b_Model_graft 175 = .ok (.iload 5, 2) := by decide +kernel
theorem d_Model_graft_177 : decode b_Model_graft 177 = .ok (.invokevirtual 205, 3) := by decide +kernel
theorem d_Model_graft_180 : decode b_Model_graft 180 = .ok (.iconst 0, 1) := by decide +kernel
theorem d_Model_graft_181 : decode b_Model_graft 181 = .ok (.istore 11, 2) := by decide +kernel
theorem d_Model_graft_183 : decode b_Model_graft 183 = .ok (.iload 11, 2) := by decide +kernel
theorem d_Model_graft_185 : decode b_Model_graft 185 = .ok (.iload 9, 2) := by decide +kernel
theorem d_Model_graft_187 : decode b_Model_graft 187 = .ok (.if_icmp .ge 29, 3) := by decide +kernel
theorem d_Model_graft_190 : decode b_Model_graft 190 = .ok (.aload_n 0, 1) := by decide +kernel
theorem d_Model_graft_191 : decode b_Model_graft 191 = .ok (.aload_n 0, 1) := by decide +kernel
theorem d_Model_graft_192 : decode b_Model_graft 192 = .ok (.getfield 20, 3) := by decide +kernel
theorem d_Model_graft_195 : decode b_Model_graft 195 = .ok (.sipush 2000, 3) := by decide +kernel
theorem d_Model_graft_198 : decode b_Model_graft 198 = .ok (.iload_n 3, 1) := by decide +kernel
theorem d_Model_graft_199 : decode b_Model_graft 199 = .ok (.imul, 1) := by decide +kernel
theorem d_Model_graft_200 : decode b_Model_graft 200 = .ok (.iload 8, 2) := by decide +kernel
theorem d_Model_graft_202 : decode b_Model_graft 202 = .ok (.iadd, 1) := by decide +kernel
theorem d_Model_graft_203 : decode b_Model_graft 203 = .ok (.iload 11, 2) := by decide +kernel
theorem d_Model_graft_205 : decode b_Model_graft 205 = .ok (.iadd, 1) := by decide +kernel
theorem d_Model_graft_206 : decode b_Model_graft 206 = .ok (.iaload, 1) := by decide +kernel
theorem d_Model_graft_207 : decode b_Model_graft 207 = .ok (.invokevirtual 184, 3) := by decide +kernel
theorem d_Model_graft_210 : decode b_Model_graft 210 = .ok (.iinc 11 1, 3) := by decide +kernel
theorem d_Model_graft_213 : decode b_Model_graft 213 = .ok (.goto (-30), 3) := by decide +kernel
theorem d_Model_graft_216 : decode b_Model_graft 216 = .ok (.aload_n 0, 1) := by decide +kernel
theorem d_Model_graft_217 : decode b_Model_graft 217 = .ok (.iload_n 1, 1) := by decide +kernel
theorem d_Model_graft_218 : decode b_Model_graft 218 = .ok (.iload_n 2, 1) := by decide +kernel
theorem d_Model_graft_219 : decode b_Model_graft 219 = .ok (.invokevirtual 212, 3) := by decide +kernel
theorem d_Model_graft_222 : decode b_Model_graft 222 = .ok (.ireturn, 1) := by decide +kernel
theorem d_Model_set_0 : decode b_Model_set 0 = .ok (.aload_n 0, 1) := by decide +kernel
theorem d_Model_set_1 : decode b_Model_set 1 = .ok (.iload_n 1, 1) := by decide +kernel
theorem d_Model_set_2 : decode b_Model_set 2 = .ok (.iload_n 2, 1) := by decide +kernel
theorem d_Model_set_3 : decode b_Model_set 3 = .ok (.invokevirtual 152, 3) := by decide +kernel
theorem d_Model_set_6 : decode b_Model_set 6 = .ok (.ifCond .ne 5, 3) := by decide +kernel
theorem d_Model_set_9 : decode b_Model_set 9 = .ok (.iconst 0, 1) := by decide +kernel
theorem d_Model_set_10 : decode b_Model_set 10 = .ok (.ireturn, 1) := by decide +kernel
theorem d_Model_set_11 : decode b_Model_set 11 = .ok (.aload_n 0, 1) := by decide +kernel
theorem d_Model_set_12 : decode b_Model_set 12 = .ok (.iload_n 2, 1) := by decide +kernel
theorem d_Model_set_13 : decode b_Model_set 13 = .ok (.invokevirtual 149, 3) := by decide +kernel
theorem d_Model_set_16 : decode b_Model_set 16 = .ok (.istore 5, 2) := by decide +kernel
theorem d_Model_set_18 : decode b_Model_set 18 = .ok (.iload 5, 2) := by decide +kernel
theorem d_Model_set_20 : decode b_Model_set 20 = .ok (.bipush 16, 2) := by decide +kernel
theorem d_Model_set_22 : decode b_Model_set 22 = .ok (.if_icmp .eq 17, 3) := by decide +kernel
theorem d_Model_set_25 : decode b_Model_set 25 = .ok (.iload 5, 2) := by decide +kernel
theorem d_Model_set_27 : decode b_Model_set 27 = .ok (.bipush 18, 2) := by decide +kernel
theorem d_Model_set_29 : decode b_Model_set 29 = .ok (.if_icmp .eq 10, 3) := by decide +kernel
theorem d_Model_set_32 : decode b_Model_set 32 = .ok (.iload 5, 2) := by decide +kernel
theorem d_Model_set_34 : decode b_Model_set 34 = .ok (.bipush 8, 2) := by decide +kernel
theorem d_Model_set_36 : decode b_Model_set 36 = .ok (.if_icmp .ne 16, 3) := by decide +kernel
theorem d_Model_set_39 : decode b_Model_set 39 = .ok (.aload_n 0, 1) := by decide +kernel
theorem d_Model_set_40 : decode b_Model_set 40 = .ok (.iconst 0, 1) := by decide +kernel
theorem d_Model_set_41 : decode b_Model_set 41 = .ok (.iload 5, 2) := by decide +kernel
theorem d_Model_set_43 : decode b_Model_set 43 = .ok (.lload_n 3, 1) := by decide +kernel
theorem d_Model_set_44 : decode b_Model_set 44 = .ok (.iconst 0, 1) := by decide +kernel
theorem d_Model_set_45 : decode b_Model_set 45 = .ok (.iconst 0, 1) := by decide +kernel
theorem d_Model_set_46 : decode b_Model_set 46 = .ok (.invokevirtual 198, 3) := by decide +kernel
theorem d_Model_set_49 : decode b_Model_set 49 = .ok (.ifCond .ne 5, 3) := by decide +kernel
theorem d_Model_set_52 : decode b_Model_set 52 = .ok (.iconst 0, 1) := by decide +kernel
theorem d_Model_set_53 : decode b_Model_set 53 = .ok (.ireturn, 1) := by decide +kernel
theorem d_Model_set_54 : decode b_Model_set 54 = .ok (.iload 5, 2) := by decide +kernel
theorem d_Model_set_56 : decode b_Model_set 56 = .ok (.bipush 16, 2) := by decide +kernel
theorem d_Model_set_58 : decode b_Model_set 58 = .ok (.if_icmp .ne 7, 3) := by decide +kernel
theorem d_Model_set_61 : decode b_Model_set 61 = .ok (.iconst 4, 1) := by decide +kernel
theorem d_Model_set_62 : decode b_Model_set 62 = .ok (.goto 16, 3) := by decide +kernel
theorem d_Model_set_65 : decode b_Model_set 65 = .ok (.iload 5, 2) := by decide +kernel
theorem d_Model_set_67 : decode b_Model_set 67 = .ok (.bipush 18, 2) := by decide +kernel
theorem d_Model_set_69 : decode b_Model_set 69 = .ok (.if_icmp .ne 8, 3) := by decide +kernel
theorem d_Model_set_72 : decode b_Model_set 72 = .ok (.bipush 8, 2) := by decide +kernel
theorem d_Model_set_74 : decode b_Model_set 74 = .ok (.goto 4, 3) := by decide +kernel
theorem d_Model_set_77 : decode b_Model_set 77 = .ok (.iconst 1, 1) := by decide +kernel
theorem d_Model_set_78 : decode b_Model_set 78 = .ok (.istore 6, 2) := by decide +kernel
theorem d_Model_set_80 : decode b_Model_set 80 = .ok (.iconst 0, 1) := by decide +kernel
theorem d_Model_set_81 : decode b_Model_set 81 = .ok (.istore 7, 2) := by decide +kernel
theorem d_Model_set_83 : decode b_Model_set 83 = .ok (.iload 7, 2) := by decide +kernel
theorem d_Model_set_85 : decode b_Model_set 85 = .ok (.iload 6, 2) := by decide +kernel
theorem d_Model_set_87 : decode b_Model_set 87 = .ok (.if_icmp .ge 34, 3) := by decide +kernel
theorem d_Model_set_90 : decode b_Model_set 90 = .ok (.aload_n 0, 1) := by decide +kernel
theorem d_Model_set_91 : decode b_Model_set 91 = .ok (.getfield 23, 3) := by decide +kernel
theorem d_Model_set_94 : decode b_Model_set 94 = .ok (.aload_n 0, 1) := by decide +kernel
theorem d_Model_set_95 : decode b_Model_set 95 = .ok (.iload_n 2, 1) := by decide +kernel
theorem d_Model_set_96 : decode b_Model_set 96 = .ok (.invokevirtual 159, 3) := by decide +kernel
theorem d_Model_set_99 : decode b_Model_set 99 = .ok (.iload 7, 2) := by decide +kernel
theorem d_Model_set_101 : decode b_Model_set 101 = .ok (.iadd, 1) := by decide +kernel
theorem d_Model_set_102 : decode b_Model_set 102 = .ok (.lload_n 3, 1) := by decide +kernel
theorem d_Model_set_103 : decode b_Model_set 103 = .ok (.bipush 8, 2) := by decide +kernel
theorem d_Model_set_105 : decode b_Model_set 105 = .ok (.iload 7, 2) := by decide +kernel
theorem d_Model_set_107 : decode b_Model_set 107 = .ok (.imul, 1) := by decide +kernel
theorem d_Model_set_108 : decode b_Model_set 108 = .ok (.lshr, 1) := by decide +kernel
theorem d_Model_set_109 : decode b_Model_set 109 = .ok (.ldc2_w 182, 3) := by decide +kernel
theorem d_Model_set_112 : decode b_Model_set 112 = .ok (.land, 1) := by decide +kernel
theorem d_Model_set_113 : decode b_Model_set 113 = .ok (.l2i, 1) := by decide +kernel
theorem d_Model_set_114 : decode b_Model_set 114 = .ok (.iastore, 1) := by decide +kernel
theorem d_Model_set_115 : decode b_Model_set 115 = .ok (.iinc 7 1, 3) := by decide +kernel
theorem d_Model_set_118 : decode b_Model_set 118 = .ok (.goto (-35), 3) := by decide +kernel
theorem d_Model_set_121 : decode b_Model_set 121 = .ok (.aload_n 0, 1) := by decide +kernel
theorem d_Model_set_122 : decode b_Model_set 122 = .ok (.iload_n 1, 1) := by decide +kernel
theorem d_Model_set_123 : decode b_Model_set 123 = .ok (.invokevirtual 143, 3) := by decide +kernel
theorem d_Model_set_126 : decode b_Model_set 126 = .ok (.iconst 1, 1) := by decide +kernel
theorem d_Model_set_127 : decode b_Model_set 127 = .ok (.ireturn, 1) := by decide +kernel
theorem d_Model_drop_0 : decode b_Model_drop 0 = .ok (.aload_n 0, 1) := by decide +kernel
theorem d_Model_drop_1 : decode b_Model_drop 1 = .ok (.iload_n 1, 1) := by decide +kernel
theorem d_Model_drop_2 : decode b_Model_drop 2 = .ok (.iload_n 2, 1) := by decide +kernel
theorem d_Model_drop_3 : decode b_Model_drop 3 = .ok (.invokevirtual 152, 3) := by decide +kernel
theorem d_Model_drop_6 : decode b_Model_drop 6 = .ok (.ifCond .eq 7, 3) := by decide +kernel
theorem d_Model_drop_9 : decode b_Model_drop 9 = .ok (.iload_n 2, 1) := by decide +kernel
theorem d_Model_drop_10 : decode b_Model_drop 10 = .ok (.ifCond .ne 5, 3) := by decide +kernel
theorem d_Model_drop_13 : decode b_Model_drop 13 = .ok (.iconst 0, 1) := by decide +kernel
theorem d_Model_drop_14 : decode b_Model_drop 14 = .ok (.ireturn, 1) := by decide +kernel
theorem d_Model_drop_15 : decode b_Model_drop 15 = .ok (.aload_n 0, 1) := by decide +kernel
theorem d_Model_drop_16 : decode b_Model_drop 16 = .ok (.getfield 26, 3) := by decide +kernel
theorem d_Model_drop_19 : decode b_Model_drop 19 = .ok (.iload_n 2, 1) := by decide +kernel
theorem d_Model_drop_20 : decode b_Model_drop 20 = .ok (.iaload, 1) := by decide +kernel
theorem d_Model_drop_21 : decode b_Model_drop 21 = .ok (.istore_n 3, 1) := by decide +kernel
theorem d_Model_drop_22 : decode b_Model_drop 22 = .ok (.aload_n 0, 1) := by decide +kernel
theorem d_Model_drop_23 : decode b_Model_drop 23 = .ok (.iload_n 3, 1) := by decide +kernel
theorem d_Model_drop_24 : decode b_Model_drop 24 = .ok (.invokevirtual 149, 3) := by decide +kernel
theorem d_Model_drop_27 : decode b_Model_drop 27 = .ok (.iconst 4, 1) := by decide +kernel
theorem d_Model_drop_28 : decode b_Model_drop 28 = .ok (.if_icmp .ne 7, 3) := by decide +kernel
theorem d_Model_drop_31 : decode b_Model_drop 31 = .ok (.iconst 1, 1) := by decide +kernel
theorem d_Model_drop_32 : decode b_Model_drop 32 = .ok (.goto 4, 3) := by decide +kernel
theorem d_Model_drop_35 : decode b_Model_drop 35 = .ok (.iconst 0, 1) := by decide +kernel
theorem d_Model_drop_36 : decode b_Model_drop 36 = .ok (.istore 4, 2) := by decide +kernel
theorem d_Model_drop_38 : decode b_Model_drop 38 = .ok (.iconst 0, 1) := by decide +kernel
theorem d_Model_drop_39 : decode b_Model_drop 39 = .ok (.istore 5, 2) := by decide +kernel
theorem d_Model_drop_41 : decode b_Model_drop 41 = .ok (.iconst 1, 1) := by decide +kernel
theorem d_Model_drop_42 : decode b_Model_drop 42 = .ok (.istore 6, 2) := by decide +kernel
theorem d_Model_drop_44 : decode b_Model_drop 44 = .ok (.iload 6, 2) := by decide +kernel
theorem d_Model_drop_46 : decode b_Model_drop 46 = .ok (.iload_n 2, 1) := by decide +kernel
theorem d_Model_drop_47 : decode b_Model_drop 47 = .ok (.if_icmp .ge 30, 3) := by decide +kernel
theorem d_Model_drop_50 : decode b_Model_drop 50 = .ok (.iload 5, 2) := by decide +kernel
theorem d_Model_drop_52 : decode b_Model_drop 52 = .ok (.aload_n 0, 1) := by decide +kernel
theorem d_Model_drop_53 : decode b_Model_drop 53 = .ok (.getfield 26, 3) := by decide +kernel
theorem d_Model_drop_56 : decode b_Model_drop 56 = .ok (.iload 6, 2) := by decide +kernel
theorem d_Model_drop_58 : decode b_Model_drop 58 = .ok (.iaload, 1) := by decide +kernel
theorem d_Model_drop_59 : decode b_Model_drop 59 = .ok (.iload_n 3, 1) := by decide +kernel
theorem d_Model_drop_60 : decode b_Model_drop 60 = .ok (.if_icmp .ne 7, 3) := by decide +kernel
theorem d_Model_drop_63 : decode b_Model_drop 63 = .ok (.iconst 1, 1) := by decide +kernel
theorem d_Model_drop_64 : decode b_Model_drop 64 = .ok (.goto 4, 3) := by decide +kernel
theorem d_Model_drop_67 : decode b_Model_drop 67 = .ok (.iconst 0, 1) := by decide +kernel
theorem d_Model_drop_68 : decode b_Model_drop 68 = .ok (.iadd, 1) := by decide +kernel
theorem d_Model_drop_69 : decode b_Model_drop 69 = .ok (.istore 5, 2) := by decide +kernel
theorem d_Model_drop_71 : decode b_Model_drop 71 = .ok (.iinc 6 1, 3) := by decide +kernel
theorem d_Model_drop_74 : decode b_Model_drop 74 = .ok (.goto (-30), 3) := by decide +kernel
theorem d_Model_drop_77 : decode b_Model_drop 77 = .ok (.aload_n 0, 1) := by decide +kernel
theorem d_Model_drop_78 : decode b_Model_drop 78 = .ok (.iconst 0, 1) := by decide +kernel
theorem d_Model_drop_79 : decode b_Model_drop 79 = .ok (.putfield 175, 3) := by decide +kernel
theorem d_Model_drop_82 : decode b_Model_drop 82 = .ok (.aload_n 0, 1) := by decide +kernel
theorem d_Model_drop_83 : decode b_Model_drop 83 = .ok (.aload_n 0, 1) := by decide +kernel
theorem d_Model_drop_84 : decode b_Model_drop 84 = .ok (.getfield 29, 3) := by decide +kernel
theorem d_Model_drop_87 : decode b_Model_drop 87 = .ok (.iload_n 2, 1) := by decide +kernel
theorem d_Model_drop_88 : decode b_Model_drop 88 = .ok (.iaload, 1) := by decide +kernel
theorem d_Model_drop_89 : decode b_Model_drop 89 = .ok (.aload_n 0, 1) := by decide +kernel
theorem d_Model_drop_90 : decode b_Model_drop 90 = .ok (.getfield 35, 3) := by decide +kernel
theorem d_Model_drop_93 : decode b_Model_drop 93 = .ok (.iload_n 2, 1) := by decide +kernel
theorem d_Model_drop_94 : decode b_Model_drop 94 = .ok (.iaload, 1) := by decide +kernel
theorem d_Model_drop_95 : decode b_Model_drop 95 = .ok (.aload_n 0, 1) := by decide +kernel
theorem d_Model_drop_96 : decode b_Model_drop 96 = .ok (.getfield 29, 3) := by decide +kernel
theorem d_Model_drop_99 : decode b_Model_drop 99 = .ok (.iload_n 2, 1) := by decide +kernel
theorem d_Model_drop_100 : decode b_Model_drop 100 = .ok (.iaload, 1) := by decide +kernel
theorem d_Model_drop_101 : decode b_Model_drop 101 = .ok (.isub, 1) := by decide +kernel
theorem d_Model_drop_102 : decode b_Model_drop 102 = .ok (.iload_n 3, 1) := by decide +kernel
theorem d_Model_drop_103 : decode b_Model_drop 103 = .ok (.invokevirtual 194, 3) := by decide +kernel
theorem d_Model_drop_106 : decode b_Model_drop 106 = .ok (.aload_n 0, 1) := by decide +kernel
theorem d_Model_drop_107 : decode b_Model_drop 107 = .ok (.iload_n 1, 1) := by decide +kernel
theorem d_Model_drop_108 : decode b_Model_drop 108 = .ok (.invokevirtual 143, 3) := by decide +kernel
theorem d_Model_drop_111 : decode b_Model_drop 111 = .ok (.iload 4, 2) := by decide +kernel
theorem d_Model_drop_113 : decode b_Model_drop 113 = .ok (.istore 6, 2) := by decide +kernel
theorem d_Model_drop_115 : decode b_Model_drop 115 = .ok (.iload 6, 2) := by decide +kernel
theorem d_Model_drop_117 : decode b_Model_drop 117 = .ok (.ifCond .eq 110, 3) := by decide +kernel
theorem d_Model_drop_120 : decode b_Model_drop 120 = .ok (.aload_n 0, 1) := by decide +kernel
theorem d_Model_drop_121 : decode b_Model_drop 121 = .ok (.invokevirtual 218, 3) := by decide +kernel
theorem d_Model_drop_124 : decode b_Model_drop 124 = .ok (.aload_n 0, 1) := by decide +kernel
theorem d_Model_drop_125 : decode b_Model_drop 125 = .ok (.iload_n 3, 1) := by decide +kernel
theorem d_Model_drop_126 : decode b_Model_drop 126 = .ok (.iload 5, 2) := by decide +kernel
theorem d_Model_drop_128 : decode b_Model_drop 128 = .ok (.invokevirtual 221, 3) := by decide +kernel
theorem d_Model_drop_131 : decode b_Model_drop 131 = .ok (.istore 7, 2) := by decide +kernel
theorem d_Model_drop_133 : decode b_Model_drop 133 = .ok (.iload 7, 2) := by decide +kernel
theorem d_Model_drop_135 : decode b_Model_drop 135 = .ok (.ifCond .le 7, 3) := by decide +kernel
theorem d_Model_drop_138 : decode b_Model_drop 138 = .ok (.iconst 1, 1) := by decide +kernel
theorem d_Model_drop_139 : decode b_Model_drop 139 = .ok (.goto 4, 3) := by decide +kernel
theorem d_Model_drop_142 : decode b_Model_drop 142 = .ok (.iconst 0, 1) := by decide +kernel
theorem d_Model_drop_143 : decode b_Model_drop 143 = .ok (.istore 6, 2) := by decide +kernel
theorem d_Model_drop_145 : decode b_Model_drop 145 = .ok (.iload 6, 2) := by decide +kernel
theorem d_Model_drop_147 : decode b_Model_drop 147 = .ok (.ifCond .eq 77, 3) := by decide +kernel
theorem d_Model_drop_150 : decode b_Model_drop 150 = .ok (.aload_n 0, 1) := by decide +kernel
theorem d_Model_drop_151 : decode b_Model_drop 151 = .ok (.iconst 0, 1) := by decide +kernel
theorem d_Model_drop_152 : decode b_Model_drop 152 = .ok (.putfield 175, 3) := by decide +kernel
theorem d_Model_drop_155 : decode b_Model_drop 155 = .ok (.iconst 0, 1) := by decide +kernel
theorem d_Model_drop_156 : decode b_Model_drop 156 = .ok (.istore 8, 2) := by decide +kernel
theorem d_Model_drop_158 : decode b_Model_drop 158 = .ok (.iload 8, 2) := by decide +kernel
theorem d_Model_drop_160 : decode b_Model_drop 160 = .ok (.iload 5, 2) := by decide +kernel
theorem d_Model_drop_162 : decode b_Model_drop 162 = .ok (.invokestatic 123, 3) := by decide +kernel
theorem d_Model_drop_165 : decode b_Model_drop 165 = .ok (.if_icmp .ge 20, 3) := by decide +kernel
theorem d_Model_drop_168 : decode b_Model_drop 168 = .ok (.aload_n 0, 1) := by decide +kernel
theorem d_Model_drop_169 : decode b_Model_drop 169 = .ok (.iload 5, 2) := by decide +kernel
theorem d_Model_drop_171 : decode b_Model_drop 171 = .ok (.iload 8, 2) := by decide +kernel
theorem d_Model_drop_173 : decode b_Model_drop 173 = .ok (.invokestatic 127, 3) := by decide +kernel
theorem d_Model_drop_176 : decode b_Model_drop 176 = .ok (.invokevirtual 184, 3) := by decide +kernel
theorem d_Model_drop_179 : decode b_Model_drop 179 = .ok (.iinc 8 1, 3) := by decide +kernel
theorem d_Model_drop_182 : decode b_Model_drop 182 = .ok (.goto (-24), 3) := by decide +kernel
theorem d_Model_drop_185 : decode b_Model_drop 185 = .ok (.aload_n 0, 1) := by decide +kernel
theorem d_Model_drop_186 : decode b_Model_drop 186 = .ok (.aload_n 0, 1) := by decide +kernel
theorem d_Model_drop_187 : decode b_Model_drop 187 = .ok (.getfield 29, 3) := by decide +kernel
theorem d_Model_drop_190 : decode b_Model_drop 190 = .ok (.iload 7, 2) := by decide +kernel
theorem d_Model_drop_192 : decode b_Model_drop 192 = .ok (.iaload, 1) := by decide +kernel
theorem d_Model_drop_193 : decode b_Model_drop 193 = .ok (.iconst 1, 1) := by decide +kernel
theorem d_Model_drop_194 : decode b_Model_drop 194 = .ok (.iadd, 1) := by decide +kernel
theorem d_Model_drop_195 : decode b_Model_drop 195 = .ok (.aload_n 0, 1) := by decide +kernel
theorem d_Model_drop_196 : decode b_Model_drop 196 = .ok (.getfield 32, 3) := by decide +kernel
theorem d_Model_drop_199 : decode b_Model_drop 199 = .ok (.iload 7, 2) := by decide +kernel
theorem d_Model_drop_201 : decode b_Model_drop 201 = .ok (.iaload, 1) := by decide +kernel
theorem d_Model_drop_202 : decode b_Model_drop 202 = .ok (.aload_n 0, 1) := by decide +kernel
theorem d_Model_drop_203 : decode b_Model_drop 203 = .ok (.getfield 29, 3) := by decide +kernel
theorem d_Model_drop_206 : decode b_Model_drop 206 = .ok (.iload 7, 2) := by decide +kernel
theorem d_Model_drop_208 : decode b_Model_drop 208 = .ok (.iaload, 1) := by decide +kernel
theorem d_Model_drop_209 : decode b_Model_drop 209 = .ok (.isub, 1) := by decide +kernel
theorem d_Model_drop_210 : decode b_Model_drop 210 = .ok (.iconst 1, 1) := by decide +kernel
theorem d_Model_drop_211 : decode b_Model_drop 211 = .ok (.isub, 1) := by decide +kernel
theorem d_Model_drop_212 : decode b_Model_drop 212 = .ok (.iload_n 3, 1) := by decide +kernel
theorem d_Model_drop_213 : decode b_Model_drop 213 = .ok (.invokevirtual 194, 3) := by decide +kernel
theorem d_Model_drop_216 : decode b_Model_drop 216 = .ok (.aload_n 0, 1) := by decide +kernel
theorem d_Model_drop_217 : decode b_Model_drop 217 = .ok (.iload_n 1, 1) := by decide +kernel
theorem d_Model_drop_218 : decode b_Model_drop 218 = .ok (.invokevirtual 143, 3) := by decide +kernel
theorem d_Model_drop_221 : decode b_Model_drop 221 = .ok (.iinc 5 1, 3) := by decide +kernel
theorem d_Model_drop_224 : decode b_Model_drop 224 = .ok (.goto (-109), 3) := by decide +kernel
theorem d_Model_drop_227 : decode b_Model_drop 227 = .ok (.iconst 1, 1) := by decide +kernel
theorem d_Model_drop_228 : decode b_Model_drop 228 = .ok (.ireturn, 1) := by decide +kernel
theorem d_Model_renumber_0 : decode b_Model_renumber 0 = .ok (.aload_n 0, 1) := by decide +kernel
theorem d_Model_renumber_1 : decode b_Model_renumber 1 = .ok (.iconst 1, 1) := by decide +kernel
theorem d_Model_renumber_2 : decode b_Model_renumber 2 = .ok (.putfield 115, 3) := by decide +kernel
theorem d_Model_renumber_5 : decode b_Model_renumber 5 = .ok (.aload_n 0, 1) := by decide +kernel
theorem d_Model_renumber_6 : decode b_Model_renumber 6 = .ok (.invokevirtual 224, 3) := by decide +kernel
theorem d_Model_renumber_9 : decode b_Model_renumber 9 = .ok (.aload_n 0, 1) := by decide +kernel
theorem d_Model_renumber_10 : decode b_Model_renumber 10 = .ok (.iconst 0, 1) := by decide +kernel
theorem d_Model_renumber_11 : decode b_Model_renumber 11 = .ok (.putfield 115, 3) := by decide +kernel
theorem d_Model_renumber_14 : decode b_Model_renumber 14 = .ok (.return_, 1) := by decide +kernel
theorem d_Model_goOverAgain_0 : decode b_Model_goOverAgain 0 = .ok (.aload_n 0, 1) := by decide +kernel
theorem d_Model_goOverAgain_1 : decode b_Model_goOverAgain 1 = .ok (.getfield 13, 3) := by decide +kernel
theorem d_Model_goOverAgain_4 : decode b_Model_goOverAgain 4 = .ok (.istore_n 1, 1) := by decide +kernel
theorem d_Model_goOverAgain_5 : decode b_Model_goOverAgain 5 = .ok (.aload_n 0, 1) := by decide +kernel
theorem d_Model_goOverAgain_6 : decode b_Model_goOverAgain 6 = .ok (.aload_n 0, 1) := by decide +kernel
theorem d_Model_goOverAgain_7 : decode b_Model_goOverAgain 7 = .ok (.getfield 134, 3) := by decide +kernel
theorem d_Model_goOverAgain_10 : decode b_Model_goOverAgain 10 = .ok (.invokevirtual 137, 3) := by decide +kernel
theorem d_Model_goOverAgain_13 : decode b_Model_goOverAgain 13 = .ok (.aload_n 0, 1) := by decide +kernel
theorem d_Model_goOverAgain_14 : decode b_Model_goOverAgain 14 = .ok (.iload_n 1, 1) := by decide +kernel
theorem d_Model_goOverAgain_15 : decode b_Model_goOverAgain 15 = .ok (.putfield 13, 3) := by decide +kernel
theorem d_Model_goOverAgain_18 : decode b_Model_goOverAgain 18 = .ok (.return_, 1) := by decide +kernel
theorem d_Model_itemOf_0 : decode b_Model_itemOf 0 = .ok (.iconst 0, 1) := by decide +kernel
theorem d_Model_itemOf_1 : decode b_Model_itemOf 1 = .ok (.istore_n 3, 1) := by decide +kernel
theorem d_Model_itemOf_2 : decode b_Model_itemOf 2 = .ok (.iconst 1, 1) := by decide +kernel
theorem d_Model_itemOf_3 : decode b_Model_itemOf 3 = .ok (.istore 4, 2) := by decide +kernel
theorem d_Model_itemOf_5 : decode b_Model_itemOf 5 = .ok (.iload 4, 2) := by decide +kernel
theorem d_Model_itemOf_7 : decode b_Model_itemOf 7 = .ok (.aload_n 0, 1) := by decide +kernel
theorem d_Model_itemOf_8 : decode b_Model_itemOf 8 = .ok (.getfield 90, 3) := by decide +kernel
theorem d_Model_itemOf_11 : decode b_Model_itemOf 11 = .ok (.if_icmp .ge 31, 3) := by decide +kernel
theorem d_Model_itemOf_14 : decode b_Model_itemOf 14 = .ok (.aload_n 0, 1) := by decide +kernel
theorem d_Model_itemOf_15 : decode b_Model_itemOf 15 = .ok (.getfield 26, 3) := by decide +kernel
theorem d_Model_itemOf_18 : decode b_Model_itemOf 18 = .ok (.iload 4, 2) := by decide +kernel
theorem d_Model_itemOf_20 : decode b_Model_itemOf 20 = .ok (.iaload, 1) := by decide +kernel
theorem d_Model_itemOf_21 : decode b_Model_itemOf 21 = .ok (.iload_n 1, 1) := by decide +kernel
theorem d_Model_itemOf_22 : decode b_Model_itemOf 22 = .ok (.if_icmp .ne 14, 3) := by decide +kernel
theorem d_Model_itemOf_25 : decode b_Model_itemOf 25 = .ok (.iload_n 3, 1) := by decide +kernel
theorem d_Model_itemOf_26 : decode b_Model_itemOf 26 = .ok (.iload_n 2, 1) := by decide +kernel
theorem d_Model_itemOf_27 : decode b_Model_itemOf 27 = .ok (.if_icmp .ne 6, 3) := by decide +kernel
theorem d_Model_itemOf_30 : decode b_Model_itemOf 30 = .ok (.iload 4, 2) := by decide +kernel
theorem d_Model_itemOf_32 : decode b_Model_itemOf 32 = .ok (.ireturn, 1) := by decide +kernel
theorem d_Model_itemOf_33 : decode b_Model_itemOf 33 = .ok (.iinc 3 1, 3) := by decide +kernel
theorem d_Model_itemOf_36 : decode b_Model_itemOf 36 = .ok (.iinc 4 1, 3) := by decide +kernel
theorem d_Model_itemOf_39 : decode b_Model_itemOf 39 = .ok (.goto (-34), 3) := by decide +kernel
theorem d_Model_itemOf_42 : decode b_Model_itemOf 42 = .ok (.iconst (-1), 1) := by decide +kernel
theorem d_Model_itemOf_43 : decode b_Model_itemOf 43 = .ok (.ireturn, 1) := by decide +kernel
