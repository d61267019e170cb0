theorem d_Doc_init_0 : decode b_Doc_init 0 = .ok (.aload_n 0, 1) := by decide +kernel
theorem d_Doc_init_1 : decode b_Doc_init 1 = .ok (.invokespecial 3, 3) := by decide +kernel
theorem d_Doc_init_4 : decode b_Doc_init 4 = .ok (.aload_n 0, 1) := by decide +kernel
theorem d_Doc_init_5 : decode b_Doc_init 5 = .ok (.new 9, 3) := by decide +kernel
theorem d_Doc_init_8 : decode b_Doc_init 8 = .ok (.dup, 1) := by decide +kernel
theorem d_Doc_init_9 : decode b_Doc_init 9 = .ok (.sipush 2000, 3) := by decide +kernel
theorem d_Doc_init_12 : decode b_Doc_init 12 = .ok (.invokespecial 11, 3) := by decide +kernel
theorem d_Doc_init_15 : decode b_Doc_init 15 = .ok (.putfield 14, 3) := by decide +kernel
theorem d_Doc_init_18 : decode b_Doc_init 18 = .ok (.aload_n 0, 1) := by decide +kernel
theorem d_Doc_init_19 : decode b_Doc_init 19 = .ok (.new 9, 3) := by decide +kernel
theorem d_Doc_init_22 : decode b_Doc_init 22 = .ok (.dup, 1) := by decide +kernel
theorem d_Doc_init_23 : decode b_Doc_init 23 = .ok (.sipush 2005, 3) := by decide +kernel
theorem d_Doc_init_26 : decode b_Doc_init 26 = .ok (.invokespecial 11, 3) := by decide +kernel
theorem d_Doc_init_29 : decode b_Doc_init 29 = .ok (.putfield 18, 3) := by decide +kernel
theorem d_Doc_init_32 : decode b_Doc_init 32 = .ok (.aload_n 0, 1) := by decide +kernel
theorem d_Doc_init_33 : decode b_Doc_init 33 = .ok (.bipush 8, 2) := by decide +kernel
theorem d_Doc_init_35 : decode b_Doc_init 35 = .ok (.anewarray 9, 3) := by decide +kernel
theorem d_Doc_init_38 : decode b_Doc_init 38 = .ok (.putfield 21, 3) := by decide +kernel
theorem d_Doc_init_41 : decode b_Doc_init 41 = .ok (.iconst 0, 1) := by decide +kernel
theorem d_Doc_init_42 : decode b_Doc_init 42 = .ok (.istore_n 1, 1) := by decide +kernel
theorem d_Doc_init_43 : decode b_Doc_init 43 = .ok (.iload_n 1, 1) := by decide +kernel
theorem d_Doc_init_44 : decode b_Doc_init 44 = .ok (.bipush 8, 2) := by decide +kernel
theorem d_Doc_init_46 : decode b_Doc_init 46 = .ok (.if_icmp .ge 34, 3) := by decide +kernel
theorem d_Doc_init_49 : decode b_Doc_init 49 = .ok (.aload_n 0, 1) := by decide +kernel
theorem d_Doc_init_50 : decode b_Doc_init 50 = .ok (.getfield 21, 3) := by decide +kernel
theorem d_Doc_init_53 : decode b_Doc_init 53 = .ok (.iload_n 1, 1) := by decide +kernel
theorem d_Doc_init_54 : decode b_Doc_init 54 = .ok (.new 9, 3) := by decide +kernel
theorem d_Doc_init_57 : decode b_Doc_init 57 = .ok (.dup, 1) := by decide +kernel
theorem d_Doc_init_58 : decode b_Doc_init 58 = .ok (.sipush 2000, 3) := by decide +kernel
theorem d_Doc_init_61 : decode b_Doc_init 61 = .ok (.invokespecial 11, 3) := by decide +kernel
theorem d_Doc_init_64 : decode b_Doc_init 64 = .ok (.aastore, 1) := by decide +kernel
theorem d_Doc_init_65 : decode b_Doc_init 65 = .ok (.aload_n 0, 1) := by decide +kernel
theorem d_Doc_init_66 : decode b_Doc_init 66 = .ok (.getfield 21, 3) := by decide +kernel
theorem d_Doc_init_69 : decode b_Doc_init 69 = .ok (.iload_n 1, 1) := by decide +kernel
theorem d_Doc_init_70 : decode b_Doc_init 70 = .ok (.aaload, 1) := by decide +kernel
theorem d_Doc_init_71 : decode b_Doc_init 71 = .ok (.invokevirtual 25, 3) := by decide +kernel
theorem d_Doc_init_74 : decode b_Doc_init 74 = .ok (.iinc 1 1, 3) := by decide +kernel
theorem d_Doc_init_77 : decode b_Doc_init 77 = .ok (.goto (-34), 3) := by decide +kernel
theorem d_Doc_init_80 : decode b_Doc_init 80 = .ok (.aload_n 0, 1) := by decide +kernel
theorem d_Doc_init_81 : decode b_Doc_init 81 = .ok (.new 28, 3) := by decide +kernel
theorem d_Doc_init_84 : decode b_Doc_init 84 = .ok (.dup, 1) := by decide +kernel
theorem d_Doc_init_85 : decode b_Doc_init 85 = .ok (.aload_n 0, 1) := by decide +kernel
theorem d_Doc_init_86 : decode b_Doc_init 86 = .ok (.getfield 14, 3) := by decide +kernel
theorem d_Doc_init_89 : decode b_Doc_init 89 = .ok (.invokespecial 30, 3) := by decide +kernel
theorem d_Doc_init_92 : decode b_Doc_init 92 = .ok (.putfield 33, 3) := by decide +kernel
theorem d_Doc_init_95 : decode b_Doc_init 95 = .ok (.aload_n 0, 1) := by decide +kernel
theorem d_Doc_init_96 : decode b_Doc_init 96 = .ok (.new 37, 3) := by decide +kernel
theorem d_Doc_init_99 : decode b_Doc_init 99 = .ok (.dup, 1) := by decide +kernel
theorem d_Doc_init_100 : decode b_Doc_init 100 = .ok (.aload_n 0, 1) := by decide +kernel
theorem d_Doc_init_101 : decode b_Doc_init 101 = .ok (.getfield 33, 3) := by decide +kernel
theorem d_Doc_init_104 : decode b_Doc_init 104 = .ok (.aload_n 0, 1) := by decide +kernel
theorem d_Doc_init_105 : decode b_Doc_init 105 = .ok (.getfield 14, 3) := by decide +kernel
theorem d_Doc_init_108 : decode b_Doc_init 108 = .ok (.invokespecial 39, 3) := by decide +kernel
theorem d_Doc_init_111 : decode b_Doc_init 111 = .ok (.putfield 42, 3) := by decide +kernel
theorem d_Doc_init_114 : decode b_Doc_init 114 = .ok (.aload_n 0, 1) := by decide +kernel
theorem d_Doc_init_115 : decode b_Doc_init 115 = .ok (.iconst (-1), 1) := by decide +kernel
theorem d_Doc_init_116 : decode b_Doc_init 116 = .ok (.putfield 46, 3) := by decide +kernel
theorem d_Doc_init_119 : decode b_Doc_init 119 = .ok (.aload_n 0, 1) := by decide +kernel
theorem d_Doc_init_120 : decode b_Doc_init 120 = .ok (.iconst (-1), 1) := by decide +kernel
theorem d_Doc_init_121 : decode b_Doc_init 121 = .ok (.putfield 50, 3) := by decide +kernel
theorem d_Doc_init_124 : decode b_Doc_init 124 = .ok (.return_, 1) := by decide +kernel
theorem d_Doc_feed_0 : decode b_Doc_feed 0 = .ok (.aload_n 0, 1) := by decide +kernel
theorem d_Doc_feed_1 : decode b_Doc_feed 1 = .ok (.getfield 14, 3) := by decide +kernel
theorem d_Doc_feed_4 : decode b_Doc_feed 4 = .ok (.invokevirtual 53, 3) := by decide +kernel
theorem d_Doc_feed_7 : decode b_Doc_feed 7 = .ok (.sipush 1980, 3) := by decide +kernel
theorem d_Doc_feed_10 : decode b_Doc_feed 10 = .ok (.if_icmp .le 5, 3) := by decide +kernel
theorem d_Doc_feed_13 : decode b_Doc_feed 13 = .ok (.iconst (-1), 1) := by decide +kernel
theorem d_Doc_feed_14 : decode b_Doc_feed 14 = .ok (.ireturn, 1) := by decide +kernel
theorem d_Doc_feed_15 : decode b_Doc_feed 15 = .ok (.aload_n 0, 1) := by decide +kernel
theorem d_Doc_feed_16 : decode b_Doc_feed 16 = .ok (.getfield 14, 3) := by decide +kernel
theorem d_Doc_feed_19 : decode b_Doc_feed 19 = .ok (.iload_n 1, 1) := by decide +kernel
theorem d_Doc_feed_20 : decode b_Doc_feed 20 = .ok (.invokevirtual 57, 3) := by decide +kernel
theorem d_Doc_feed_23 : decode b_Doc_feed 23 = .ok (.aload_n 0, 1) := by decide +kernel
theorem d_Doc_feed_24 : decode b_Doc_feed 24 = .ok (.getfield 14, 3) := by decide +kernel
theorem d_Doc_feed_27 : decode b_Doc_feed 27 = .ok (.iload_n 2, 1) := by decide +kernel
theorem d_Doc_feed_28 : decode b_Doc_feed 28 = .ok (.invokevirtual 57, 3) := by decide +kernel
theorem d_Doc_feed_31 : decode b_Doc_feed 31 = .ok (.aload_n 0, 1) := by decide +kernel
theorem d_Doc_feed_32 : decode b_Doc_feed 32 = .ok (.getfield 14, 3) := by decide +kernel
theorem d_Doc_feed_35 : decode b_Doc_feed 35 = .ok (.iload_n 3, 1) := by decide +kernel
theorem d_Doc_feed_36 : decode b_Doc_feed 36 = .ok (.invokevirtual 57, 3) := by decide +kernel
theorem d_Doc_feed_39 : decode b_Doc_feed 39 = .ok (.aload_n 0, 1) := by decide +kernel
theorem d_Doc_feed_40 : decode b_Doc_feed 40 = .ok (.getfield 14, 3) := by decide +kernel
theorem d_Doc_feed_43 : decode b_Doc_feed 43 = .ok (.iload 4, 2) := by decide +kernel
theorem d_Doc_feed_45 : decode b_Doc_feed 45 = .ok (.invokevirtual 57, 3) := by decide +kernel
theorem d_Doc_feed_48 : decode b_Doc_feed 48 = .ok (.aload_n 0, 1) := by decide +kernel
theorem d_Doc_feed_49 : decode b_Doc_feed 49 = .ok (.getfield 14, 3) := by decide +kernel
theorem d_Doc_feed_52 : decode b_Doc_feed 52 = .ok (.iload 5, 2) := by decide +kernel
theorem d_Doc_feed_54 : decode b_Doc_feed 54 = .ok (.invokevirtual 57, 3) := by decide +kernel
theorem d_Doc_feed_57 : decode b_Doc_feed 57 = .ok (.aload_n 0, 1) := by decide +kernel
theorem d_Doc_feed_58 : decode b_Doc_feed 58 = .ok (.getfield 14, 3) := by decide +kernel
theorem d_Doc_feed_61 : decode b_Doc_feed 61 = .ok (.invokevirtual 53, 3) := by decide +kernel
theorem d_Doc_feed_64 : decode b_Doc_feed 64 = .ok (.ireturn, 1) := by decide +kernel
theorem d_Doc_read_0 : decode b_Doc_read 0 = .ok (.iload_n 1, 1) := by decide +kernel
theorem d_Doc_read_1 : decode b_Doc_read 1 = .ok (.invokestatic 60, 3) := by decide +kernel
theorem d_Doc_read_4 : decode b_Doc_read 4 = .ok (.ifCond .eq 15, 3) := by decide +kernel
theorem d_Doc_read_7 : decode b_Doc_read 7 = .ok (.aload_n 0, 1) := by decide +kernel
theorem d_Doc_read_8 : decode b_Doc_read 8 = .ok (.getfield 14, 3) := by decide +kernel
theorem d_Doc_read_11 : decode b_Doc_read 11 = .ok (.iload_n 2, 1) := by decide +kernel
theorem d_Doc_read_12 : decode b_Doc_read 12 = .ok (.iconst 0, 1) := by decide +kernel
theorem d_Doc_read_13 : decode b_Doc_read 13 = .ok (.invokevirtual 64, 3) := by decide +kernel
theorem d_Doc_read_16 : decode b_Doc_read 16 = .ok (.ifCond .ne 5, 3) := by decide +kernel
theorem d_Doc_read_19 : decode b_Doc_read 19 = .ok (.iconst (-1), 1) := by decide +kernel
theorem d_Doc_read_20 : decode b_Doc_read 20 = .ok (.ireturn, 1) := by decide +kernel
theorem d_Doc_read_21 : decode b_Doc_read 21 = .ok (.aload_n 0, 1) := by decide +kernel
theorem d_Doc_read_22 : decode b_Doc_read 22 = .ok (.iconst (-1), 1) := by decide +kernel
theorem d_Doc_read_23 : decode b_Doc_read 23 = .ok (.putfield 46, 3) := by decide +kernel
theorem d_Doc_read_26 : decode b_Doc_read 26 = .ok (.aload_n 0, 1) := by decide +kernel
theorem d_Doc_read_27 : decode b_Doc_read 27 = .ok (.getfield 42, 3) := by decide +kernel
theorem d_Doc_read_30 : decode b_Doc_read 30 = .ok (.iload_n 2, 1) := by decide +kernel
theorem d_Doc_read_31 : decode b_Doc_read 31 = .ok (.invokevirtual 68, 3) := by decide +kernel
theorem d_Doc_read_34 : decode b_Doc_read 34 = .ok (.istore_n 3, 1) := by decide +kernel
theorem d_Doc_read_35 : decode b_Doc_read 35 = .ok (.aload_n 0, 1) := by decide +kernel
theorem d_Doc_read_36 : decode b_Doc_read 36 = .ok (.aload_n 0, 1) := by decide +kernel
theorem d_Doc_read_37 : decode b_Doc_read 37 = .ok (.getfield 42, 3) := by decide +kernel
theorem d_Doc_read_40 : decode b_Doc_read 40 = .ok (.invokevirtual 72, 3) := by decide +kernel
theorem d_Doc_read_43 : decode b_Doc_read 43 = .ok (.putfield 50, 3) := by decide +kernel
theorem d_Doc_read_46 : decode b_Doc_read 46 = .ok (.iload_n 3, 1) := by decide +kernel
theorem d_Doc_read_47 : decode b_Doc_read 47 = .ok (.ifCond .ne 27, 3) := by decide +kernel
theorem d_Doc_read_50 : decode b_Doc_read 50 = .ok (.aload_n 0, 1) := by decide +kernel
theorem d_Doc_read_51 : decode b_Doc_read 51 = .ok (.getfield 21, 3) := by decide +kernel
theorem d_Doc_read_54 : decode b_Doc_read 54 = .ok (.iload_n 1, 1) := by decide +kernel
theorem d_Doc_read_55 : decode b_Doc_read 55 = .ok (.aaload, 1) := by decide +kernel
theorem d_Doc_read_56 : decode b_Doc_read 56 = .ok (.invokevirtual 74, 3) := by decide +kernel
theorem d_Doc_read_59 : decode b_Doc_read 59 = .ok (.aload_n 0, 1) := by decide +kernel
theorem d_Doc_read_60 : decode b_Doc_read 60 = .ok (.getfield 21, 3) := by decide +kernel
theorem d_Doc_read_63 : decode b_Doc_read 63 = .ok (.iload_n 1, 1) := by decide +kernel
theorem d_Doc_read_64 : decode b_Doc_read 64 = .ok (.aaload, 1) := by decide +kernel
theorem d_Doc_read_65 : decode b_Doc_read 65 = .ok (.aload_n 0, 1) := by decide +kernel
theorem d_Doc_read_66 : decode b_Doc_read 66 = .ok (.getfield 14, 3) := by decide +kernel
theorem d_Doc_read_69 : decode b_Doc_read 69 = .ok (.iconst 0, 1) := by decide +kernel
theorem d_Doc_read_70 : decode b_Doc_read 70 = .ok (.iload_n 2, 1) := by decide +kernel
theorem d_Doc_read_71 : decode b_Doc_read 71 = .ok (.invokevirtual 77, 3) := by decide +kernel
theorem d_Doc_read_74 : decode b_Doc_read 74 = .ok (.aload_n 0, 1) := by decide +kernel
theorem d_Doc_read_75 : decode b_Doc_read 75 = .ok (.getfield 14, 3) := by decide +kernel
theorem d_Doc_read_78 : decode b_Doc_read 78 = .ok (.invokevirtual 74, 3) := by decide +kernel
theorem d_Doc_read_81 : decode b_Doc_read 81 = .ok (.iload_n 3, 1) := by decide +kernel
theorem d_Doc_read_82 : decode b_Doc_read 82 = .ok (.ireturn, 1) := by decide +kernel
theorem d_Doc_place_0 : decode b_Doc_place 0 = .ok (.aload_n 0, 1) := by decide +kernel
theorem d_Doc_place_1 : decode b_Doc_place 1 = .ok (.getfield 50, 3) := by decide +kernel
theorem d_Doc_place_4 : decode b_Doc_place 4 = .ok (.ireturn, 1) := by decide +kernel
theorem d_Doc_many_0 : decode b_Doc_many 0 = .ok (.aload_n 0, 1) := by decide +kernel
theorem d_Doc_many_1 : decode b_Doc_many 1 = .ok (.iload_n 1, 1) := by decide +kernel
theorem d_Doc_many_2 : decode b_Doc_many 2 = .ok (.iconst 0, 1) := by decide +kernel
theorem d_Doc_many_3 : decode b_Doc_many 3 = .ok (.invokevirtual 81, 3) := by decide +kernel
theorem d_Doc_many_6 : decode b_Doc_many 6 = .ok (.ifCond .ne 5, 3) := by decide +kernel
theorem d_Doc_many_9 : decode b_Doc_many 9 = .ok (.iconst (-1), 1) := by decide +kernel
theorem d_Doc_many_10 : decode b_Doc_many 10 = .ok (.ireturn, 1) := by decide +kernel
theorem d_Doc_many_11 : decode b_Doc_many 11 = .ok (.iload_n 2, 1) := by decide +kernel
theorem d_Doc_many_12 : decode b_Doc_many 12 = .ok (.tableswitch 55 0 2 #[28, 38, 46], 28) := by decide +kernel
theorem d_Doc_many_40 : decode b_Doc_many 40 = .ok (.aload_n 0, 1) := by decide +kernel
theorem d_Doc_many_41 : decode b_Doc_many 41 = .ok (.getfield 21, 3) := by decide +kernel
theorem d_Doc_many_44 : decode b_Doc_many 44 = .ok (.iload_n 1, 1) := by decide +kernel
theorem d_Doc_many_45 : decode b_Doc_many 45 = .ok (.aaload, 1) := by decide +kernel
theorem d_Doc_many_46 : decode b_Doc_many 46 = .ok (.invokevirtual 53, 3) := by decide +kernel
theorem d_Doc_many_49 : decode b_Doc_many 49 = .ok (.ireturn, 1) := by decide +kernel
theorem d_Doc_many_50 : decode b_Doc_many 50 = .ok (.aload_n 0, 1) := by decide +kernel
theorem d_Doc_many_51 : decode b_Doc_many 51 = .ok (.getfield 33, 3) := by decide +kernel
theorem d_Doc_many_54 : decode b_Doc_many 54 = .ok (.invokevirtual 84, 3) := by decide +kernel
theorem d_Doc_many_57 : decode b_Doc_many 57 = .ok (.ireturn, 1) := by decide +kernel
theorem d_Doc_many_58 : decode b_Doc_many 58 = .ok (.aload_n 0, 1) := by decide +kernel
theorem d_Doc_many_59 : decode b_Doc_many 59 = .ok (.getfield 33, 3) := by decide +kernel
theorem d_Doc_many_62 : decode b_Doc_many 62 = .ok (.iconst 0, 1) := by decide +kernel
theorem d_Doc_many_63 : decode b_Doc_many 63 = .ok (.invokevirtual 87, 3) := by decide +kernel
theorem d_Doc_many_66 : decode b_Doc_many 66 = .ok (.ireturn, 1) := by decide +kernel
theorem d_Doc_many_67 : decode b_Doc_many 67 = .ok (.iconst (-1), 1) := by decide +kernel
theorem d_Doc_many_68 : decode b_Doc_many 68 = .ok (.ireturn, 1) := by decide +kernel
theorem d_Doc_byteAt_0 : decode b_Doc_byteAt 0 = .ok (.iload_n 1, 1) := by decide +kernel
theorem d_Doc_byteAt_1 : decode b_Doc_byteAt 1 = .ok (.invokestatic 60, 3) := by decide +kernel
theorem d_Doc_byteAt_4 : decode b_Doc_byteAt 4 = .ok (.ifCond .eq 16, 3) := by decide +kernel
theorem d_Doc_byteAt_7 : decode b_Doc_byteAt 7 = .ok (.aload_n 0, 1) := by decide +kernel
theorem d_Doc_byteAt_8 : decode b_Doc_byteAt 8 = .ok (.getfield 21, 3) := by decide +kernel
theorem d_Doc_byteAt_11 : decode b_Doc_byteAt 11 = .ok (.iload_n 1, 1) := by decide +kernel
theorem d_Doc_byteAt_12 : decode b_Doc_byteAt 12 = .ok (.aaload, 1) := by decide +kernel
theorem d_Doc_byteAt_13 : decode b_Doc_byteAt 13 = .ok (.iload_n 2, 1) := by decide +kernel
theorem d_Doc_byteAt_14 : decode b_Doc_byteAt 14 = .ok (.invokevirtual 90, 3) := by decide +kernel
theorem d_Doc_byteAt_17 : decode b_Doc_byteAt 17 = .ok (.goto 4, 3) := by decide +kernel
theorem d_Doc_byteAt_20 : decode b_Doc_byteAt 20 = .ok (.iconst (-1), 1) := by decide +kernel
theorem d_Doc_byteAt_21 : decode b_Doc_byteAt 21 = .ok (.ireturn, 1) := by decide +kernel
theorem d_Doc_look_0 : decode b_Doc_look 0 = .ok (.aload_n 0, 1) := by decide +kernel
theorem d_Doc_look_1 : decode b_Doc_look 1 = .ok (.iload_n 1, 1) := by decide +kernel
theorem d_Doc_look_2 : decode b_Doc_look 2 = .ok (.iload_n 2, 1) := by decide +kernel
theorem d_Doc_look_3 : decode b_Doc_look 3 = .ok (.invokevirtual 81, 3) := by decide +kernel
theorem d_Doc_look_6 : decode b_Doc_look 6 = .ok (.ifCond .ne 5, 3) := by decide +kernel
theorem d_Doc_look_9 : decode b_Doc_look 9 = .ok (.iconst (-1), 1) := by decide +kernel
theorem d_Doc_look_10 : decode b_Doc_look 10 = .ok (.ireturn, 1) := by decide +kernel
theorem d_Doc_look_11 : decode b_Doc_look 11 = .ok (.iload_n 3, 1) := by decide +kernel
theorem d_Doc_look_12 : decode b_Doc_look 12 = .ok (.tableswitch 143 0 8 #[52, 61, 70, 89, 98, 107, 116, 125, 134], 52) := by decide +kernel
theorem d_Doc_look_64 : decode b_Doc_look 64 = .ok (.aload_n 0, 1) := by decide +kernel
theorem d_Doc_look_65 : decode b_Doc_look 65 = .ok (.getfield 33, 3) := by decide +kernel
theorem d_Doc_look_68 : decode b_Doc_look 68 = .ok (.iload_n 2, 1) := by decide +kernel
theorem d_Doc_look_69 : decode b_Doc_look 69 = .ok (.invokevirtual 93, 3) := by decide +kernel
theorem d_Doc_look_72 : decode b_Doc_look 72 = .ok (.ireturn, 1) := by decide +kernel
theorem d_Doc_look_73 : decode b_Doc_look 73 = .ok (.aload_n 0, 1) := by decide +kernel
theorem d_Doc_look_74 : decode b_Doc_look 74 = .ok (.getfield 33, 3) := by decide +kernel
theorem d_Doc_look_77 : decode b_Doc_look 77 = .ok (.iload_n 2, 1) := by decide +kernel
theorem d_Doc_look_78 : decode b_Doc_look 78 = .ok (.invokevirtual 96, 3) := by decide +kernel
theorem d_Doc_look_81 : decode b_Doc_look 81 = .ok (.ireturn, 1) := by decide +kernel
theorem d_Doc_look_82 : decode b_Doc_look 82 = .ok (.aload_n 0, 1) := by decide +kernel
theorem d_Doc_look_83 : decode b_Doc_look 83 = .ok (.getfield 33, 3) := by decide +kernel
theorem d_Doc_look_86 : decode b_Doc_look 86 = .ok (.iload_n 2, 1) := by decide +kernel
theorem d_Doc_look_87 : decode b_Doc_look 87 = .ok (.invokevirtual 99, 3) := by decide +kernel
theorem d_Doc_look_90 : decode b_Doc_look 90 = .ok (.ifCond .le 9, 3) := by decide +kernel
theorem d_Doc_look_93 : decode b_Doc_look 93 = .ok (.iload_n 2, 1) := by decide +kernel
theorem d_Doc_look_94 : decode b_Doc_look 94 = .ok (.iconst 1, 1) := by decide +kernel
theorem d_Doc_look_95 : decode b_Doc_look 95 = .ok (.iadd, 1) := by decide +kernel
theorem d_Doc_look_96 : decode b_Doc_look 96 = .ok (.goto 4, 3) := by decide +kernel
theorem d_Doc_look_99 : decode b_Doc_look 99 = .ok (.iconst (-1), 1) := by decide +kernel
theorem d_Doc_look_100 : decode b_Doc_look 100 = .ok (.ireturn, 1) := by decide +kernel
theorem d_Doc_look_101 : decode b_Doc_look 101 = .ok (.aload_n 0, 1) := by decide +kernel
theorem d_Doc_look_102 : decode b_Doc_look 102 = .ok (.getfield 33, 3) := by decide +kernel
theorem d_Doc_look_105 : decode b_Doc_look 105 = .ok (.iload_n 2, 1) := by decide +kernel
theorem d_Doc_look_106 : decode b_Doc_look 106 = .ok (.invokevirtual 102, 3) := by decide +kernel
theorem d_Doc_look_109 : decode b_Doc_look 109 = .ok (.ireturn, 1) := by decide +kernel
theorem d_Doc_look_110 : decode b_Doc_look 110 = .ok (.aload_n 0, 1) := by decide +kernel
theorem d_Doc_look_111 : decode b_Doc_look 111 = .ok (.getfield 33, 3) := by decide +kernel
theorem d_Doc_look_114 : decode b_Doc_look 114 = .ok (.iload_n 2, 1) := by decide +kernel
theorem d_Doc_look_115 : decode b_Doc_look 115 = .ok (.invokevirtual 105, 3) := by decide +kernel
theorem d_Doc_look_118 : decode b_Doc_look 118 = .ok (.ireturn, 1) := by decide +kernel
theorem d_Doc_look_119 : decode b_Doc_look 119 = .ok (.aload_n 0, 1) := by decide +kernel
theorem d_Doc_look_120 : decode b_Doc_look 120 = .ok (.getfield 33, 3) := by decide +kernel
theorem d_Doc_look_123 : decode b_Doc_look 123 = .ok (.iload_n 2, 1) := by decide +kernel
theorem d_Doc_look_124 : decode b_Doc_look 124 = .ok (.invokevirtual 108, 3) := by decide +kernel
theorem d_Doc_look_127 : decode b_Doc_look 127 = .ok (.ireturn, 1) := by decide +kernel
theorem d_Doc_look_128 : decode b_Doc_look 128 = .ok (.aload_n 0, 1) := by decide +kernel
theorem d_Doc_look_129 : decode b_Doc_look 129 = .ok (.getfield 33, 3) := by decide +kernel
theorem d_Doc_look_132 : decode b_Doc_look 132 = .ok (.iload_n 2, 1) := by decide +kernel
theorem d_Doc_look_133 : decode b_Doc_look 133 = .ok (.invokevirtual 111, 3) := by decide +kernel
theorem d_Doc_look_136 : decode b_Doc_look 136 = .ok (.ireturn, 1) := by decide +kernel
theorem d_Doc_look_137 : decode b_Doc_look 137 = .ok (.aload_n 0, 1) := by decide +kernel
theorem d_Doc_look_138 : decode b_Doc_look 138 = .ok (.getfield 33, 3) := by decide +kernel
theorem d_Doc_look_141 : decode b_Doc_look 141 = .ok (.iload_n 2, 1) := by decide +kernel
theorem d_Doc_look_142 : decode b_Doc_look 142 = .ok (.invokevirtual 99, 3) := by decide +kernel
theorem d_Doc_look_145 : decode b_Doc_look 145 = .ok (.ireturn, 1) := by decide +kernel
theorem d_Doc_look_146 : decode b_Doc_look 146 = .ok (.aload_n 0, 1) := by decide +kernel
theorem d_Doc_look_147 : decode b_Doc_look 147 = .ok (.getfield 33, 3) := by decide +kernel
theorem d_Doc_look_150 : decode b_Doc_look 150 = .ok (.iload_n 2, 1) := by decide +kernel
theorem d_Doc_look_151 : decode b_Doc_look 151 = .ok (.invokevirtual 114, 3) := by decide +kernel
theorem d_Doc_look_154 : decode b_Doc_look 154 = .ok (.ireturn, 1) := by decide +kernel
theorem d_Doc_look_155 : decode b_Doc_look 155 = .ok (.iconst (-1), 1) := by decide +kernel
theorem d_Doc_look_156 : decode b_Doc_look 156 = .ok (.ireturn, 1) := by decide +kernel
theorem d_Doc_number_0 : decode b_Doc_number 0 = .ok (.aload_n 0, 1) := by decide +kernel
theorem d_Doc_number_1 : decode b_Doc_number 1 = .ok (.iload_n 1, 1) := by decide +kernel
theorem d_Doc_number_2 : decode b_Doc_number 2 = .ok (.iload_n 2, 1) := by decide +kernel
theorem d_Doc_number_3 : decode b_Doc_number 3 = .ok (.invokevirtual 81, 3) := by decide +kernel
theorem d_Doc_number_6 : decode b_Doc_number 6 = .ok (.ifCond .ne 5, 3) := by decide +kernel
theorem d_Doc_number_9 : decode b_Doc_number 9 = .ok (.lconst 0, 1) := by decide +kernel
theorem d_Doc_number_10 : decode b_Doc_number 10 = .ok (.lreturn, 1) := by decide +kernel
theorem d_Doc_number_11 : decode b_Doc_number 11 = .ok (.aload_n 0, 1) := by decide +kernel
theorem d_Doc_number_12 : decode b_Doc_number 12 = .ok (.getfield 33, 3) := by decide +kernel
theorem d_Doc_number_15 : decode b_Doc_number 15 = .ok (.iload_n 2, 1) := by decide +kernel
theorem d_Doc_number_16 : decode b_Doc_number 16 = .ok (.invokevirtual 93, 3) := by decide +kernel
theorem d_Doc_number_19 : decode b_Doc_number 19 = .ok (.istore_n 3, 1) := by decide +kernel
theorem d_Doc_number_20 : decode b_Doc_number 20 = .ok (.aload_n 0, 1) := by decide +kernel
theorem d_Doc_number_21 : decode b_Doc_number 21 = .ok (.getfield 21, 3) := by decide +kernel
theorem d_Doc_number_24 : decode b_Doc_number 24 = .ok (.iload_n 1, 1) := by decide +kernel
theorem d_Doc_number_25 : decode b_Doc_number 25 = .ok (.aaload, 1) := by decide +kernel
theorem d_Doc_number_26 : decode b_Doc_number 26 = .ok (.aload_n 0, 1) := by decide +kernel
theorem d_Doc_number_27 : decode b_Doc_number 27 = .ok (.getfield 33, 3) := by decide +kernel
theorem d_Doc_number_30 : decode b_Doc_number 30 = .ok (.iload_n 2, 1) := by decide +kernel
theorem d_Doc_number_31 : decode b_Doc_number 31 = .ok (.invokevirtual 117, 3) := by decide +kernel
theorem d_Doc_number_34 : decode b_Doc_number 34 = .ok (.iload_n 3, 1) := by decide +kernel
theorem d_Doc_number_35 : decode b_Doc_number 35 = .ok (.invokestatic 120, 3) := by decide +kernel
theorem d_Doc_number_38 : decode b_Doc_number 38 = .ok (.invokevirtual 125, 3) := by decide +kernel
theorem d_Doc_number_41 : decode b_Doc_number 41 = .ok (.lstore 4, 2) := by decide +kernel
theorem d_Doc_number_43 : decode b_Doc_number 43 = .ok (.iload_n 3, 1) := by decide +kernel
theorem d_Doc_number_44 : decode b_Doc_number 44 = .ok (.bipush 16, 2) := by decide +kernel
theorem d_Doc_number_46 : decode b_Doc_number 46 = .ok (.if_icmp .ne 10, 3) := by decide +kernel
theorem d_Doc_number_49 : decode b_Doc_number 49 = .ok (.lload 4, 2) := by decide +kernel
theorem d_Doc_number_51 : decode b_Doc_number 51 = .ok (.l2i, 1) := by decide +kernel
theorem d_Doc_number_52 : decode b_Doc_number 52 = .ok (.i2l, 1) := by decide +kernel
theorem d_Doc_number_53 : decode b_Doc_number 53 = .ok (.goto 5, 3) := by decide +kernel
theorem d_Doc_number_56 : decode b_Doc_number 56 = .ok (.lload 4, 2) := by decide +kernel
theorem d_Doc_number_58 : decode b_Doc_number 58 = .ok (.lreturn, 1) := by decide +kernel
theorem d_Doc_letter_0 : decode b_Doc_letter 0 = .ok (.aload_n 0, 1) := by decide +kernel
theorem d_Doc_letter_1 : decode b_Doc_letter 1 = .ok (.iload_n 1, 1) := by decide +kernel
theorem d_Doc_letter_2 : decode b_Doc_letter 2 = .ok (.iload_n 2, 1) := by decide +kernel
theorem d_Doc_letter_3 : decode b_Doc_letter 3 = .ok (.invokevirtual 81, 3) := by decide +kernel
theorem d_Doc_letter_6 : decode b_Doc_letter 6 = .ok (.ifCond .eq 8, 3) := by decide +kernel
theorem d_Doc_letter_9 : decode b_Doc_letter 9 = .ok (.iload 4, 2) := by decide +kernel
theorem d_Doc_letter_11 : decode b_Doc_letter 11 = .ok (.ifCond .ge 5, 3) := by decide +kernel
theorem d_Doc_letter_14 : decode b_Doc_letter 14 = .ok (.iconst (-1), 1) := by decide +kernel
theorem d_Doc_letter_15 : decode b_Doc_letter 15 = .ok (.ireturn, 1) := by decide +kernel
theorem d_Doc_letter_16 : decode b_Doc_letter 16 = .ok (.iload_n 3, 1) := by decide +kernel
theorem d_Doc_letter_17 : decode b_Doc_letter 17 = .ok (.ifCond .eq 14, 3) := by decide +kernel
theorem d_Doc_letter_20 : decode b_Doc_letter 20 = .ok (.aload_n 0, 1) := by decide +kernel
theorem d_Doc_letter_21 : decode b_Doc_letter 21 = .ok (.getfield 33, 3) := by decide +kernel
theorem d_Doc_letter_24 : decode b_Doc_letter 24 = .ok (.iload_n 2, 1) := by decide +kernel
theorem d_Doc_letter_25 : decode b_Doc_letter 25 = .ok (.invokevirtual 111, 3) := by decide +kernel
theorem d_Doc_letter_28 : decode b_Doc_letter 28 = .ok (.goto 11, 3) := by decide +kernel
theorem d_Doc_letter_31 : decode b_Doc_letter 31 = .ok (.aload_n 0, 1) := by decide +kernel
theorem d_Doc_letter_32 : decode b_Doc_letter 32 = .ok (.getfield 33, 3) := by decide +kernel
theorem d_Doc_letter_35 : decode b_Doc_letter 35 = .ok (.iload_n 2, 1) := by decide +kernel
theorem d_Doc_letter_36 : decode b_Doc_letter 36 = .ok (.invokevirtual 105, 3) := by decide +kernel
theorem d_Doc_letter_39 : decode b_Doc_letter 39 = .ok (.istore 5, 2) := by decide +kernel
theorem d_Doc_letter_41 : decode b_Doc_letter 41 = .ok (.iload_n 3, 1) := by decide +kernel
theorem d_Doc_letter_42 : decode b_Doc_letter 42 = .ok (.ifCond .eq 16, 3) := by decide +kernel
theorem d_Doc_letter_45 : decode b_Doc_letter 45 = .ok (.aload_n 0, 1) := by decide +kernel
theorem d_Doc_letter_46 : decode b_Doc_letter 46 = .ok (.getfield 33, 3) := by decide +kernel
theorem d_Doc_letter_49 : decode b_Doc_letter 49 = .ok (.iload_n 2, 1) := by decide +kernel
theorem d_Doc_letter_50 : decode b_Doc_letter 50 = .ok (.invokevirtual 117, 3) := by decide +kernel
theorem d_Doc_letter_53 : decode b_Doc_letter 53 = .ok (.iconst 4, 1) := by decide +kernel
theorem d_Doc_letter_54 : decode b_Doc_letter 54 = .ok (.iadd, 1) := by decide +kernel
theorem d_Doc_letter_55 : decode b_Doc_letter 55 = .ok (.goto 11, 3) := by decide +kernel
theorem d_Doc_letter_58 : decode b_Doc_letter 58 = .ok (.aload_n 0, 1) := by decide +kernel
theorem d_Doc_letter_59 : decode b_Doc_letter 59 = .ok (.getfield 33, 3) := by decide +kernel
theorem d_Doc_letter_62 : decode b_Doc_letter 62 = .ok (.iload_n 2, 1) := by decide +kernel
theorem d_Doc_letter_63 : decode b_Doc_letter 63 = .ok (.invokevirtual 129, 3) := by decide +kernel
theorem d_Doc_letter_66 : decode b_Doc_letter 66 = .ok (.istore 6, 2) := by decide +kernel
theorem d_Doc_letter_68 : decode b_Doc_letter 68 = .ok (.iload 4, 2) := by decide +kernel
theorem d_Doc_letter_70 : decode b_Doc_letter 70 = .ok (.iload 5, 2) := by decide +kernel
theorem d_Doc_letter_72 : decode b_Doc_letter 72 = .ok (.if_icmp .ge 20, 3) := by decide +kernel
theorem d_Doc_letter_75 : decode b_Doc_letter 75 = .ok (.aload_n 0, 1) := by decide +kernel
theorem d_Doc_letter_76 : decode b_Doc_letter 76 = .ok (.getfield 21, 3) := by decide +kernel
theorem d_Doc_letter_79 : decode b_Doc_letter 79 = .ok (.iload_n 1, 1) := by decide +kernel
theorem d_Doc_letter_80 : decode b_Doc_letter 80 = .ok (.aaload, 1) := by decide +kernel
theorem d_Doc_letter_81 : decode b_Doc_letter 81 = .ok (.iload 6, 2) := by decide +kernel
theorem d_Doc_letter_83 : decode b_Doc_letter 83 = .ok (.iload 4, 2) := by decide +kernel
theorem d_Doc_letter_85 : decode b_Doc_letter 85 = .ok (.iadd, 1) := by decide +kernel
theorem d_Doc_letter_86 : decode b_Doc_letter 86 = .ok (.invokevirtual 90, 3) := by decide +kernel
theorem d_Doc_letter_89 : decode b_Doc_letter 89 = .ok (.goto 4, 3) := by decide +kernel
theorem d_Doc_letter_92 : decode b_Doc_letter 92 = .ok (.iconst (-1), 1) := by decide +kernel
theorem d_Doc_letter_93 : decode b_Doc_letter 93 = .ok (.ireturn, 1) := by decide +kernel
theorem d_Doc_find_0 : decode b_Doc_find 0 = .ok (.aload_n 0, 1) := by decide +kernel
theorem d_Doc_find_1 : decode b_Doc_find 1 = .ok (.getfield 14, 3) := by decide +kernel
theorem d_Doc_find_4 : decode b_Doc_find 4 = .ok (.iload_n 3, 1) := by decide +kernel
theorem d_Doc_find_5 : decode b_Doc_find 5 = .ok (.iconst 0, 1) := by decide +kernel
theorem d_Doc_find_6 : decode b_Doc_find 6 = .ok (.invokevirtual 64, 3) := by decide +kernel
theorem d_Doc_find_9 : decode b_Doc_find 9 = .ok (.ifCond .ne 5, 3) := by decide +kernel
theorem d_Doc_find_12 : decode b_Doc_find 12 = .ok (.iconst (-1), 1) := by decide +kernel
theorem d_Doc_find_13 : decode b_Doc_find 13 = .ok (.ireturn, 1) := by decide +kernel
theorem d_Doc_find_14 : decode b_Doc_find 14 = .ok (.aload_n 0, 1) := by decide +kernel
theorem d_Doc_find_15 : decode b_Doc_find 15 = .ok (.iload_n 1, 1) := by decide +kernel
theorem d_Doc_find_16 : decode b_Doc_find 16 = .ok (.iload_n 2, 1) := by decide +kernel
theorem d_Doc_find_17 : decode b_Doc_find 17 = .ok (.invokevirtual 81, 3) := by decide +kernel
theorem d_Doc_find_20 : decode b_Doc_find 20 = .ok (.ifCond .eq 20, 3) := by decide +kernel
theorem d_Doc_find_23 : decode b_Doc_find 23 = .ok (.aload_n 0, 1) := by decide +kernel
theorem d_Doc_find_24 : decode b_Doc_find 24 = .ok (.getfield 33, 3) := by decide +kernel
theorem d_Doc_find_27 : decode b_Doc_find 27 = .ok (.iload_n 2, 1) := by decide +kernel
theorem d_Doc_find_28 : decode b_Doc_find 28 = .ok (.aload_n 0, 1) := by decide +kernel
theorem d_Doc_find_29 : decode b_Doc_find 29 = .ok (.getfield 14, 3) := by decide +kernel
theorem d_Doc_find_32 : decode b_Doc_find 32 = .ok (.iconst 0, 1) := by decide +kernel
theorem d_Doc_find_33 : decode b_Doc_find 33 = .ok (.iload_n 3, 1) := by decide +kernel
theorem d_Doc_find_34 : decode b_Doc_find 34 = .ok (.invokevirtual 132, 3) := by decide +kernel
theorem d_Doc_find_37 : decode b_Doc_find 37 = .ok (.goto 4, 3) := by decide +kernel
theorem d_Doc_find_40 : decode b_Doc_find 40 = .ok (.iconst (-1), 1) := by decide +kernel
theorem d_Doc_find_41 : decode b_Doc_find 41 = .ok (.istore 4, 2) := by decide +kernel
theorem d_Doc_find_43 : decode b_Doc_find 43 = .ok (.aload_n 0, 1) := by decide +kernel
theorem d_Doc_find_44 : decode b_Doc_find 44 = .ok (.getfield 14, 3) := by decide +kernel
theorem d_Doc_find_47 : decode b_Doc_find 47 = .ok (.invokevirtual 74, 3) := by decide +kernel
theorem d_Doc_find_50 : decode b_Doc_find 50 = .ok (.iload 4, 2) := by decide +kernel
theorem d_Doc_find_52 : decode b_Doc_find 52 = .ok (.ireturn, 1) := by decide +kernel
theorem d_Doc_add_0 : decode b_Doc_add 0 = .ok (.aload_n 0, 1) := by decide +kernel
theorem d_Doc_add_1 : decode b_Doc_add 1 = .ok (.iload_n 1, 1) := by decide +kernel
theorem d_Doc_add_2 : decode b_Doc_add 2 = .ok (.iload_n 2, 1) := by decide +kernel
theorem d_Doc_add_3 : decode b_Doc_add 3 = .ok (.invokevirtual 136, 3) := by decide +kernel
theorem d_Doc_add_6 : decode b_Doc_add 6 = .ok (.ifCond .eq 17, 3) := by decide +kernel
theorem d_Doc_add_9 : decode b_Doc_add 9 = .ok (.aload_n 0, 1) := by decide +kernel
theorem d_Doc_add_10 : decode b_Doc_add 10 = .ok (.getfield 14, 3) := by decide +kernel
theorem d_Doc_add_13 : decode b_Doc_add 13 = .ok (.iload 6, 2) := by decide +kernel
theorem d_Doc_add_15 : decode b_Doc_add 15 = .ok (.iload 7, 2) := by decide +kernel
theorem d_Doc_add_17 : decode b_Doc_add 17 = .ok (.invokevirtual 64, 3) := by decide +kernel
theorem d_Doc_add_20 : decode b_Doc_add 20 = .ok (.ifCond .ne 5, 3) := by decide +kernel
theorem d_Doc_add_23 : decode b_Doc_add 23 = .ok (.iconst (-1), 1) := by decide +kernel
theorem d_Doc_add_24 : decode b_Doc_add 24 = .ok (.ireturn, 1) := by decide +kernel
theorem d_Doc_add_25 : decode b_Doc_add 25 = .ok (.aload_n 0, 1) := by decide +kernel
theorem d_Doc_add_26 : decode b_Doc_add 26 = .ok (.iload_n 1, 1) := by decide +kernel
theorem d_Doc_add_27 : decode b_Doc_add 27 = .ok (.iload_n 2, 1) := by decide +kernel
theorem d_Doc_add_28 : decode b_Doc_add 28 = .ok (.iload_n 3, 1) := by decide +kernel
theorem d_Doc_add_29 : decode b_Doc_add 29 = .ok (.lload 4, 2) := by decide +kernel
theorem d_Doc_add_31 : decode b_Doc_add 31 = .ok (.iload 6, 2) := by decide +kernel
theorem d_Doc_add_33 : decode b_Doc_add 33 = .ok (.iload 7, 2) := by decide +kernel
theorem d_Doc_add_35 : decode b_Doc_add 35 = .ok (.invokevirtual 139, 3) := by decide +kernel
theorem d_Doc_add_38 : decode b_Doc_add 38 = .ok (.istore 8, 2) := by decide +kernel
theorem d_Doc_add_40 : decode b_Doc_add 40 = .ok (.aload_n 0, 1) := by decide +kernel
theorem d_Doc_add_41 : decode b_Doc_add 41 = .ok (.getfield 14, 3) := by decide +kernel
theorem d_Doc_add_44 : decode b_Doc_add 44 = .ok (.invokevirtual 74, 3) := by decide +kernel
theorem d_Doc_add_47 : decode b_Doc_add 47 = .ok (.iload 8, 2) := by decide +kernel
theorem d_Doc_add_49 : decode b_Doc_add 49 = .ok (.ireturn, 1) := by decide +kernel
theorem d_Doc_graft_0 : decode b_Doc_graft 0 = .ok (.aload_n 0, 1) := by decide +kernel
theorem d_Doc_graft_1 : decode b_Doc_graft 1 = .ok (.getfield 14, 3) := by decide +kernel
theorem d_Doc_graft_4 : decode b_Doc_graft 4 = .ok (.iload 5, 2) := by decide +kernel
theorem d_Doc_graft_6 : decode b_Doc_graft 6 = .ok (.iconst 0, 1) := by decide +kernel
theorem d_Doc_graft_7 : decode b_Doc_graft 7 = .ok (.invokevirtual 64, 3) := by decide +kernel
theorem d_Doc_graft_10 : decode b_Doc_graft 10 = .ok (.ifCond .eq 13, 3) := by decide +kernel
theorem d_Doc_graft_13 : decode b_Doc_graft 13 = .ok (.aload_n 0, 1) := by decide +kernel
theorem d_Doc_graft_14 : decode b_Doc_graft 14 = .ok (.iload_n 3, 1) := by decide +kernel
theorem d_Doc_graft_15 : decode b_Doc_graft 15 = .ok (.iload 4, 2) := by decide +kernel
theorem d_Doc_graft_17 : decode b_Doc_graft 17 = .ok (.invokevirtual 81, 3) := by decide +kernel
theorem d_Doc_graft_20 : decode b_Doc_graft 20 = .ok (.ifCond .ne 5, 3) := by decide +kernel
theorem d_Doc_graft_23 : decode b_Doc_graft 23 = .ok (.iconst (-1), 1) := by decide +kernel
theorem d_Doc_graft_24 : decode b_Doc_graft 24 = .ok (.ireturn, 1) := by decide +kernel
theorem d_Doc_graft_25 : decode b_Doc_graft 25 = .ok (.aload_n 0, 1) := by decide +kernel
theorem d_Doc_graft_26 : decode b_Doc_graft 26 = .ok (.getfield 33, 3) := by decide +kernel
theorem d_Doc_graft_29 : decode b_Doc_graft 29 = .ok (.iload 4, 2) := by decide +kernel
theorem d_Doc_graft_31 : decode b_Doc_graft 31 = .ok (.invokevirtual 93, 3) := by decide +kernel
theorem d_Doc_graft_34 : decode b_Doc_graft 34 = .ok (.istore 6, 2) := by decide +kernel
theorem d_Doc_graft_36 : decode b_Doc_graft 36 = .ok (.aload_n 0, 1) := by decide +kernel
theorem d_Doc_graft_37 : decode b_Doc_graft 37 = .ok (.getfield 33, 3) := by decide +kernel
theorem d_Doc_graft_40 : decode b_Doc_graft 40 = .ok (.iload 4, 2) := by decide +kernel
theorem d_Doc_graft_42 : decode b_Doc_graft 42 = .ok (.invokevirtual 143, 3) := by decide +kernel
theorem d_Doc_graft_45 : decode b_Doc_graft 45 = .ok (.istore 7, 2) := by decide +kernel
theorem d_Doc_graft_47 : decode b_Doc_graft 47 = .ok (.aload_n 0, 1) := by decide +kernel
theorem d_Doc_graft_48 : decode b_Doc_graft 48 = .ok (.getfield 18, 3) := by decide +kernel
theorem d_Doc_graft_51 : decode b_Doc_graft 51 = .ok (.invokevirtual 74, 3) := by decide +kernel
theorem d_Doc_graft_54 : decode b_Doc_graft 54 = .ok (.aload_n 0, 1) := by decide +kernel
theorem d_Doc_graft_55 : decode b_Doc_graft 55 = .ok (.getfield 18, 3) := by decide +kernel
theorem d_Doc_graft_58 : decode b_Doc_graft 58 = .ok (.aload_n 0, 1) := by decide +kernel
theorem d_Doc_graft_59 : decode b_Doc_graft 59 = .ok (.getfield 21, 3) := by decide +kernel
theorem d_Doc_graft_62 : decode b_Doc_graft 62 = .ok (.iload_n 3, 1) := by decide +kernel
theorem d_Doc_graft_63 : decode b_Doc_graft 63 = .ok (.aaload, 1) := by decide +kernel
theorem d_Doc_graft_64 : decode b_Doc_graft 64 = .ok (.aload_n 0, 1) := by decide +kernel
theorem d_Doc_graft_65 : decode b_Doc_graft 65 = .ok (.getfield 33, 3) := by decide +kernel
theorem d_Doc_graft_68 : decode b_Doc_graft 68 = .ok (.iload 4, 2) := by decide +kernel
theorem d_Doc_graft_70 : decode b_Doc_graft 70 = .ok (.invokevirtual 117, 3) := by decide +kernel
theorem d_Doc_graft_73 : decode b_Doc_graft 73 = .ok (.aload_n 0, 1) := by decide +kernel
theorem d_Doc_graft_74 : decode b_Doc_graft 74 = .ok (.getfield 33, 3) := by decide +kernel
theorem d_Doc_graft_77 : decode b_Doc_graft 77 = .ok (.iload 4, 2) := by decide +kernel
theorem d_Doc_graft_79 : decode b_Doc_graft 79 = .ok (.invokevirtual 108, 3) := by decide +kernel
theorem d_Doc_graft_82 : decode b_Doc_graft 82 = .ok (.invokevirtual 77, 3) := by decide +kernel
theorem d_Doc_graft_85 : decode b_Doc_graft 85 = .ok (.aload_n 0, 1) := by decide +kernel
theorem d_Doc_graft_86 : decode b_Doc_graft 86 = .ok (.iload_n 1, 1) := by decide +kernel
theorem d_Doc_graft_87 : decode b_Doc_graft 87 = .ok (.iload_n 2, 1) := by decide +kernel
theorem d_Doc_graft_88 : decode b_Doc_graft 88 = .ok (.invokevirtual 136, 3) := by decide +kernel
theorem d_Doc_graft_91 : decode b_Doc_graft 91 = .ok (.ifCond .ne 5, 3) := by decide +kernel
theorem d_Doc_graft_94 : decode b_Doc_graft 94 = .ok (.iconst (-1), 1) := by decide +kernel
theorem d_Doc_graft_95 : decode b_Doc_graft 95 = .ok (.ireturn, 1) := by decide +kernel
theorem d_Doc_graft_96 : decode b_Doc_graft 96 = .ok (.aload_n 0, 1) := by decide +kernel
theorem d_Doc_graft_97 : decode b_Doc_graft 97 = .ok (.iload_n 2, 1) := by decide +kernel
theorem d_Doc_graft_98 : decode b_Doc_graft 98 = .ok (.iload 5, 2) := by decide +kernel
theorem d_Doc_graft_100 : decode b_Doc_graft 100 = .ok (.invokevirtual 146, 3) := by decide +kernel
theorem d_Doc_graft_103 : decode b_Doc_graft 103 = .ok (.ifCond .eq 18, 3) := by decide +kernel
theorem d_Doc_graft_106 : decode b_Doc_graft 106 = .ok (.aload_n 0, 1) := by decide +kernel
theorem d_Doc_graft_107 : decode b_Doc_graft 107 = .ok (.iload_n 1, 1) := by decide +kernel
theorem d_Doc_graft_108 : decode b_Doc_graft 108 = .ok (.iload_n 2, 1) := by decide +kernel
theorem d_Doc_graft_109 : decode b_Doc_graft 109 = .ok (.iload 6, 2) := by decide +kernel
theorem d_Doc_graft_111 : decode b_Doc_graft 111 = .ok (.iload 5, 2) := by decide +kernel
theorem d_Doc_graft_113 : decode b_Doc_graft 113 = .ok (.iload 7, 2) := by decide +kernel
theorem d_Doc_graft_115 : decode b_Doc_graft 115 = .ok (.invokevirtual 149, 3) := by decide +kernel
theorem d_Doc_graft_118 : decode b_Doc_graft 118 = .ok (.goto 5, 3) := by decide +kernel
theorem d_Doc_graft_121 : decode b_Doc_graft 121 = .ok (.bipush (-2), 2) := by decide +kernel
theorem d_Doc_graft_123 : decode b_Doc_graft 123 = .ok (.istore 8, 2) := by decide +kernel
theorem d_Doc_graft_125 : decode b_Doc_graft 125 = .ok (.aload_n 0, 1) := by decide +kernel
theorem d_Doc_graft_126 : decode b_Doc_graft 126 = .ok (.getfield 14, 3) := by decide +kernel
theorem d_Doc_graft_129 : decode b_Doc_graft 129 = .ok (.invokevirtual 74, 3) := by decide +kernel
theorem d_Doc_graft_132 : decode b_Doc_graft 132 = .ok (.iload 8, 2) := by decide +kernel
theorem d_Doc_graft_134 : decode b_Doc_graft 134 = .ok (.ireturn, 1) := by decide +kernel
theorem d_Doc_set_0 : decode b_Doc_set 0 = .ok (.aload_n 0, 1) := by decide +kernel
theorem d_Doc_set_1 : decode b_Doc_set 1 = .ok (.iload_n 1, 1) := by decide +kernel
theorem d_Doc_set_2 : decode b_Doc_set 2 = .ok (.iload_n 2, 1) := by decide +kernel
theorem d_Doc_set_3 : decode b_Doc_set 3 = .ok (.invokevirtual 81, 3) := by decide +kernel
theorem d_Doc_set_6 : decode b_Doc_set 6 = .ok (.ifCond .ne 5, 3) := by decide +kernel
theorem d_Doc_set_9 : decode b_Doc_set 9 = .ok (.iconst 0, 1) := by decide +kernel
theorem d_Doc_set_10 : decode b_Doc_set 10 = .ok (.ireturn, 1) := by decide +kernel
theorem d_Doc_set_11 : decode b_Doc_set 11 = .ok (.aload_n 0, 1) := by decide +kernel
theorem d_Doc_set_12 : decode b_Doc_set 12 = .ok (.getfield 33, 3) := by decide +kernel
theorem d_Doc_set_15 : decode b_Doc_set 15 = .ok (.iload_n 2, 1) := by decide +kernel
theorem d_Doc_set_16 : decode b_Doc_set 16 = .ok (.invokevirtual 93, 3) := by decide +kernel
theorem d_Doc_set_19 : decode b_Doc_set 19 = .ok (.istore 5, 2) := by decide +kernel
theorem d_Doc_set_21 : decode b_Doc_set 21 = .ok (.iload 5, 2) := by decide +kernel
theorem d_Doc_set_23 : decode b_Doc_set 23 = .ok (.invokestatic 120, 3) := by decide +kernel
theorem d_Doc_set_26 : decode b_Doc_set 26 = .ok (.istore 6, 2) := by decide +kernel
theorem d_Doc_set_28 : decode b_Doc_set 28 = .ok (.iload 6, 2) := by decide +kernel
theorem d_Doc_set_30 : decode b_Doc_set 30 = .ok (.ifCond .eq 12, 3) := by decide +kernel
theorem d_Doc_set_33 : decode b_Doc_set 33 = .ok (.iload 5, 2) := by decide +kernel
theorem d_Doc_set_35 : decode b_Doc_set 35 = .ok (.lload_n 3, 1) := by decide +kernel
theorem d_Doc_set_36 : decode b_Doc_set 36 = .ok (.invokestatic 153, 3) := by decide +kernel
theorem d_Doc_set_39 : decode b_Doc_set 39 = .ok (.ifCond .ne 5, 3) := by decide +kernel
theorem d_Doc_set_42 : decode b_Doc_set 42 = .ok (.iconst 0, 1) := by decide +kernel
theorem d_Doc_set_43 : decode b_Doc_set 43 = .ok (.ireturn, 1) := by decide +kernel
theorem d_Doc_set_44 : decode b_Doc_set 44 = .ok (.aload_n 0, 1) := by decide +kernel
theorem d_Doc_set_45 : decode b_Doc_set 45 = .ok (.getfield 21, 3) := by decide +kernel
theorem d_Doc_set_48 : decode b_Doc_set 48 = .ok (.iload_n 1, 1) := by decide +kernel
theorem d_Doc_set_49 : decode b_Doc_set 49 = .ok (.aaload, 1) := by decide +kernel
theorem d_Doc_set_50 : decode b_Doc_set 50 = .ok (.aload_n 0, 1) := by decide +kernel
theorem d_Doc_set_51 : decode b_Doc_set 51 = .ok (.getfield 33, 3) := by decide +kernel
theorem d_Doc_set_54 : decode b_Doc_set 54 = .ok (.iload_n 2, 1) := by decide +kernel
theorem d_Doc_set_55 : decode b_Doc_set 55 = .ok (.invokevirtual 117, 3) := by decide +kernel
theorem d_Doc_set_58 : decode b_Doc_set 58 = .ok (.iload 6, 2) := by decide +kernel
theorem d_Doc_set_60 : decode b_Doc_set 60 = .ok (.lload_n 3, 1) := by decide +kernel
theorem d_Doc_set_61 : decode b_Doc_set 61 = .ok (.invokevirtual 157, 3) := by decide +kernel
theorem d_Doc_set_64 : decode b_Doc_set 64 = .ok (.iconst 1, 1) := by decide +kernel
theorem d_Doc_set_65 : decode b_Doc_set 65 = .ok (.ireturn, 1) := by decide +kernel
theorem d_Doc_drop_0 : decode b_Doc_drop 0 = .ok (.iload_n 2, 1) := by decide +kernel
theorem d_Doc_drop_1 : decode b_Doc_drop 1 = .ok (.ifCond .eq 12, 3) := by decide +kernel
theorem d_Doc_drop_4 : decode b_Doc_drop 4 = .ok (.aload_n 0, 1) := by decide +kernel
theorem d_Doc_drop_5 : decode b_Doc_drop 5 = .ok (.iload_n 1, 1) := by decide +kernel
theorem d_Doc_drop_6 : decode b_Doc_drop 6 = .ok (.iload_n 2, 1) := by decide +kernel
theorem d_Doc_drop_7 : decode b_Doc_drop 7 = .ok (.invokevirtual 81, 3) := by decide +kernel
theorem d_Doc_drop_10 : decode b_Doc_drop 10 = .ok (.ifCond .ne 5, 3) := by decide +kernel
theorem d_Doc_drop_13 : decode b_Doc_drop 13 = .ok (.iconst 0, 1) := by decide +kernel
theorem d_Doc_drop_14 : decode b_Doc_drop 14 = .ok (.ireturn, 1) := by decide +kernel
theorem d_Doc_drop_15 : decode b_Doc_drop 15 = .ok (.aload_n 0, 1) := by decide +kernel
theorem d_Doc_drop_16 : decode b_Doc_drop 16 = .ok (.getfield 21, 3) := by decide +kernel
theorem d_Doc_drop_19 : decode b_Doc_drop 19 = .ok (.iload_n 1, 1) := by decide +kernel
theorem d_Doc_drop_20 : decode b_Doc_drop 20 = .ok (.aaload, 1) := by decide +kernel
theorem d_Doc_drop_21 : decode b_Doc_drop 21 = .ok (.astore_n 3, 1) := by decide +kernel
theorem d_Doc_drop_22 : decode b_Doc_drop 22 = .ok (.aload_n 3, 1) := by decide +kernel
theorem d_Doc_drop_23 : decode b_Doc_drop 23 = .ok (.invokevirtual 53, 3) := by decide +kernel
theorem d_Doc_drop_26 : decode b_Doc_drop 26 = .ok (.istore 4, 2) := by decide +kernel
theorem d_Doc_drop_28 : decode b_Doc_drop 28 = .ok (.aload_n 0, 1) := by decide +kernel
theorem d_Doc_drop_29 : decode b_Doc_drop 29 = .ok (.getfield 33, 3) := by decide +kernel
theorem d_Doc_drop_32 : decode b_Doc_drop 32 = .ok (.iload_n 2, 1) := by decide +kernel
theorem d_Doc_drop_33 : decode b_Doc_drop 33 = .ok (.invokevirtual 96, 3) := by decide +kernel
theorem d_Doc_drop_36 : decode b_Doc_drop 36 = .ok (.istore 5, 2) := by decide +kernel
theorem d_Doc_drop_38 : decode b_Doc_drop 38 = .ok (.aload_n 0, 1) := by decide +kernel
theorem d_Doc_drop_39 : decode b_Doc_drop 39 = .ok (.getfield 33, 3) := by decide +kernel
theorem d_Doc_drop_42 : decode b_Doc_drop 42 = .ok (.iload 5, 2) := by decide +kernel
theorem d_Doc_drop_44 : decode b_Doc_drop 44 = .ok (.invokevirtual 93, 3) := by decide +kernel
theorem d_Doc_drop_47 : decode b_Doc_drop 47 = .ok (.iconst 4, 1) := by decide +kernel
theorem d_Doc_drop_48 : decode b_Doc_drop 48 = .ok (.if_icmp .ne 11, 3) := by decide +kernel
theorem d_Doc_drop_51 : decode b_Doc_drop 51 = .ok (.aload_n 0, 1) := by decide +kernel
theorem d_Doc_drop_52 : decode b_Doc_drop 52 = .ok (.aload_n 3, 1) := by decide +kernel
theorem d_Doc_drop_53 : decode b_Doc_drop 53 = .ok (.iload 5, 2) := by decide +kernel
theorem d_Doc_drop_55 : decode b_Doc_drop 55 = .ok (.iload_n 2, 1) := by decide +kernel
theorem d_Doc_drop_56 : decode b_Doc_drop 56 = .ok (.invokevirtual 161, 3) := by decide +kernel
theorem d_Doc_drop_59 : decode b_Doc_drop 59 = .ok (.aload_n 0, 1) := by decide +kernel
theorem d_Doc_drop_60 : decode b_Doc_drop 60 = .ok (.getfield 33, 3) := by decide +kernel
theorem d_Doc_drop_63 : decode b_Doc_drop 63 = .ok (.iload_n 2, 1) := by decide +kernel
theorem d_Doc_drop_64 : decode b_Doc_drop 64 = .ok (.invokevirtual 129, 3) := by decide +kernel
theorem d_Doc_drop_67 : decode b_Doc_drop 67 = .ok (.iconst 1, 1) := by decide +kernel
theorem d_Doc_drop_68 : decode b_Doc_drop 68 = .ok (.isub, 1) := by decide +kernel
theorem d_Doc_drop_69 : decode b_Doc_drop 69 = .ok (.istore 6, 2) := by decide +kernel
theorem d_Doc_drop_71 : decode b_Doc_drop 71 = .ok (.aload_n 3, 1) := by decide +kernel
theorem d_Doc_drop_72 : decode b_Doc_drop 72 = .ok (.iload 6, 2) := by decide +kernel
theorem d_Doc_drop_74 : decode b_Doc_drop 74 = .ok (.aload_n 0, 1) := by decide +kernel
theorem d_Doc_drop_75 : decode b_Doc_drop 75 = .ok (.getfield 33, 3) := by decide +kernel
theorem d_Doc_drop_78 : decode b_Doc_drop 78 = .ok (.iload_n 2, 1) := by decide +kernel
theorem d_Doc_drop_79 : decode b_Doc_drop 79 = .ok (.invokevirtual 164, 3) := by decide +kernel
theorem d_Doc_drop_82 : decode b_Doc_drop 82 = .ok (.iconst 1, 1) := by decide +kernel
theorem d_Doc_drop_83 : decode b_Doc_drop 83 = .ok (.iadd, 1) := by decide +kernel
theorem d_Doc_drop_84 : decode b_Doc_drop 84 = .ok (.iload 6, 2) := by decide +kernel
theorem d_Doc_drop_86 : decode b_Doc_drop 86 = .ok (.isub, 1) := by decide +kernel
theorem d_Doc_drop_87 : decode b_Doc_drop 87 = .ok (.invokevirtual 167, 3) := by decide +kernel
theorem d_Doc_drop_90 : decode b_Doc_drop 90 = .ok (.aload_n 0, 1) := by decide +kernel
theorem d_Doc_drop_91 : decode b_Doc_drop 91 = .ok (.aload_n 3, 1) := by decide +kernel
theorem d_Doc_drop_92 : decode b_Doc_drop 92 = .ok (.iload 5, 2) := by decide +kernel
theorem d_Doc_drop_94 : decode b_Doc_drop 94 = .ok (.aload_n 3, 1) := by decide +kernel
theorem d_Doc_drop_95 : decode b_Doc_drop 95 = .ok (.invokevirtual 53, 3) := by decide +kernel
theorem d_Doc_drop_98 : decode b_Doc_drop 98 = .ok (.iload 4, 2) := by decide +kernel
theorem d_Doc_drop_100 : decode b_Doc_drop 100 = .ok (.isub, 1) := by decide +kernel
theorem d_Doc_drop_101 : decode b_Doc_drop 101 = .ok (.invokevirtual 171, 3) := by decide +kernel
theorem d_Doc_drop_104 : decode b_Doc_drop 104 = .ok (.aload_n 0, 1) := by decide +kernel
theorem d_Doc_drop_105 : decode b_Doc_drop 105 = .ok (.iconst (-1), 1) := by decide +kernel
theorem d_Doc_drop_106 : decode b_Doc_drop 106 = .ok (.putfield 46, 3) := by decide +kernel
theorem d_Doc_drop_109 : decode b_Doc_drop 109 = .ok (.iconst 1, 1) := by decide +kernel
theorem d_Doc_drop_110 : decode b_Doc_drop 110 = .ok (.ireturn, 1) := by decide +kernel
theorem d_Doc_isSlot_0 : decode b_Doc_isSlot 0 = .ok (.iload_n 0, 1) := by decide +kernel
theorem d_Doc_isSlot_1 : decode b_Doc_isSlot 1 = .ok (.ifCond .lt 13, 3) := by decide +kernel
theorem d_Doc_isSlot_4 : decode b_Doc_isSlot 4 = .ok (.iload_n 0, 1) := by decide +kernel
theorem d_Doc_isSlot_5 : decode b_Doc_isSlot 5 = .ok (.bipush 8, 2) := by decide +kernel
theorem d_Doc_isSlot_7 : decode b_Doc_isSlot 7 = .ok (.if_icmp .ge 7, 3) := by decide +kernel
theorem d_Doc_isSlot_10 : decode b_Doc_isSlot 10 = .ok (.iconst 1, 1) := by decide +kernel
theorem d_Doc_isSlot_11 : decode b_Doc_isSlot 11 = .ok (.goto 4, 3) := by decide +kernel
theorem d_Doc_isSlot_14 : decode b_Doc_isSlot 14 = .ok (.iconst 0, 1) := by decide +kernel
theorem d_Doc_isSlot_15 : decode b_Doc_isSlot 15 = .ok (.ireturn, 1) := by decide +kernel
theorem d_Doc_hasNode_0 : decode b_Doc_hasNode 0 = .ok (.iload_n 1, 1) := by decide +kernel
theorem d_Doc_hasNode_1 : decode b_Doc_hasNode 1 = .ok (.invokestatic 60, 3) := by decide +kernel
theorem d_Doc_hasNode_4 : decode b_Doc_hasNode 4 = .ok (.ifCond .ne 5, 3) := by decide +kernel
theorem d_Doc_hasNode_7 : decode b_Doc_hasNode 7 = .ok (.iconst 0, 1) := by decide +kernel
theorem d_Doc_hasNode_8 : decode b_Doc_hasNode 8 = .ok (.ireturn, 1) := by decide +kernel
theorem d_Doc_hasNode_9 : decode b_Doc_hasNode 9 = .ok (.aload_n 0, 1) := by decide +kernel
theorem d_Doc_hasNode_10 : decode b_Doc_hasNode 10 = .ok (.getfield 46, 3) := by decide +kernel
theorem d_Doc_hasNode_13 : decode b_Doc_hasNode 13 = .ok (.iload_n 1, 1) := by decide +kernel
theorem d_Doc_hasNode_14 : decode b_Doc_hasNode 14 = .ok (.if_icmp .eq 21, 3) := by decide +kernel
theorem d_Doc_hasNode_17 : decode b_Doc_hasNode 17 = .ok (.aload_n 0, 1) := by decide +kernel
theorem d_Doc_hasNode_18 : decode b_Doc_hasNode 18 = .ok (.getfield 33, 3) := by decide +kernel
theorem d_Doc_hasNode_21 : decode b_Doc_hasNode 21 = .ok (.aload_n 0, 1) := by decide +kernel
theorem d_Doc_hasNode_22 : decode b_Doc_hasNode 22 = .ok (.getfield 21, 3) := by decide +kernel
theorem d_Doc_hasNode_25 : decode b_Doc_hasNode 25 = .ok (.iload_n 1, 1) := by decide +kernel
theorem d_Doc_hasNode_26 : decode b_Doc_hasNode 26 = .ok (.aaload, 1) := by decide +kernel
theorem d_Doc_hasNode_27 : decode b_Doc_hasNode 27 = .ok (.invokevirtual 174, 3) := by decide +kernel
theorem d_Doc_hasNode_30 : decode b_Doc_hasNode 30 = .ok (.aload_n 0, 1) := by decide +kernel
theorem d_Doc_hasNode_31 : decode b_Doc_hasNode 31 = .ok (.iload_n 1, 1) := by decide +kernel
theorem d_Doc_hasNode_32 : decode b_Doc_hasNode 32 = .ok (.putfield 46, 3) := by decide +kernel
theorem d_Doc_hasNode_35 : decode b_Doc_hasNode 35 = .ok (.iload_n 2, 1) := by decide +kernel
theorem d_Doc_hasNode_36 : decode b_Doc_hasNode 36 = .ok (.ifCond .lt 18, 3) := by decide +kernel
theorem d_Doc_hasNode_39 : decode b_Doc_hasNode 39 = .ok (.iload_n 2, 1) := by decide +kernel
theorem d_Doc_hasNode_40 : decode b_Doc_hasNode 40 = .ok (.aload_n 0, 1) := by decide +kernel
theorem d_Doc_hasNode_41 : decode b_Doc_hasNode 41 = .ok (.getfield 33, 3) := by decide +kernel
theorem d_Doc_hasNode_44 : decode b_Doc_hasNode 44 = .ok (.invokevirtual 84, 3) := by decide +kernel
theorem d_Doc_hasNode_47 : decode b_Doc_hasNode 47 = .ok (.if_icmp .ge 7, 3) := by decide +kernel
theorem d_Doc_hasNode_50 : decode b_Doc_hasNode 50 = .ok (.iconst 1, 1) := by decide +kernel
theorem d_Doc_hasNode_51 : decode b_Doc_hasNode 51 = .ok (.goto 4, 3) := by decide +kernel
theorem d_Doc_hasNode_54 : decode b_Doc_hasNode 54 = .ok (.iconst 0, 1) := by decide +kernel
theorem d_Doc_hasNode_55 : decode b_Doc_hasNode 55 = .ok (.ireturn, 1) := by decide +kernel
theorem d_Doc_mayHold_0 : decode b_Doc_mayHold 0 = .ok (.aload_n 0, 1) := by decide +kernel
theorem d_Doc_mayHold_1 : decode b_Doc_mayHold 1 = .ok (.iload_n 1, 1) := by decide +kernel
theorem d_Doc_mayHold_2 : decode b_Doc_mayHold 2 = .ok (.iload_n 2, 1) := by decide +kernel
theorem d_Doc_mayHold_3 : decode b_Doc_mayHold 3 = .ok (.invokevirtual 81, 3) := by decide +kernel
theorem d_Doc_mayHold_6 : decode b_Doc_mayHold 6 = .ok (.ifCond .eq 21, 3) := by decide +kernel
theorem d_Doc_mayHold_9 : decode b_Doc_mayHold 9 = .ok (.aload_n 0, 1) := by decide +kernel
theorem d_Doc_mayHold_10 : decode b_Doc_mayHold 10 = .ok (.getfield 33, 3) := by decide +kernel
theorem d_Doc_mayHold_13 : decode b_Doc_mayHold 13 = .ok (.iload_n 2, 1) := by decide +kernel
theorem d_Doc_mayHold_14 : decode b_Doc_mayHold 14 = .ok (.invokevirtual 93, 3) := by decide +kernel
theorem d_Doc_mayHold_17 : decode b_Doc_mayHold 17 = .ok (.invokestatic 177, 3) := by decide +kernel
theorem d_Doc_mayHold_20 : decode b_Doc_mayHold 20 = .ok (.ifCond .eq 7, 3) := by decide +kernel
theorem d_Doc_mayHold_23 : decode b_Doc_mayHold 23 = .ok (.iconst 1, 1) := by decide +kernel
theorem d_Doc_mayHold_24 : decode b_Doc_mayHold 24 = .ok (.goto 4, 3) := by decide +kernel
theorem d_Doc_mayHold_27 : decode b_Doc_mayHold 27 = .ok (.iconst 0, 1) := by decide +kernel
theorem d_Doc_mayHold_28 : decode b_Doc_mayHold 28 = .ok (.ireturn, 1) := by decide +kernel
theorem d_Doc_addFromTape_0 : decode b_Doc_addFromTape 0 = .ok (.iload 7, 2) := by decide +kernel
theorem d_Doc_addFromTape_2 : decode b_Doc_addFromTape 2 = .ok (.ifCond .eq 8, 3) := by decide +kernel
theorem d_Doc_addFromTape_5 : decode b_Doc_addFromTape 5 = .ok (.iload_n 3, 1) := by decide +kernel
theorem d_Doc_addFromTape_6 : decode b_Doc_addFromTape 6 = .ok (.iconst 2, 1) := by decide +kernel
theorem d_Doc_addFromTape_7 : decode b_Doc_addFromTape 7 = .ok (.if_icmp .ne 7, 3) := by decide +kernel
theorem d_Doc_addFromTape_10 : decode b_Doc_addFromTape 10 = .ok (.iconst 1, 1) := by decide +kernel
theorem d_Doc_addFromTape_11 : decode b_Doc_addFromTape 11 = .ok (.goto 4, 3) := by decide +kernel
theorem d_Doc_addFromTape_14 : decode b_Doc_addFromTape 14 = .ok (.iconst 0, 1) := by decide +kernel
theorem d_Doc_addFromTape_15 : decode b_Doc_addFromTape 15 = .ok (.istore 8, 2) := by decide +kernel
theorem d_Doc_addFromTape_17 : decode b_Doc_addFromTape 17 = .ok (.iload_n 3, 1) := by decide +kernel
theorem d_Doc_addFromTape_18 : decode b_Doc_addFromTape 18 = .ok (.invokestatic 180, 3) := by decide +kernel
theorem d_Doc_addFromTape_21 : decode b_Doc_addFromTape 21 = .ok (.ifCond .eq 27, 3) := by decide +kernel
theorem d_Doc_addFromTape_24 : decode b_Doc_addFromTape 24 = .ok (.iload_n 3, 1) := by decide +kernel
theorem d_Doc_addFromTape_25 : decode b_Doc_addFromTape 25 = .ok (.lload 4, 2) := by decide +kernel
theorem d_Doc_addFromTape_27 : decode b_Doc_addFromTape 27 = .ok (.invokestatic 153, 3) := by decide +kernel
theorem d_Doc_addFromTape_30 : decode b_Doc_addFromTape 30 = .ok (.ifCond .eq 18, 3) := by decide +kernel
theorem d_Doc_addFromTape_33 : decode b_Doc_addFromTape 33 = .ok (.aload_n 0, 1) := by decide +kernel
theorem d_Doc_addFromTape_34 : decode b_Doc_addFromTape 34 = .ok (.iload_n 2, 1) := by decide +kernel
theorem d_Doc_addFromTape_35 : decode b_Doc_addFromTape 35 = .ok (.iload 6, 2) := by decide +kernel
theorem d_Doc_addFromTape_37 : decode b_Doc_addFromTape 37 = .ok (.invokevirtual 146, 3) := by decide +kernel
theorem d_Doc_addFromTape_40 : decode b_Doc_addFromTape 40 = .ok (.ifCond .eq 8, 3) := by decide +kernel
theorem d_Doc_addFromTape_43 : decode b_Doc_addFromTape 43 = .ok (.iload 8, 2) := by decide +kernel
theorem d_Doc_addFromTape_45 : decode b_Doc_addFromTape 45 = .ok (.ifCond .ne 6, 3) := by decide +kernel
theorem d_Doc_addFromTape_48 : decode b_Doc_addFromTape 48 = .ok (.bipush (-2), 2) := by decide +kernel
theorem d_Doc_addFromTape_50 : decode b_Doc_addFromTape 50 = .ok (.ireturn, 1) := by decide +kernel
theorem d_Doc_addFromTape_51 : decode b_Doc_addFromTape 51 = .ok (.aload_n 0, 1) := by decide +kernel
theorem d_Doc_addFromTape_52 : decode b_Doc_addFromTape 52 = .ok (.getfield 14, 3) := by decide +kernel
theorem d_Doc_addFromTape_55 : decode b_Doc_addFromTape 55 = .ok (.iload 6, 2) := by decide +kernel
theorem d_Doc_addFromTape_57 : decode b_Doc_addFromTape 57 = .ok (.iload 6, 2) := by decide +kernel
theorem d_Doc_addFromTape_59 : decode b_Doc_addFromTape 59 = .ok (.iload 7, 2) := by decide +kernel
theorem d_Doc_addFromTape_61 : decode b_Doc_addFromTape 61 = .ok (.iadd, 1) := by decide +kernel
theorem d_Doc_addFromTape_62 : decode b_Doc_addFromTape 62 = .ok (.invokestatic 183, 3) := by decide +kernel
theorem d_Doc_addFromTape_65 : decode b_Doc_addFromTape 65 = .ok (.iconst (-1), 1) := by decide +kernel
theorem d_Doc_addFromTape_66 : decode b_Doc_addFromTape 66 = .ok (.if_icmp .eq 6, 3) := by decide +kernel
theorem d_Doc_addFromTape_69 : decode b_Doc_addFromTape 69 = .ok (.bipush (-3), 2) := by decide +kernel
theorem d_Doc_addFromTape_71 : decode b_Doc_addFromTape 71 = .ok (.ireturn, 1) := by decide +kernel
theorem d_Doc_addFromTape_72 : decode b_Doc_addFromTape 72 = .ok (.aload_n 0, 1) := by decide +kernel
theorem d_Doc_addFromTape_73 : decode b_Doc_addFromTape 73 = .ok (.getfield 18, 3) := by decide +kernel
theorem d_Doc_addFromTape_76 : decode b_Doc_addFromTape 76 = .ok (.invokevirtual 74, 3) := by decide +kernel
theorem d_Doc_addFromTape_79 : decode b_Doc_addFromTape 79 = .ok (.iload_n 3, 1) := by decide +kernel
theorem d_Doc_addFromTape_80 : decode b_Doc_addFromTape 80 = .ok (.iconst 2, 1) := by decide +kernel
theorem d_Doc_addFromTape_81 : decode b_Doc_addFromTape 81 = .ok (.if_icmp .ne 21, 3) := by decide +kernel
theorem d_Doc_addFromTape_84 : decode b_Doc_addFromTape 84 = .ok (.aload_n 0, 1) := by decide +kernel
theorem d_Doc_addFromTape_85 : decode b_Doc_addFromTape 85 = .ok (.getfield 18, 3) := by decide +kernel
theorem d_Doc_addFromTape_88 : decode b_Doc_addFromTape 88 = .ok (.aload_n 0, 1) := by decide +kernel
theorem d_Doc_addFromTape_89 : decode b_Doc_addFromTape 89 = .ok (.getfield 14, 3) := by decide +kernel
theorem d_Doc_addFromTape_92 : decode b_Doc_addFromTape 92 = .ok (.iload 6, 2) := by decide +kernel
theorem d_Doc_addFromTape_94 : decode b_Doc_addFromTape 94 = .ok (.iload 7, 2) := by decide +kernel
theorem d_Doc_addFromTape_96 : decode b_Doc_addFromTape 96 = .ok (.invokevirtual 189, 3) := by decide +kernel
theorem d_Doc_addFromTape_99 : decode b_Doc_addFromTape 99 = .ok (.goto 33, 3) := by decide +kernel
theorem d_Doc_addFromTape_102 : decode b_Doc_addFromTape 102 = .ok (.iload_n 3, 1) := by decide +kernel
theorem d_Doc_addFromTape_103 : decode b_Doc_addFromTape 103 = .ok (.invokestatic 177, 3) := by decide +kernel
theorem d_Doc_addFromTape_106 : decode b_Doc_addFromTape 106 = .ok (.ifCond .eq 13, 3) := by decide +kernel
theorem d_Doc_addFromTape_109 : decode b_Doc_addFromTape 109 = .ok (.aload_n 0, 1) := by decide +kernel
theorem d_Doc_addFromTape_110 : decode b_Doc_addFromTape 110 = .ok (.getfield 18, 3) := by decide +kernel
theorem d_Doc_addFromTape_113 : decode b_Doc_addFromTape 113 = .ok (.invokevirtual 25, 3) := by decide +kernel
theorem d_Doc_addFromTape_116 : decode b_Doc_addFromTape 116 = .ok (.goto 16, 3) := by decide +kernel
theorem d_Doc_addFromTape_119 : decode b_Doc_addFromTape 119 = .ok (.aload_n 0, 1) := by decide +kernel
theorem d_Doc_addFromTape_120 : decode b_Doc_addFromTape 120 = .ok (.getfield 18, 3) := by decide +kernel
theorem d_Doc_addFromTape_123 : decode b_Doc_addFromTape 123 = .ok (.lload 4, 2) := by decide +kernel
theorem d_Doc_addFromTape_125 : decode b_Doc_addFromTape 125 = .ok (.iload_n 3, 1) := by decide +kernel
theorem d_Doc_addFromTape_126 : decode b_Doc_addFromTape 126 = .ok (.invokestatic 120, 3) := by decide +kernel
theorem d_Doc_addFromTape_129 : decode b_Doc_addFromTape 129 = .ok (.invokevirtual 192, 3) := by decide +kernel
theorem d_Doc_addFromTape_132 : decode b_Doc_addFromTape 132 = .ok (.aload_n 0, 1) := by decide +kernel
theorem d_Doc_addFromTape_133 : decode b_Doc_addFromTape 133 = .ok (.iload_n 1, 1) := by decide +kernel
theorem d_Doc_addFromTape_134 : decode b_Doc_addFromTape 134 = .ok (.iload_n 2, 1) := by decide +kernel
theorem d_Doc_addFromTape_135 : decode b_Doc_addFromTape 135 = .ok (.iload_n 3, 1) := by decide +kernel
theorem d_Doc_addFromTape_136 : decode b_Doc_addFromTape 136 = .ok (.iload 6, 2) := by decide +kernel
theorem d_Doc_addFromTape_138 : decode b_Doc_addFromTape 138 = .ok (.iload_n 3, 1) := by decide +kernel
theorem d_Doc_addFromTape_139 : decode b_Doc_addFromTape 139 = .ok (.invokestatic 177, 3) := by decide +kernel
theorem d_Doc_addFromTape_142 : decode b_Doc_addFromTape 142 = .ok (.ifCond .eq 7, 3) := by decide +kernel
theorem d_Doc_addFromTape_145 : decode b_Doc_addFromTape 145 = .ok (.iconst 1, 1) := by decide +kernel
theorem d_Doc_addFromTape_146 : decode b_Doc_addFromTape 146 = .ok (.goto 4, 3) := by decide +kernel
theorem d_Doc_addFromTape_149 : decode b_Doc_addFromTape 149 = .ok (.iconst 0, 1) := by decide +kernel
theorem d_Doc_addFromTape_150 : decode b_Doc_addFromTape 150 = .ok (.invokevirtual 149, 3) := by decide +kernel
theorem d_Doc_addFromTape_153 : decode b_Doc_addFromTape 153 = .ok (.ireturn, 1) := by decide +kernel
theorem d_Doc_nameCountFits_0 : decode b_Doc_nameCountFits 0 = .ok (.iload_n 2, 1) := by decide +kernel
theorem d_Doc_nameCountFits_1 : decode b_Doc_nameCountFits 1 = .ok (.ifCond .eq 15, 3) := by decide +kernel
theorem d_Doc_nameCountFits_4 : decode b_Doc_nameCountFits 4 = .ok (.aload_n 0, 1) := by decide +kernel
theorem d_Doc_nameCountFits_5 : decode b_Doc_nameCountFits 5 = .ok (.getfield 33, 3) := by decide +kernel
theorem d_Doc_nameCountFits_8 : decode b_Doc_nameCountFits 8 = .ok (.iload_n 1, 1) := by decide +kernel
theorem d_Doc_nameCountFits_9 : decode b_Doc_nameCountFits 9 = .ok (.invokevirtual 93, 3) := by decide +kernel
theorem d_Doc_nameCountFits_12 : decode b_Doc_nameCountFits 12 = .ok (.iconst 4, 1) := by decide +kernel
theorem d_Doc_nameCountFits_13 : decode b_Doc_nameCountFits 13 = .ok (.if_icmp .eq 7, 3) := by decide +kernel
theorem d_Doc_nameCountFits_16 : decode b_Doc_nameCountFits 16 = .ok (.iconst 1, 1) := by decide +kernel
theorem d_Doc_nameCountFits_17 : decode b_Doc_nameCountFits 17 = .ok (.goto 4, 3) := by decide +kernel
theorem d_Doc_nameCountFits_20 : decode b_Doc_nameCountFits 20 = .ok (.iconst 0, 1) := by decide +kernel
theorem d_Doc_nameCountFits_21 : decode b_Doc_nameCountFits 21 = .ok (.ireturn, 1) := by decide +kernel
theorem d_Doc_insertFresh_0 : decode b_Doc_insertFresh 0 = .ok (.aload_n 0, 1) := by decide +kernel
theorem d_Doc_insertFresh_1 : decode b_Doc_insertFresh 1 = .ok (.getfield 33, 3) := by decide +kernel
theorem d_Doc_insertFresh_4 : decode b_Doc_insertFresh 4 = .ok (.iload_n 2, 1) := by decide +kernel
theorem d_Doc_insertFresh_5 : decode b_Doc_insertFresh 5 = .ok (.invokevirtual 93, 3) := by decide +kernel
theorem d_Doc_insertFresh_8 : decode b_Doc_insertFresh 8 = .ok (.iconst 4, 1) := by decide +kernel
theorem d_Doc_insertFresh_9 : decode b_Doc_insertFresh 9 = .ok (.if_icmp .ne 7, 3) := by decide +kernel
theorem d_Doc_insertFresh_12 : decode b_Doc_insertFresh 12 = .ok (.iconst 1, 1) := by decide +kernel
theorem d_Doc_insertFresh_13 : decode b_Doc_insertFresh 13 = .ok (.goto 4, 3) := by decide +kernel
theorem d_Doc_insertFresh_16 : decode b_Doc_insertFresh 16 = .ok (.iconst 0, 1) := by decide +kernel
theorem d_Doc_insertFresh_17 : decode b_Doc_insertFresh 17 = .ok (.istore 6, 2) := by decide +kernel
theorem d_Doc_insertFresh_19 : decode b_Doc_insertFresh 19 = .ok (.iload 6, 2) := by decide +kernel
theorem d_Doc_insertFresh_21 : decode b_Doc_insertFresh 21 = .ok (.ifCond .ne 16, 3) := by decide +kernel
theorem d_Doc_insertFresh_24 : decode b_Doc_insertFresh 24 = .ok (.aload_n 0, 1) := by decide +kernel
theorem d_Doc_insertFresh_25 : decode b_Doc_insertFresh 25 = .ok (.iload_n 2, 1) := by decide +kernel
theorem d_Doc_insertFresh_26 : decode b_Doc_insertFresh 26 = .ok (.iload 4, 2) := by decide +kernel
theorem d_Doc_insertFresh_28 : decode b_Doc_insertFresh 28 = .ok (.invokevirtual 196, 3) := by decide +kernel
theorem d_Doc_insertFresh_31 : decode b_Doc_insertFresh 31 = .ok (.ifCond .ne 6, 3) := by decide +kernel
theorem d_Doc_insertFresh_34 : decode b_Doc_insertFresh 34 = .ok (.bipush (-3), 2) := by decide +kernel
theorem d_Doc_insertFresh_36 : decode b_Doc_insertFresh 36 = .ok (.ireturn, 1) := by decide +kernel
theorem d_Doc_insertFresh_37 : decode b_Doc_insertFresh 37 = .ok (.aload_n 0, 1) := by decide +kernel
theorem d_Doc_insertFresh_38 : decode b_Doc_insertFresh 38 = .ok (.getfield 33, 3) := by decide +kernel
theorem d_Doc_insertFresh_41 : decode b_Doc_insertFresh 41 = .ok (.iload_n 2, 1) := by decide +kernel
theorem d_Doc_insertFresh_42 : decode b_Doc_insertFresh 42 = .ok (.invokevirtual 114, 3) := by decide +kernel
theorem d_Doc_insertFresh_45 : decode b_Doc_insertFresh 45 = .ok (.iload 5, 2) := by decide +kernel
theorem d_Doc_insertFresh_47 : decode b_Doc_insertFresh 47 = .ok (.iadd, 1) := by decide +kernel
theorem d_Doc_insertFresh_48 : decode b_Doc_insertFresh 48 = .ok (.bipush 16, 2) := by decide +kernel
theorem d_Doc_insertFresh_50 : decode b_Doc_insertFresh 50 = .ok (.if_icmp .le 6, 3) := by decide +kernel
theorem d_Doc_insertFresh_53 : decode b_Doc_insertFresh 53 = .ok (.bipush (-4), 2) := by decide +kernel
theorem d_Doc_insertFresh_55 : decode b_Doc_insertFresh 55 = .ok (.ireturn, 1) := by decide +kernel
theorem d_Doc_insertFresh_56 : decode b_Doc_insertFresh 56 = .ok (.iload 6, 2) := by decide +kernel
theorem d_Doc_insertFresh_58 : decode b_Doc_insertFresh 58 = .ok (.ifCond .eq 17, 3) := by decide +kernel
theorem d_Doc_insertFresh_61 : decode b_Doc_insertFresh 61 = .ok (.aload_n 0, 1) := by decide +kernel
theorem d_Doc_insertFresh_62 : decode b_Doc_insertFresh 62 = .ok (.getfield 33, 3) := by decide +kernel
theorem d_Doc_insertFresh_65 : decode b_Doc_insertFresh 65 = .ok (.iload_n 2, 1) := by decide +kernel
theorem d_Doc_insertFresh_66 : decode b_Doc_insertFresh 66 = .ok (.invokevirtual 99, 3) := by decide +kernel
theorem d_Doc_insertFresh_69 : decode b_Doc_insertFresh 69 = .ok (.invokestatic 199, 3) := by decide +kernel
theorem d_Doc_insertFresh_72 : decode b_Doc_insertFresh 72 = .ok (.goto 5, 3) := by decide +kernel
theorem d_Doc_insertFresh_75 : decode b_Doc_insertFresh 75 = .ok (.iload 4, 2) := by decide +kernel
theorem d_Doc_insertFresh_77 : decode b_Doc_insertFresh 77 = .ok (.istore 7, 2) := by decide +kernel
theorem d_Doc_insertFresh_79 : decode b_Doc_insertFresh 79 = .ok (.iconst 2, 1) := by decide +kernel
theorem d_Doc_insertFresh_80 : decode b_Doc_insertFresh 80 = .ok (.iload 7, 2) := by decide +kernel
theorem d_Doc_insertFresh_82 : decode b_Doc_insertFresh 82 = .ok (.iadd, 1) := by decide +kernel
theorem d_Doc_insertFresh_83 : decode b_Doc_insertFresh 83 = .ok (.aload_n 0, 1) := by decide +kernel
theorem d_Doc_insertFresh_84 : decode b_Doc_insertFresh 84 = .ok (.getfield 18, 3) := by decide +kernel
theorem d_Doc_insertFresh_87 : decode b_Doc_insertFresh 87 = .ok (.invokevirtual 53, 3) := by decide +kernel
theorem d_Doc_insertFresh_90 : decode b_Doc_insertFresh 90 = .ok (.iadd, 1) := by decide +kernel
theorem d_Doc_insertFresh_91 : decode b_Doc_insertFresh 91 = .ok (.istore 8, 2) := by decide +kernel
theorem d_Doc_insertFresh_93 : decode b_Doc_insertFresh 93 = .ok (.aload_n 0, 1) := by decide +kernel
theorem d_Doc_insertFresh_94 : decode b_Doc_insertFresh 94 = .ok (.getfield 21, 3) := by decide +kernel
theorem d_Doc_insertFresh_97 : decode b_Doc_insertFresh 97 = .ok (.iload_n 1, 1) := by decide +kernel
theorem d_Doc_insertFresh_98 : decode b_Doc_insertFresh 98 = .ok (.aaload, 1) := by decide +kernel
theorem d_Doc_insertFresh_99 : decode b_Doc_insertFresh 99 = .ok (.invokevirtual 53, 3) := by decide +kernel
theorem d_Doc_insertFresh_102 : decode b_Doc_insertFresh 102 = .ok (.iload 8, 2) := by decide +kernel
theorem d_Doc_insertFresh_104 : decode b_Doc_insertFresh 104 = .ok (.iadd, 1) := by decide +kernel
theorem d_Doc_insertFresh_105 : decode b_Doc_insertFresh 105 = .ok (.sipush 2000, 3) := by decide +kernel
theorem d_Doc_insertFresh_108 : decode b_Doc_insertFresh 108 = .ok (.if_icmp .le 6, 3) := by decide +kernel
theorem d_Doc_insertFresh_111 : decode b_Doc_insertFresh 111 = .ok (.bipush (-5), 2) := by decide +kernel
theorem d_Doc_insertFresh_113 : decode b_Doc_insertFresh 113 = .ok (.ireturn, 1) := by decide +kernel
theorem d_Doc_insertFresh_114 : decode b_Doc_insertFresh 114 = .ok (.aload_n 0, 1) := by decide +kernel
theorem d_Doc_insertFresh_115 : decode b_Doc_insertFresh 115 = .ok (.getfield 33, 3) := by decide +kernel
theorem d_Doc_insertFresh_118 : decode b_Doc_insertFresh 118 = .ok (.iload_n 2, 1) := by decide +kernel
theorem d_Doc_insertFresh_119 : decode b_Doc_insertFresh 119 = .ok (.invokevirtual 202, 3) := by decide +kernel
theorem d_Doc_insertFresh_122 : decode b_Doc_insertFresh 122 = .ok (.istore 9, 2) := by decide +kernel
theorem d_Doc_insertFresh_124 : decode b_Doc_insertFresh 124 = .ok (.aload_n 0, 1) := by decide +kernel
theorem d_Doc_insertFresh_125 : decode b_Doc_insertFresh 125 = .ok (.aload_n 0, 1) := by decide +kernel
theorem d_Doc_insertFresh_126 : decode b_Doc_insertFresh 126 = .ok (.getfield 21, 3) := by decide +kernel
theorem d_Doc_insertFresh_129 : decode b_Doc_insertFresh 129 = .ok (.iload_n 1, 1) := by decide +kernel
theorem d_Doc_insertFresh_130 : decode b_Doc_insertFresh 130 = .ok (.aaload, 1) := by decide +kernel
theorem d_Doc_insertFresh_131 : decode b_Doc_insertFresh 131 = .ok (.iload_n 2, 1) := by decide +kernel
theorem d_Doc_insertFresh_132 : decode b_Doc_insertFresh 132 = .ok (.iload_n 3, 1) := by decide +kernel
theorem d_Doc_insertFresh_133 : decode b_Doc_insertFresh 133 = .ok (.iload 7, 2) := by decide +kernel
theorem d_Doc_insertFresh_135 : decode b_Doc_insertFresh 135 = .ok (.invokevirtual 205, 3) := by decide +kernel
theorem d_Doc_insertFresh_138 : decode b_Doc_insertFresh 138 = .ok (.aload_n 0, 1) := by decide +kernel
theorem d_Doc_insertFresh_139 : decode b_Doc_insertFresh 139 = .ok (.aload_n 0, 1) := by decide +kernel
theorem d_Doc_insertFresh_140 : decode b_Doc_insertFresh 140 = .ok (.getfield 21, 3) := by decide +kernel
theorem d_Doc_insertFresh_143 : decode b_Doc_insertFresh 143 = .ok (.iload_n 1, 1) := by decide +kernel
theorem d_Doc_insertFresh_144 : decode b_Doc_insertFresh 144 = .ok (.aaload, 1) := by decide +kernel
theorem d_Doc_insertFresh_145 : decode b_Doc_insertFresh 145 = .ok (.iload_n 2, 1) := by decide +kernel
theorem d_Doc_insertFresh_146 : decode b_Doc_insertFresh 146 = .ok (.iload 8, 2) := by decide +kernel
theorem d_Doc_insertFresh_148 : decode b_Doc_insertFresh 148 = .ok (.invokevirtual 171, 3) := by decide +kernel
theorem d_Doc_insertFresh_151 : decode b_Doc_insertFresh 151 = .ok (.aload_n 0, 1) := by decide +kernel
theorem d_Doc_insertFresh_152 : decode b_Doc_insertFresh 152 = .ok (.iconst (-1), 1) := by decide +kernel
theorem d_Doc_insertFresh_153 : decode b_Doc_insertFresh 153 = .ok (.putfield 46, 3) := by decide +kernel
theorem d_Doc_insertFresh_156 : decode b_Doc_insertFresh 156 = .ok (.iload 9, 2) := by decide +kernel
theorem d_Doc_insertFresh_158 : decode b_Doc_insertFresh 158 = .ok (.ireturn, 1) := by decide +kernel
theorem d_Doc_writeFresh_0 : decode b_Doc_writeFresh 0 = .ok (.aload_n 0, 1) := by decide +kernel
theorem d_Doc_writeFresh_1 : decode b_Doc_writeFresh 1 = .ok (.getfield 33, 3) := by decide +kernel
theorem d_Doc_writeFresh_4 : decode b_Doc_writeFresh 4 = .ok (.iload_n 2, 1) := by decide +kernel
theorem d_Doc_writeFresh_5 : decode b_Doc_writeFresh 5 = .ok (.invokevirtual 164, 3) := by decide +kernel
theorem d_Doc_writeFresh_8 : decode b_Doc_writeFresh 8 = .ok (.istore 5, 2) := by decide +kernel
theorem d_Doc_writeFresh_10 : decode b_Doc_writeFresh 10 = .ok (.iload 5, 2) := by decide +kernel
theorem d_Doc_writeFresh_12 : decode b_Doc_writeFresh 12 = .ok (.iconst 1, 1) := by decide +kernel
theorem d_Doc_writeFresh_13 : decode b_Doc_writeFresh 13 = .ok (.iadd, 1) := by decide +kernel
theorem d_Doc_writeFresh_14 : decode b_Doc_writeFresh 14 = .ok (.istore 6, 2) := by decide +kernel
theorem d_Doc_writeFresh_16 : decode b_Doc_writeFresh 16 = .ok (.iload 6, 2) := by decide +kernel
theorem d_Doc_writeFresh_18 : decode b_Doc_writeFresh 18 = .ok (.iload 4, 2) := by decide +kernel
theorem d_Doc_writeFresh_20 : decode b_Doc_writeFresh 20 = .ok (.iadd, 1) := by decide +kernel
theorem d_Doc_writeFresh_21 : decode b_Doc_writeFresh 21 = .ok (.iconst 1, 1) := by decide +kernel
theorem d_Doc_writeFresh_22 : decode b_Doc_writeFresh 22 = .ok (.iadd, 1) := by decide +kernel
theorem d_Doc_writeFresh_23 : decode b_Doc_writeFresh 23 = .ok (.istore 7, 2) := by decide +kernel
theorem d_Doc_writeFresh_25 : decode b_Doc_writeFresh 25 = .ok (.aload_n 0, 1) := by decide +kernel
theorem d_Doc_writeFresh_26 : decode b_Doc_writeFresh 26 = .ok (.getfield 33, 3) := by decide +kernel
theorem d_Doc_writeFresh_29 : decode b_Doc_writeFresh 29 = .ok (.iload_n 2, 1) := by decide +kernel
theorem d_Doc_writeFresh_30 : decode b_Doc_writeFresh 30 = .ok (.invokevirtual 93, 3) := by decide +kernel
theorem d_Doc_writeFresh_33 : decode b_Doc_writeFresh 33 = .ok (.iconst 4, 1) := by decide +kernel
theorem d_Doc_writeFresh_34 : decode b_Doc_writeFresh 34 = .ok (.if_icmp .ne 7, 3) := by decide +kernel
theorem d_Doc_writeFresh_37 : decode b_Doc_writeFresh 37 = .ok (.iconst 1, 1) := by decide +kernel
theorem d_Doc_writeFresh_38 : decode b_Doc_writeFresh 38 = .ok (.goto 4, 3) := by decide +kernel
theorem d_Doc_writeFresh_41 : decode b_Doc_writeFresh 41 = .ok (.iconst 0, 1) := by decide +kernel
theorem d_Doc_writeFresh_42 : decode b_Doc_writeFresh 42 = .ok (.istore 8, 2) := by decide +kernel
theorem d_Doc_writeFresh_44 : decode b_Doc_writeFresh 44 = .ok (.aload_n 1, 1) := by decide +kernel
theorem d_Doc_writeFresh_45 : decode b_Doc_writeFresh 45 = .ok (.iload 5, 2) := by decide +kernel
theorem d_Doc_writeFresh_47 : decode b_Doc_writeFresh 47 = .ok (.iconst 2, 1) := by decide +kernel
theorem d_Doc_writeFresh_48 : decode b_Doc_writeFresh 48 = .ok (.iload 4, 2) := by decide +kernel
theorem d_Doc_writeFresh_50 : decode b_Doc_writeFresh 50 = .ok (.iadd, 1) := by decide +kernel
theorem d_Doc_writeFresh_51 : decode b_Doc_writeFresh 51 = .ok (.aload_n 0, 1) := by decide +kernel
theorem d_Doc_writeFresh_52 : decode b_Doc_writeFresh 52 = .ok (.getfield 18, 3) := by decide +kernel
theorem d_Doc_writeFresh_55 : decode b_Doc_writeFresh 55 = .ok (.invokevirtual 53, 3) := by decide +kernel
theorem d_Doc_writeFresh_58 : decode b_Doc_writeFresh 58 = .ok (.iadd, 1) := by decide +kernel
theorem d_Doc_writeFresh_59 : decode b_Doc_writeFresh 59 = .ok (.invokevirtual 209, 3) := by decide +kernel
theorem d_Doc_writeFresh_62 : decode b_Doc_writeFresh 62 = .ok (.aload_n 1, 1) := by decide +kernel
theorem d_Doc_writeFresh_63 : decode b_Doc_writeFresh 63 = .ok (.iload 5, 2) := by decide +kernel
theorem d_Doc_writeFresh_65 : decode b_Doc_writeFresh 65 = .ok (.iload_n 3, 1) := by decide +kernel
theorem d_Doc_writeFresh_66 : decode b_Doc_writeFresh 66 = .ok (.invokevirtual 212, 3) := by decide +kernel
theorem d_Doc_writeFresh_69 : decode b_Doc_writeFresh 69 = .ok (.iload 8, 2) := by decide +kernel
theorem d_Doc_writeFresh_71 : decode b_Doc_writeFresh 71 = .ok (.ifCond .eq 22, 3) := by decide +kernel
theorem d_Doc_writeFresh_74 : decode b_Doc_writeFresh 74 = .ok (.aload_n 1, 1) := by decide +kernel
theorem d_Doc_writeFresh_75 : decode b_Doc_writeFresh 75 = .ok (.iload 6, 2) := by decide +kernel
theorem d_Doc_writeFresh_77 : decode b_Doc_writeFresh 77 = .ok (.iload 4, 2) := by decide +kernel
theorem d_Doc_writeFresh_79 : decode b_Doc_writeFresh 79 = .ok (.aload_n 0, 1) := by decide +kernel
theorem d_Doc_writeFresh_80 : decode b_Doc_writeFresh 80 = .ok (.getfield 33, 3) := by decide +kernel
theorem d_Doc_writeFresh_83 : decode b_Doc_writeFresh 83 = .ok (.iload_n 2, 1) := by decide +kernel
theorem d_Doc_writeFresh_84 : decode b_Doc_writeFresh 84 = .ok (.invokevirtual 99, 3) := by decide +kernel
theorem d_Doc_writeFresh_87 : decode b_Doc_writeFresh 87 = .ok (.invokevirtual 215, 3) := by decide +kernel
theorem d_Doc_writeFresh_90 : decode b_Doc_writeFresh 90 = .ok (.goto 16, 3) := by decide +kernel
theorem d_Doc_writeFresh_93 : decode b_Doc_writeFresh 93 = .ok (.aload_n 1, 1) := by decide +kernel
theorem d_Doc_writeFresh_94 : decode b_Doc_writeFresh 94 = .ok (.iload 6, 2) := by decide +kernel
theorem d_Doc_writeFresh_96 : decode b_Doc_writeFresh 96 = .ok (.aload_n 0, 1) := by decide +kernel
theorem d_Doc_writeFresh_97 : decode b_Doc_writeFresh 97 = .ok (.getfield 14, 3) := by decide +kernel
theorem d_Doc_writeFresh_100 : decode b_Doc_writeFresh 100 = .ok (.iconst 0, 1) := by decide +kernel
theorem d_Doc_writeFresh_101 : decode b_Doc_writeFresh 101 = .ok (.iload 4, 2) := by decide +kernel
theorem d_Doc_writeFresh_103 : decode b_Doc_writeFresh 103 = .ok (.invokevirtual 219, 3) := by decide +kernel
theorem d_Doc_writeFresh_106 : decode b_Doc_writeFresh 106 = .ok (.aload_n 1, 1) := by decide +kernel
theorem d_Doc_writeFresh_107 : decode b_Doc_writeFresh 107 = .ok (.iload 7, 2) := by decide +kernel
theorem d_Doc_writeFresh_109 : decode b_Doc_writeFresh 109 = .ok (.iconst 1, 1) := by decide +kernel
theorem d_Doc_writeFresh_110 : decode b_Doc_writeFresh 110 = .ok (.isub, 1) := by decide +kernel
theorem d_Doc_writeFresh_111 : decode b_Doc_writeFresh 111 = .ok (.iconst 0, 1) := by decide +kernel
theorem d_Doc_writeFresh_112 : decode b_Doc_writeFresh 112 = .ok (.invokevirtual 212, 3) := by decide +kernel
theorem d_Doc_writeFresh_115 : decode b_Doc_writeFresh 115 = .ok (.aload_n 1, 1) := by decide +kernel
theorem d_Doc_writeFresh_116 : decode b_Doc_writeFresh 116 = .ok (.iload 7, 2) := by decide +kernel
theorem d_Doc_writeFresh_118 : decode b_Doc_writeFresh 118 = .ok (.aload_n 0, 1) := by decide +kernel
theorem d_Doc_writeFresh_119 : decode b_Doc_writeFresh 119 = .ok (.getfield 18, 3) := by decide +kernel
theorem d_Doc_writeFresh_122 : decode b_Doc_writeFresh 122 = .ok (.iconst 0, 1) := by decide +kernel
theorem d_Doc_writeFresh_123 : decode b_Doc_writeFresh 123 = .ok (.aload_n 0, 1) := by decide +kernel
theorem d_Doc_writeFresh_124 : decode b_Doc_writeFresh 124 = .ok (.getfield 18, 3) := by decide +kernel
theorem d_Doc_writeFresh_127 : decode b_Doc_writeFresh 127 = .ok (.invokevirtual 53, 3) := by decide +kernel
theorem d_Doc_writeFresh_130 : decode b_Doc_writeFresh 130 = .ok (.invokevirtual 219, 3) := by decide +kernel
theorem d_Doc_writeFresh_133 : decode b_Doc_writeFresh 133 = .ok (.return_, 1) := by decide +kernel
theorem d_Doc_isFreeName_0 : decode b_Doc_isFreeName 0 = .ok (.aload_n 0, 1) := by decide +kernel
theorem d_Doc_isFreeName_1 : decode b_Doc_isFreeName 1 = .ok (.getfield 14, 3) := by decide +kernel
theorem d_Doc_isFreeName_4 : decode b_Doc_isFreeName 4 = .ok (.iconst 0, 1) := by decide +kernel
theorem d_Doc_isFreeName_5 : decode b_Doc_isFreeName 5 = .ok (.iload_n 2, 1) := by decide +kernel
theorem d_Doc_isFreeName_6 : decode b_Doc_isFreeName 6 = .ok (.invokevirtual 223, 3) := by decide +kernel
theorem d_Doc_isFreeName_9 : decode b_Doc_isFreeName 9 = .ok (.iconst (-1), 1) := by decide +kernel
theorem d_Doc_isFreeName_10 : decode b_Doc_isFreeName 10 = .ok (.if_icmp .ne 38, 3) := by decide +kernel
theorem d_Doc_isFreeName_13 : decode b_Doc_isFreeName 13 = .ok (.aload_n 0, 1) := by decide +kernel
theorem d_Doc_isFreeName_14 : decode b_Doc_isFreeName 14 = .ok (.getfield 14, 3) := by decide +kernel
theorem d_Doc_isFreeName_17 : decode b_Doc_isFreeName 17 = .ok (.iconst 0, 1) := by decide +kernel
theorem d_Doc_isFreeName_18 : decode b_Doc_isFreeName 18 = .ok (.iload_n 2, 1) := by decide +kernel
theorem d_Doc_isFreeName_19 : decode b_Doc_isFreeName 19 = .ok (.invokestatic 183, 3) := by decide +kernel
theorem d_Doc_isFreeName_22 : decode b_Doc_isFreeName 22 = .ok (.iconst (-1), 1) := by decide +kernel
theorem d_Doc_isFreeName_23 : decode b_Doc_isFreeName 23 = .ok (.if_icmp .ne 25, 3) := by decide +kernel
theorem d_Doc_isFreeName_26 : decode b_Doc_isFreeName 26 = .ok (.aload_n 0, 1) := by decide +kernel
theorem d_Doc_isFreeName_27 : decode b_Doc_isFreeName 27 = .ok (.getfield 33, 3) := by decide +kernel
theorem d_Doc_isFreeName_30 : decode b_Doc_isFreeName 30 = .ok (.iload_n 1, 1) := by decide +kernel
theorem d_Doc_isFreeName_31 : decode b_Doc_isFreeName 31 = .ok (.aload_n 0, 1) := by decide +kernel
theorem d_Doc_isFreeName_32 : decode b_Doc_isFreeName 32 = .ok (.getfield 14, 3) := by decide +kernel
theorem d_Doc_isFreeName_35 : decode b_Doc_isFreeName 35 = .ok (.iconst 0, 1) := by decide +kernel
theorem d_Doc_isFreeName_36 : decode b_Doc_isFreeName 36 = .ok (.iload_n 2, 1) := by decide +kernel
theorem d_Doc_isFreeName_37 : decode b_Doc_isFreeName 37 = .ok (.invokevirtual 132, 3) := by decide +kernel
theorem d_Doc_isFreeName_40 : decode b_Doc_isFreeName 40 = .ok (.iconst (-1), 1) := by decide +kernel
theorem d_Doc_isFreeName_41 : decode b_Doc_isFreeName 41 = .ok (.if_icmp .ne 7, 3) := by decide +kernel
theorem d_Doc_isFreeName_44 : decode b_Doc_isFreeName 44 = .ok (.iconst 1, 1) := by decide +kernel
theorem d_Doc_isFreeName_45 : decode b_Doc_isFreeName 45 = .ok (.goto 4, 3) := by decide +kernel
theorem d_Doc_isFreeName_48 : decode b_Doc_isFreeName 48 = .ok (.iconst 0, 1) := by decide +kernel
theorem d_Doc_isFreeName_49 : decode b_Doc_isFreeName 49 = .ok (.ireturn, 1) := by decide +kernel
theorem d_Doc_renumberBehind_0 : decode b_Doc_renumberBehind 0 = .ok (.aload_n 0, 1) := by decide +kernel
theorem d_Doc_renumberBehind_1 : decode b_Doc_renumberBehind 1 = .ok (.getfield 33, 3) := by decide +kernel
theorem d_Doc_renumberBehind_4 : decode b_Doc_renumberBehind 4 = .ok (.iload_n 2, 1) := by decide +kernel
theorem d_Doc_renumberBehind_5 : decode b_Doc_renumberBehind 5 = .ok (.invokevirtual 99, 3) := by decide +kernel
theorem d_Doc_renumberBehind_8 : decode b_Doc_renumberBehind 8 = .ok (.iconst 1, 1) := by decide +kernel
theorem d_Doc_renumberBehind_9 : decode b_Doc_renumberBehind 9 = .ok (.isub, 1) := by decide +kernel
theorem d_Doc_renumberBehind_10 : decode b_Doc_renumberBehind 10 = .ok (.istore 4, 2) := by decide +kernel
theorem d_Doc_renumberBehind_12 : decode b_Doc_renumberBehind 12 = .ok (.aload_n 0, 1) := by decide +kernel
theorem d_Doc_renumberBehind_13 : decode b_Doc_renumberBehind 13 = .ok (.getfield 33, 3) := by decide +kernel
theorem d_Doc_renumberBehind_16 : decode b_Doc_renumberBehind 16 = .ok (.iload_n 2, 1) := by decide +kernel
theorem d_Doc_renumberBehind_17 : decode b_Doc_renumberBehind 17 = .ok (.invokevirtual 202, 3) := by decide +kernel
theorem d_Doc_renumberBehind_20 : decode b_Doc_renumberBehind 20 = .ok (.iconst 1, 1) := by decide +kernel
theorem d_Doc_renumberBehind_21 : decode b_Doc_renumberBehind 21 = .ok (.isub, 1) := by decide +kernel
theorem d_Doc_renumberBehind_22 : decode b_Doc_renumberBehind 22 = .ok (.istore 5, 2) := by decide +kernel
theorem d_Doc_renumberBehind_24 : decode b_Doc_renumberBehind 24 = .ok (.iload 5, 2) := by decide +kernel
theorem d_Doc_renumberBehind_26 : decode b_Doc_renumberBehind 26 = .ok (.iload_n 3, 1) := by decide +kernel
theorem d_Doc_renumberBehind_27 : decode b_Doc_renumberBehind 27 = .ok (.if_icmp .le 74, 3) := by decide +kernel
theorem d_Doc_renumberBehind_30 : decode b_Doc_renumberBehind 30 = .ok (.aload_n 0, 1) := by decide +kernel
theorem d_Doc_renumberBehind_31 : decode b_Doc_renumberBehind 31 = .ok (.getfield 33, 3) := by decide +kernel
theorem d_Doc_renumberBehind_34 : decode b_Doc_renumberBehind 34 = .ok (.iload 5, 2) := by decide +kernel
theorem d_Doc_renumberBehind_36 : decode b_Doc_renumberBehind 36 = .ok (.invokevirtual 96, 3) := by decide +kernel
theorem d_Doc_renumberBehind_39 : decode b_Doc_renumberBehind 39 = .ok (.iload_n 2, 1) := by decide +kernel
theorem d_Doc_renumberBehind_40 : decode b_Doc_renumberBehind 40 = .ok (.if_icmp .ne 55, 3) := by decide +kernel
theorem d_Doc_renumberBehind_43 : decode b_Doc_renumberBehind 43 = .ok (.iinc 4 (-1), 3) := by decide +kernel
theorem d_Doc_renumberBehind_46 : decode b_Doc_renumberBehind 46 = .ok (.iload 4, 2) := by decide +kernel
theorem d_Doc_renumberBehind_48 : decode b_Doc_renumberBehind 48 = .ok (.invokestatic 199, 3) := by decide +kernel
theorem d_Doc_renumberBehind_51 : decode b_Doc_renumberBehind 51 = .ok (.istore 6, 2) := by decide +kernel
theorem d_Doc_renumberBehind_53 : decode b_Doc_renumberBehind 53 = .ok (.aload_n 1, 1) := by decide +kernel
theorem d_Doc_renumberBehind_54 : decode b_Doc_renumberBehind 54 = .ok (.aload_n 0, 1) := by decide +kernel
theorem d_Doc_renumberBehind_55 : decode b_Doc_renumberBehind 55 = .ok (.getfield 33, 3) := by decide +kernel
theorem d_Doc_renumberBehind_58 : decode b_Doc_renumberBehind 58 = .ok (.iload 5, 2) := by decide +kernel
theorem d_Doc_renumberBehind_60 : decode b_Doc_renumberBehind 60 = .ok (.invokevirtual 129, 3) := by decide +kernel
theorem d_Doc_renumberBehind_63 : decode b_Doc_renumberBehind 63 = .ok (.aload_n 0, 1) := by decide +kernel
theorem d_Doc_renumberBehind_64 : decode b_Doc_renumberBehind 64 = .ok (.getfield 33, 3) := by decide +kernel
theorem d_Doc_renumberBehind_67 : decode b_Doc_renumberBehind 67 = .ok (.iload 5, 2) := by decide +kernel
theorem d_Doc_renumberBehind_69 : decode b_Doc_renumberBehind 69 = .ok (.invokevirtual 105, 3) := by decide +kernel
theorem d_Doc_renumberBehind_72 : decode b_Doc_renumberBehind 72 = .ok (.iload 6, 2) := by decide +kernel
theorem d_Doc_renumberBehind_74 : decode b_Doc_renumberBehind 74 = .ok (.isub, 1) := by decide +kernel
theorem d_Doc_renumberBehind_75 : decode b_Doc_renumberBehind 75 = .ok (.invokevirtual 167, 3) := by decide +kernel
theorem d_Doc_renumberBehind_78 : decode b_Doc_renumberBehind 78 = .ok (.aload_n 1, 1) := by decide +kernel
theorem d_Doc_renumberBehind_79 : decode b_Doc_renumberBehind 79 = .ok (.aload_n 0, 1) := by decide +kernel
theorem d_Doc_renumberBehind_80 : decode b_Doc_renumberBehind 80 = .ok (.getfield 33, 3) := by decide +kernel
theorem d_Doc_renumberBehind_83 : decode b_Doc_renumberBehind 83 = .ok (.iload 5, 2) := by decide +kernel
theorem d_Doc_renumberBehind_85 : decode b_Doc_renumberBehind 85 = .ok (.invokevirtual 129, 3) := by decide +kernel
theorem d_Doc_renumberBehind_88 : decode b_Doc_renumberBehind 88 = .ok (.iload 6, 2) := by decide +kernel
theorem d_Doc_renumberBehind_90 : decode b_Doc_renumberBehind 90 = .ok (.iload 4, 2) := by decide +kernel
theorem d_Doc_renumberBehind_92 : decode b_Doc_renumberBehind 92 = .ok (.invokevirtual 215, 3) := by decide +kernel
theorem d_Doc_renumberBehind_95 : decode b_Doc_renumberBehind 95 = .ok (.iinc 5 (-1), 3) := by decide +kernel
theorem d_Doc_renumberBehind_98 : decode b_Doc_renumberBehind 98 = .ok (.goto (-74), 3) := by decide +kernel
theorem d_Doc_renumberBehind_101 : decode b_Doc_renumberBehind 101 = .ok (.return_, 1) := by decide +kernel
theorem d_Doc_resizeUpwards_0 : decode b_Doc_resizeUpwards 0 = .ok (.iload_n 2, 1) := by decide +kernel
theorem d_Doc_resizeUpwards_1 : decode b_Doc_resizeUpwards 1 = .ok (.istore 4, 2) := by decide +kernel
theorem d_Doc_resizeUpwards_3 : decode b_Doc_resizeUpwards 3 = .ok (.iconst 0, 1) := by decide +kernel
theorem d_Doc_resizeUpwards_4 : decode b_Doc_resizeUpwards 4 = .ok (.istore 5, 2) := by decide +kernel
theorem d_Doc_resizeUpwards_6 : decode b_Doc_resizeUpwards 6 = .ok (.iload 5, 2) := by decide +kernel
theorem d_Doc_resizeUpwards_8 : decode b_Doc_resizeUpwards 8 = .ok (.bipush 16, 2) := by decide +kernel
theorem d_Doc_resizeUpwards_10 : decode b_Doc_resizeUpwards 10 = .ok (.if_icmp .ge 53, 3) := by decide +kernel
theorem d_Doc_resizeUpwards_13 : decode b_Doc_resizeUpwards 13 = .ok (.iload 4, 2) := by decide +kernel
theorem d_Doc_resizeUpwards_15 : decode b_Doc_resizeUpwards 15 = .ok (.ifCond .lt 48, 3) := by decide +kernel
theorem d_Doc_resizeUpwards_18 : decode b_Doc_resizeUpwards 18 = .ok (.aload_n 0, 1) := by decide +kernel
theorem d_Doc_resizeUpwards_19 : decode b_Doc_resizeUpwards 19 = .ok (.getfield 33, 3) := by decide +kernel
theorem d_Doc_resizeUpwards_22 : decode b_Doc_resizeUpwards 22 = .ok (.iload 4, 2) := by decide +kernel
theorem d_Doc_resizeUpwards_24 : decode b_Doc_resizeUpwards 24 = .ok (.invokevirtual 117, 3) := by decide +kernel
theorem d_Doc_resizeUpwards_27 : decode b_Doc_resizeUpwards 27 = .ok (.istore 6, 2) := by decide +kernel
theorem d_Doc_resizeUpwards_29 : decode b_Doc_resizeUpwards 29 = .ok (.aload_n 1, 1) := by decide +kernel
theorem d_Doc_resizeUpwards_30 : decode b_Doc_resizeUpwards 30 = .ok (.iload 6, 2) := by decide +kernel
theorem d_Doc_resizeUpwards_32 : decode b_Doc_resizeUpwards 32 = .ok (.iconst 4, 1) := by decide +kernel
theorem d_Doc_resizeUpwards_33 : decode b_Doc_resizeUpwards 33 = .ok (.aload_n 1, 1) := by decide +kernel
theorem d_Doc_resizeUpwards_34 : decode b_Doc_resizeUpwards 34 = .ok (.iload 6, 2) := by decide +kernel
theorem d_Doc_resizeUpwards_36 : decode b_Doc_resizeUpwards 36 = .ok (.iconst 4, 1) := by decide +kernel
theorem d_Doc_resizeUpwards_37 : decode b_Doc_resizeUpwards 37 = .ok (.invokevirtual 125, 3) := by decide +kernel
theorem d_Doc_resizeUpwards_40 : decode b_Doc_resizeUpwards 40 = .ok (.iload_n 3, 1) := by decide +kernel
theorem d_Doc_resizeUpwards_41 : decode b_Doc_resizeUpwards 41 = .ok (.i2l, 1) := by decide +kernel
theorem d_Doc_resizeUpwards_42 : decode b_Doc_resizeUpwards 42 = .ok (.ladd, 1) := by decide +kernel
theorem d_Doc_resizeUpwards_43 : decode b_Doc_resizeUpwards 43 = .ok (.invokevirtual 157, 3) := by decide +kernel
theorem d_Doc_resizeUpwards_46 : decode b_Doc_resizeUpwards 46 = .ok (.aload_n 0, 1) := by decide +kernel
theorem d_Doc_resizeUpwards_47 : decode b_Doc_resizeUpwards 47 = .ok (.getfield 33, 3) := by decide +kernel
theorem d_Doc_resizeUpwards_50 : decode b_Doc_resizeUpwards 50 = .ok (.iload 4, 2) := by decide +kernel
theorem d_Doc_resizeUpwards_52 : decode b_Doc_resizeUpwards 52 = .ok (.invokevirtual 96, 3) := by decide +kernel
theorem d_Doc_resizeUpwards_55 : decode b_Doc_resizeUpwards 55 = .ok (.istore 4, 2) := by decide +kernel
theorem d_Doc_resizeUpwards_57 : decode b_Doc_resizeUpwards 57 = .ok (.iinc 5 1, 3) := by decide +kernel
theorem d_Doc_resizeUpwards_60 : decode b_Doc_resizeUpwards 60 = .ok (.goto (-54), 3) := by decide +kernel
theorem d_Doc_resizeUpwards_63 : decode b_Doc_resizeUpwards 63 = .ok (.return_, 1) := by decide +kernel
