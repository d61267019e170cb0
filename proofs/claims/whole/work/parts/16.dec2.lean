theorem d_Reader_init_0 : decode b_Reader_init 0 = .ok (.aload_n 0, 1) := by decide +kernel
theorem d_Reader_init_1 : decode b_Reader_init 1 = .ok (.invokespecial 3, 3) := by decide +kernel
theorem d_Reader_init_4 : decode b_Reader_init 4 = .ok (.aload_n 0, 1) := by decide +kernel
theorem d_Reader_init_5 : decode b_Reader_init 5 = .ok (.aload_n 1, 1) := by decide +kernel
theorem d_Reader_init_6 : decode b_Reader_init 6 = .ok (.putfield 9, 3) := by decide +kernel
theorem d_Reader_init_9 : decode b_Reader_init 9 = .ok (.aload_n 0, 1) := by decide +kernel
theorem d_Reader_init_10 : decode b_Reader_init 10 = .ok (.aload_n 2, 1) := by decide +kernel
theorem d_Reader_init_11 : decode b_Reader_init 11 = .ok (.putfield 15, 3) := by decide +kernel
theorem d_Reader_init_14 : decode b_Reader_init 14 = .ok (.aload_n 0, 1) := by decide +kernel
theorem d_Reader_init_15 : decode b_Reader_init 15 = .ok (.iconst 0, 1) := by decide +kernel
theorem d_Reader_init_16 : decode b_Reader_init 16 = .ok (.putfield 19, 3) := by decide +kernel
theorem d_Reader_init_19 : decode b_Reader_init 19 = .ok (.aload_n 0, 1) := by decide +kernel
theorem d_Reader_init_20 : decode b_Reader_init 20 = .ok (.iconst (-1), 1) := by decide +kernel
theorem d_Reader_init_21 : decode b_Reader_init 21 = .ok (.putfield 23, 3) := by decide +kernel
theorem d_Reader_init_24 : decode b_Reader_init 24 = .ok (.aload_n 0, 1) := by decide +kernel
theorem d_Reader_init_25 : decode b_Reader_init 25 = .ok (.iconst 0, 1) := by decide +kernel
theorem d_Reader_init_26 : decode b_Reader_init 26 = .ok (.putfield 26, 3) := by decide +kernel
theorem d_Reader_init_29 : decode b_Reader_init 29 = .ok (.aload_n 0, 1) := by decide +kernel
theorem d_Reader_init_30 : decode b_Reader_init 30 = .ok (.iconst (-1), 1) := by decide +kernel
theorem d_Reader_init_31 : decode b_Reader_init 31 = .ok (.putfield 29, 3) := by decide +kernel
theorem d_Reader_init_34 : decode b_Reader_init 34 = .ok (.return_, 1) := by decide +kernel
theorem d_Reader_faultPlace_0 : decode b_Reader_faultPlace 0 = .ok (.aload_n 0, 1) := by decide +kernel
theorem d_Reader_faultPlace_1 : decode b_Reader_faultPlace 1 = .ok (.getfield 29, 3) := by decide +kernel
theorem d_Reader_faultPlace_4 : decode b_Reader_faultPlace 4 = .ok (.ireturn, 1) := by decide +kernel
theorem d_Reader_readAll_0 : decode b_Reader_readAll 0 = .ok (.aload_n 0, 1) := by decide +kernel
theorem d_Reader_readAll_1 : decode b_Reader_readAll 1 = .ok (.iconst 0, 1) := by decide +kernel
theorem d_Reader_readAll_2 : decode b_Reader_readAll 2 = .ok (.putfield 26, 3) := by decide +kernel
theorem d_Reader_readAll_5 : decode b_Reader_readAll 5 = .ok (.aload_n 0, 1) := by decide +kernel
theorem d_Reader_readAll_6 : decode b_Reader_readAll 6 = .ok (.iconst (-1), 1) := by decide +kernel
theorem d_Reader_readAll_7 : decode b_Reader_readAll 7 = .ok (.putfield 29, 3) := by decide +kernel
theorem d_Reader_readAll_10 : decode b_Reader_readAll 10 = .ok (.aload_n 0, 1) := by decide +kernel
theorem d_Reader_readAll_11 : decode b_Reader_readAll 11 = .ok (.iconst 0, 1) := by decide +kernel
theorem d_Reader_readAll_12 : decode b_Reader_readAll 12 = .ok (.putfield 19, 3) := by decide +kernel
theorem d_Reader_readAll_15 : decode b_Reader_readAll 15 = .ok (.aload_n 0, 1) := by decide +kernel
theorem d_Reader_readAll_16 : decode b_Reader_readAll 16 = .ok (.iconst (-1), 1) := by decide +kernel
theorem d_Reader_readAll_17 : decode b_Reader_readAll 17 = .ok (.putfield 23, 3) := by decide +kernel
theorem d_Reader_readAll_20 : decode b_Reader_readAll 20 = .ok (.aload_n 0, 1) := by decide +kernel
theorem d_Reader_readAll_21 : decode b_Reader_readAll 21 = .ok (.getfield 9, 3) := by decide +kernel
theorem d_Reader_readAll_24 : decode b_Reader_readAll 24 = .ok (.aload_n 0, 1) := by decide +kernel
theorem d_Reader_readAll_25 : decode b_Reader_readAll 25 = .ok (.getfield 15, 3) := by decide +kernel
theorem d_Reader_readAll_28 : decode b_Reader_readAll 28 = .ok (.invokevirtual 32, 3) := by decide +kernel
theorem d_Reader_readAll_31 : decode b_Reader_readAll 31 = .ok (.aload_n 0, 1) := by decide +kernel
theorem d_Reader_readAll_32 : decode b_Reader_readAll 32 = .ok (.iconst 3, 1) := by decide +kernel
theorem d_Reader_readAll_33 : decode b_Reader_readAll 33 = .ok (.iconst (-1), 1) := by decide +kernel
theorem d_Reader_readAll_34 : decode b_Reader_readAll 34 = .ok (.iload_n 1, 1) := by decide +kernel
theorem d_Reader_readAll_35 : decode b_Reader_readAll 35 = .ok (.invokevirtual 38, 3) := by decide +kernel
theorem d_Reader_readAll_38 : decode b_Reader_readAll 38 = .ok (.iconst 0, 1) := by decide +kernel
theorem d_Reader_readAll_39 : decode b_Reader_readAll 39 = .ok (.istore_n 2, 1) := by decide +kernel
theorem d_Reader_readAll_40 : decode b_Reader_readAll 40 = .ok (.iload_n 2, 1) := by decide +kernel
theorem d_Reader_readAll_41 : decode b_Reader_readAll 41 = .ok (.sipush 2000, 3) := by decide +kernel
theorem d_Reader_readAll_44 : decode b_Reader_readAll 44 = .ok (.if_icmp .ge 55, 3) := by decide +kernel
theorem d_Reader_readAll_47 : decode b_Reader_readAll 47 = .ok (.aload_n 0, 1) := by decide +kernel
theorem d_Reader_readAll_48 : decode b_Reader_readAll 48 = .ok (.getfield 26, 3) := by decide +kernel
theorem d_Reader_readAll_51 : decode b_Reader_readAll 51 = .ok (.ifCond .ne 48, 3) := by decide +kernel
theorem d_Reader_readAll_54 : decode b_Reader_readAll 54 = .ok (.aload_n 0, 1) := by decide +kernel
theorem d_Reader_readAll_55 : decode b_Reader_readAll 55 = .ok (.getfield 23, 3) := by decide +kernel
theorem d_Reader_readAll_58 : decode b_Reader_readAll 58 = .ok (.ifCond .lt 41, 3) := by decide +kernel
theorem d_Reader_readAll_61 : decode b_Reader_readAll 61 = .ok (.aload_n 0, 1) := by decide +kernel
theorem d_Reader_readAll_62 : decode b_Reader_readAll 62 = .ok (.getfield 9, 3) := by decide +kernel
theorem d_Reader_readAll_65 : decode b_Reader_readAll 65 = .ok (.aload_n 0, 1) := by decide +kernel
theorem d_Reader_readAll_66 : decode b_Reader_readAll 66 = .ok (.getfield 23, 3) := by decide +kernel
theorem d_Reader_readAll_69 : decode b_Reader_readAll 69 = .ok (.invokevirtual 42, 3) := by decide +kernel
theorem d_Reader_readAll_72 : decode b_Reader_readAll 72 = .ok (.istore_n 3, 1) := by decide +kernel
theorem d_Reader_readAll_73 : decode b_Reader_readAll 73 = .ok (.aload_n 0, 1) := by decide +kernel
theorem d_Reader_readAll_74 : decode b_Reader_readAll 74 = .ok (.getfield 19, 3) := by decide +kernel
theorem d_Reader_readAll_77 : decode b_Reader_readAll 77 = .ok (.iload_n 3, 1) := by decide +kernel
theorem d_Reader_readAll_78 : decode b_Reader_readAll 78 = .ok (.if_icmp .lt 10, 3) := by decide +kernel
theorem d_Reader_readAll_81 : decode b_Reader_readAll 81 = .ok (.aload_n 0, 1) := by decide +kernel
theorem d_Reader_readAll_82 : decode b_Reader_readAll 82 = .ok (.invokevirtual 46, 3) := by decide +kernel
theorem d_Reader_readAll_85 : decode b_Reader_readAll 85 = .ok (.goto 8, 3) := by decide +kernel
theorem d_Reader_readAll_88 : decode b_Reader_readAll 88 = .ok (.aload_n 0, 1) := by decide +kernel
theorem d_Reader_readAll_89 : decode b_Reader_readAll 89 = .ok (.iload_n 3, 1) := by decide +kernel
theorem d_Reader_readAll_90 : decode b_Reader_readAll 90 = .ok (.invokevirtual 49, 3) := by decide +kernel
theorem d_Reader_readAll_93 : decode b_Reader_readAll 93 = .ok (.iinc 2 1, 3) := by decide +kernel
theorem d_Reader_readAll_96 : decode b_Reader_readAll 96 = .ok (.goto (-56), 3) := by decide +kernel
theorem d_Reader_readAll_99 : decode b_Reader_readAll 99 = .ok (.aload_n 0, 1) := by decide +kernel
theorem d_Reader_readAll_100 : decode b_Reader_readAll 100 = .ok (.getfield 26, 3) := by decide +kernel
theorem d_Reader_readAll_103 : decode b_Reader_readAll 103 = .ok (.ireturn, 1) := by decide +kernel
theorem d_Reader_refuse_0 : decode b_Reader_refuse 0 = .ok (.aload_n 0, 1) := by decide +kernel
theorem d_Reader_refuse_1 : decode b_Reader_refuse 1 = .ok (.iload_n 1, 1) := by decide +kernel
theorem d_Reader_refuse_2 : decode b_Reader_refuse 2 = .ok (.putfield 26, 3) := by decide +kernel
theorem d_Reader_refuse_5 : decode b_Reader_refuse 5 = .ok (.aload_n 0, 1) := by decide +kernel
theorem d_Reader_refuse_6 : decode b_Reader_refuse 6 = .ok (.iload_n 2, 1) := by decide +kernel
theorem d_Reader_refuse_7 : decode b_Reader_refuse 7 = .ok (.putfield 29, 3) := by decide +kernel
theorem d_Reader_refuse_10 : decode b_Reader_refuse 10 = .ok (.return_, 1) := by decide +kernel
theorem d_Reader_readLastByte_0 : decode b_Reader_readLastByte 0 = .ok (.aload_n 0, 1) := by decide +kernel
theorem d_Reader_readLastByte_1 : decode b_Reader_readLastByte 1 = .ok (.getfield 15, 3) := by decide +kernel
theorem d_Reader_readLastByte_4 : decode b_Reader_readLastByte 4 = .ok (.aload_n 0, 1) := by decide +kernel
theorem d_Reader_readLastByte_5 : decode b_Reader_readLastByte 5 = .ok (.getfield 19, 3) := by decide +kernel
theorem d_Reader_readLastByte_8 : decode b_Reader_readLastByte 8 = .ok (.invokevirtual 53, 3) := by decide +kernel
theorem d_Reader_readLastByte_11 : decode b_Reader_readLastByte 11 = .ok (.ifCond .eq 13, 3) := by decide +kernel
theorem d_Reader_readLastByte_14 : decode b_Reader_readLastByte 14 = .ok (.aload_n 0, 1) := by decide +kernel
theorem d_Reader_readLastByte_15 : decode b_Reader_readLastByte 15 = .ok (.iconst 2, 1) := by decide +kernel
theorem d_Reader_readLastByte_16 : decode b_Reader_readLastByte 16 = .ok (.aload_n 0, 1) := by decide +kernel
theorem d_Reader_readLastByte_17 : decode b_Reader_readLastByte 17 = .ok (.getfield 19, 3) := by decide +kernel
theorem d_Reader_readLastByte_20 : decode b_Reader_readLastByte 20 = .ok (.invokevirtual 58, 3) := by decide +kernel
theorem d_Reader_readLastByte_23 : decode b_Reader_readLastByte 23 = .ok (.return_, 1) := by decide +kernel
theorem d_Reader_readLastByte_24 : decode b_Reader_readLastByte 24 = .ok (.aload_n 0, 1) := by decide +kernel
theorem d_Reader_readLastByte_25 : decode b_Reader_readLastByte 25 = .ok (.dup, 1) := by decide +kernel
theorem d_Reader_readLastByte_26 : decode b_Reader_readLastByte 26 = .ok (.getfield 19, 3) := by decide +kernel
theorem d_Reader_readLastByte_29 : decode b_Reader_readLastByte 29 = .ok (.iconst 1, 1) := by decide +kernel
theorem d_Reader_readLastByte_30 : decode b_Reader_readLastByte 30 = .ok (.iadd, 1) := by decide +kernel
theorem d_Reader_readLastByte_31 : decode b_Reader_readLastByte 31 = .ok (.putfield 19, 3) := by decide +kernel
theorem d_Reader_readLastByte_34 : decode b_Reader_readLastByte 34 = .ok (.aload_n 0, 1) := by decide +kernel
theorem d_Reader_readLastByte_35 : decode b_Reader_readLastByte 35 = .ok (.aload_n 0, 1) := by decide +kernel
theorem d_Reader_readLastByte_36 : decode b_Reader_readLastByte 36 = .ok (.getfield 9, 3) := by decide +kernel
theorem d_Reader_readLastByte_39 : decode b_Reader_readLastByte 39 = .ok (.aload_n 0, 1) := by decide +kernel
theorem d_Reader_readLastByte_40 : decode b_Reader_readLastByte 40 = .ok (.getfield 23, 3) := by decide +kernel
theorem d_Reader_readLastByte_43 : decode b_Reader_readLastByte 43 = .ok (.invokevirtual 62, 3) := by decide +kernel
theorem d_Reader_readLastByte_46 : decode b_Reader_readLastByte 46 = .ok (.putfield 23, 3) := by decide +kernel
theorem d_Reader_readLastByte_49 : decode b_Reader_readLastByte 49 = .ok (.return_, 1) := by decide +kernel
theorem d_Reader_readElement_0 : decode b_Reader_readElement 0 = .ok (.aload_n 0, 1) := by decide +kernel
theorem d_Reader_readElement_1 : decode b_Reader_readElement 1 = .ok (.getfield 15, 3) := by decide +kernel
theorem d_Reader_readElement_4 : decode b_Reader_readElement 4 = .ok (.aload_n 0, 1) := by decide +kernel
theorem d_Reader_readElement_5 : decode b_Reader_readElement 5 = .ok (.getfield 19, 3) := by decide +kernel
theorem d_Reader_readElement_8 : decode b_Reader_readElement 8 = .ok (.invokevirtual 53, 3) := by decide +kernel
theorem d_Reader_readElement_11 : decode b_Reader_readElement 11 = .ok (.istore_n 2, 1) := by decide +kernel
theorem d_Reader_readElement_12 : decode b_Reader_readElement 12 = .ok (.iload_n 2, 1) := by decide +kernel
theorem d_Reader_readElement_13 : decode b_Reader_readElement 13 = .ok (.invokestatic 65, 3) := by decide +kernel
theorem d_Reader_readElement_16 : decode b_Reader_readElement 16 = .ok (.ifCond .ne 21, 3) := by decide +kernel
theorem d_Reader_readElement_19 : decode b_Reader_readElement 19 = .ok (.aload_n 0, 1) := by decide +kernel
theorem d_Reader_readElement_20 : decode b_Reader_readElement 20 = .ok (.iload_n 2, 1) := by decide +kernel
theorem d_Reader_readElement_21 : decode b_Reader_readElement 21 = .ok (.ifCond .ne 7, 3) := by decide +kernel
theorem d_Reader_readElement_24 : decode b_Reader_readElement 24 = .ok (.iconst 2, 1) := by decide +kernel
theorem d_Reader_readElement_25 : decode b_Reader_readElement 25 = .ok (.goto 4, 3) := by decide +kernel
theorem d_Reader_readElement_28 : decode b_Reader_readElement 28 = .ok (.iconst 3, 1) := by decide +kernel
theorem d_Reader_readElement_29 : decode b_Reader_readElement 29 = .ok (.aload_n 0, 1) := by decide +kernel
theorem d_Reader_readElement_30 : decode b_Reader_readElement 30 = .ok (.getfield 19, 3) := by decide +kernel
theorem d_Reader_readElement_33 : decode b_Reader_readElement 33 = .ok (.invokevirtual 58, 3) := by decide +kernel
theorem d_Reader_readElement_36 : decode b_Reader_readElement 36 = .ok (.return_, 1) := by decide +kernel
theorem d_Reader_readElement_37 : decode b_Reader_readElement 37 = .ok (.aload_n 0, 1) := by decide +kernel
theorem d_Reader_readElement_38 : decode b_Reader_readElement 38 = .ok (.dup, 1) := by decide +kernel
theorem d_Reader_readElement_39 : decode b_Reader_readElement 39 = .ok (.getfield 19, 3) := by decide +kernel
theorem d_Reader_readElement_42 : decode b_Reader_readElement 42 = .ok (.iconst 1, 1) := by decide +kernel
theorem d_Reader_readElement_43 : decode b_Reader_readElement 43 = .ok (.iadd, 1) := by decide +kernel
theorem d_Reader_readElement_44 : decode b_Reader_readElement 44 = .ok (.putfield 19, 3) := by decide +kernel
theorem d_Reader_readElement_47 : decode b_Reader_readElement 47 = .ok (.aload_n 0, 1) := by decide +kernel
theorem d_Reader_readElement_48 : decode b_Reader_readElement 48 = .ok (.getfield 19, 3) := by decide +kernel
theorem d_Reader_readElement_51 : decode b_Reader_readElement 51 = .ok (.istore_n 3, 1) := by decide +kernel
theorem d_Reader_readElement_52 : decode b_Reader_readElement 52 = .ok (.aload_n 0, 1) := by decide +kernel
theorem d_Reader_readElement_53 : decode b_Reader_readElement 53 = .ok (.iload_n 1, 1) := by decide +kernel
theorem d_Reader_readElement_54 : decode b_Reader_readElement 54 = .ok (.invokevirtual 71, 3) := by decide +kernel
theorem d_Reader_readElement_57 : decode b_Reader_readElement 57 = .ok (.aload_n 0, 1) := by decide +kernel
theorem d_Reader_readElement_58 : decode b_Reader_readElement 58 = .ok (.getfield 26, 3) := by decide +kernel
theorem d_Reader_readElement_61 : decode b_Reader_readElement 61 = .ok (.ifCond .eq 4, 3) := by decide +kernel
theorem d_Reader_readElement_64 : decode b_Reader_readElement 64 = .ok (.return_, 1) := by decide +kernel
theorem d_Reader_readElement_65 : decode b_Reader_readElement 65 = .ok (.iload_n 2, 1) := by decide +kernel
theorem d_Reader_readElement_66 : decode b_Reader_readElement 66 = .ok (.invokestatic 74, 3) := by decide +kernel
theorem d_Reader_readElement_69 : decode b_Reader_readElement 69 = .ok (.ifCond .eq 16, 3) := by decide +kernel
theorem d_Reader_readElement_72 : decode b_Reader_readElement 72 = .ok (.aload_n 0, 1) := by decide +kernel
theorem d_Reader_readElement_73 : decode b_Reader_readElement 73 = .ok (.iload_n 2, 1) := by decide +kernel
theorem d_Reader_readElement_74 : decode b_Reader_readElement 74 = .ok (.iload_n 3, 1) := by decide +kernel
theorem d_Reader_readElement_75 : decode b_Reader_readElement 75 = .ok (.iload_n 1, 1) := by decide +kernel
theorem d_Reader_readElement_76 : decode b_Reader_readElement 76 = .ok (.aload_n 0, 1) := by decide +kernel
theorem d_Reader_readElement_77 : decode b_Reader_readElement 77 = .ok (.getfield 19, 3) := by decide +kernel
theorem d_Reader_readElement_80 : decode b_Reader_readElement 80 = .ok (.isub, 1) := by decide +kernel
theorem d_Reader_readElement_81 : decode b_Reader_readElement 81 = .ok (.invokevirtual 38, 3) := by decide +kernel
theorem d_Reader_readElement_84 : decode b_Reader_readElement 84 = .ok (.return_, 1) := by decide +kernel
theorem d_Reader_readElement_85 : decode b_Reader_readElement 85 = .ok (.aload_n 0, 1) := by decide +kernel
theorem d_Reader_readElement_86 : decode b_Reader_readElement 86 = .ok (.getfield 19, 3) := by decide +kernel
theorem d_Reader_readElement_89 : decode b_Reader_readElement 89 = .ok (.istore 4, 2) := by decide +kernel
theorem d_Reader_readElement_91 : decode b_Reader_readElement 91 = .ok (.iload_n 2, 1) := by decide +kernel
theorem d_Reader_readElement_92 : decode b_Reader_readElement 92 = .ok (.iconst 2, 1) := by decide +kernel
theorem d_Reader_readElement_93 : decode b_Reader_readElement 93 = .ok (.if_icmp .ne 16, 3) := by decide +kernel
theorem d_Reader_readElement_96 : decode b_Reader_readElement 96 = .ok (.aload_n 0, 1) := by decide +kernel
theorem d_Reader_readElement_97 : decode b_Reader_readElement 97 = .ok (.iload_n 1, 1) := by decide +kernel
theorem d_Reader_readElement_98 : decode b_Reader_readElement 98 = .ok (.aload_n 0, 1) := by decide +kernel
theorem d_Reader_readElement_99 : decode b_Reader_readElement 99 = .ok (.getfield 19, 3) := by decide +kernel
theorem d_Reader_readElement_102 : decode b_Reader_readElement 102 = .ok (.isub, 1) := by decide +kernel
theorem d_Reader_readElement_103 : decode b_Reader_readElement 103 = .ok (.invokevirtual 77, 3) := by decide +kernel
theorem d_Reader_readElement_106 : decode b_Reader_readElement 106 = .ok (.goto 14, 3) := by decide +kernel
theorem d_Reader_readElement_109 : decode b_Reader_readElement 109 = .ok (.aload_n 0, 1) := by decide +kernel
theorem d_Reader_readElement_110 : decode b_Reader_readElement 110 = .ok (.iload_n 2, 1) := by decide +kernel
theorem d_Reader_readElement_111 : decode b_Reader_readElement 111 = .ok (.iload_n 1, 1) := by decide +kernel
theorem d_Reader_readElement_112 : decode b_Reader_readElement 112 = .ok (.aload_n 0, 1) := by decide +kernel
theorem d_Reader_readElement_113 : decode b_Reader_readElement 113 = .ok (.getfield 19, 3) := by decide +kernel
theorem d_Reader_readElement_116 : decode b_Reader_readElement 116 = .ok (.isub, 1) := by decide +kernel
theorem d_Reader_readElement_117 : decode b_Reader_readElement 117 = .ok (.invokevirtual 80, 3) := by decide +kernel
theorem d_Reader_readElement_120 : decode b_Reader_readElement 120 = .ok (.aload_n 0, 1) := by decide +kernel
theorem d_Reader_readElement_121 : decode b_Reader_readElement 121 = .ok (.getfield 9, 3) := by decide +kernel
theorem d_Reader_readElement_124 : decode b_Reader_readElement 124 = .ok (.iload_n 2, 1) := by decide +kernel
theorem d_Reader_readElement_125 : decode b_Reader_readElement 125 = .ok (.aload_n 0, 1) := by decide +kernel
theorem d_Reader_readElement_126 : decode b_Reader_readElement 126 = .ok (.getfield 23, 3) := by decide +kernel
theorem d_Reader_readElement_129 : decode b_Reader_readElement 129 = .ok (.iload_n 3, 1) := by decide +kernel
theorem d_Reader_readElement_130 : decode b_Reader_readElement 130 = .ok (.iload 4, 2) := by decide +kernel
theorem d_Reader_readElement_132 : decode b_Reader_readElement 132 = .ok (.aload_n 0, 1) := by decide +kernel
theorem d_Reader_readElement_133 : decode b_Reader_readElement 133 = .ok (.getfield 19, 3) := by decide +kernel
theorem d_Reader_readElement_136 : decode b_Reader_readElement 136 = .ok (.iload 4, 2) := by decide +kernel
theorem d_Reader_readElement_138 : decode b_Reader_readElement 138 = .ok (.isub, 1) := by decide +kernel
theorem d_Reader_readElement_139 : decode b_Reader_readElement 139 = .ok (.invokevirtual 83, 3) := by decide +kernel
theorem d_Reader_readElement_142 : decode b_Reader_readElement 142 = .ok (.pop, 1) := by decide +kernel
theorem d_Reader_readElement_143 : decode b_Reader_readElement 143 = .ok (.return_, 1) := by decide +kernel
theorem d_Reader_readName_0 : decode b_Reader_readName 0 = .ok (.aload_n 0, 1) := by decide +kernel
theorem d_Reader_readName_1 : decode b_Reader_readName 1 = .ok (.getfield 15, 3) := by decide +kernel
theorem d_Reader_readName_4 : decode b_Reader_readName 4 = .ok (.aload_n 0, 1) := by decide +kernel
theorem d_Reader_readName_5 : decode b_Reader_readName 5 = .ok (.getfield 19, 3) := by decide +kernel
theorem d_Reader_readName_8 : decode b_Reader_readName 8 = .ok (.iload_n 1, 1) := by decide +kernel
theorem d_Reader_readName_9 : decode b_Reader_readName 9 = .ok (.invokevirtual 87, 3) := by decide +kernel
theorem d_Reader_readName_12 : decode b_Reader_readName 12 = .ok (.istore_n 2, 1) := by decide +kernel
theorem d_Reader_readName_13 : decode b_Reader_readName 13 = .ok (.iload_n 2, 1) := by decide +kernel
theorem d_Reader_readName_14 : decode b_Reader_readName 14 = .ok (.iconst (-1), 1) := by decide +kernel
theorem d_Reader_readName_15 : decode b_Reader_readName 15 = .ok (.if_icmp .ne 13, 3) := by decide +kernel
theorem d_Reader_readName_18 : decode b_Reader_readName 18 = .ok (.aload_n 0, 1) := by decide +kernel
theorem d_Reader_readName_19 : decode b_Reader_readName 19 = .ok (.iconst 1, 1) := by decide +kernel
theorem d_Reader_readName_20 : decode b_Reader_readName 20 = .ok (.aload_n 0, 1) := by decide +kernel
theorem d_Reader_readName_21 : decode b_Reader_readName 21 = .ok (.getfield 19, 3) := by decide +kernel
theorem d_Reader_readName_24 : decode b_Reader_readName 24 = .ok (.invokevirtual 58, 3) := by decide +kernel
theorem d_Reader_readName_27 : decode b_Reader_readName 27 = .ok (.return_, 1) := by decide +kernel
theorem d_Reader_readName_28 : decode b_Reader_readName 28 = .ok (.aload_n 0, 1) := by decide +kernel
theorem d_Reader_readName_29 : decode b_Reader_readName 29 = .ok (.getfield 15, 3) := by decide +kernel
theorem d_Reader_readName_32 : decode b_Reader_readName 32 = .ok (.aload_n 0, 1) := by decide +kernel
theorem d_Reader_readName_33 : decode b_Reader_readName 33 = .ok (.getfield 19, 3) := by decide +kernel
theorem d_Reader_readName_36 : decode b_Reader_readName 36 = .ok (.iload_n 2, 1) := by decide +kernel
theorem d_Reader_readName_37 : decode b_Reader_readName 37 = .ok (.invokestatic 91, 3) := by decide +kernel
theorem d_Reader_readName_40 : decode b_Reader_readName 40 = .ok (.istore_n 3, 1) := by decide +kernel
theorem d_Reader_readName_41 : decode b_Reader_readName 41 = .ok (.iload_n 3, 1) := by decide +kernel
theorem d_Reader_readName_42 : decode b_Reader_readName 42 = .ok (.iconst (-1), 1) := by decide +kernel
theorem d_Reader_readName_43 : decode b_Reader_readName 43 = .ok (.if_icmp .eq 10, 3) := by decide +kernel
theorem d_Reader_readName_46 : decode b_Reader_readName 46 = .ok (.aload_n 0, 1) := by decide +kernel
theorem d_Reader_readName_47 : decode b_Reader_readName 47 = .ok (.iconst 4, 1) := by decide +kernel
theorem d_Reader_readName_48 : decode b_Reader_readName 48 = .ok (.iload_n 3, 1) := by decide +kernel
theorem d_Reader_readName_49 : decode b_Reader_readName 49 = .ok (.invokevirtual 58, 3) := by decide +kernel
theorem d_Reader_readName_52 : decode b_Reader_readName 52 = .ok (.return_, 1) := by decide +kernel
theorem d_Reader_readName_53 : decode b_Reader_readName 53 = .ok (.aload_n 0, 1) := by decide +kernel
theorem d_Reader_readName_54 : decode b_Reader_readName 54 = .ok (.getfield 9, 3) := by decide +kernel
theorem d_Reader_readName_57 : decode b_Reader_readName 57 = .ok (.aload_n 0, 1) := by decide +kernel
theorem d_Reader_readName_58 : decode b_Reader_readName 58 = .ok (.getfield 23, 3) := by decide +kernel
theorem d_Reader_readName_61 : decode b_Reader_readName 61 = .ok (.invokevirtual 97, 3) := by decide +kernel
theorem d_Reader_readName_64 : decode b_Reader_readName 64 = .ok (.iconst 4, 1) := by decide +kernel
theorem d_Reader_readName_65 : decode b_Reader_readName 65 = .ok (.if_icmp .ne 34, 3) := by decide +kernel
theorem d_Reader_readName_68 : decode b_Reader_readName 68 = .ok (.aload_n 0, 1) := by decide +kernel
theorem d_Reader_readName_69 : decode b_Reader_readName 69 = .ok (.getfield 15, 3) := by decide +kernel
theorem d_Reader_readName_72 : decode b_Reader_readName 72 = .ok (.aload_n 0, 1) := by decide +kernel
theorem d_Reader_readName_73 : decode b_Reader_readName 73 = .ok (.getfield 19, 3) := by decide +kernel
theorem d_Reader_readName_76 : decode b_Reader_readName 76 = .ok (.iload_n 2, 1) := by decide +kernel
theorem d_Reader_readName_77 : decode b_Reader_readName 77 = .ok (.aload_n 0, 1) := by decide +kernel
theorem d_Reader_readName_78 : decode b_Reader_readName 78 = .ok (.getfield 19, 3) := by decide +kernel
theorem d_Reader_readName_81 : decode b_Reader_readName 81 = .ok (.isub, 1) := by decide +kernel
theorem d_Reader_readName_82 : decode b_Reader_readName 82 = .ok (.aload_n 0, 1) := by decide +kernel
theorem d_Reader_readName_83 : decode b_Reader_readName 83 = .ok (.getfield 9, 3) := by decide +kernel
theorem d_Reader_readName_86 : decode b_Reader_readName 86 = .ok (.aload_n 0, 1) := by decide +kernel
theorem d_Reader_readName_87 : decode b_Reader_readName 87 = .ok (.getfield 23, 3) := by decide +kernel
theorem d_Reader_readName_90 : decode b_Reader_readName 90 = .ok (.invokevirtual 100, 3) := by decide +kernel
theorem d_Reader_readName_93 : decode b_Reader_readName 93 = .ok (.invokevirtual 103, 3) := by decide +kernel
theorem d_Reader_readName_96 : decode b_Reader_readName 96 = .ok (.goto 37, 3) := by decide +kernel
theorem d_Reader_readName_99 : decode b_Reader_readName 99 = .ok (.aload_n 0, 1) := by decide +kernel
theorem d_Reader_readName_100 : decode b_Reader_readName 100 = .ok (.getfield 9, 3) := by decide +kernel
theorem d_Reader_readName_103 : decode b_Reader_readName 103 = .ok (.aload_n 0, 1) := by decide +kernel
theorem d_Reader_readName_104 : decode b_Reader_readName 104 = .ok (.getfield 23, 3) := by decide +kernel
theorem d_Reader_readName_107 : decode b_Reader_readName 107 = .ok (.aload_n 0, 1) := by decide +kernel
theorem d_Reader_readName_108 : decode b_Reader_readName 108 = .ok (.getfield 15, 3) := by decide +kernel
theorem d_Reader_readName_111 : decode b_Reader_readName 111 = .ok (.aload_n 0, 1) := by decide +kernel
theorem d_Reader_readName_112 : decode b_Reader_readName 112 = .ok (.getfield 19, 3) := by decide +kernel
theorem d_Reader_readName_115 : decode b_Reader_readName 115 = .ok (.iload_n 2, 1) := by decide +kernel
theorem d_Reader_readName_116 : decode b_Reader_readName 116 = .ok (.aload_n 0, 1) := by decide +kernel
theorem d_Reader_readName_117 : decode b_Reader_readName 117 = .ok (.getfield 19, 3) := by decide +kernel
theorem d_Reader_readName_120 : decode b_Reader_readName 120 = .ok (.isub, 1) := by decide +kernel
theorem d_Reader_readName_121 : decode b_Reader_readName 121 = .ok (.invokevirtual 107, 3) := by decide +kernel
theorem d_Reader_readName_124 : decode b_Reader_readName 124 = .ok (.iconst (-1), 1) := by decide +kernel
theorem d_Reader_readName_125 : decode b_Reader_readName 125 = .ok (.if_icmp .ne 7, 3) := by decide +kernel
theorem d_Reader_readName_128 : decode b_Reader_readName 128 = .ok (.iconst 1, 1) := by decide +kernel
theorem d_Reader_readName_129 : decode b_Reader_readName 129 = .ok (.goto 4, 3) := by decide +kernel
theorem d_Reader_readName_132 : decode b_Reader_readName 132 = .ok (.iconst 0, 1) := by decide +kernel
theorem d_Reader_readName_133 : decode b_Reader_readName 133 = .ok (.istore 4, 2) := by decide +kernel
theorem d_Reader_readName_135 : decode b_Reader_readName 135 = .ok (.iload 4, 2) := by decide +kernel
theorem d_Reader_readName_137 : decode b_Reader_readName 137 = .ok (.ifCond .eq 13, 3) := by decide +kernel
theorem d_Reader_readName_140 : decode b_Reader_readName 140 = .ok (.aload_n 0, 1) := by decide +kernel
theorem d_Reader_readName_141 : decode b_Reader_readName 141 = .ok (.iload_n 2, 1) := by decide +kernel
theorem d_Reader_readName_142 : decode b_Reader_readName 142 = .ok (.iconst 1, 1) := by decide +kernel
theorem d_Reader_readName_143 : decode b_Reader_readName 143 = .ok (.iadd, 1) := by decide +kernel
theorem d_Reader_readName_144 : decode b_Reader_readName 144 = .ok (.putfield 19, 3) := by decide +kernel
theorem d_Reader_readName_147 : decode b_Reader_readName 147 = .ok (.goto 13, 3) := by decide +kernel
theorem d_Reader_readName_150 : decode b_Reader_readName 150 = .ok (.aload_n 0, 1) := by decide +kernel
theorem d_Reader_readName_151 : decode b_Reader_readName 151 = .ok (.bipush 7, 2) := by decide +kernel
theorem d_Reader_readName_153 : decode b_Reader_readName 153 = .ok (.aload_n 0, 1) := by decide +kernel
theorem d_Reader_readName_154 : decode b_Reader_readName 154 = .ok (.getfield 19, 3) := by decide +kernel
theorem d_Reader_readName_157 : decode b_Reader_readName 157 = .ok (.invokevirtual 58, 3) := by decide +kernel
theorem d_Reader_readName_160 : decode b_Reader_readName 160 = .ok (.return_, 1) := by decide +kernel
theorem d_Reader_readSize_0 : decode b_Reader_readSize 0 = .ok (.iload_n 3, 1) := by decide +kernel
theorem d_Reader_readSize_1 : decode b_Reader_readSize 1 = .ok (.iconst 4, 1) := by decide +kernel
theorem d_Reader_readSize_2 : decode b_Reader_readSize 2 = .ok (.if_icmp .ge 13, 3) := by decide +kernel
theorem d_Reader_readSize_5 : decode b_Reader_readSize 5 = .ok (.aload_n 0, 1) := by decide +kernel
theorem d_Reader_readSize_6 : decode b_Reader_readSize 6 = .ok (.iconst 1, 1) := by decide +kernel
theorem d_Reader_readSize_7 : decode b_Reader_readSize 7 = .ok (.aload_n 0, 1) := by decide +kernel
theorem d_Reader_readSize_8 : decode b_Reader_readSize 8 = .ok (.getfield 19, 3) := by decide +kernel
theorem d_Reader_readSize_11 : decode b_Reader_readSize 11 = .ok (.invokevirtual 58, 3) := by decide +kernel
theorem d_Reader_readSize_14 : decode b_Reader_readSize 14 = .ok (.return_, 1) := by decide +kernel
theorem d_Reader_readSize_15 : decode b_Reader_readSize 15 = .ok (.aload_n 0, 1) := by decide +kernel
theorem d_Reader_readSize_16 : decode b_Reader_readSize 16 = .ok (.getfield 15, 3) := by decide +kernel
theorem d_Reader_readSize_19 : decode b_Reader_readSize 19 = .ok (.aload_n 0, 1) := by decide +kernel
theorem d_Reader_readSize_20 : decode b_Reader_readSize 20 = .ok (.getfield 19, 3) := by decide +kernel
theorem d_Reader_readSize_23 : decode b_Reader_readSize 23 = .ok (.iconst 4, 1) := by decide +kernel
theorem d_Reader_readSize_24 : decode b_Reader_readSize 24 = .ok (.invokevirtual 111, 3) := by decide +kernel
theorem d_Reader_readSize_27 : decode b_Reader_readSize 27 = .ok (.lstore 4, 2) := by decide +kernel
theorem d_Reader_readSize_29 : decode b_Reader_readSize 29 = .ok (.aload_n 0, 1) := by decide +kernel
theorem d_Reader_readSize_30 : decode b_Reader_readSize 30 = .ok (.getfield 23, 3) := by decide +kernel
theorem d_Reader_readSize_33 : decode b_Reader_readSize 33 = .ok (.iconst (-1), 1) := by decide +kernel
theorem d_Reader_readSize_34 : decode b_Reader_readSize 34 = .ok (.if_icmp .ne 7, 3) := by decide +kernel
theorem d_Reader_readSize_37 : decode b_Reader_readSize 37 = .ok (.iconst 1, 1) := by decide +kernel
theorem d_Reader_readSize_38 : decode b_Reader_readSize 38 = .ok (.goto 4, 3) := by decide +kernel
theorem d_Reader_readSize_41 : decode b_Reader_readSize 41 = .ok (.iconst 0, 1) := by decide +kernel
theorem d_Reader_readSize_42 : decode b_Reader_readSize 42 = .ok (.istore 6, 2) := by decide +kernel
theorem d_Reader_readSize_44 : decode b_Reader_readSize 44 = .ok (.lload 4, 2) := by decide +kernel
theorem d_Reader_readSize_46 : decode b_Reader_readSize 46 = .ok (.ldc2_w 115, 3) := by decide +kernel
theorem d_Reader_readSize_49 : decode b_Reader_readSize 49 = .ok (.lcmp, 1) := by decide +kernel
theorem d_Reader_readSize_50 : decode b_Reader_readSize 50 = .ok (.ifCond .lt 16, 3) := by decide +kernel
theorem d_Reader_readSize_53 : decode b_Reader_readSize 53 = .ok (.iload 6, 2) := by decide +kernel
theorem d_Reader_readSize_55 : decode b_Reader_readSize 55 = .ok (.ifCond .eq 23, 3) := by decide +kernel
theorem d_Reader_readSize_58 : decode b_Reader_readSize 58 = .ok (.lload 4, 2) := by decide +kernel
theorem d_Reader_readSize_60 : decode b_Reader_readSize 60 = .ok (.iload_n 3, 1) := by decide +kernel
theorem d_Reader_readSize_61 : decode b_Reader_readSize 61 = .ok (.i2l, 1) := by decide +kernel
theorem d_Reader_readSize_62 : decode b_Reader_readSize 62 = .ok (.lcmp, 1) := by decide +kernel
theorem d_Reader_readSize_63 : decode b_Reader_readSize 63 = .ok (.ifCond .ge 15, 3) := by decide +kernel
theorem d_Reader_readSize_66 : decode b_Reader_readSize 66 = .ok (.aload_n 0, 1) := by decide +kernel
theorem d_Reader_readSize_67 : decode b_Reader_readSize 67 = .ok (.iconst 2, 1) := by decide +kernel
theorem d_Reader_readSize_68 : decode b_Reader_readSize 68 = .ok (.aload_n 0, 1) := by decide +kernel
theorem d_Reader_readSize_69 : decode b_Reader_readSize 69 = .ok (.getfield 19, 3) := by decide +kernel
theorem d_Reader_readSize_72 : decode b_Reader_readSize 72 = .ok (.invokevirtual 58, 3) := by decide +kernel
theorem d_Reader_readSize_75 : decode b_Reader_readSize 75 = .ok (.goto 86, 3) := by decide +kernel
theorem d_Reader_readSize_78 : decode b_Reader_readSize 78 = .ok (.lload 4, 2) := by decide +kernel
theorem d_Reader_readSize_80 : decode b_Reader_readSize 80 = .ok (.iload_n 3, 1) := by decide +kernel
theorem d_Reader_readSize_81 : decode b_Reader_readSize 81 = .ok (.i2l, 1) := by decide +kernel
theorem d_Reader_readSize_82 : decode b_Reader_readSize 82 = .ok (.lcmp, 1) := by decide +kernel
theorem d_Reader_readSize_83 : decode b_Reader_readSize 83 = .ok (.ifCond .le 15, 3) := by decide +kernel
theorem d_Reader_readSize_86 : decode b_Reader_readSize 86 = .ok (.aload_n 0, 1) := by decide +kernel
theorem d_Reader_readSize_87 : decode b_Reader_readSize 87 = .ok (.iconst 1, 1) := by decide +kernel
theorem d_Reader_readSize_88 : decode b_Reader_readSize 88 = .ok (.aload_n 0, 1) := by decide +kernel
theorem d_Reader_readSize_89 : decode b_Reader_readSize 89 = .ok (.getfield 19, 3) := by decide +kernel
theorem d_Reader_readSize_92 : decode b_Reader_readSize 92 = .ok (.invokevirtual 58, 3) := by decide +kernel
theorem d_Reader_readSize_95 : decode b_Reader_readSize 95 = .ok (.goto 66, 3) := by decide +kernel
theorem d_Reader_readSize_98 : decode b_Reader_readSize 98 = .ok (.aload_n 0, 1) := by decide +kernel
theorem d_Reader_readSize_99 : decode b_Reader_readSize 99 = .ok (.getfield 9, 3) := by decide +kernel
theorem d_Reader_readSize_102 : decode b_Reader_readSize 102 = .ok (.aload_n 0, 1) := by decide +kernel
theorem d_Reader_readSize_103 : decode b_Reader_readSize 103 = .ok (.getfield 23, 3) := by decide +kernel
theorem d_Reader_readSize_106 : decode b_Reader_readSize 106 = .ok (.invokevirtual 117, 3) := by decide +kernel
theorem d_Reader_readSize_109 : decode b_Reader_readSize 109 = .ok (.bipush 16, 2) := by decide +kernel
theorem d_Reader_readSize_111 : decode b_Reader_readSize 111 = .ok (.if_icmp .lt 16, 3) := by decide +kernel
theorem d_Reader_readSize_114 : decode b_Reader_readSize 114 = .ok (.aload_n 0, 1) := by decide +kernel
theorem d_Reader_readSize_115 : decode b_Reader_readSize 115 = .ok (.bipush 8, 2) := by decide +kernel
theorem d_Reader_readSize_117 : decode b_Reader_readSize 117 = .ok (.aload_n 0, 1) := by decide +kernel
theorem d_Reader_readSize_118 : decode b_Reader_readSize 118 = .ok (.getfield 19, 3) := by decide +kernel
theorem d_Reader_readSize_121 : decode b_Reader_readSize 121 = .ok (.invokevirtual 58, 3) := by decide +kernel
theorem d_Reader_readSize_124 : decode b_Reader_readSize 124 = .ok (.goto 37, 3) := by decide +kernel
theorem d_Reader_readSize_127 : decode b_Reader_readSize 127 = .ok (.aload_n 0, 1) := by decide +kernel
theorem d_Reader_readSize_128 : decode b_Reader_readSize 128 = .ok (.aload_n 0, 1) := by decide +kernel
theorem d_Reader_readSize_129 : decode b_Reader_readSize 129 = .ok (.getfield 9, 3) := by decide +kernel
theorem d_Reader_readSize_132 : decode b_Reader_readSize 132 = .ok (.iload_n 1, 1) := by decide +kernel
theorem d_Reader_readSize_133 : decode b_Reader_readSize 133 = .ok (.aload_n 0, 1) := by decide +kernel
theorem d_Reader_readSize_134 : decode b_Reader_readSize 134 = .ok (.getfield 23, 3) := by decide +kernel
theorem d_Reader_readSize_137 : decode b_Reader_readSize 137 = .ok (.iload_n 2, 1) := by decide +kernel
theorem d_Reader_readSize_138 : decode b_Reader_readSize 138 = .ok (.aload_n 0, 1) := by decide +kernel
theorem d_Reader_readSize_139 : decode b_Reader_readSize 139 = .ok (.getfield 19, 3) := by decide +kernel
theorem d_Reader_readSize_142 : decode b_Reader_readSize 142 = .ok (.lload 4, 2) := by decide +kernel
theorem d_Reader_readSize_144 : decode b_Reader_readSize 144 = .ok (.l2i, 1) := by decide +kernel
theorem d_Reader_readSize_145 : decode b_Reader_readSize 145 = .ok (.invokevirtual 83, 3) := by decide +kernel
theorem d_Reader_readSize_148 : decode b_Reader_readSize 148 = .ok (.putfield 23, 3) := by decide +kernel
theorem d_Reader_readSize_151 : decode b_Reader_readSize 151 = .ok (.aload_n 0, 1) := by decide +kernel
theorem d_Reader_readSize_152 : decode b_Reader_readSize 152 = .ok (.dup, 1) := by decide +kernel
theorem d_Reader_readSize_153 : decode b_Reader_readSize 153 = .ok (.getfield 19, 3) := by decide +kernel
theorem d_Reader_readSize_156 : decode b_Reader_readSize 156 = .ok (.iconst 4, 1) := by decide +kernel
theorem d_Reader_readSize_157 : decode b_Reader_readSize 157 = .ok (.iadd, 1) := by decide +kernel
theorem d_Reader_readSize_158 : decode b_Reader_readSize 158 = .ok (.putfield 19, 3) := by decide +kernel
theorem d_Reader_readSize_161 : decode b_Reader_readSize 161 = .ok (.return_, 1) := by decide +kernel
theorem d_Reader_readText_0 : decode b_Reader_readText 0 = .ok (.iload_n 1, 1) := by decide +kernel
theorem d_Reader_readText_1 : decode b_Reader_readText 1 = .ok (.iconst 4, 1) := by decide +kernel
theorem d_Reader_readText_2 : decode b_Reader_readText 2 = .ok (.if_icmp .ge 13, 3) := by decide +kernel
theorem d_Reader_readText_5 : decode b_Reader_readText 5 = .ok (.aload_n 0, 1) := by decide +kernel
theorem d_Reader_readText_6 : decode b_Reader_readText 6 = .ok (.iconst 1, 1) := by decide +kernel
theorem d_Reader_readText_7 : decode b_Reader_readText 7 = .ok (.aload_n 0, 1) := by decide +kernel
theorem d_Reader_readText_8 : decode b_Reader_readText 8 = .ok (.getfield 19, 3) := by decide +kernel
theorem d_Reader_readText_11 : decode b_Reader_readText 11 = .ok (.invokevirtual 58, 3) := by decide +kernel
theorem d_Reader_readText_14 : decode b_Reader_readText 14 = .ok (.return_, 1) := by decide +kernel
theorem d_Reader_readText_15 : decode b_Reader_readText 15 = .ok (.aload_n 0, 1) := by decide +kernel
theorem d_Reader_readText_16 : decode b_Reader_readText 16 = .ok (.getfield 15, 3) := by decide +kernel
theorem d_Reader_readText_19 : decode b_Reader_readText 19 = .ok (.aload_n 0, 1) := by decide +kernel
theorem d_Reader_readText_20 : decode b_Reader_readText 20 = .ok (.getfield 19, 3) := by decide +kernel
theorem d_Reader_readText_23 : decode b_Reader_readText 23 = .ok (.iconst 4, 1) := by decide +kernel
theorem d_Reader_readText_24 : decode b_Reader_readText 24 = .ok (.invokevirtual 111, 3) := by decide +kernel
theorem d_Reader_readText_27 : decode b_Reader_readText 27 = .ok (.lstore_n 2, 1) := by decide +kernel
theorem d_Reader_readText_28 : decode b_Reader_readText 28 = .ok (.lload_n 2, 1) := by decide +kernel
theorem d_Reader_readText_29 : decode b_Reader_readText 29 = .ok (.lconst 1, 1) := by decide +kernel
theorem d_Reader_readText_30 : decode b_Reader_readText 30 = .ok (.lcmp, 1) := by decide +kernel
theorem d_Reader_readText_31 : decode b_Reader_readText 31 = .ok (.ifCond .lt 12, 3) := by decide +kernel
theorem d_Reader_readText_34 : decode b_Reader_readText 34 = .ok (.lload_n 2, 1) := by decide +kernel
theorem d_Reader_readText_35 : decode b_Reader_readText 35 = .ok (.iload_n 1, 1) := by decide +kernel
theorem d_Reader_readText_36 : decode b_Reader_readText 36 = .ok (.iconst 4, 1) := by decide +kernel
theorem d_Reader_readText_37 : decode b_Reader_readText 37 = .ok (.isub, 1) := by decide +kernel
theorem d_Reader_readText_38 : decode b_Reader_readText 38 = .ok (.i2l, 1) := by decide +kernel
theorem d_Reader_readText_39 : decode b_Reader_readText 39 = .ok (.lcmp, 1) := by decide +kernel
theorem d_Reader_readText_40 : decode b_Reader_readText 40 = .ok (.ifCond .le 24, 3) := by decide +kernel
theorem d_Reader_readText_43 : decode b_Reader_readText 43 = .ok (.aload_n 0, 1) := by decide +kernel
theorem d_Reader_readText_44 : decode b_Reader_readText 44 = .ok (.lload_n 2, 1) := by decide +kernel
theorem d_Reader_readText_45 : decode b_Reader_readText 45 = .ok (.lconst 1, 1) := by decide +kernel
theorem d_Reader_readText_46 : decode b_Reader_readText 46 = .ok (.lcmp, 1) := by decide +kernel
theorem d_Reader_readText_47 : decode b_Reader_readText 47 = .ok (.ifCond .ge 8, 3) := by decide +kernel
theorem d_Reader_readText_50 : decode b_Reader_readText 50 = .ok (.bipush 6, 2) := by decide +kernel
theorem d_Reader_readText_52 : decode b_Reader_readText 52 = .ok (.goto 4, 3) := by decide +kernel
theorem d_Reader_readText_55 : decode b_Reader_readText 55 = .ok (.iconst 1, 1) := by decide +kernel
theorem d_Reader_readText_56 : decode b_Reader_readText 56 = .ok (.aload_n 0, 1) := by decide +kernel
theorem d_Reader_readText_57 : decode b_Reader_readText 57 = .ok (.getfield 19, 3) := by decide +kernel
theorem d_Reader_readText_60 : decode b_Reader_readText 60 = .ok (.invokevirtual 58, 3) := by decide +kernel
theorem d_Reader_readText_63 : decode b_Reader_readText 63 = .ok (.return_, 1) := by decide +kernel
theorem d_Reader_readText_64 : decode b_Reader_readText 64 = .ok (.aload_n 0, 1) := by decide +kernel
theorem d_Reader_readText_65 : decode b_Reader_readText 65 = .ok (.getfield 19, 3) := by decide +kernel
theorem d_Reader_readText_68 : decode b_Reader_readText 68 = .ok (.iconst 4, 1) := by decide +kernel
theorem d_Reader_readText_69 : decode b_Reader_readText 69 = .ok (.iadd, 1) := by decide +kernel
theorem d_Reader_readText_70 : decode b_Reader_readText 70 = .ok (.istore 4, 2) := by decide +kernel
theorem d_Reader_readText_72 : decode b_Reader_readText 72 = .ok (.iload 4, 2) := by decide +kernel
theorem d_Reader_readText_74 : decode b_Reader_readText 74 = .ok (.lload_n 2, 1) := by decide +kernel
theorem d_Reader_readText_75 : decode b_Reader_readText 75 = .ok (.l2i, 1) := by decide +kernel
theorem d_Reader_readText_76 : decode b_Reader_readText 76 = .ok (.iadd, 1) := by decide +kernel
theorem d_Reader_readText_77 : decode b_Reader_readText 77 = .ok (.iconst 1, 1) := by decide +kernel
theorem d_Reader_readText_78 : decode b_Reader_readText 78 = .ok (.isub, 1) := by decide +kernel
theorem d_Reader_readText_79 : decode b_Reader_readText 79 = .ok (.istore 5, 2) := by decide +kernel
theorem d_Reader_readText_81 : decode b_Reader_readText 81 = .ok (.aload_n 0, 1) := by decide +kernel
theorem d_Reader_readText_82 : decode b_Reader_readText 82 = .ok (.getfield 15, 3) := by decide +kernel
theorem d_Reader_readText_85 : decode b_Reader_readText 85 = .ok (.iload 5, 2) := by decide +kernel
theorem d_Reader_readText_87 : decode b_Reader_readText 87 = .ok (.invokevirtual 53, 3) := by decide +kernel
theorem d_Reader_readText_90 : decode b_Reader_readText 90 = .ok (.ifCond .eq 12, 3) := by decide +kernel
theorem d_Reader_readText_93 : decode b_Reader_readText 93 = .ok (.aload_n 0, 1) := by decide +kernel
theorem d_Reader_readText_94 : decode b_Reader_readText 94 = .ok (.bipush 6, 2) := by decide +kernel
theorem d_Reader_readText_96 : decode b_Reader_readText 96 = .ok (.iload 5, 2) := by decide +kernel
theorem d_Reader_readText_98 : decode b_Reader_readText 98 = .ok (.invokevirtual 58, 3) := by decide +kernel
theorem d_Reader_readText_101 : decode b_Reader_readText 101 = .ok (.return_, 1) := by decide +kernel
theorem d_Reader_readText_102 : decode b_Reader_readText 102 = .ok (.aload_n 0, 1) := by decide +kernel
theorem d_Reader_readText_103 : decode b_Reader_readText 103 = .ok (.getfield 15, 3) := by decide +kernel
theorem d_Reader_readText_106 : decode b_Reader_readText 106 = .ok (.iload 4, 2) := by decide +kernel
theorem d_Reader_readText_108 : decode b_Reader_readText 108 = .ok (.iload 5, 2) := by decide +kernel
theorem d_Reader_readText_110 : decode b_Reader_readText 110 = .ok (.invokestatic 91, 3) := by decide +kernel
theorem d_Reader_readText_113 : decode b_Reader_readText 113 = .ok (.istore 6, 2) := by decide +kernel
theorem d_Reader_readText_115 : decode b_Reader_readText 115 = .ok (.iload 6, 2) := by decide +kernel
theorem d_Reader_readText_117 : decode b_Reader_readText 117 = .ok (.iconst (-1), 1) := by decide +kernel
theorem d_Reader_readText_118 : decode b_Reader_readText 118 = .ok (.if_icmp .eq 13, 3) := by decide +kernel
theorem d_Reader_readText_121 : decode b_Reader_readText 121 = .ok (.aload_n 0, 1) := by decide +kernel
theorem d_Reader_readText_122 : decode b_Reader_readText 122 = .ok (.iconst 4, 1) := by decide +kernel
theorem d_Reader_readText_123 : decode b_Reader_readText 123 = .ok (.iload 6, 2) := by decide +kernel
theorem d_Reader_readText_125 : decode b_Reader_readText 125 = .ok (.invokevirtual 58, 3) := by decide +kernel
theorem d_Reader_readText_128 : decode b_Reader_readText 128 = .ok (.goto 11, 3) := by decide +kernel
theorem d_Reader_readText_131 : decode b_Reader_readText 131 = .ok (.aload_n 0, 1) := by decide +kernel
theorem d_Reader_readText_132 : decode b_Reader_readText 132 = .ok (.iload 5, 2) := by decide +kernel
theorem d_Reader_readText_134 : decode b_Reader_readText 134 = .ok (.iconst 1, 1) := by decide +kernel
theorem d_Reader_readText_135 : decode b_Reader_readText 135 = .ok (.iadd, 1) := by decide +kernel
theorem d_Reader_readText_136 : decode b_Reader_readText 136 = .ok (.putfield 19, 3) := by decide +kernel
theorem d_Reader_readText_139 : decode b_Reader_readText 139 = .ok (.return_, 1) := by decide +kernel
theorem d_Reader_readNumber_0 : decode b_Reader_readNumber 0 = .ok (.iload_n 1, 1) := by decide +kernel
theorem d_Reader_readNumber_1 : decode b_Reader_readNumber 1 = .ok (.invokestatic 120, 3) := by decide +kernel
theorem d_Reader_readNumber_4 : decode b_Reader_readNumber 4 = .ok (.istore_n 3, 1) := by decide +kernel
theorem d_Reader_readNumber_5 : decode b_Reader_readNumber 5 = .ok (.iload_n 2, 1) := by decide +kernel
theorem d_Reader_readNumber_6 : decode b_Reader_readNumber 6 = .ok (.iload_n 3, 1) := by decide +kernel
theorem d_Reader_readNumber_7 : decode b_Reader_readNumber 7 = .ok (.if_icmp .ge 15, 3) := by decide +kernel
theorem d_Reader_readNumber_10 : decode b_Reader_readNumber 10 = .ok (.aload_n 0, 1) := by decide +kernel
theorem d_Reader_readNumber_11 : decode b_Reader_readNumber 11 = .ok (.iconst 1, 1) := by decide +kernel
theorem d_Reader_readNumber_12 : decode b_Reader_readNumber 12 = .ok (.aload_n 0, 1) := by decide +kernel
theorem d_Reader_readNumber_13 : decode b_Reader_readNumber 13 = .ok (.getfield 19, 3) := by decide +kernel
theorem d_Reader_readNumber_16 : decode b_Reader_readNumber 16 = .ok (.invokevirtual 58, 3) := by decide +kernel
theorem d_Reader_readNumber_19 : decode b_Reader_readNumber 19 = .ok (.goto 46, 3) := by decide +kernel
theorem d_Reader_readNumber_22 : decode b_Reader_readNumber 22 = .ok (.iload_n 1, 1) := by decide +kernel
theorem d_Reader_readNumber_23 : decode b_Reader_readNumber 23 = .ok (.bipush 8, 2) := by decide +kernel
theorem d_Reader_readNumber_25 : decode b_Reader_readNumber 25 = .ok (.if_icmp .ne 30, 3) := by decide +kernel
theorem d_Reader_readNumber_28 : decode b_Reader_readNumber 28 = .ok (.aload_n 0, 1) := by decide +kernel
theorem d_Reader_readNumber_29 : decode b_Reader_readNumber 29 = .ok (.getfield 15, 3) := by decide +kernel
theorem d_Reader_readNumber_32 : decode b_Reader_readNumber 32 = .ok (.aload_n 0, 1) := by decide +kernel
theorem d_Reader_readNumber_33 : decode b_Reader_readNumber 33 = .ok (.getfield 19, 3) := by decide +kernel
theorem d_Reader_readNumber_36 : decode b_Reader_readNumber 36 = .ok (.invokevirtual 53, 3) := by decide +kernel
theorem d_Reader_readNumber_39 : decode b_Reader_readNumber 39 = .ok (.iconst 1, 1) := by decide +kernel
theorem d_Reader_readNumber_40 : decode b_Reader_readNumber 40 = .ok (.if_icmp .le 15, 3) := by decide +kernel
theorem d_Reader_readNumber_43 : decode b_Reader_readNumber 43 = .ok (.aload_n 0, 1) := by decide +kernel
theorem d_Reader_readNumber_44 : decode b_Reader_readNumber 44 = .ok (.iconst 5, 1) := by decide +kernel
theorem d_Reader_readNumber_45 : decode b_Reader_readNumber 45 = .ok (.aload_n 0, 1) := by decide +kernel
theorem d_Reader_readNumber_46 : decode b_Reader_readNumber 46 = .ok (.getfield 19, 3) := by decide +kernel
theorem d_Reader_readNumber_49 : decode b_Reader_readNumber 49 = .ok (.invokevirtual 58, 3) := by decide +kernel
theorem d_Reader_readNumber_52 : decode b_Reader_readNumber 52 = .ok (.goto 13, 3) := by decide +kernel
theorem d_Reader_readNumber_55 : decode b_Reader_readNumber 55 = .ok (.aload_n 0, 1) := by decide +kernel
theorem d_Reader_readNumber_56 : decode b_Reader_readNumber 56 = .ok (.dup, 1) := by decide +kernel
theorem d_Reader_readNumber_57 : decode b_Reader_readNumber 57 = .ok (.getfield 19, 3) := by decide +kernel
theorem d_Reader_readNumber_60 : decode b_Reader_readNumber 60 = .ok (.iload_n 3, 1) := by decide +kernel
theorem d_Reader_readNumber_61 : decode b_Reader_readNumber 61 = .ok (.iadd, 1) := by decide +kernel
theorem d_Reader_readNumber_62 : decode b_Reader_readNumber 62 = .ok (.putfield 19, 3) := by decide +kernel
theorem d_Reader_readNumber_65 : decode b_Reader_readNumber 65 = .ok (.return_, 1) := by decide +kernel
