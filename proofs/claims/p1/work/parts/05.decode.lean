theorem d_P_init_0 : decode m_P_init.2.1 0 = .ok (.aload_n 0, 1) := by decide +kernel
theorem d_P_init_1 : decode m_P_init.2.1 1 = .ok (.invokespecial 1, 3) := by decide +kernel
theorem d_P_init_4 : decode m_P_init.2.1 4 = .ok (.aload_n 0, 1) := by decide +kernel
theorem d_P_init_5 : decode m_P_init.2.1 5 = .ok (.bipush 80, 2) := by decide +kernel
theorem d_P_init_7 : decode m_P_init.2.1 7 = .ok (.newarray .char, 2) := by decide +kernel
theorem d_P_init_9 : decode m_P_init.2.1 9 = .ok (.putfield 9, 3) := by decide +kernel
theorem d_P_init_12 : decode m_P_init.2.1 12 = .ok (.aload_n 0, 1) := by decide +kernel
theorem d_P_init_13 : decode m_P_init.2.1 13 = .ok (.iconst 0, 1) := by decide +kernel
theorem d_P_init_14 : decode m_P_init.2.1 14 = .ok (.putfield 13, 3) := by decide +kernel
theorem d_P_init_17 : decode m_P_init.2.1 17 = .ok (.aload_n 0, 1) := by decide +kernel
theorem d_P_init_18 : decode m_P_init.2.1 18 = .ok (.bipush 100, 2) := by decide +kernel
theorem d_P_init_20 : decode m_P_init.2.1 20 = .ok (.newarray .char, 2) := by decide +kernel
theorem d_P_init_22 : decode m_P_init.2.1 22 = .ok (.putfield 17, 3) := by decide +kernel
theorem d_P_init_25 : decode m_P_init.2.1 25 = .ok (.aload_n 0, 1) := by decide +kernel
theorem d_P_init_26 : decode m_P_init.2.1 26 = .ok (.iconst 0, 1) := by decide +kernel
theorem d_P_init_27 : decode m_P_init.2.1 27 = .ok (.putfield 20, 3) := by decide +kernel
theorem d_P_init_30 : decode m_P_init.2.1 30 = .ok (.aload_n 0, 1) := by decide +kernel
theorem d_P_init_31 : decode m_P_init.2.1 31 = .ok (.new 23, 3) := by decide +kernel
theorem d_P_init_34 : decode m_P_init.2.1 34 = .ok (.dup, 1) := by decide +kernel
theorem d_P_init_35 : decode m_P_init.2.1 35 = .ok (.invokespecial 25, 3) := by decide +kernel
theorem d_P_init_38 : decode m_P_init.2.1 38 = .ok (.putfield 26, 3) := by decide +kernel
theorem d_P_init_41 : decode m_P_init.2.1 41 = .ok (.aload_n 0, 1) := by decide +kernel
theorem d_P_init_42 : decode m_P_init.2.1 42 = .ok (.new 30, 3) := by decide +kernel
theorem d_P_init_45 : decode m_P_init.2.1 45 = .ok (.dup, 1) := by decide +kernel
theorem d_P_init_46 : decode m_P_init.2.1 46 = .ok (.invokespecial 32, 3) := by decide +kernel
theorem d_P_init_49 : decode m_P_init.2.1 49 = .ok (.putfield 33, 3) := by decide +kernel
theorem d_P_init_52 : decode m_P_init.2.1 52 = .ok (.aload_n 0, 1) := by decide +kernel
theorem d_P_init_53 : decode m_P_init.2.1 53 = .ok (.new 37, 3) := by decide +kernel
theorem d_P_init_56 : decode m_P_init.2.1 56 = .ok (.dup, 1) := by decide +kernel
theorem d_P_init_57 : decode m_P_init.2.1 57 = .ok (.invokespecial 39, 3) := by decide +kernel
theorem d_P_init_60 : decode m_P_init.2.1 60 = .ok (.putfield 40, 3) := by decide +kernel
theorem d_P_init_63 : decode m_P_init.2.1 63 = .ok (.aload_n 0, 1) := by decide +kernel
theorem d_P_init_64 : decode m_P_init.2.1 64 = .ok (.new 44, 3) := by decide +kernel
theorem d_P_init_67 : decode m_P_init.2.1 67 = .ok (.dup, 1) := by decide +kernel
theorem d_P_init_68 : decode m_P_init.2.1 68 = .ok (.invokespecial 46, 3) := by decide +kernel
theorem d_P_init_71 : decode m_P_init.2.1 71 = .ok (.putfield 47, 3) := by decide +kernel
theorem d_P_init_74 : decode m_P_init.2.1 74 = .ok (.aload_n 0, 1) := by decide +kernel
theorem d_P_init_75 : decode m_P_init.2.1 75 = .ok (.new 51, 3) := by decide +kernel
theorem d_P_init_78 : decode m_P_init.2.1 78 = .ok (.dup, 1) := by decide +kernel
theorem d_P_init_79 : decode m_P_init.2.1 79 = .ok (.aload_n 0, 1) := by decide +kernel
theorem d_P_init_80 : decode m_P_init.2.1 80 = .ok (.getfield 26, 3) := by decide +kernel
theorem d_P_init_83 : decode m_P_init.2.1 83 = .ok (.aload_n 0, 1) := by decide +kernel
theorem d_P_init_84 : decode m_P_init.2.1 84 = .ok (.getfield 33, 3) := by decide +kernel
theorem d_P_init_87 : decode m_P_init.2.1 87 = .ok (.aload_n 0, 1) := by decide +kernel
theorem d_P_init_88 : decode m_P_init.2.1 88 = .ok (.getfield 40, 3) := by decide +kernel
theorem d_P_init_91 : decode m_P_init.2.1 91 = .ok (.invokespecial 53, 3) := by decide +kernel
theorem d_P_init_94 : decode m_P_init.2.1 94 = .ok (.putfield 56, 3) := by decide +kernel
theorem d_P_init_97 : decode m_P_init.2.1 97 = .ok (.aload_n 0, 1) := by decide +kernel
theorem d_P_init_98 : decode m_P_init.2.1 98 = .ok (.new 60, 3) := by decide +kernel
theorem d_P_init_101 : decode m_P_init.2.1 101 = .ok (.dup, 1) := by decide +kernel
theorem d_P_init_102 : decode m_P_init.2.1 102 = .ok (.aload_n 0, 1) := by decide +kernel
theorem d_P_init_103 : decode m_P_init.2.1 103 = .ok (.getfield 26, 3) := by decide +kernel
theorem d_P_init_106 : decode m_P_init.2.1 106 = .ok (.aload_n 0, 1) := by decide +kernel
theorem d_P_init_107 : decode m_P_init.2.1 107 = .ok (.getfield 33, 3) := by decide +kernel
theorem d_P_init_110 : decode m_P_init.2.1 110 = .ok (.aload_n 0, 1) := by decide +kernel
theorem d_P_init_111 : decode m_P_init.2.1 111 = .ok (.getfield 40, 3) := by decide +kernel
theorem d_P_init_114 : decode m_P_init.2.1 114 = .ok (.aload_n 0, 1) := by decide +kernel
theorem d_P_init_115 : decode m_P_init.2.1 115 = .ok (.getfield 56, 3) := by decide +kernel
theorem d_P_init_118 : decode m_P_init.2.1 118 = .ok (.invokespecial 62, 3) := by decide +kernel
theorem d_P_init_121 : decode m_P_init.2.1 121 = .ok (.putfield 65, 3) := by decide +kernel
theorem d_P_init_124 : decode m_P_init.2.1 124 = .ok (.aload_n 0, 1) := by decide +kernel
theorem d_P_init_125 : decode m_P_init.2.1 125 = .ok (.new 69, 3) := by decide +kernel
theorem d_P_init_128 : decode m_P_init.2.1 128 = .ok (.dup, 1) := by decide +kernel
theorem d_P_init_129 : decode m_P_init.2.1 129 = .ok (.aload_n 0, 1) := by decide +kernel
theorem d_P_init_130 : decode m_P_init.2.1 130 = .ok (.getfield 26, 3) := by decide +kernel
theorem d_P_init_133 : decode m_P_init.2.1 133 = .ok (.aload_n 0, 1) := by decide +kernel
theorem d_P_init_134 : decode m_P_init.2.1 134 = .ok (.getfield 40, 3) := by decide +kernel
theorem d_P_init_137 : decode m_P_init.2.1 137 = .ok (.invokespecial 71, 3) := by decide +kernel
theorem d_P_init_140 : decode m_P_init.2.1 140 = .ok (.putfield 74, 3) := by decide +kernel
theorem d_P_init_143 : decode m_P_init.2.1 143 = .ok (.aload_n 0, 1) := by decide +kernel
theorem d_P_init_144 : decode m_P_init.2.1 144 = .ok (.aconst_null, 1) := by decide +kernel
theorem d_P_init_145 : decode m_P_init.2.1 145 = .ok (.putfield 78, 3) := by decide +kernel
theorem d_P_init_148 : decode m_P_init.2.1 148 = .ok (.aload_n 0, 1) := by decide +kernel
theorem d_P_init_149 : decode m_P_init.2.1 149 = .ok (.iconst 0, 1) := by decide +kernel
theorem d_P_init_150 : decode m_P_init.2.1 150 = .ok (.putfield 82, 3) := by decide +kernel
theorem d_P_init_153 : decode m_P_init.2.1 153 = .ok (.return_, 1) := by decide +kernel
theorem d_P_type_0 : decode m_P_type.2.1 0 = .ok (.iload_n 1, 1) := by decide +kernel
theorem d_P_type_1 : decode m_P_type.2.1 1 = .ok (.bipush 32, 2) := by decide +kernel
theorem d_P_type_3 : decode m_P_type.2.1 3 = .ok (.if_icmp .lt 18, 3) := by decide +kernel
theorem d_P_type_6 : decode m_P_type.2.1 6 = .ok (.iload_n 1, 1) := by decide +kernel
theorem d_P_type_7 : decode m_P_type.2.1 7 = .ok (.bipush 126, 2) := by decide +kernel
theorem d_P_type_9 : decode m_P_type.2.1 9 = .ok (.if_icmp .gt 12, 3) := by decide +kernel
theorem d_P_type_12 : decode m_P_type.2.1 12 = .ok (.aload_n 0, 1) := by decide +kernel
theorem d_P_type_13 : decode m_P_type.2.1 13 = .ok (.getfield 13, 3) := by decide +kernel
theorem d_P_type_16 : decode m_P_type.2.1 16 = .ok (.bipush 80, 2) := by decide +kernel
theorem d_P_type_18 : decode m_P_type.2.1 18 = .ok (.if_icmp .lt 5, 3) := by decide +kernel
theorem d_P_type_21 : decode m_P_type.2.1 21 = .ok (.iconst 0, 1) := by decide +kernel
theorem d_P_type_22 : decode m_P_type.2.1 22 = .ok (.ireturn, 1) := by decide +kernel
theorem d_P_type_23 : decode m_P_type.2.1 23 = .ok (.aload_n 0, 1) := by decide +kernel
theorem d_P_type_24 : decode m_P_type.2.1 24 = .ok (.getfield 9, 3) := by decide +kernel
theorem d_P_type_27 : decode m_P_type.2.1 27 = .ok (.aload_n 0, 1) := by decide +kernel
theorem d_P_type_28 : decode m_P_type.2.1 28 = .ok (.getfield 13, 3) := by decide +kernel
theorem d_P_type_31 : decode m_P_type.2.1 31 = .ok (.iload_n 1, 1) := by decide +kernel
theorem d_P_type_32 : decode m_P_type.2.1 32 = .ok (.castore, 1) := by decide +kernel
theorem d_P_type_33 : decode m_P_type.2.1 33 = .ok (.aload_n 0, 1) := by decide +kernel
theorem d_P_type_34 : decode m_P_type.2.1 34 = .ok (.dup, 1) := by decide +kernel
theorem d_P_type_35 : decode m_P_type.2.1 35 = .ok (.getfield 13, 3) := by decide +kernel
theorem d_P_type_38 : decode m_P_type.2.1 38 = .ok (.iconst 1, 1) := by decide +kernel
theorem d_P_type_39 : decode m_P_type.2.1 39 = .ok (.iadd, 1) := by decide +kernel
theorem d_P_type_40 : decode m_P_type.2.1 40 = .ok (.putfield 13, 3) := by decide +kernel
theorem d_P_type_43 : decode m_P_type.2.1 43 = .ok (.iconst 1, 1) := by decide +kernel
theorem d_P_type_44 : decode m_P_type.2.1 44 = .ok (.ireturn, 1) := by decide +kernel
theorem d_P_wipe_0 : decode m_P_wipe.2.1 0 = .ok (.aload_n 0, 1) := by decide +kernel
theorem d_P_wipe_1 : decode m_P_wipe.2.1 1 = .ok (.getfield 13, 3) := by decide +kernel
theorem d_P_wipe_4 : decode m_P_wipe.2.1 4 = .ok (.istore_n 1, 1) := by decide +kernel
theorem d_P_wipe_5 : decode m_P_wipe.2.1 5 = .ok (.aload_n 0, 1) := by decide +kernel
theorem d_P_wipe_6 : decode m_P_wipe.2.1 6 = .ok (.iconst 0, 1) := by decide +kernel
theorem d_P_wipe_7 : decode m_P_wipe.2.1 7 = .ok (.putfield 13, 3) := by decide +kernel
theorem d_P_wipe_10 : decode m_P_wipe.2.1 10 = .ok (.iload_n 1, 1) := by decide +kernel
theorem d_P_wipe_11 : decode m_P_wipe.2.1 11 = .ok (.ireturn, 1) := by decide +kernel
theorem d_P_declare_0 : decode m_P_declare.2.1 0 = .ok (.aload_n 0, 1) := by decide +kernel
theorem d_P_declare_1 : decode m_P_declare.2.1 1 = .ok (.iload_n 1, 1) := by decide +kernel
theorem d_P_declare_2 : decode m_P_declare.2.1 2 = .ok (.invokevirtual 86, 3) := by decide +kernel
theorem d_P_declare_5 : decode m_P_declare.2.1 5 = .ok (.aload_n 0, 1) := by decide +kernel
theorem d_P_declare_6 : decode m_P_declare.2.1 6 = .ok (.invokevirtual 90, 3) := by decide +kernel
theorem d_P_declare_9 : decode m_P_declare.2.1 9 = .ok (.aload_n 0, 1) := by decide +kernel
theorem d_P_declare_10 : decode m_P_declare.2.1 10 = .ok (.getfield 47, 3) := by decide +kernel
theorem d_P_declare_13 : decode m_P_declare.2.1 13 = .ok (.invokevirtual 93, 3) := by decide +kernel
theorem d_P_declare_16 : decode m_P_declare.2.1 16 = .ok (.astore_n 2, 1) := by decide +kernel
theorem d_P_declare_17 : decode m_P_declare.2.1 17 = .ok (.aload_n 2, 1) := by decide +kernel
theorem d_P_declare_18 : decode m_P_declare.2.1 18 = .ok (.ifnonnull 8, 3) := by decide +kernel
theorem d_P_declare_21 : decode m_P_declare.2.1 21 = .ok (.aload_n 0, 1) := by decide +kernel
theorem d_P_declare_22 : decode m_P_declare.2.1 22 = .ok (.invokevirtual 97, 3) := by decide +kernel
theorem d_P_declare_25 : decode m_P_declare.2.1 25 = .ok (.ireturn, 1) := by decide +kernel
theorem d_P_declare_26 : decode m_P_declare.2.1 26 = .ok (.aload_n 0, 1) := by decide +kernel
theorem d_P_declare_27 : decode m_P_declare.2.1 27 = .ok (.getfield 65, 3) := by decide +kernel
theorem d_P_declare_30 : decode m_P_declare.2.1 30 = .ok (.aload_n 2, 1) := by decide +kernel
theorem d_P_declare_31 : decode m_P_declare.2.1 31 = .ok (.invokevirtual 101, 3) := by decide +kernel
theorem d_P_declare_34 : decode m_P_declare.2.1 34 = .ok (.istore_n 3, 1) := by decide +kernel
theorem d_P_declare_35 : decode m_P_declare.2.1 35 = .ok (.iload_n 3, 1) := by decide +kernel
theorem d_P_declare_36 : decode m_P_declare.2.1 36 = .ok (.iconst (-1), 1) := by decide +kernel
theorem d_P_declare_37 : decode m_P_declare.2.1 37 = .ok (.if_icmp .eq 8, 3) := by decide +kernel
theorem d_P_declare_40 : decode m_P_declare.2.1 40 = .ok (.bipush (-100), 2) := by decide +kernel
theorem d_P_declare_42 : decode m_P_declare.2.1 42 = .ok (.iload_n 3, 1) := by decide +kernel
theorem d_P_declare_43 : decode m_P_declare.2.1 43 = .ok (.isub, 1) := by decide +kernel
theorem d_P_declare_44 : decode m_P_declare.2.1 44 = .ok (.ireturn, 1) := by decide +kernel
theorem d_P_declare_45 : decode m_P_declare.2.1 45 = .ok (.aload_n 0, 1) := by decide +kernel
theorem d_P_declare_46 : decode m_P_declare.2.1 46 = .ok (.new 105, 3) := by decide +kernel
theorem d_P_declare_49 : decode m_P_declare.2.1 49 = .ok (.dup, 1) := by decide +kernel
theorem d_P_declare_50 : decode m_P_declare.2.1 50 = .ok (.iload_n 1, 1) := by decide +kernel
theorem d_P_declare_51 : decode m_P_declare.2.1 51 = .ok (.iconst 0, 1) := by decide +kernel
theorem d_P_declare_52 : decode m_P_declare.2.1 52 = .ok (.aload_n 2, 1) := by decide +kernel
theorem d_P_declare_53 : decode m_P_declare.2.1 53 = .ok (.invokespecial 107, 3) := by decide +kernel
theorem d_P_declare_56 : decode m_P_declare.2.1 56 = .ok (.invokevirtual 110, 3) := by decide +kernel
theorem d_P_declare_59 : decode m_P_declare.2.1 59 = .ok (.ireturn, 1) := by decide +kernel
theorem d_P_program_0 : decode m_P_program.2.1 0 = .ok (.aload_n 0, 1) := by decide +kernel
theorem d_P_program_1 : decode m_P_program.2.1 1 = .ok (.iload_n 1, 1) := by decide +kernel
theorem d_P_program_2 : decode m_P_program.2.1 2 = .ok (.invokevirtual 86, 3) := by decide +kernel
theorem d_P_program_5 : decode m_P_program.2.1 5 = .ok (.aload_n 0, 1) := by decide +kernel
theorem d_P_program_6 : decode m_P_program.2.1 6 = .ok (.invokevirtual 90, 3) := by decide +kernel
theorem d_P_program_9 : decode m_P_program.2.1 9 = .ok (.aload_n 0, 1) := by decide +kernel
theorem d_P_program_10 : decode m_P_program.2.1 10 = .ok (.getfield 47, 3) := by decide +kernel
theorem d_P_program_13 : decode m_P_program.2.1 13 = .ok (.invokevirtual 114, 3) := by decide +kernel
theorem d_P_program_16 : decode m_P_program.2.1 16 = .ok (.astore_n 2, 1) := by decide +kernel
theorem d_P_program_17 : decode m_P_program.2.1 17 = .ok (.aload_n 2, 1) := by decide +kernel
theorem d_P_program_18 : decode m_P_program.2.1 18 = .ok (.ifnonnull 8, 3) := by decide +kernel
theorem d_P_program_21 : decode m_P_program.2.1 21 = .ok (.aload_n 0, 1) := by decide +kernel
theorem d_P_program_22 : decode m_P_program.2.1 22 = .ok (.invokevirtual 97, 3) := by decide +kernel
theorem d_P_program_25 : decode m_P_program.2.1 25 = .ok (.ireturn, 1) := by decide +kernel
theorem d_P_program_26 : decode m_P_program.2.1 26 = .ok (.new 105, 3) := by decide +kernel
theorem d_P_program_29 : decode m_P_program.2.1 29 = .ok (.dup, 1) := by decide +kernel
theorem d_P_program_30 : decode m_P_program.2.1 30 = .ok (.iload_n 1, 1) := by decide +kernel
theorem d_P_program_31 : decode m_P_program.2.1 31 = .ok (.iconst 1, 1) := by decide +kernel
theorem d_P_program_32 : decode m_P_program.2.1 32 = .ok (.aload_n 2, 1) := by decide +kernel
theorem d_P_program_33 : decode m_P_program.2.1 33 = .ok (.invokespecial 107, 3) := by decide +kernel
theorem d_P_program_36 : decode m_P_program.2.1 36 = .ok (.astore_n 3, 1) := by decide +kernel
theorem d_P_program_37 : decode m_P_program.2.1 37 = .ok (.aload_n 0, 1) := by decide +kernel
theorem d_P_program_38 : decode m_P_program.2.1 38 = .ok (.getfield 74, 3) := by decide +kernel
theorem d_P_program_41 : decode m_P_program.2.1 41 = .ok (.aload_n 3, 1) := by decide +kernel
theorem d_P_program_42 : decode m_P_program.2.1 42 = .ok (.invokevirtual 117, 3) := by decide +kernel
theorem d_P_program_45 : decode m_P_program.2.1 45 = .ok (.istore 4, 2) := by decide +kernel
theorem d_P_program_47 : decode m_P_program.2.1 47 = .ok (.iload 4, 2) := by decide +kernel
theorem d_P_program_49 : decode m_P_program.2.1 49 = .ok (.iconst (-1), 1) := by decide +kernel
theorem d_P_program_50 : decode m_P_program.2.1 50 = .ok (.if_icmp .eq 9, 3) := by decide +kernel
theorem d_P_program_53 : decode m_P_program.2.1 53 = .ok (.bipush (-100), 2) := by decide +kernel
theorem d_P_program_55 : decode m_P_program.2.1 55 = .ok (.iload 4, 2) := by decide +kernel
theorem d_P_program_57 : decode m_P_program.2.1 57 = .ok (.isub, 1) := by decide +kernel
theorem d_P_program_58 : decode m_P_program.2.1 58 = .ok (.ireturn, 1) := by decide +kernel
theorem d_P_program_59 : decode m_P_program.2.1 59 = .ok (.aload_n 0, 1) := by decide +kernel
theorem d_P_program_60 : decode m_P_program.2.1 60 = .ok (.aload_n 3, 1) := by decide +kernel
theorem d_P_program_61 : decode m_P_program.2.1 61 = .ok (.invokevirtual 110, 3) := by decide +kernel
theorem d_P_program_64 : decode m_P_program.2.1 64 = .ok (.ireturn, 1) := by decide +kernel
theorem d_P_check_0 : decode m_P_check.2.1 0 = .ok (.aload_n 0, 1) := by decide +kernel
theorem d_P_check_1 : decode m_P_check.2.1 1 = .ok (.invokevirtual 90, 3) := by decide +kernel
theorem d_P_check_4 : decode m_P_check.2.1 4 = .ok (.aload_n 0, 1) := by decide +kernel
theorem d_P_check_5 : decode m_P_check.2.1 5 = .ok (.getfield 56, 3) := by decide +kernel
theorem d_P_check_8 : decode m_P_check.2.1 8 = .ok (.invokevirtual 120, 3) := by decide +kernel
theorem d_P_check_11 : decode m_P_check.2.1 11 = .ok (.aload_n 0, 1) := by decide +kernel
theorem d_P_check_12 : decode m_P_check.2.1 12 = .ok (.aconst_null, 1) := by decide +kernel
theorem d_P_check_13 : decode m_P_check.2.1 13 = .ok (.putfield 78, 3) := by decide +kernel
theorem d_P_check_16 : decode m_P_check.2.1 16 = .ok (.aload_n 0, 1) := by decide +kernel
theorem d_P_check_17 : decode m_P_check.2.1 17 = .ok (.getfield 47, 3) := by decide +kernel
theorem d_P_check_20 : decode m_P_check.2.1 20 = .ok (.invokevirtual 123, 3) := by decide +kernel
theorem d_P_check_23 : decode m_P_check.2.1 23 = .ok (.astore_n 1, 1) := by decide +kernel
theorem d_P_check_24 : decode m_P_check.2.1 24 = .ok (.aload_n 1, 1) := by decide +kernel
theorem d_P_check_25 : decode m_P_check.2.1 25 = .ok (.ifnonnull 8, 3) := by decide +kernel
theorem d_P_check_28 : decode m_P_check.2.1 28 = .ok (.aload_n 0, 1) := by decide +kernel
theorem d_P_check_29 : decode m_P_check.2.1 29 = .ok (.invokevirtual 97, 3) := by decide +kernel
theorem d_P_check_32 : decode m_P_check.2.1 32 = .ok (.ireturn, 1) := by decide +kernel
theorem d_P_check_33 : decode m_P_check.2.1 33 = .ok (.aload_n 0, 1) := by decide +kernel
theorem d_P_check_34 : decode m_P_check.2.1 34 = .ok (.getfield 65, 3) := by decide +kernel
theorem d_P_check_37 : decode m_P_check.2.1 37 = .ok (.aload_n 1, 1) := by decide +kernel
theorem d_P_check_38 : decode m_P_check.2.1 38 = .ok (.invokevirtual 126, 3) := by decide +kernel
theorem d_P_check_41 : decode m_P_check.2.1 41 = .ok (.istore_n 2, 1) := by decide +kernel
theorem d_P_check_42 : decode m_P_check.2.1 42 = .ok (.iload_n 2, 1) := by decide +kernel
theorem d_P_check_43 : decode m_P_check.2.1 43 = .ok (.iconst (-1), 1) := by decide +kernel
theorem d_P_check_44 : decode m_P_check.2.1 44 = .ok (.if_icmp .ne 14, 3) := by decide +kernel
theorem d_P_check_47 : decode m_P_check.2.1 47 = .ok (.bipush (-100), 2) := by decide +kernel
theorem d_P_check_49 : decode m_P_check.2.1 49 = .ok (.aload_n 0, 1) := by decide +kernel
theorem d_P_check_50 : decode m_P_check.2.1 50 = .ok (.getfield 65, 3) := by decide +kernel
theorem d_P_check_53 : decode m_P_check.2.1 53 = .ok (.invokevirtual 129, 3) := by decide +kernel
theorem d_P_check_56 : decode m_P_check.2.1 56 = .ok (.isub, 1) := by decide +kernel
theorem d_P_check_57 : decode m_P_check.2.1 57 = .ok (.ireturn, 1) := by decide +kernel
theorem d_P_check_58 : decode m_P_check.2.1 58 = .ok (.aload_n 0, 1) := by decide +kernel
theorem d_P_check_59 : decode m_P_check.2.1 59 = .ok (.iload_n 2, 1) := by decide +kernel
theorem d_P_check_60 : decode m_P_check.2.1 60 = .ok (.invokevirtual 132, 3) := by decide +kernel
theorem d_P_check_63 : decode m_P_check.2.1 63 = .ok (.ifCond .ne 7, 3) := by decide +kernel
theorem d_P_check_66 : decode m_P_check.2.1 66 = .ok (.sipush (-200), 3) := by decide +kernel
theorem d_P_check_69 : decode m_P_check.2.1 69 = .ok (.ireturn, 1) := by decide +kernel
theorem d_P_check_70 : decode m_P_check.2.1 70 = .ok (.aload_n 0, 1) := by decide +kernel
theorem d_P_check_71 : decode m_P_check.2.1 71 = .ok (.aload_n 0, 1) := by decide +kernel
theorem d_P_check_72 : decode m_P_check.2.1 72 = .ok (.getfield 33, 3) := by decide +kernel
theorem d_P_check_75 : decode m_P_check.2.1 75 = .ok (.iload_n 2, 1) := by decide +kernel
theorem d_P_check_76 : decode m_P_check.2.1 76 = .ok (.iconst 1, 1) := by decide +kernel
theorem d_P_check_77 : decode m_P_check.2.1 77 = .ok (.invokevirtual 136, 3) := by decide +kernel
theorem d_P_check_80 : decode m_P_check.2.1 80 = .ok (.putfield 78, 3) := by decide +kernel
theorem d_P_check_83 : decode m_P_check.2.1 83 = .ok (.aload_n 0, 1) := by decide +kernel
theorem d_P_check_84 : decode m_P_check.2.1 84 = .ok (.aload_n 0, 1) := by decide +kernel
theorem d_P_check_85 : decode m_P_check.2.1 85 = .ok (.invokevirtual 140, 3) := by decide +kernel
theorem d_P_check_88 : decode m_P_check.2.1 88 = .ok (.putfield 82, 3) := by decide +kernel
theorem d_P_check_91 : decode m_P_check.2.1 91 = .ok (.aload_n 0, 1) := by decide +kernel
theorem d_P_check_92 : decode m_P_check.2.1 92 = .ok (.getfield 20, 3) := by decide +kernel
theorem d_P_check_95 : decode m_P_check.2.1 95 = .ok (.ireturn, 1) := by decide +kernel
theorem d_P_lemma_0 : decode m_P_lemma.2.1 0 = .ok (.aload_n 0, 1) := by decide +kernel
theorem d_P_lemma_1 : decode m_P_lemma.2.1 1 = .ok (.iload_n 1, 1) := by decide +kernel
theorem d_P_lemma_2 : decode m_P_lemma.2.1 2 = .ok (.invokevirtual 86, 3) := by decide +kernel
theorem d_P_lemma_5 : decode m_P_lemma.2.1 5 = .ok (.aload_n 0, 1) := by decide +kernel
theorem d_P_lemma_6 : decode m_P_lemma.2.1 6 = .ok (.getfield 78, 3) := by decide +kernel
theorem d_P_lemma_9 : decode m_P_lemma.2.1 9 = .ok (.ifnull 10, 3) := by decide +kernel
theorem d_P_lemma_12 : decode m_P_lemma.2.1 12 = .ok (.aload_n 0, 1) := by decide +kernel
theorem d_P_lemma_13 : decode m_P_lemma.2.1 13 = .ok (.getfield 82, 3) := by decide +kernel
theorem d_P_lemma_16 : decode m_P_lemma.2.1 16 = .ok (.ifCond .eq 13, 3) := by decide +kernel
theorem d_P_lemma_19 : decode m_P_lemma.2.1 19 = .ok (.new 144, 3) := by decide +kernel
theorem d_P_lemma_22 : decode m_P_lemma.2.1 22 = .ok (.dup, 1) := by decide +kernel
theorem d_P_lemma_23 : decode m_P_lemma.2.1 23 = .ok (.ldc 146, 2) := by decide +kernel
theorem d_P_lemma_25 : decode m_P_lemma.2.1 25 = .ok (.invokespecial 148, 3) := by decide +kernel
theorem d_P_lemma_28 : decode m_P_lemma.2.1 28 = .ok (.athrow, 1) := by decide +kernel
theorem d_P_lemma_29 : decode m_P_lemma.2.1 29 = .ok (.new 151, 3) := by decide +kernel
theorem d_P_lemma_32 : decode m_P_lemma.2.1 32 = .ok (.dup, 1) := by decide +kernel
theorem d_P_lemma_33 : decode m_P_lemma.2.1 33 = .ok (.bipush 16, 2) := by decide +kernel
theorem d_P_lemma_35 : decode m_P_lemma.2.1 35 = .ok (.iconst 0, 1) := by decide +kernel
theorem d_P_lemma_36 : decode m_P_lemma.2.1 36 = .ok (.iconst 0, 1) := by decide +kernel
theorem d_P_lemma_37 : decode m_P_lemma.2.1 37 = .ok (.invokespecial 153, 3) := by decide +kernel
theorem d_P_lemma_40 : decode m_P_lemma.2.1 40 = .ok (.astore_n 2, 1) := by decide +kernel
theorem d_P_lemma_41 : decode m_P_lemma.2.1 41 = .ok (.aload_n 2, 1) := by decide +kernel
theorem d_P_lemma_42 : decode m_P_lemma.2.1 42 = .ok (.aload_n 0, 1) := by decide +kernel
theorem d_P_lemma_43 : decode m_P_lemma.2.1 43 = .ok (.getfield 78, 3) := by decide +kernel
theorem d_P_lemma_46 : decode m_P_lemma.2.1 46 = .ok (.invokevirtual 156, 3) := by decide +kernel
theorem d_P_lemma_49 : decode m_P_lemma.2.1 49 = .ok (.new 151, 3) := by decide +kernel
theorem d_P_lemma_52 : decode m_P_lemma.2.1 52 = .ok (.dup, 1) := by decide +kernel
theorem d_P_lemma_53 : decode m_P_lemma.2.1 53 = .ok (.bipush 17, 2) := by decide +kernel
theorem d_P_lemma_55 : decode m_P_lemma.2.1 55 = .ok (.iconst 0, 1) := by decide +kernel
theorem d_P_lemma_56 : decode m_P_lemma.2.1 56 = .ok (.iconst 0, 1) := by decide +kernel
theorem d_P_lemma_57 : decode m_P_lemma.2.1 57 = .ok (.invokespecial 153, 3) := by decide +kernel
theorem d_P_lemma_60 : decode m_P_lemma.2.1 60 = .ok (.astore_n 3, 1) := by decide +kernel
theorem d_P_lemma_61 : decode m_P_lemma.2.1 61 = .ok (.aload_n 3, 1) := by decide +kernel
theorem d_P_lemma_62 : decode m_P_lemma.2.1 62 = .ok (.aload_n 2, 1) := by decide +kernel
theorem d_P_lemma_63 : decode m_P_lemma.2.1 63 = .ok (.invokevirtual 156, 3) := by decide +kernel
theorem d_P_lemma_66 : decode m_P_lemma.2.1 66 = .ok (.aload_n 0, 1) := by decide +kernel
theorem d_P_lemma_67 : decode m_P_lemma.2.1 67 = .ok (.new 105, 3) := by decide +kernel
theorem d_P_lemma_70 : decode m_P_lemma.2.1 70 = .ok (.dup, 1) := by decide +kernel
theorem d_P_lemma_71 : decode m_P_lemma.2.1 71 = .ok (.iload_n 1, 1) := by decide +kernel
theorem d_P_lemma_72 : decode m_P_lemma.2.1 72 = .ok (.iconst 0, 1) := by decide +kernel
theorem d_P_lemma_73 : decode m_P_lemma.2.1 73 = .ok (.aload_n 3, 1) := by decide +kernel
theorem d_P_lemma_74 : decode m_P_lemma.2.1 74 = .ok (.invokespecial 107, 3) := by decide +kernel
theorem d_P_lemma_77 : decode m_P_lemma.2.1 77 = .ok (.invokevirtual 110, 3) := by decide +kernel
theorem d_P_lemma_80 : decode m_P_lemma.2.1 80 = .ok (.pop, 1) := by decide +kernel
theorem d_P_lemma_81 : decode m_P_lemma.2.1 81 = .ok (.return_, 1) := by decide +kernel
theorem d_P_retract_0 : decode m_P_retract.2.1 0 = .ok (.aload_n 0, 1) := by decide +kernel
theorem d_P_retract_1 : decode m_P_retract.2.1 1 = .ok (.getfield 26, 3) := by decide +kernel
theorem d_P_retract_4 : decode m_P_retract.2.1 4 = .ok (.invokevirtual 160, 3) := by decide +kernel
theorem d_P_retract_7 : decode m_P_retract.2.1 7 = .ok (.ifCond .eq 13, 3) := by decide +kernel
theorem d_P_retract_10 : decode m_P_retract.2.1 10 = .ok (.new 144, 3) := by decide +kernel
theorem d_P_retract_13 : decode m_P_retract.2.1 13 = .ok (.dup, 1) := by decide +kernel
theorem d_P_retract_14 : decode m_P_retract.2.1 14 = .ok (.ldc 163, 2) := by decide +kernel
theorem d_P_retract_16 : decode m_P_retract.2.1 16 = .ok (.invokespecial 148, 3) := by decide +kernel
theorem d_P_retract_19 : decode m_P_retract.2.1 19 = .ok (.athrow, 1) := by decide +kernel
theorem d_P_retract_20 : decode m_P_retract.2.1 20 = .ok (.aload_n 0, 1) := by decide +kernel
theorem d_P_retract_21 : decode m_P_retract.2.1 21 = .ok (.aconst_null, 1) := by decide +kernel
theorem d_P_retract_22 : decode m_P_retract.2.1 22 = .ok (.putfield 78, 3) := by decide +kernel
theorem d_P_retract_25 : decode m_P_retract.2.1 25 = .ok (.aload_n 0, 1) := by decide +kernel
theorem d_P_retract_26 : decode m_P_retract.2.1 26 = .ok (.getfield 26, 3) := by decide +kernel
theorem d_P_retract_29 : decode m_P_retract.2.1 29 = .ok (.invokevirtual 165, 3) := by decide +kernel
theorem d_P_retract_32 : decode m_P_retract.2.1 32 = .ok (.ireturn, 1) := by decide +kernel
theorem d_P_run_0 : decode m_P_run.2.1 0 = .ok (.aload_n 0, 1) := by decide +kernel
theorem d_P_run_1 : decode m_P_run.2.1 1 = .ok (.getfield 26, 3) := by decide +kernel
theorem d_P_run_4 : decode m_P_run.2.1 4 = .ok (.iload_n 1, 1) := by decide +kernel
theorem d_P_run_5 : decode m_P_run.2.1 5 = .ok (.invokevirtual 169, 3) := by decide +kernel
theorem d_P_run_8 : decode m_P_run.2.1 8 = .ok (.astore_n 2, 1) := by decide +kernel
theorem d_P_run_9 : decode m_P_run.2.1 9 = .ok (.aload_n 2, 1) := by decide +kernel
theorem d_P_run_10 : decode m_P_run.2.1 10 = .ok (.ifnull 10, 3) := by decide +kernel
theorem d_P_run_13 : decode m_P_run.2.1 13 = .ok (.aload_n 2, 1) := by decide +kernel
theorem d_P_run_14 : decode m_P_run.2.1 14 = .ok (.getfield 173, 3) := by decide +kernel
theorem d_P_run_17 : decode m_P_run.2.1 17 = .ok (.ifCond .ne 13, 3) := by decide +kernel
theorem d_P_run_20 : decode m_P_run.2.1 20 = .ok (.new 176, 3) := by decide +kernel
theorem d_P_run_23 : decode m_P_run.2.1 23 = .ok (.dup, 1) := by decide +kernel
theorem d_P_run_24 : decode m_P_run.2.1 24 = .ok (.ldc 178, 2) := by decide +kernel
theorem d_P_run_26 : decode m_P_run.2.1 26 = .ok (.invokespecial 180, 3) := by decide +kernel
theorem d_P_run_29 : decode m_P_run.2.1 29 = .ok (.athrow, 1) := by decide +kernel
theorem d_P_run_30 : decode m_P_run.2.1 30 = .ok (.aload_n 0, 1) := by decide +kernel
theorem d_P_run_31 : decode m_P_run.2.1 31 = .ok (.invokevirtual 90, 3) := by decide +kernel
theorem d_P_run_34 : decode m_P_run.2.1 34 = .ok (.aload_n 0, 1) := by decide +kernel
theorem d_P_run_35 : decode m_P_run.2.1 35 = .ok (.getfield 56, 3) := by decide +kernel
theorem d_P_run_38 : decode m_P_run.2.1 38 = .ok (.invokevirtual 120, 3) := by decide +kernel
theorem d_P_run_41 : decode m_P_run.2.1 41 = .ok (.aload_n 0, 1) := by decide +kernel
theorem d_P_run_42 : decode m_P_run.2.1 42 = .ok (.getfield 47, 3) := by decide +kernel
theorem d_P_run_45 : decode m_P_run.2.1 45 = .ok (.invokevirtual 181, 3) := by decide +kernel
theorem d_P_run_48 : decode m_P_run.2.1 48 = .ok (.astore_n 3, 1) := by decide +kernel
theorem d_P_run_49 : decode m_P_run.2.1 49 = .ok (.aload_n 3, 1) := by decide +kernel
theorem d_P_run_50 : decode m_P_run.2.1 50 = .ok (.ifnonnull 8, 3) := by decide +kernel
theorem d_P_run_53 : decode m_P_run.2.1 53 = .ok (.aload_n 0, 1) := by decide +kernel
theorem d_P_run_54 : decode m_P_run.2.1 54 = .ok (.invokevirtual 97, 3) := by decide +kernel
theorem d_P_run_57 : decode m_P_run.2.1 57 = .ok (.ireturn, 1) := by decide +kernel
theorem d_P_run_58 : decode m_P_run.2.1 58 = .ok (.aload_n 3, 1) := by decide +kernel
theorem d_P_run_59 : decode m_P_run.2.1 59 = .ok (.getfield 184, 3) := by decide +kernel
theorem d_P_run_62 : decode m_P_run.2.1 62 = .ok (.aload_n 2, 1) := by decide +kernel
theorem d_P_run_63 : decode m_P_run.2.1 63 = .ok (.getfield 187, 3) := by decide +kernel
theorem d_P_run_66 : decode m_P_run.2.1 66 = .ok (.if_icmp .eq 6, 3) := by decide +kernel
theorem d_P_run_69 : decode m_P_run.2.1 69 = .ok (.bipush (-100), 2) := by decide +kernel
theorem d_P_run_71 : decode m_P_run.2.1 71 = .ok (.ireturn, 1) := by decide +kernel
theorem d_P_run_72 : decode m_P_run.2.1 72 = .ok (.aload_n 0, 1) := by decide +kernel
theorem d_P_run_73 : decode m_P_run.2.1 73 = .ok (.getfield 65, 3) := by decide +kernel
theorem d_P_run_76 : decode m_P_run.2.1 76 = .ok (.aload_n 3, 1) := by decide +kernel
theorem d_P_run_77 : decode m_P_run.2.1 77 = .ok (.invokevirtual 190, 3) := by decide +kernel
theorem d_P_run_80 : decode m_P_run.2.1 80 = .ok (.istore 4, 2) := by decide +kernel
theorem d_P_run_82 : decode m_P_run.2.1 82 = .ok (.iload 4, 2) := by decide +kernel
theorem d_P_run_84 : decode m_P_run.2.1 84 = .ok (.iconst (-1), 1) := by decide +kernel
theorem d_P_run_85 : decode m_P_run.2.1 85 = .ok (.if_icmp .eq 9, 3) := by decide +kernel
theorem d_P_run_88 : decode m_P_run.2.1 88 = .ok (.bipush (-100), 2) := by decide +kernel
theorem d_P_run_90 : decode m_P_run.2.1 90 = .ok (.iload 4, 2) := by decide +kernel
theorem d_P_run_92 : decode m_P_run.2.1 92 = .ok (.isub, 1) := by decide +kernel
theorem d_P_run_93 : decode m_P_run.2.1 93 = .ok (.ireturn, 1) := by decide +kernel
theorem d_P_run_94 : decode m_P_run.2.1 94 = .ok (.aload_n 0, 1) := by decide +kernel
theorem d_P_run_95 : decode m_P_run.2.1 95 = .ok (.getfield 56, 3) := by decide +kernel
theorem d_P_run_98 : decode m_P_run.2.1 98 = .ok (.iload_n 1, 1) := by decide +kernel
theorem d_P_run_99 : decode m_P_run.2.1 99 = .ok (.iconst 0, 1) := by decide +kernel
theorem d_P_run_100 : decode m_P_run.2.1 100 = .ok (.invokevirtual 193, 3) := by decide +kernel
theorem d_P_run_103 : decode m_P_run.2.1 103 = .ok (.istore 5, 2) := by decide +kernel
theorem d_P_run_105 : decode m_P_run.2.1 105 = .ok (.iload 5, 2) := by decide +kernel
theorem d_P_run_107 : decode m_P_run.2.1 107 = .ok (.iconst (-1), 1) := by decide +kernel
theorem d_P_run_108 : decode m_P_run.2.1 108 = .ok (.if_icmp .ne 7, 3) := by decide +kernel
theorem d_P_run_111 : decode m_P_run.2.1 111 = .ok (.sipush (-300), 3) := by decide +kernel
theorem d_P_run_114 : decode m_P_run.2.1 114 = .ok (.ireturn, 1) := by decide +kernel
theorem d_P_run_115 : decode m_P_run.2.1 115 = .ok (.aload_n 0, 1) := by decide +kernel
theorem d_P_run_116 : decode m_P_run.2.1 116 = .ok (.iload 5, 2) := by decide +kernel
theorem d_P_run_118 : decode m_P_run.2.1 118 = .ok (.invokevirtual 132, 3) := by decide +kernel
theorem d_P_run_121 : decode m_P_run.2.1 121 = .ok (.ifCond .eq 10, 3) := by decide +kernel
theorem d_P_run_124 : decode m_P_run.2.1 124 = .ok (.aload_n 0, 1) := by decide +kernel
theorem d_P_run_125 : decode m_P_run.2.1 125 = .ok (.getfield 20, 3) := by decide +kernel
theorem d_P_run_128 : decode m_P_run.2.1 128 = .ok (.goto 6, 3) := by decide +kernel
theorem d_P_run_131 : decode m_P_run.2.1 131 = .ok (.sipush (-200), 3) := by decide +kernel
theorem d_P_run_134 : decode m_P_run.2.1 134 = .ok (.ireturn, 1) := by decide +kernel
theorem d_P_steps_0 : decode m_P_steps.2.1 0 = .ok (.aload_n 0, 1) := by decide +kernel
theorem d_P_steps_1 : decode m_P_steps.2.1 1 = .ok (.getfield 56, 3) := by decide +kernel
theorem d_P_steps_4 : decode m_P_steps.2.1 4 = .ok (.invokevirtual 197, 3) := by decide +kernel
theorem d_P_steps_7 : decode m_P_steps.2.1 7 = .ok (.ireturn, 1) := by decide +kernel
theorem d_P_kind_0 : decode m_P_kind.2.1 0 = .ok (.aload_n 0, 1) := by decide +kernel
theorem d_P_kind_1 : decode m_P_kind.2.1 1 = .ok (.getfield 26, 3) := by decide +kernel
theorem d_P_kind_4 : decode m_P_kind.2.1 4 = .ok (.iload_n 1, 1) := by decide +kernel
theorem d_P_kind_5 : decode m_P_kind.2.1 5 = .ok (.invokevirtual 169, 3) := by decide +kernel
theorem d_P_kind_8 : decode m_P_kind.2.1 8 = .ok (.astore_n 2, 1) := by decide +kernel
theorem d_P_kind_9 : decode m_P_kind.2.1 9 = .ok (.aload_n 2, 1) := by decide +kernel
theorem d_P_kind_10 : decode m_P_kind.2.1 10 = .ok (.ifnonnull 5, 3) := by decide +kernel
theorem d_P_kind_13 : decode m_P_kind.2.1 13 = .ok (.iconst 0, 1) := by decide +kernel
theorem d_P_kind_14 : decode m_P_kind.2.1 14 = .ok (.ireturn, 1) := by decide +kernel
theorem d_P_kind_15 : decode m_P_kind.2.1 15 = .ok (.aload_n 2, 1) := by decide +kernel
theorem d_P_kind_16 : decode m_P_kind.2.1 16 = .ok (.getfield 173, 3) := by decide +kernel
theorem d_P_kind_19 : decode m_P_kind.2.1 19 = .ok (.ifCond .eq 7, 3) := by decide +kernel
theorem d_P_kind_22 : decode m_P_kind.2.1 22 = .ok (.iconst 2, 1) := by decide +kernel
theorem d_P_kind_23 : decode m_P_kind.2.1 23 = .ok (.goto 4, 3) := by decide +kernel
theorem d_P_kind_26 : decode m_P_kind.2.1 26 = .ok (.iconst 1, 1) := by decide +kernel
theorem d_P_kind_27 : decode m_P_kind.2.1 27 = .ok (.ireturn, 1) := by decide +kernel
theorem d_P_parameters_0 : decode m_P_parameters.2.1 0 = .ok (.aload_n 0, 1) := by decide +kernel
theorem d_P_parameters_1 : decode m_P_parameters.2.1 1 = .ok (.getfield 26, 3) := by decide +kernel
theorem d_P_parameters_4 : decode m_P_parameters.2.1 4 = .ok (.iload_n 1, 1) := by decide +kernel
theorem d_P_parameters_5 : decode m_P_parameters.2.1 5 = .ok (.invokevirtual 169, 3) := by decide +kernel
theorem d_P_parameters_8 : decode m_P_parameters.2.1 8 = .ok (.astore_n 2, 1) := by decide +kernel
theorem d_P_parameters_9 : decode m_P_parameters.2.1 9 = .ok (.aload_n 2, 1) := by decide +kernel
theorem d_P_parameters_10 : decode m_P_parameters.2.1 10 = .ok (.ifnonnull 7, 3) := by decide +kernel
theorem d_P_parameters_13 : decode m_P_parameters.2.1 13 = .ok (.iconst (-1), 1) := by decide +kernel
theorem d_P_parameters_14 : decode m_P_parameters.2.1 14 = .ok (.goto 7, 3) := by decide +kernel
theorem d_P_parameters_17 : decode m_P_parameters.2.1 17 = .ok (.aload_n 2, 1) := by decide +kernel
theorem d_P_parameters_18 : decode m_P_parameters.2.1 18 = .ok (.getfield 187, 3) := by decide +kernel
theorem d_P_parameters_21 : decode m_P_parameters.2.1 21 = .ok (.ireturn, 1) := by decide +kernel
theorem d_P_length_0 : decode m_P_length.2.1 0 = .ok (.aload_n 0, 1) := by decide +kernel
theorem d_P_length_1 : decode m_P_length.2.1 1 = .ok (.getfield 20, 3) := by decide +kernel
theorem d_P_length_4 : decode m_P_length.2.1 4 = .ok (.ireturn, 1) := by decide +kernel
theorem d_P_charAt_0 : decode m_P_charAt.2.1 0 = .ok (.iload_n 1, 1) := by decide +kernel
theorem d_P_charAt_1 : decode m_P_charAt.2.1 1 = .ok (.ifCond .lt 20, 3) := by decide +kernel
theorem d_P_charAt_4 : decode m_P_charAt.2.1 4 = .ok (.iload_n 1, 1) := by decide +kernel
theorem d_P_charAt_5 : decode m_P_charAt.2.1 5 = .ok (.aload_n 0, 1) := by decide +kernel
theorem d_P_charAt_6 : decode m_P_charAt.2.1 6 = .ok (.getfield 20, 3) := by decide +kernel
theorem d_P_charAt_9 : decode m_P_charAt.2.1 9 = .ok (.if_icmp .ge 12, 3) := by decide +kernel
theorem d_P_charAt_12 : decode m_P_charAt.2.1 12 = .ok (.aload_n 0, 1) := by decide +kernel
theorem d_P_charAt_13 : decode m_P_charAt.2.1 13 = .ok (.getfield 17, 3) := by decide +kernel
theorem d_P_charAt_16 : decode m_P_charAt.2.1 16 = .ok (.iload_n 1, 1) := by decide +kernel
theorem d_P_charAt_17 : decode m_P_charAt.2.1 17 = .ok (.caload, 1) := by decide +kernel
theorem d_P_charAt_18 : decode m_P_charAt.2.1 18 = .ok (.goto 5, 3) := by decide +kernel
theorem d_P_charAt_21 : decode m_P_charAt.2.1 21 = .ok (.bipush 32, 2) := by decide +kernel
theorem d_P_charAt_23 : decode m_P_charAt.2.1 23 = .ok (.ireturn, 1) := by decide +kernel
theorem d_P_refuseUnlessFree_0 : decode m_P_refuseUnlessFree.2.1 0 = .ok (.iload_n 1, 1) := by decide +kernel
theorem d_P_refuseUnlessFree_1 : decode m_P_refuseUnlessFree.2.1 1 = .ok (.invokestatic 200, 3) := by decide +kernel
theorem d_P_refuseUnlessFree_4 : decode m_P_refuseUnlessFree.2.1 4 = .ok (.ifCond .ne 13, 3) := by decide +kernel
theorem d_P_refuseUnlessFree_7 : decode m_P_refuseUnlessFree.2.1 7 = .ok (.new 176, 3) := by decide +kernel
theorem d_P_refuseUnlessFree_10 : decode m_P_refuseUnlessFree.2.1 10 = .ok (.dup, 1) := by decide +kernel
theorem d_P_refuseUnlessFree_11 : decode m_P_refuseUnlessFree.2.1 11 = .ok (.ldc 204, 2) := by decide +kernel
theorem d_P_refuseUnlessFree_13 : decode m_P_refuseUnlessFree.2.1 13 = .ok (.invokespecial 180, 3) := by decide +kernel
theorem d_P_refuseUnlessFree_16 : decode m_P_refuseUnlessFree.2.1 16 = .ok (.athrow, 1) := by decide +kernel
theorem d_P_refuseUnlessFree_17 : decode m_P_refuseUnlessFree.2.1 17 = .ok (.aload_n 0, 1) := by decide +kernel
theorem d_P_refuseUnlessFree_18 : decode m_P_refuseUnlessFree.2.1 18 = .ok (.getfield 26, 3) := by decide +kernel
theorem d_P_refuseUnlessFree_21 : decode m_P_refuseUnlessFree.2.1 21 = .ok (.iload_n 1, 1) := by decide +kernel
theorem d_P_refuseUnlessFree_22 : decode m_P_refuseUnlessFree.2.1 22 = .ok (.invokevirtual 169, 3) := by decide +kernel
theorem d_P_refuseUnlessFree_25 : decode m_P_refuseUnlessFree.2.1 25 = .ok (.ifnull 13, 3) := by decide +kernel
theorem d_P_refuseUnlessFree_28 : decode m_P_refuseUnlessFree.2.1 28 = .ok (.new 144, 3) := by decide +kernel
theorem d_P_refuseUnlessFree_31 : decode m_P_refuseUnlessFree.2.1 31 = .ok (.dup, 1) := by decide +kernel
theorem d_P_refuseUnlessFree_32 : decode m_P_refuseUnlessFree.2.1 32 = .ok (.ldc 206, 2) := by decide +kernel
theorem d_P_refuseUnlessFree_34 : decode m_P_refuseUnlessFree.2.1 34 = .ok (.invokespecial 148, 3) := by decide +kernel
theorem d_P_refuseUnlessFree_37 : decode m_P_refuseUnlessFree.2.1 37 = .ok (.athrow, 1) := by decide +kernel
theorem d_P_refuseUnlessFree_38 : decode m_P_refuseUnlessFree.2.1 38 = .ok (.return_, 1) := by decide +kernel
theorem d_P_openText_0 : decode m_P_openText.2.1 0 = .ok (.aload_n 0, 1) := by decide +kernel
theorem d_P_openText_1 : decode m_P_openText.2.1 1 = .ok (.getfield 47, 3) := by decide +kernel
theorem d_P_openText_4 : decode m_P_openText.2.1 4 = .ok (.aload_n 0, 1) := by decide +kernel
theorem d_P_openText_5 : decode m_P_openText.2.1 5 = .ok (.getfield 9, 3) := by decide +kernel
theorem d_P_openText_8 : decode m_P_openText.2.1 8 = .ok (.aload_n 0, 1) := by decide +kernel
theorem d_P_openText_9 : decode m_P_openText.2.1 9 = .ok (.getfield 13, 3) := by decide +kernel
theorem d_P_openText_12 : decode m_P_openText.2.1 12 = .ok (.invokevirtual 208, 3) := by decide +kernel
theorem d_P_openText_15 : decode m_P_openText.2.1 15 = .ok (.aload_n 0, 1) := by decide +kernel
theorem d_P_openText_16 : decode m_P_openText.2.1 16 = .ok (.iconst 0, 1) := by decide +kernel
theorem d_P_openText_17 : decode m_P_openText.2.1 17 = .ok (.putfield 13, 3) := by decide +kernel
theorem d_P_openText_20 : decode m_P_openText.2.1 20 = .ok (.aload_n 0, 1) := by decide +kernel
theorem d_P_openText_21 : decode m_P_openText.2.1 21 = .ok (.getfield 33, 3) := by decide +kernel
theorem d_P_openText_24 : decode m_P_openText.2.1 24 = .ok (.invokevirtual 212, 3) := by decide +kernel
theorem d_P_openText_27 : decode m_P_openText.2.1 27 = .ok (.aload_n 0, 1) := by decide +kernel
theorem d_P_openText_28 : decode m_P_openText.2.1 28 = .ok (.getfield 40, 3) := by decide +kernel
theorem d_P_openText_31 : decode m_P_openText.2.1 31 = .ok (.iconst 0, 1) := by decide +kernel
theorem d_P_openText_32 : decode m_P_openText.2.1 32 = .ok (.invokevirtual 215, 3) := by decide +kernel
theorem d_P_openText_35 : decode m_P_openText.2.1 35 = .ok (.return_, 1) := by decide +kernel
theorem d_P_fault_0 : decode m_P_fault.2.1 0 = .ok (.iconst (-1), 1) := by decide +kernel
theorem d_P_fault_1 : decode m_P_fault.2.1 1 = .ok (.aload_n 0, 1) := by decide +kernel
theorem d_P_fault_2 : decode m_P_fault.2.1 2 = .ok (.getfield 47, 3) := by decide +kernel
theorem d_P_fault_5 : decode m_P_fault.2.1 5 = .ok (.invokevirtual 219, 3) := by decide +kernel
theorem d_P_fault_8 : decode m_P_fault.2.1 8 = .ok (.isub, 1) := by decide +kernel
theorem d_P_fault_9 : decode m_P_fault.2.1 9 = .ok (.ireturn, 1) := by decide +kernel
theorem d_P_enter_0 : decode m_P_enter.2.1 0 = .ok (.aload_n 0, 1) := by decide +kernel
theorem d_P_enter_1 : decode m_P_enter.2.1 1 = .ok (.getfield 26, 3) := by decide +kernel
theorem d_P_enter_4 : decode m_P_enter.2.1 4 = .ok (.aload_n 1, 1) := by decide +kernel
theorem d_P_enter_5 : decode m_P_enter.2.1 5 = .ok (.invokevirtual 222, 3) := by decide +kernel
theorem d_P_enter_8 : decode m_P_enter.2.1 8 = .ok (.aload_n 1, 1) := by decide +kernel
theorem d_P_enter_9 : decode m_P_enter.2.1 9 = .ok (.getfield 187, 3) := by decide +kernel
theorem d_P_enter_12 : decode m_P_enter.2.1 12 = .ok (.ireturn, 1) := by decide +kernel
theorem d_P_show_0 : decode m_P_show.2.1 0 = .ok (.aload_n 0, 1) := by decide +kernel
theorem d_P_show_1 : decode m_P_show.2.1 1 = .ok (.getfield 33, 3) := by decide +kernel
theorem d_P_show_4 : decode m_P_show.2.1 4 = .ok (.iload_n 1, 1) := by decide +kernel
theorem d_P_show_5 : decode m_P_show.2.1 5 = .ok (.invokevirtual 225, 3) := by decide +kernel
theorem d_P_show_8 : decode m_P_show.2.1 8 = .ok (.istore_n 2, 1) := by decide +kernel
theorem d_P_show_9 : decode m_P_show.2.1 9 = .ok (.iload_n 2, 1) := by decide +kernel
theorem d_P_show_10 : decode m_P_show.2.1 10 = .ok (.bipush 100, 2) := by decide +kernel
theorem d_P_show_12 : decode m_P_show.2.1 12 = .ok (.if_icmp .le 5, 3) := by decide +kernel
theorem d_P_show_15 : decode m_P_show.2.1 15 = .ok (.iconst 0, 1) := by decide +kernel
theorem d_P_show_16 : decode m_P_show.2.1 16 = .ok (.ireturn, 1) := by decide +kernel
theorem d_P_show_17 : decode m_P_show.2.1 17 = .ok (.iconst 0, 1) := by decide +kernel
theorem d_P_show_18 : decode m_P_show.2.1 18 = .ok (.istore_n 3, 1) := by decide +kernel
theorem d_P_show_19 : decode m_P_show.2.1 19 = .ok (.iload_n 3, 1) := by decide +kernel
theorem d_P_show_20 : decode m_P_show.2.1 20 = .ok (.iload_n 2, 1) := by decide +kernel
theorem d_P_show_21 : decode m_P_show.2.1 21 = .ok (.if_icmp .ge 23, 3) := by decide +kernel
theorem d_P_show_24 : decode m_P_show.2.1 24 = .ok (.aload_n 0, 1) := by decide +kernel
theorem d_P_show_25 : decode m_P_show.2.1 25 = .ok (.getfield 17, 3) := by decide +kernel
theorem d_P_show_28 : decode m_P_show.2.1 28 = .ok (.iload_n 3, 1) := by decide +kernel
theorem d_P_show_29 : decode m_P_show.2.1 29 = .ok (.aload_n 0, 1) := by decide +kernel
theorem d_P_show_30 : decode m_P_show.2.1 30 = .ok (.getfield 33, 3) := by decide +kernel
theorem d_P_show_33 : decode m_P_show.2.1 33 = .ok (.iload_n 3, 1) := by decide +kernel
theorem d_P_show_34 : decode m_P_show.2.1 34 = .ok (.invokevirtual 229, 3) := by decide +kernel
theorem d_P_show_37 : decode m_P_show.2.1 37 = .ok (.castore, 1) := by decide +kernel
theorem d_P_show_38 : decode m_P_show.2.1 38 = .ok (.iinc 3 1, 3) := by decide +kernel
theorem d_P_show_41 : decode m_P_show.2.1 41 = .ok (.goto (-22), 3) := by decide +kernel
theorem d_P_show_44 : decode m_P_show.2.1 44 = .ok (.aload_n 0, 1) := by decide +kernel
theorem d_P_show_45 : decode m_P_show.2.1 45 = .ok (.iload_n 2, 1) := by decide +kernel
theorem d_P_show_46 : decode m_P_show.2.1 46 = .ok (.putfield 20, 3) := by decide +kernel
theorem d_P_show_49 : decode m_P_show.2.1 49 = .ok (.iconst 1, 1) := by decide +kernel
theorem d_P_show_50 : decode m_P_show.2.1 50 = .ok (.ireturn, 1) := by decide +kernel
theorem d_P_pageShowsHole_0 : decode m_P_pageShowsHole.2.1 0 = .ok (.iconst 0, 1) := by decide +kernel
theorem d_P_pageShowsHole_1 : decode m_P_pageShowsHole.2.1 1 = .ok (.istore_n 1, 1) := by decide +kernel
theorem d_P_pageShowsHole_2 : decode m_P_pageShowsHole.2.1 2 = .ok (.iload_n 1, 1) := by decide +kernel
theorem d_P_pageShowsHole_3 : decode m_P_pageShowsHole.2.1 3 = .ok (.aload_n 0, 1) := by decide +kernel
theorem d_P_pageShowsHole_4 : decode m_P_pageShowsHole.2.1 4 = .ok (.getfield 20, 3) := by decide +kernel
theorem d_P_pageShowsHole_7 : decode m_P_pageShowsHole.2.1 7 = .ok (.if_icmp .ge 22, 3) := by decide +kernel
theorem d_P_pageShowsHole_10 : decode m_P_pageShowsHole.2.1 10 = .ok (.aload_n 0, 1) := by decide +kernel
theorem d_P_pageShowsHole_11 : decode m_P_pageShowsHole.2.1 11 = .ok (.getfield 17, 3) := by decide +kernel
theorem d_P_pageShowsHole_14 : decode m_P_pageShowsHole.2.1 14 = .ok (.iload_n 1, 1) := by decide +kernel
theorem d_P_pageShowsHole_15 : decode m_P_pageShowsHole.2.1 15 = .ok (.caload, 1) := by decide +kernel
theorem d_P_pageShowsHole_16 : decode m_P_pageShowsHole.2.1 16 = .ok (.bipush 95, 2) := by decide +kernel
theorem d_P_pageShowsHole_18 : decode m_P_pageShowsHole.2.1 18 = .ok (.if_icmp .ne 5, 3) := by decide +kernel
theorem d_P_pageShowsHole_21 : decode m_P_pageShowsHole.2.1 21 = .ok (.iconst 1, 1) := by decide +kernel
theorem d_P_pageShowsHole_22 : decode m_P_pageShowsHole.2.1 22 = .ok (.ireturn, 1) := by decide +kernel
theorem d_P_pageShowsHole_23 : decode m_P_pageShowsHole.2.1 23 = .ok (.iinc 1 1, 3) := by decide +kernel
theorem d_P_pageShowsHole_26 : decode m_P_pageShowsHole.2.1 26 = .ok (.goto (-24), 3) := by decide +kernel
theorem d_P_pageShowsHole_29 : decode m_P_pageShowsHole.2.1 29 = .ok (.iconst 0, 1) := by decide +kernel
theorem d_P_pageShowsHole_30 : decode m_P_pageShowsHole.2.1 30 = .ok (.ireturn, 1) := by decide +kernel
theorem d_P_isLetter_0 : decode m_P_isLetter.2.1 0 = .ok (.iload_n 0, 1) := by decide +kernel
theorem d_P_isLetter_1 : decode m_P_isLetter.2.1 1 = .ok (.bipush 65, 2) := by decide +kernel
theorem d_P_isLetter_3 : decode m_P_isLetter.2.1 3 = .ok (.if_icmp .lt 13, 3) := by decide +kernel
theorem d_P_isLetter_6 : decode m_P_isLetter.2.1 6 = .ok (.iload_n 0, 1) := by decide +kernel
theorem d_P_isLetter_7 : decode m_P_isLetter.2.1 7 = .ok (.bipush 90, 2) := by decide +kernel
theorem d_P_isLetter_9 : decode m_P_isLetter.2.1 9 = .ok (.if_icmp .gt 7, 3) := by decide +kernel
theorem d_P_isLetter_12 : decode m_P_isLetter.2.1 12 = .ok (.iconst 1, 1) := by decide +kernel
theorem d_P_isLetter_13 : decode m_P_isLetter.2.1 13 = .ok (.goto 4, 3) := by decide +kernel
theorem d_P_isLetter_16 : decode m_P_isLetter.2.1 16 = .ok (.iconst 0, 1) := by decide +kernel
theorem d_P_isLetter_17 : decode m_P_isLetter.2.1 17 = .ok (.ireturn, 1) := by decide +kernel
theorem d_P_isVariable_0 : decode m_P_isVariable.2.1 0 = .ok (.iload_n 0, 1) := by decide +kernel
theorem d_P_isVariable_1 : decode m_P_isVariable.2.1 1 = .ok (.bipush 97, 2) := by decide +kernel
theorem d_P_isVariable_3 : decode m_P_isVariable.2.1 3 = .ok (.if_icmp .lt 13, 3) := by decide +kernel
theorem d_P_isVariable_6 : decode m_P_isVariable.2.1 6 = .ok (.iload_n 0, 1) := by decide +kernel
theorem d_P_isVariable_7 : decode m_P_isVariable.2.1 7 = .ok (.bipush 122, 2) := by decide +kernel
theorem d_P_isVariable_9 : decode m_P_isVariable.2.1 9 = .ok (.if_icmp .gt 7, 3) := by decide +kernel
theorem d_P_isVariable_12 : decode m_P_isVariable.2.1 12 = .ok (.iconst 1, 1) := by decide +kernel
theorem d_P_isVariable_13 : decode m_P_isVariable.2.1 13 = .ok (.goto 4, 3) := by decide +kernel
theorem d_P_isVariable_16 : decode m_P_isVariable.2.1 16 = .ok (.iconst 0, 1) := by decide +kernel
theorem d_P_isVariable_17 : decode m_P_isVariable.2.1 17 = .ok (.ireturn, 1) := by decide +kernel
theorem d_P_isDigit_0 : decode m_P_isDigit.2.1 0 = .ok (.iload_n 0, 1) := by decide +kernel
theorem d_P_isDigit_1 : decode m_P_isDigit.2.1 1 = .ok (.bipush 48, 2) := by decide +kernel
theorem d_P_isDigit_3 : decode m_P_isDigit.2.1 3 = .ok (.if_icmp .lt 13, 3) := by decide +kernel
theorem d_P_isDigit_6 : decode m_P_isDigit.2.1 6 = .ok (.iload_n 0, 1) := by decide +kernel
theorem d_P_isDigit_7 : decode m_P_isDigit.2.1 7 = .ok (.bipush 57, 2) := by decide +kernel
theorem d_P_isDigit_9 : decode m_P_isDigit.2.1 9 = .ok (.if_icmp .gt 7, 3) := by decide +kernel
theorem d_P_isDigit_12 : decode m_P_isDigit.2.1 12 = .ok (.iconst 1, 1) := by decide +kernel
theorem d_P_isDigit_13 : decode m_P_isDigit.2.1 13 = .ok (.goto 4, 3) := by decide +kernel
theorem d_P_isDigit_16 : decode m_P_isDigit.2.1 16 = .ok (.iconst 0, 1) := by decide +kernel
theorem d_P_isDigit_17 : decode m_P_isDigit.2.1 17 = .ok (.ireturn, 1) := by decide +kernel
theorem d_B_init_0 : decode m_B_init.2.1 0 = .ok (.aload_n 0, 1) := by decide +kernel
theorem d_B_init_1 : decode m_B_init.2.1 1 = .ok (.invokespecial 3, 3) := by decide +kernel
theorem d_B_init_4 : decode m_B_init.2.1 4 = .ok (.aload_n 0, 1) := by decide +kernel
theorem d_B_init_5 : decode m_B_init.2.1 5 = .ok (.new 9, 3) := by decide +kernel
theorem d_B_init_8 : decode m_B_init.2.1 8 = .ok (.dup, 1) := by decide +kernel
theorem d_B_init_9 : decode m_B_init.2.1 9 = .ok (.bipush 64, 2) := by decide +kernel
theorem d_B_init_11 : decode m_B_init.2.1 11 = .ok (.invokespecial 11, 3) := by decide +kernel
theorem d_B_init_14 : decode m_B_init.2.1 14 = .ok (.putfield 14, 3) := by decide +kernel
theorem d_B_init_17 : decode m_B_init.2.1 17 = .ok (.aload_n 0, 1) := by decide +kernel
theorem d_B_init_18 : decode m_B_init.2.1 18 = .ok (.new 9, 3) := by decide +kernel
theorem d_B_init_21 : decode m_B_init.2.1 21 = .ok (.dup, 1) := by decide +kernel
theorem d_B_init_22 : decode m_B_init.2.1 22 = .ok (.bipush 64, 2) := by decide +kernel
theorem d_B_init_24 : decode m_B_init.2.1 24 = .ok (.invokespecial 11, 3) := by decide +kernel
theorem d_B_init_27 : decode m_B_init.2.1 27 = .ok (.putfield 20, 3) := by decide +kernel
theorem d_B_init_30 : decode m_B_init.2.1 30 = .ok (.aload_n 0, 1) := by decide +kernel
theorem d_B_init_31 : decode m_B_init.2.1 31 = .ok (.new 9, 3) := by decide +kernel
theorem d_B_init_34 : decode m_B_init.2.1 34 = .ok (.dup, 1) := by decide +kernel
theorem d_B_init_35 : decode m_B_init.2.1 35 = .ok (.bipush 64, 2) := by decide +kernel
theorem d_B_init_37 : decode m_B_init.2.1 37 = .ok (.invokespecial 11, 3) := by decide +kernel
theorem d_B_init_40 : decode m_B_init.2.1 40 = .ok (.putfield 23, 3) := by decide +kernel
theorem d_B_init_43 : decode m_B_init.2.1 43 = .ok (.return_, 1) := by decide +kernel
theorem d_B_size_0 : decode m_B_size.2.1 0 = .ok (.aload_n 0, 1) := by decide +kernel
theorem d_B_size_1 : decode m_B_size.2.1 1 = .ok (.getfield 14, 3) := by decide +kernel
theorem d_B_size_4 : decode m_B_size.2.1 4 = .ok (.invokevirtual 26, 3) := by decide +kernel
theorem d_B_size_7 : decode m_B_size.2.1 7 = .ok (.ireturn, 1) := by decide +kernel
theorem d_B_push_0 : decode m_B_push.2.1 0 = .ok (.aload_n 0, 1) := by decide +kernel
theorem d_B_push_1 : decode m_B_push.2.1 1 = .ok (.getfield 14, 3) := by decide +kernel
theorem d_B_push_4 : decode m_B_push.2.1 4 = .ok (.iload_n 1, 1) := by decide +kernel
theorem d_B_push_5 : decode m_B_push.2.1 5 = .ok (.invokevirtual 30, 3) := by decide +kernel
theorem d_B_push_8 : decode m_B_push.2.1 8 = .ok (.aload_n 0, 1) := by decide +kernel
theorem d_B_push_9 : decode m_B_push.2.1 9 = .ok (.getfield 20, 3) := by decide +kernel
theorem d_B_push_12 : decode m_B_push.2.1 12 = .ok (.iload_n 2, 1) := by decide +kernel
theorem d_B_push_13 : decode m_B_push.2.1 13 = .ok (.invokevirtual 30, 3) := by decide +kernel
theorem d_B_push_16 : decode m_B_push.2.1 16 = .ok (.aload_n 0, 1) := by decide +kernel
theorem d_B_push_17 : decode m_B_push.2.1 17 = .ok (.getfield 23, 3) := by decide +kernel
theorem d_B_push_20 : decode m_B_push.2.1 20 = .ok (.iload_n 3, 1) := by decide +kernel
theorem d_B_push_21 : decode m_B_push.2.1 21 = .ok (.invokevirtual 30, 3) := by decide +kernel
theorem d_B_push_24 : decode m_B_push.2.1 24 = .ok (.return_, 1) := by decide +kernel
theorem d_B_pushUnnamed_0 : decode m_B_pushUnnamed.2.1 0 = .ok (.aload_n 0, 1) := by decide +kernel
theorem d_B_pushUnnamed_1 : decode m_B_pushUnnamed.2.1 1 = .ok (.iconst 0, 1) := by decide +kernel
theorem d_B_pushUnnamed_2 : decode m_B_pushUnnamed.2.1 2 = .ok (.iload_n 1, 1) := by decide +kernel
theorem d_B_pushUnnamed_3 : decode m_B_pushUnnamed.2.1 3 = .ok (.iconst (-1), 1) := by decide +kernel
theorem d_B_pushUnnamed_4 : decode m_B_pushUnnamed.2.1 4 = .ok (.invokevirtual 33, 3) := by decide +kernel
theorem d_B_pushUnnamed_7 : decode m_B_pushUnnamed.2.1 7 = .ok (.return_, 1) := by decide +kernel
theorem d_B_rename_0 : decode m_B_rename.2.1 0 = .ok (.aload_n 0, 1) := by decide +kernel
theorem d_B_rename_1 : decode m_B_rename.2.1 1 = .ok (.getfield 14, 3) := by decide +kernel
theorem d_B_rename_4 : decode m_B_rename.2.1 4 = .ok (.iload_n 1, 1) := by decide +kernel
theorem d_B_rename_5 : decode m_B_rename.2.1 5 = .ok (.iload_n 2, 1) := by decide +kernel
theorem d_B_rename_6 : decode m_B_rename.2.1 6 = .ok (.invokevirtual 36, 3) := by decide +kernel
theorem d_B_rename_9 : decode m_B_rename.2.1 9 = .ok (.return_, 1) := by decide +kernel
theorem d_B_cut_0 : decode m_B_cut.2.1 0 = .ok (.aload_n 0, 1) := by decide +kernel
theorem d_B_cut_1 : decode m_B_cut.2.1 1 = .ok (.getfield 14, 3) := by decide +kernel
theorem d_B_cut_4 : decode m_B_cut.2.1 4 = .ok (.iload_n 1, 1) := by decide +kernel
theorem d_B_cut_5 : decode m_B_cut.2.1 5 = .ok (.invokevirtual 40, 3) := by decide +kernel
theorem d_B_cut_8 : decode m_B_cut.2.1 8 = .ok (.aload_n 0, 1) := by decide +kernel
theorem d_B_cut_9 : decode m_B_cut.2.1 9 = .ok (.getfield 20, 3) := by decide +kernel
theorem d_B_cut_12 : decode m_B_cut.2.1 12 = .ok (.iload_n 1, 1) := by decide +kernel
theorem d_B_cut_13 : decode m_B_cut.2.1 13 = .ok (.invokevirtual 40, 3) := by decide +kernel
theorem d_B_cut_16 : decode m_B_cut.2.1 16 = .ok (.aload_n 0, 1) := by decide +kernel
theorem d_B_cut_17 : decode m_B_cut.2.1 17 = .ok (.getfield 23, 3) := by decide +kernel
theorem d_B_cut_20 : decode m_B_cut.2.1 20 = .ok (.iload_n 1, 1) := by decide +kernel
theorem d_B_cut_21 : decode m_B_cut.2.1 21 = .ok (.invokevirtual 40, 3) := by decide +kernel
theorem d_B_cut_24 : decode m_B_cut.2.1 24 = .ok (.return_, 1) := by decide +kernel
theorem d_B_indexOf_0 : decode m_B_indexOf.2.1 0 = .ok (.iload_n 3, 1) := by decide +kernel
theorem d_B_indexOf_1 : decode m_B_indexOf.2.1 1 = .ok (.iconst 1, 1) := by decide +kernel
theorem d_B_indexOf_2 : decode m_B_indexOf.2.1 2 = .ok (.isub, 1) := by decide +kernel
theorem d_B_indexOf_3 : decode m_B_indexOf.2.1 3 = .ok (.istore 4, 2) := by decide +kernel
theorem d_B_indexOf_5 : decode m_B_indexOf.2.1 5 = .ok (.iload 4, 2) := by decide +kernel
theorem d_B_indexOf_7 : decode m_B_indexOf.2.1 7 = .ok (.iload_n 2, 1) := by decide +kernel
theorem d_B_indexOf_8 : decode m_B_indexOf.2.1 8 = .ok (.if_icmp .lt 25, 3) := by decide +kernel
theorem d_B_indexOf_11 : decode m_B_indexOf.2.1 11 = .ok (.aload_n 0, 1) := by decide +kernel
theorem d_B_indexOf_12 : decode m_B_indexOf.2.1 12 = .ok (.getfield 14, 3) := by decide +kernel
theorem d_B_indexOf_15 : decode m_B_indexOf.2.1 15 = .ok (.iload 4, 2) := by decide +kernel
theorem d_B_indexOf_17 : decode m_B_indexOf.2.1 17 = .ok (.invokevirtual 43, 3) := by decide +kernel
theorem d_B_indexOf_20 : decode m_B_indexOf.2.1 20 = .ok (.iload_n 1, 1) := by decide +kernel
theorem d_B_indexOf_21 : decode m_B_indexOf.2.1 21 = .ok (.if_icmp .ne 6, 3) := by decide +kernel
theorem d_B_indexOf_24 : decode m_B_indexOf.2.1 24 = .ok (.iload 4, 2) := by decide +kernel
theorem d_B_indexOf_26 : decode m_B_indexOf.2.1 26 = .ok (.ireturn, 1) := by decide +kernel
theorem d_B_indexOf_27 : decode m_B_indexOf.2.1 27 = .ok (.iinc 4 (-1), 3) := by decide +kernel
theorem d_B_indexOf_30 : decode m_B_indexOf.2.1 30 = .ok (.goto (-25), 3) := by decide +kernel
theorem d_B_indexOf_33 : decode m_B_indexOf.2.1 33 = .ok (.iconst (-1), 1) := by decide +kernel
theorem d_B_indexOf_34 : decode m_B_indexOf.2.1 34 = .ok (.ireturn, 1) := by decide +kernel
theorem d_B_valueAt_0 : decode m_B_valueAt.2.1 0 = .ok (.aload_n 0, 1) := by decide +kernel
theorem d_B_valueAt_1 : decode m_B_valueAt.2.1 1 = .ok (.getfield 20, 3) := by decide +kernel
theorem d_B_valueAt_4 : decode m_B_valueAt.2.1 4 = .ok (.iload_n 1, 1) := by decide +kernel
theorem d_B_valueAt_5 : decode m_B_valueAt.2.1 5 = .ok (.invokevirtual 43, 3) := by decide +kernel
theorem d_B_valueAt_8 : decode m_B_valueAt.2.1 8 = .ok (.ireturn, 1) := by decide +kernel
theorem d_B_typeAt_0 : decode m_B_typeAt.2.1 0 = .ok (.aload_n 0, 1) := by decide +kernel
theorem d_B_typeAt_1 : decode m_B_typeAt.2.1 1 = .ok (.getfield 23, 3) := by decide +kernel
theorem d_B_typeAt_4 : decode m_B_typeAt.2.1 4 = .ok (.iload_n 1, 1) := by decide +kernel
theorem d_B_typeAt_5 : decode m_B_typeAt.2.1 5 = .ok (.invokevirtual 43, 3) := by decide +kernel
theorem d_B_typeAt_8 : decode m_B_typeAt.2.1 8 = .ok (.ireturn, 1) := by decide +kernel
theorem d_B_valueOf_0 : decode m_B_valueOf.2.1 0 = .ok (.aload_n 0, 1) := by decide +kernel
theorem d_B_valueOf_1 : decode m_B_valueOf.2.1 1 = .ok (.getfield 20, 3) := by decide +kernel
theorem d_B_valueOf_4 : decode m_B_valueOf.2.1 4 = .ok (.aload_n 0, 1) := by decide +kernel
theorem d_B_valueOf_5 : decode m_B_valueOf.2.1 5 = .ok (.iload_n 1, 1) := by decide +kernel
theorem d_B_valueOf_6 : decode m_B_valueOf.2.1 6 = .ok (.iload_n 2, 1) := by decide +kernel
theorem d_B_valueOf_7 : decode m_B_valueOf.2.1 7 = .ok (.aload_n 0, 1) := by decide +kernel
theorem d_B_valueOf_8 : decode m_B_valueOf.2.1 8 = .ok (.getfield 14, 3) := by decide +kernel
theorem d_B_valueOf_11 : decode m_B_valueOf.2.1 11 = .ok (.invokevirtual 26, 3) := by decide +kernel
theorem d_B_valueOf_14 : decode m_B_valueOf.2.1 14 = .ok (.invokevirtual 47, 3) := by decide +kernel
theorem d_B_valueOf_17 : decode m_B_valueOf.2.1 17 = .ok (.invokevirtual 43, 3) := by decide +kernel
theorem d_B_valueOf_20 : decode m_B_valueOf.2.1 20 = .ok (.ireturn, 1) := by decide +kernel
theorem d_I_init_0 : decode m_I_init.2.1 0 = .ok (.aload_n 0, 1) := by decide +kernel
theorem d_I_init_1 : decode m_I_init.2.1 1 = .ok (.invokespecial 3, 3) := by decide +kernel
theorem d_I_init_4 : decode m_I_init.2.1 4 = .ok (.aload_n 0, 1) := by decide +kernel
theorem d_I_init_5 : decode m_I_init.2.1 5 = .ok (.aload_n 1, 1) := by decide +kernel
theorem d_I_init_6 : decode m_I_init.2.1 6 = .ok (.putfield 9, 3) := by decide +kernel
theorem d_I_init_9 : decode m_I_init.2.1 9 = .ok (.aload_n 0, 1) := by decide +kernel
theorem d_I_init_10 : decode m_I_init.2.1 10 = .ok (.aload_n 2, 1) := by decide +kernel
theorem d_I_init_11 : decode m_I_init.2.1 11 = .ok (.putfield 15, 3) := by decide +kernel
theorem d_I_init_14 : decode m_I_init.2.1 14 = .ok (.return_, 1) := by decide +kernel
theorem d_I_wrongInProgram_0 : decode m_I_wrongInProgram.2.1 0 = .ok (.aload_n 1, 1) := by decide +kernel
theorem d_I_wrongInProgram_1 : decode m_I_wrongInProgram.2.1 1 = .ok (.getfield 19, 3) := by decide +kernel
theorem d_I_wrongInProgram_4 : decode m_I_wrongInProgram.2.1 4 = .ok (.getfield 25, 3) := by decide +kernel
theorem d_I_wrongInProgram_7 : decode m_I_wrongInProgram.2.1 7 = .ok (.astore_n 2, 1) := by decide +kernel
theorem d_I_wrongInProgram_8 : decode m_I_wrongInProgram.2.1 8 = .ok (.aload_n 2, 1) := by decide +kernel
theorem d_I_wrongInProgram_9 : decode m_I_wrongInProgram.2.1 9 = .ok (.ifnull 27, 3) := by decide +kernel
theorem d_I_wrongInProgram_12 : decode m_I_wrongInProgram.2.1 12 = .ok (.aload_n 2, 1) := by decide +kernel
theorem d_I_wrongInProgram_13 : decode m_I_wrongInProgram.2.1 13 = .ok (.aload_n 1, 1) := by decide +kernel
theorem d_I_wrongInProgram_14 : decode m_I_wrongInProgram.2.1 14 = .ok (.getfield 19, 3) := by decide +kernel
theorem d_I_wrongInProgram_17 : decode m_I_wrongInProgram.2.1 17 = .ok (.getfield 30, 3) := by decide +kernel
theorem d_I_wrongInProgram_20 : decode m_I_wrongInProgram.2.1 20 = .ok (.if_acmp .eq 16, 3) := by decide +kernel
theorem d_I_wrongInProgram_23 : decode m_I_wrongInProgram.2.1 23 = .ok (.aload_n 0, 1) := by decide +kernel
theorem d_I_wrongInProgram_24 : decode m_I_wrongInProgram.2.1 24 = .ok (.aload_n 2, 1) := by decide +kernel
theorem d_I_wrongInProgram_25 : decode m_I_wrongInProgram.2.1 25 = .ok (.invokevirtual 33, 3) := by decide +kernel
theorem d_I_wrongInProgram_28 : decode m_I_wrongInProgram.2.1 28 = .ok (.aload_n 2, 1) := by decide +kernel
theorem d_I_wrongInProgram_29 : decode m_I_wrongInProgram.2.1 29 = .ok (.getfield 37, 3) := by decide +kernel
theorem d_I_wrongInProgram_32 : decode m_I_wrongInProgram.2.1 32 = .ok (.astore_n 2, 1) := by decide +kernel
theorem d_I_wrongInProgram_33 : decode m_I_wrongInProgram.2.1 33 = .ok (.goto (-25), 3) := by decide +kernel
theorem d_I_wrongInProgram_36 : decode m_I_wrongInProgram.2.1 36 = .ok (.aload_n 0, 1) := by decide +kernel
theorem d_I_wrongInProgram_37 : decode m_I_wrongInProgram.2.1 37 = .ok (.aload_n 1, 1) := by decide +kernel
theorem d_I_wrongInProgram_38 : decode m_I_wrongInProgram.2.1 38 = .ok (.getfield 19, 3) := by decide +kernel
theorem d_I_wrongInProgram_41 : decode m_I_wrongInProgram.2.1 41 = .ok (.getfield 30, 3) := by decide +kernel
theorem d_I_wrongInProgram_44 : decode m_I_wrongInProgram.2.1 44 = .ok (.aload_n 1, 1) := by decide +kernel
theorem d_I_wrongInProgram_45 : decode m_I_wrongInProgram.2.1 45 = .ok (.invokevirtual 40, 3) := by decide +kernel
theorem d_I_wrongInProgram_48 : decode m_I_wrongInProgram.2.1 48 = .ok (.ireturn, 1) := by decide +kernel
theorem d_I_know_0 : decode m_I_know.2.1 0 = .ok (.aload_n 0, 1) := by decide +kernel
theorem d_I_know_1 : decode m_I_know.2.1 1 = .ok (.getfield 15, 3) := by decide +kernel
theorem d_I_know_4 : decode m_I_know.2.1 4 = .ok (.aload_n 1, 1) := by decide +kernel
theorem d_I_know_5 : decode m_I_know.2.1 5 = .ok (.getfield 44, 3) := by decide +kernel
theorem d_I_know_8 : decode m_I_know.2.1 8 = .ok (.iconst (-1), 1) := by decide +kernel
theorem d_I_know_9 : decode m_I_know.2.1 9 = .ok (.iconst (-1), 1) := by decide +kernel
theorem d_I_know_10 : decode m_I_know.2.1 10 = .ok (.invokevirtual 48, 3) := by decide +kernel
theorem d_I_know_13 : decode m_I_know.2.1 13 = .ok (.return_, 1) := by decide +kernel
theorem d_I_wrongIn_0 : decode m_I_wrongIn.2.1 0 = .ok (.aload_n 1, 1) := by decide +kernel
theorem d_I_wrongIn_1 : decode m_I_wrongIn.2.1 1 = .ok (.getfield 54, 3) := by decide +kernel
theorem d_I_wrongIn_4 : decode m_I_wrongIn.2.1 4 = .ok (.bipush 10, 2) := by decide +kernel
theorem d_I_wrongIn_6 : decode m_I_wrongIn.2.1 6 = .ok (.if_icmp .ne 10, 3) := by decide +kernel
theorem d_I_wrongIn_9 : decode m_I_wrongIn.2.1 9 = .ok (.aload_n 0, 1) := by decide +kernel
theorem d_I_wrongIn_10 : decode m_I_wrongIn.2.1 10 = .ok (.aload_n 1, 1) := by decide +kernel
theorem d_I_wrongIn_11 : decode m_I_wrongIn.2.1 11 = .ok (.aload_n 2, 1) := by decide +kernel
theorem d_I_wrongIn_12 : decode m_I_wrongIn.2.1 12 = .ok (.invokevirtual 57, 3) := by decide +kernel
theorem d_I_wrongIn_15 : decode m_I_wrongIn.2.1 15 = .ok (.ireturn, 1) := by decide +kernel
theorem d_I_wrongIn_16 : decode m_I_wrongIn.2.1 16 = .ok (.aload_n 1, 1) := by decide +kernel
theorem d_I_wrongIn_17 : decode m_I_wrongIn.2.1 17 = .ok (.getfield 54, 3) := by decide +kernel
theorem d_I_wrongIn_20 : decode m_I_wrongIn.2.1 20 = .ok (.iconst 5, 1) := by decide +kernel
theorem d_I_wrongIn_21 : decode m_I_wrongIn.2.1 21 = .ok (.if_icmp .ne 31, 3) := by decide +kernel
theorem d_I_wrongIn_24 : decode m_I_wrongIn.2.1 24 = .ok (.aload_n 0, 1) := by decide +kernel
theorem d_I_wrongIn_25 : decode m_I_wrongIn.2.1 25 = .ok (.getfield 15, 3) := by decide +kernel
theorem d_I_wrongIn_28 : decode m_I_wrongIn.2.1 28 = .ok (.aload_n 1, 1) := by decide +kernel
theorem d_I_wrongIn_29 : decode m_I_wrongIn.2.1 29 = .ok (.getfield 44, 3) := by decide +kernel
theorem d_I_wrongIn_32 : decode m_I_wrongIn.2.1 32 = .ok (.iconst 0, 1) := by decide +kernel
theorem d_I_wrongIn_33 : decode m_I_wrongIn.2.1 33 = .ok (.aload_n 0, 1) := by decide +kernel
theorem d_I_wrongIn_34 : decode m_I_wrongIn.2.1 34 = .ok (.getfield 15, 3) := by decide +kernel
theorem d_I_wrongIn_37 : decode m_I_wrongIn.2.1 37 = .ok (.invokevirtual 60, 3) := by decide +kernel
theorem d_I_wrongIn_40 : decode m_I_wrongIn.2.1 40 = .ok (.invokevirtual 64, 3) := by decide +kernel
theorem d_I_wrongIn_43 : decode m_I_wrongIn.2.1 43 = .ok (.iconst (-1), 1) := by decide +kernel
theorem d_I_wrongIn_44 : decode m_I_wrongIn.2.1 44 = .ok (.if_icmp .ne 8, 3) := by decide +kernel
theorem d_I_wrongIn_47 : decode m_I_wrongIn.2.1 47 = .ok (.aload_n 1, 1) := by decide +kernel
theorem d_I_wrongIn_48 : decode m_I_wrongIn.2.1 48 = .ok (.getfield 68, 3) := by decide +kernel
theorem d_I_wrongIn_51 : decode m_I_wrongIn.2.1 51 = .ok (.ireturn, 1) := by decide +kernel
theorem d_I_wrongIn_52 : decode m_I_wrongIn.2.1 52 = .ok (.aload_n 1, 1) := by decide +kernel
theorem d_I_wrongIn_53 : decode m_I_wrongIn.2.1 53 = .ok (.getfield 54, 3) := by decide +kernel
theorem d_I_wrongIn_56 : decode m_I_wrongIn.2.1 56 = .ok (.bipush 6, 2) := by decide +kernel
theorem d_I_wrongIn_58 : decode m_I_wrongIn.2.1 58 = .ok (.if_icmp .ne 17, 3) := by decide +kernel
theorem d_I_wrongIn_61 : decode m_I_wrongIn.2.1 61 = .ok (.aload_n 0, 1) := by decide +kernel
theorem d_I_wrongIn_62 : decode m_I_wrongIn.2.1 62 = .ok (.aload_n 1, 1) := by decide +kernel
theorem d_I_wrongIn_63 : decode m_I_wrongIn.2.1 63 = .ok (.aload_n 2, 1) := by decide +kernel
theorem d_I_wrongIn_64 : decode m_I_wrongIn.2.1 64 = .ok (.invokevirtual 71, 3) := by decide +kernel
theorem d_I_wrongIn_67 : decode m_I_wrongIn.2.1 67 = .ok (.ifCond .ne 8, 3) := by decide +kernel
theorem d_I_wrongIn_70 : decode m_I_wrongIn.2.1 70 = .ok (.aload_n 1, 1) := by decide +kernel
theorem d_I_wrongIn_71 : decode m_I_wrongIn.2.1 71 = .ok (.getfield 68, 3) := by decide +kernel
theorem d_I_wrongIn_74 : decode m_I_wrongIn.2.1 74 = .ok (.ireturn, 1) := by decide +kernel
theorem d_I_wrongIn_75 : decode m_I_wrongIn.2.1 75 = .ok (.aload_n 1, 1) := by decide +kernel
theorem d_I_wrongIn_76 : decode m_I_wrongIn.2.1 76 = .ok (.getfield 25, 3) := by decide +kernel
theorem d_I_wrongIn_79 : decode m_I_wrongIn.2.1 79 = .ok (.astore_n 3, 1) := by decide +kernel
theorem d_I_wrongIn_80 : decode m_I_wrongIn.2.1 80 = .ok (.aload_n 3, 1) := by decide +kernel
theorem d_I_wrongIn_81 : decode m_I_wrongIn.2.1 81 = .ok (.ifnull 28, 3) := by decide +kernel
theorem d_I_wrongIn_84 : decode m_I_wrongIn.2.1 84 = .ok (.aload_n 0, 1) := by decide +kernel
theorem d_I_wrongIn_85 : decode m_I_wrongIn.2.1 85 = .ok (.aload_n 3, 1) := by decide +kernel
theorem d_I_wrongIn_86 : decode m_I_wrongIn.2.1 86 = .ok (.aload_n 2, 1) := by decide +kernel
theorem d_I_wrongIn_87 : decode m_I_wrongIn.2.1 87 = .ok (.invokevirtual 40, 3) := by decide +kernel
theorem d_I_wrongIn_90 : decode m_I_wrongIn.2.1 90 = .ok (.istore 4, 2) := by decide +kernel
theorem d_I_wrongIn_92 : decode m_I_wrongIn.2.1 92 = .ok (.iload 4, 2) := by decide +kernel
theorem d_I_wrongIn_94 : decode m_I_wrongIn.2.1 94 = .ok (.iconst (-1), 1) := by decide +kernel
theorem d_I_wrongIn_95 : decode m_I_wrongIn.2.1 95 = .ok (.if_icmp .eq 6, 3) := by decide +kernel
theorem d_I_wrongIn_98 : decode m_I_wrongIn.2.1 98 = .ok (.iload 4, 2) := by decide +kernel
theorem d_I_wrongIn_100 : decode m_I_wrongIn.2.1 100 = .ok (.ireturn, 1) := by decide +kernel
theorem d_I_wrongIn_101 : decode m_I_wrongIn.2.1 101 = .ok (.aload_n 3, 1) := by decide +kernel
theorem d_I_wrongIn_102 : decode m_I_wrongIn.2.1 102 = .ok (.getfield 37, 3) := by decide +kernel
theorem d_I_wrongIn_105 : decode m_I_wrongIn.2.1 105 = .ok (.astore_n 3, 1) := by decide +kernel
theorem d_I_wrongIn_106 : decode m_I_wrongIn.2.1 106 = .ok (.goto (-26), 3) := by decide +kernel
theorem d_I_wrongIn_109 : decode m_I_wrongIn.2.1 109 = .ok (.iconst (-1), 1) := by decide +kernel
theorem d_I_wrongIn_110 : decode m_I_wrongIn.2.1 110 = .ok (.ireturn, 1) := by decide +kernel
theorem d_I_mayBeUsed_0 : decode m_I_mayBeUsed.2.1 0 = .ok (.aload_n 1, 1) := by decide +kernel
theorem d_I_mayBeUsed_1 : decode m_I_mayBeUsed.2.1 1 = .ok (.getfield 44, 3) := by decide +kernel
theorem d_I_mayBeUsed_4 : decode m_I_mayBeUsed.2.1 4 = .ok (.aload_n 2, 1) := by decide +kernel
theorem d_I_mayBeUsed_5 : decode m_I_mayBeUsed.2.1 5 = .ok (.getfield 75, 3) := by decide +kernel
theorem d_I_mayBeUsed_8 : decode m_I_mayBeUsed.2.1 8 = .ok (.if_icmp .ne 7, 3) := by decide +kernel
theorem d_I_mayBeUsed_11 : decode m_I_mayBeUsed.2.1 11 = .ok (.aload_n 2, 1) := by decide +kernel
theorem d_I_mayBeUsed_12 : decode m_I_mayBeUsed.2.1 12 = .ok (.goto 14, 3) := by decide +kernel
theorem d_I_mayBeUsed_15 : decode m_I_mayBeUsed.2.1 15 = .ok (.aload_n 0, 1) := by decide +kernel
theorem d_I_mayBeUsed_16 : decode m_I_mayBeUsed.2.1 16 = .ok (.getfield 9, 3) := by decide +kernel
theorem d_I_mayBeUsed_19 : decode m_I_mayBeUsed.2.1 19 = .ok (.aload_n 1, 1) := by decide +kernel
theorem d_I_mayBeUsed_20 : decode m_I_mayBeUsed.2.1 20 = .ok (.getfield 44, 3) := by decide +kernel
theorem d_I_mayBeUsed_23 : decode m_I_mayBeUsed.2.1 23 = .ok (.invokevirtual 79, 3) := by decide +kernel
theorem d_I_mayBeUsed_26 : decode m_I_mayBeUsed.2.1 26 = .ok (.astore_n 3, 1) := by decide +kernel
theorem d_I_mayBeUsed_27 : decode m_I_mayBeUsed.2.1 27 = .ok (.aload_n 3, 1) := by decide +kernel
theorem d_I_mayBeUsed_28 : decode m_I_mayBeUsed.2.1 28 = .ok (.ifnull 18, 3) := by decide +kernel
theorem d_I_mayBeUsed_31 : decode m_I_mayBeUsed.2.1 31 = .ok (.aload_n 3, 1) := by decide +kernel
theorem d_I_mayBeUsed_32 : decode m_I_mayBeUsed.2.1 32 = .ok (.getfield 85, 3) := by decide +kernel
theorem d_I_mayBeUsed_35 : decode m_I_mayBeUsed.2.1 35 = .ok (.aload_n 1, 1) := by decide +kernel
theorem d_I_mayBeUsed_36 : decode m_I_mayBeUsed.2.1 36 = .ok (.getfield 88, 3) := by decide +kernel
theorem d_I_mayBeUsed_39 : decode m_I_mayBeUsed.2.1 39 = .ok (.if_icmp .ne 7, 3) := by decide +kernel
theorem d_I_mayBeUsed_42 : decode m_I_mayBeUsed.2.1 42 = .ok (.iconst 1, 1) := by decide +kernel
theorem d_I_mayBeUsed_43 : decode m_I_mayBeUsed.2.1 43 = .ok (.goto 4, 3) := by decide +kernel
theorem d_I_mayBeUsed_46 : decode m_I_mayBeUsed.2.1 46 = .ok (.iconst 0, 1) := by decide +kernel
theorem d_I_mayBeUsed_47 : decode m_I_mayBeUsed.2.1 47 = .ok (.ireturn, 1) := by decide +kernel
theorem d_I_wrongInCase_0 : decode m_I_wrongInCase.2.1 0 = .ok (.aload_n 1, 1) := by decide +kernel
theorem d_I_wrongInCase_1 : decode m_I_wrongInCase.2.1 1 = .ok (.getfield 25, 3) := by decide +kernel
theorem d_I_wrongInCase_4 : decode m_I_wrongInCase.2.1 4 = .ok (.astore_n 3, 1) := by decide +kernel
theorem d_I_wrongInCase_5 : decode m_I_wrongInCase.2.1 5 = .ok (.aload_n 3, 1) := by decide +kernel
theorem d_I_wrongInCase_6 : decode m_I_wrongInCase.2.1 6 = .ok (.getfield 54, 3) := by decide +kernel
theorem d_I_wrongInCase_9 : decode m_I_wrongInCase.2.1 9 = .ok (.bipush 6, 2) := by decide +kernel
theorem d_I_wrongInCase_11 : decode m_I_wrongInCase.2.1 11 = .ok (.if_icmp .ne 19, 3) := by decide +kernel
theorem d_I_wrongInCase_14 : decode m_I_wrongInCase.2.1 14 = .ok (.aload_n 0, 1) := by decide +kernel
theorem d_I_wrongInCase_15 : decode m_I_wrongInCase.2.1 15 = .ok (.getfield 9, 3) := by decide +kernel
theorem d_I_wrongInCase_18 : decode m_I_wrongInCase.2.1 18 = .ok (.aload_n 3, 1) := by decide +kernel
theorem d_I_wrongInCase_19 : decode m_I_wrongInCase.2.1 19 = .ok (.invokevirtual 91, 3) := by decide +kernel
theorem d_I_wrongInCase_22 : decode m_I_wrongInCase.2.1 22 = .ok (.ifnonnull 8, 3) := by decide +kernel
theorem d_I_wrongInCase_25 : decode m_I_wrongInCase.2.1 25 = .ok (.aload_n 3, 1) := by decide +kernel
theorem d_I_wrongInCase_26 : decode m_I_wrongInCase.2.1 26 = .ok (.getfield 68, 3) := by decide +kernel
theorem d_I_wrongInCase_29 : decode m_I_wrongInCase.2.1 29 = .ok (.ireturn, 1) := by decide +kernel
theorem d_I_wrongInCase_30 : decode m_I_wrongInCase.2.1 30 = .ok (.aload_n 0, 1) := by decide +kernel
theorem d_I_wrongInCase_31 : decode m_I_wrongInCase.2.1 31 = .ok (.getfield 15, 3) := by decide +kernel
theorem d_I_wrongInCase_34 : decode m_I_wrongInCase.2.1 34 = .ok (.invokevirtual 60, 3) := by decide +kernel
theorem d_I_wrongInCase_37 : decode m_I_wrongInCase.2.1 37 = .ok (.istore 4, 2) := by decide +kernel
theorem d_I_wrongInCase_39 : decode m_I_wrongInCase.2.1 39 = .ok (.aload_n 3, 1) := by decide +kernel
theorem d_I_wrongInCase_40 : decode m_I_wrongInCase.2.1 40 = .ok (.getfield 25, 3) := by decide +kernel
theorem d_I_wrongInCase_43 : decode m_I_wrongInCase.2.1 43 = .ok (.astore 5, 2) := by decide +kernel
theorem d_I_wrongInCase_45 : decode m_I_wrongInCase.2.1 45 = .ok (.aload 5, 2) := by decide +kernel
theorem d_I_wrongInCase_47 : decode m_I_wrongInCase.2.1 47 = .ok (.ifnull 19, 3) := by decide +kernel
theorem d_I_wrongInCase_50 : decode m_I_wrongInCase.2.1 50 = .ok (.aload_n 0, 1) := by decide +kernel
theorem d_I_wrongInCase_51 : decode m_I_wrongInCase.2.1 51 = .ok (.aload 5, 2) := by decide +kernel
theorem d_I_wrongInCase_53 : decode m_I_wrongInCase.2.1 53 = .ok (.invokevirtual 33, 3) := by decide +kernel
theorem d_I_wrongInCase_56 : decode m_I_wrongInCase.2.1 56 = .ok (.aload 5, 2) := by decide +kernel
theorem d_I_wrongInCase_58 : decode m_I_wrongInCase.2.1 58 = .ok (.getfield 37, 3) := by decide +kernel
theorem d_I_wrongInCase_61 : decode m_I_wrongInCase.2.1 61 = .ok (.astore 5, 2) := by decide +kernel
theorem d_I_wrongInCase_63 : decode m_I_wrongInCase.2.1 63 = .ok (.goto (-18), 3) := by decide +kernel
theorem d_I_wrongInCase_66 : decode m_I_wrongInCase.2.1 66 = .ok (.aload_n 0, 1) := by decide +kernel
theorem d_I_wrongInCase_67 : decode m_I_wrongInCase.2.1 67 = .ok (.aload_n 1, 1) := by decide +kernel
theorem d_I_wrongInCase_68 : decode m_I_wrongInCase.2.1 68 = .ok (.getfield 30, 3) := by decide +kernel
theorem d_I_wrongInCase_71 : decode m_I_wrongInCase.2.1 71 = .ok (.aload_n 2, 1) := by decide +kernel
theorem d_I_wrongInCase_72 : decode m_I_wrongInCase.2.1 72 = .ok (.invokevirtual 40, 3) := by decide +kernel
theorem d_I_wrongInCase_75 : decode m_I_wrongInCase.2.1 75 = .ok (.istore 5, 2) := by decide +kernel
theorem d_I_wrongInCase_77 : decode m_I_wrongInCase.2.1 77 = .ok (.aload_n 0, 1) := by decide +kernel
theorem d_I_wrongInCase_78 : decode m_I_wrongInCase.2.1 78 = .ok (.getfield 15, 3) := by decide +kernel
theorem d_I_wrongInCase_81 : decode m_I_wrongInCase.2.1 81 = .ok (.iload 4, 2) := by decide +kernel
theorem d_I_wrongInCase_83 : decode m_I_wrongInCase.2.1 83 = .ok (.invokevirtual 95, 3) := by decide +kernel
theorem d_I_wrongInCase_86 : decode m_I_wrongInCase.2.1 86 = .ok (.iload 5, 2) := by decide +kernel
theorem d_I_wrongInCase_88 : decode m_I_wrongInCase.2.1 88 = .ok (.ireturn, 1) := by decide +kernel
theorem d_D_init_0 : decode m_D_init.2.1 0 = .ok (.aload_n 0, 1) := by decide +kernel
theorem d_D_init_1 : decode m_D_init.2.1 1 = .ok (.invokespecial 3, 3) := by decide +kernel
theorem d_D_init_4 : decode m_D_init.2.1 4 = .ok (.aload_n 0, 1) := by decide +kernel
theorem d_D_init_5 : decode m_D_init.2.1 5 = .ok (.bipush 26, 2) := by decide +kernel
theorem d_D_init_7 : decode m_D_init.2.1 7 = .ok (.anewarray 9, 3) := by decide +kernel
theorem d_D_init_10 : decode m_D_init.2.1 10 = .ok (.putfield 11, 3) := by decide +kernel
theorem d_D_init_13 : decode m_D_init.2.1 13 = .ok (.aload_n 0, 1) := by decide +kernel
theorem d_D_init_14 : decode m_D_init.2.1 14 = .ok (.bipush 26, 2) := by decide +kernel
theorem d_D_init_16 : decode m_D_init.2.1 16 = .ok (.newarray .char, 2) := by decide +kernel
theorem d_D_init_18 : decode m_D_init.2.1 18 = .ok (.putfield 17, 3) := by decide +kernel
theorem d_D_init_21 : decode m_D_init.2.1 21 = .ok (.aload_n 0, 1) := by decide +kernel
theorem d_D_init_22 : decode m_D_init.2.1 22 = .ok (.iconst 0, 1) := by decide +kernel
theorem d_D_init_23 : decode m_D_init.2.1 23 = .ok (.putfield 21, 3) := by decide +kernel
theorem d_D_init_26 : decode m_D_init.2.1 26 = .ok (.return_, 1) := by decide +kernel
theorem d_D_find_0 : decode m_D_find.2.1 0 = .ok (.iload_n 1, 1) := by decide +kernel
theorem d_D_find_1 : decode m_D_find.2.1 1 = .ok (.bipush 65, 2) := by decide +kernel
theorem d_D_find_3 : decode m_D_find.2.1 3 = .ok (.isub, 1) := by decide +kernel
theorem d_D_find_4 : decode m_D_find.2.1 4 = .ok (.istore_n 2, 1) := by decide +kernel
theorem d_D_find_5 : decode m_D_find.2.1 5 = .ok (.iload_n 2, 1) := by decide +kernel
theorem d_D_find_6 : decode m_D_find.2.1 6 = .ok (.ifCond .lt 18, 3) := by decide +kernel
theorem d_D_find_9 : decode m_D_find.2.1 9 = .ok (.iload_n 2, 1) := by decide +kernel
theorem d_D_find_10 : decode m_D_find.2.1 10 = .ok (.bipush 26, 2) := by decide +kernel
theorem d_D_find_12 : decode m_D_find.2.1 12 = .ok (.if_icmp .ge 12, 3) := by decide +kernel
theorem d_D_find_15 : decode m_D_find.2.1 15 = .ok (.aload_n 0, 1) := by decide +kernel
theorem d_D_find_16 : decode m_D_find.2.1 16 = .ok (.getfield 11, 3) := by decide +kernel
theorem d_D_find_19 : decode m_D_find.2.1 19 = .ok (.iload_n 2, 1) := by decide +kernel
theorem d_D_find_20 : decode m_D_find.2.1 20 = .ok (.aaload, 1) := by decide +kernel
theorem d_D_find_21 : decode m_D_find.2.1 21 = .ok (.goto 4, 3) := by decide +kernel
theorem d_D_find_24 : decode m_D_find.2.1 24 = .ok (.aconst_null, 1) := by decide +kernel
theorem d_D_find_25 : decode m_D_find.2.1 25 = .ok (.areturn, 1) := by decide +kernel
theorem d_D_findConstant_0 : decode m_D_findConstant.2.1 0 = .ok (.aload_n 0, 1) := by decide +kernel
theorem d_D_findConstant_1 : decode m_D_findConstant.2.1 1 = .ok (.aload_n 1, 1) := by decide +kernel
theorem d_D_findConstant_2 : decode m_D_findConstant.2.1 2 = .ok (.getfield 25, 3) := by decide +kernel
theorem d_D_findConstant_5 : decode m_D_findConstant.2.1 5 = .ok (.invokevirtual 30, 3) := by decide +kernel
theorem d_D_findConstant_8 : decode m_D_findConstant.2.1 8 = .ok (.astore_n 2, 1) := by decide +kernel
theorem d_D_findConstant_9 : decode m_D_findConstant.2.1 9 = .ok (.aload_n 2, 1) := by decide +kernel
theorem d_D_findConstant_10 : decode m_D_findConstant.2.1 10 = .ok (.ifnull 25, 3) := by decide +kernel
theorem d_D_findConstant_13 : decode m_D_findConstant.2.1 13 = .ok (.aload_n 2, 1) := by decide +kernel
theorem d_D_findConstant_14 : decode m_D_findConstant.2.1 14 = .ok (.getfield 34, 3) := by decide +kernel
theorem d_D_findConstant_17 : decode m_D_findConstant.2.1 17 = .ok (.ifCond .ne 18, 3) := by decide +kernel
theorem d_D_findConstant_20 : decode m_D_findConstant.2.1 20 = .ok (.aload_n 2, 1) := by decide +kernel
theorem d_D_findConstant_21 : decode m_D_findConstant.2.1 21 = .ok (.getfield 38, 3) := by decide +kernel
theorem d_D_findConstant_24 : decode m_D_findConstant.2.1 24 = .ok (.aload_n 1, 1) := by decide +kernel
theorem d_D_findConstant_25 : decode m_D_findConstant.2.1 25 = .ok (.getfield 41, 3) := by decide +kernel
theorem d_D_findConstant_28 : decode m_D_findConstant.2.1 28 = .ok (.if_icmp .ne 7, 3) := by decide +kernel
theorem d_D_findConstant_31 : decode m_D_findConstant.2.1 31 = .ok (.iconst 1, 1) := by decide +kernel
theorem d_D_findConstant_32 : decode m_D_findConstant.2.1 32 = .ok (.goto 4, 3) := by decide +kernel
theorem d_D_findConstant_35 : decode m_D_findConstant.2.1 35 = .ok (.iconst 0, 1) := by decide +kernel
theorem d_D_findConstant_36 : decode m_D_findConstant.2.1 36 = .ok (.istore_n 3, 1) := by decide +kernel
theorem d_D_findConstant_37 : decode m_D_findConstant.2.1 37 = .ok (.iload_n 3, 1) := by decide +kernel
theorem d_D_findConstant_38 : decode m_D_findConstant.2.1 38 = .ok (.ifCond .eq 7, 3) := by decide +kernel
theorem d_D_findConstant_41 : decode m_D_findConstant.2.1 41 = .ok (.aload_n 2, 1) := by decide +kernel
theorem d_D_findConstant_42 : decode m_D_findConstant.2.1 42 = .ok (.goto 4, 3) := by decide +kernel
theorem d_D_findConstant_45 : decode m_D_findConstant.2.1 45 = .ok (.aconst_null, 1) := by decide +kernel
theorem d_D_findConstant_46 : decode m_D_findConstant.2.1 46 = .ok (.areturn, 1) := by decide +kernel
theorem d_D_isEmpty_0 : decode m_D_isEmpty.2.1 0 = .ok (.aload_n 0, 1) := by decide +kernel
theorem d_D_isEmpty_1 : decode m_D_isEmpty.2.1 1 = .ok (.getfield 21, 3) := by decide +kernel
theorem d_D_isEmpty_4 : decode m_D_isEmpty.2.1 4 = .ok (.ifCond .ne 7, 3) := by decide +kernel
theorem d_D_isEmpty_7 : decode m_D_isEmpty.2.1 7 = .ok (.iconst 1, 1) := by decide +kernel
theorem d_D_isEmpty_8 : decode m_D_isEmpty.2.1 8 = .ok (.goto 4, 3) := by decide +kernel
theorem d_D_isEmpty_11 : decode m_D_isEmpty.2.1 11 = .ok (.iconst 0, 1) := by decide +kernel
theorem d_D_isEmpty_12 : decode m_D_isEmpty.2.1 12 = .ok (.ireturn, 1) := by decide +kernel
theorem d_D_add_0 : decode m_D_add.2.1 0 = .ok (.aload_n 1, 1) := by decide +kernel
theorem d_D_add_1 : decode m_D_add.2.1 1 = .ok (.getfield 44, 3) := by decide +kernel
theorem d_D_add_4 : decode m_D_add.2.1 4 = .ok (.bipush 65, 2) := by decide +kernel
theorem d_D_add_6 : decode m_D_add.2.1 6 = .ok (.isub, 1) := by decide +kernel
theorem d_D_add_7 : decode m_D_add.2.1 7 = .ok (.istore_n 2, 1) := by decide +kernel
theorem d_D_add_8 : decode m_D_add.2.1 8 = .ok (.iload_n 2, 1) := by decide +kernel
theorem d_D_add_9 : decode m_D_add.2.1 9 = .ok (.ifCond .lt 48, 3) := by decide +kernel
theorem d_D_add_12 : decode m_D_add.2.1 12 = .ok (.iload_n 2, 1) := by decide +kernel
theorem d_D_add_13 : decode m_D_add.2.1 13 = .ok (.bipush 26, 2) := by decide +kernel
theorem d_D_add_15 : decode m_D_add.2.1 15 = .ok (.if_icmp .ge 42, 3) := by decide +kernel
theorem d_D_add_18 : decode m_D_add.2.1 18 = .ok (.aload_n 0, 1) := by decide +kernel
theorem d_D_add_19 : decode m_D_add.2.1 19 = .ok (.getfield 21, 3) := by decide +kernel
theorem d_D_add_22 : decode m_D_add.2.1 22 = .ok (.bipush 26, 2) := by decide +kernel
theorem d_D_add_24 : decode m_D_add.2.1 24 = .ok (.if_icmp .ge 33, 3) := by decide +kernel
theorem d_D_add_27 : decode m_D_add.2.1 27 = .ok (.aload_n 0, 1) := by decide +kernel
theorem d_D_add_28 : decode m_D_add.2.1 28 = .ok (.getfield 11, 3) := by decide +kernel
theorem d_D_add_31 : decode m_D_add.2.1 31 = .ok (.iload_n 2, 1) := by decide +kernel
theorem d_D_add_32 : decode m_D_add.2.1 32 = .ok (.aload_n 1, 1) := by decide +kernel
theorem d_D_add_33 : decode m_D_add.2.1 33 = .ok (.aastore, 1) := by decide +kernel
theorem d_D_add_34 : decode m_D_add.2.1 34 = .ok (.aload_n 0, 1) := by decide +kernel
theorem d_D_add_35 : decode m_D_add.2.1 35 = .ok (.getfield 17, 3) := by decide +kernel
theorem d_D_add_38 : decode m_D_add.2.1 38 = .ok (.aload_n 0, 1) := by decide +kernel
theorem d_D_add_39 : decode m_D_add.2.1 39 = .ok (.getfield 21, 3) := by decide +kernel
theorem d_D_add_42 : decode m_D_add.2.1 42 = .ok (.aload_n 1, 1) := by decide +kernel
theorem d_D_add_43 : decode m_D_add.2.1 43 = .ok (.getfield 44, 3) := by decide +kernel
theorem d_D_add_46 : decode m_D_add.2.1 46 = .ok (.castore, 1) := by decide +kernel
theorem d_D_add_47 : decode m_D_add.2.1 47 = .ok (.aload_n 0, 1) := by decide +kernel
theorem d_D_add_48 : decode m_D_add.2.1 48 = .ok (.dup, 1) := by decide +kernel
theorem d_D_add_49 : decode m_D_add.2.1 49 = .ok (.getfield 21, 3) := by decide +kernel
theorem d_D_add_52 : decode m_D_add.2.1 52 = .ok (.iconst 1, 1) := by decide +kernel
theorem d_D_add_53 : decode m_D_add.2.1 53 = .ok (.iadd, 1) := by decide +kernel
theorem d_D_add_54 : decode m_D_add.2.1 54 = .ok (.putfield 21, 3) := by decide +kernel
theorem d_D_add_57 : decode m_D_add.2.1 57 = .ok (.return_, 1) := by decide +kernel
theorem d_D_removeLatest_0 : decode m_D_removeLatest.2.1 0 = .ok (.aload_n 0, 1) := by decide +kernel
theorem d_D_removeLatest_1 : decode m_D_removeLatest.2.1 1 = .ok (.getfield 21, 3) := by decide +kernel
theorem d_D_removeLatest_4 : decode m_D_removeLatest.2.1 4 = .ok (.ifCond .ne 6, 3) := by decide +kernel
theorem d_D_removeLatest_7 : decode m_D_removeLatest.2.1 7 = .ok (.bipush 32, 2) := by decide +kernel
theorem d_D_removeLatest_9 : decode m_D_removeLatest.2.1 9 = .ok (.ireturn, 1) := by decide +kernel
theorem d_D_removeLatest_10 : decode m_D_removeLatest.2.1 10 = .ok (.aload_n 0, 1) := by decide +kernel
theorem d_D_removeLatest_11 : decode m_D_removeLatest.2.1 11 = .ok (.dup, 1) := by decide +kernel
theorem d_D_removeLatest_12 : decode m_D_removeLatest.2.1 12 = .ok (.getfield 21, 3) := by decide +kernel
theorem d_D_removeLatest_15 : decode m_D_removeLatest.2.1 15 = .ok (.iconst 1, 1) := by decide +kernel
theorem d_D_removeLatest_16 : decode m_D_removeLatest.2.1 16 = .ok (.isub, 1) := by decide +kernel
theorem d_D_removeLatest_17 : decode m_D_removeLatest.2.1 17 = .ok (.putfield 21, 3) := by decide +kernel
theorem d_D_removeLatest_20 : decode m_D_removeLatest.2.1 20 = .ok (.aload_n 0, 1) := by decide +kernel
theorem d_D_removeLatest_21 : decode m_D_removeLatest.2.1 21 = .ok (.getfield 17, 3) := by decide +kernel
theorem d_D_removeLatest_24 : decode m_D_removeLatest.2.1 24 = .ok (.aload_n 0, 1) := by decide +kernel
theorem d_D_removeLatest_25 : decode m_D_removeLatest.2.1 25 = .ok (.getfield 21, 3) := by decide +kernel
theorem d_D_removeLatest_28 : decode m_D_removeLatest.2.1 28 = .ok (.caload, 1) := by decide +kernel
theorem d_D_removeLatest_29 : decode m_D_removeLatest.2.1 29 = .ok (.istore_n 1, 1) := by decide +kernel
theorem d_D_removeLatest_30 : decode m_D_removeLatest.2.1 30 = .ok (.iload_n 1, 1) := by decide +kernel
theorem d_D_removeLatest_31 : decode m_D_removeLatest.2.1 31 = .ok (.bipush 65, 2) := by decide +kernel
theorem d_D_removeLatest_33 : decode m_D_removeLatest.2.1 33 = .ok (.isub, 1) := by decide +kernel
theorem d_D_removeLatest_34 : decode m_D_removeLatest.2.1 34 = .ok (.istore_n 2, 1) := by decide +kernel
theorem d_D_removeLatest_35 : decode m_D_removeLatest.2.1 35 = .ok (.iload_n 2, 1) := by decide +kernel
theorem d_D_removeLatest_36 : decode m_D_removeLatest.2.1 36 = .ok (.ifCond .lt 16, 3) := by decide +kernel
theorem d_D_removeLatest_39 : decode m_D_removeLatest.2.1 39 = .ok (.iload_n 2, 1) := by decide +kernel
theorem d_D_removeLatest_40 : decode m_D_removeLatest.2.1 40 = .ok (.bipush 26, 2) := by decide +kernel
theorem d_D_removeLatest_42 : decode m_D_removeLatest.2.1 42 = .ok (.if_icmp .ge 10, 3) := by decide +kernel
theorem d_D_removeLatest_45 : decode m_D_removeLatest.2.1 45 = .ok (.aload_n 0, 1) := by decide +kernel
theorem d_D_removeLatest_46 : decode m_D_removeLatest.2.1 46 = .ok (.getfield 11, 3) := by decide +kernel
theorem d_D_removeLatest_49 : decode m_D_removeLatest.2.1 49 = .ok (.iload_n 2, 1) := by decide +kernel
theorem d_D_removeLatest_50 : decode m_D_removeLatest.2.1 50 = .ok (.aconst_null, 1) := by decide +kernel
theorem d_D_removeLatest_51 : decode m_D_removeLatest.2.1 51 = .ok (.aastore, 1) := by decide +kernel
theorem d_D_removeLatest_52 : decode m_D_removeLatest.2.1 52 = .ok (.iload_n 1, 1) := by decide +kernel
theorem d_D_removeLatest_53 : decode m_D_removeLatest.2.1 53 = .ok (.ireturn, 1) := by decide +kernel
theorem d_E_init_0 : decode m_E_init.2.1 0 = .ok (.aload_n 0, 1) := by decide +kernel
theorem d_E_init_1 : decode m_E_init.2.1 1 = .ok (.invokespecial 3, 3) := by decide +kernel
theorem d_E_init_4 : decode m_E_init.2.1 4 = .ok (.aload_n 0, 1) := by decide +kernel
theorem d_E_init_5 : decode m_E_init.2.1 5 = .ok (.iload_n 1, 1) := by decide +kernel
theorem d_E_init_6 : decode m_E_init.2.1 6 = .ok (.putfield 9, 3) := by decide +kernel
theorem d_E_init_9 : decode m_E_init.2.1 9 = .ok (.aload_n 0, 1) := by decide +kernel
theorem d_E_init_10 : decode m_E_init.2.1 10 = .ok (.iload_n 2, 1) := by decide +kernel
theorem d_E_init_11 : decode m_E_init.2.1 11 = .ok (.putfield 15, 3) := by decide +kernel
theorem d_E_init_14 : decode m_E_init.2.1 14 = .ok (.aload_n 0, 1) := by decide +kernel
theorem d_E_init_15 : decode m_E_init.2.1 15 = .ok (.aload_n 3, 1) := by decide +kernel
theorem d_E_init_16 : decode m_E_init.2.1 16 = .ok (.putfield 19, 3) := by decide +kernel
theorem d_E_init_19 : decode m_E_init.2.1 19 = .ok (.aload_n 0, 1) := by decide +kernel
theorem d_E_init_20 : decode m_E_init.2.1 20 = .ok (.iload_n 2, 1) := by decide +kernel
theorem d_E_init_21 : decode m_E_init.2.1 21 = .ok (.ifCond .eq 12, 3) := by decide +kernel
theorem d_E_init_24 : decode m_E_init.2.1 24 = .ok (.aload_n 3, 1) := by decide +kernel
theorem d_E_init_25 : decode m_E_init.2.1 25 = .ok (.getfield 23, 3) := by decide +kernel
theorem d_E_init_28 : decode m_E_init.2.1 28 = .ok (.iconst 1, 1) := by decide +kernel
theorem d_E_init_29 : decode m_E_init.2.1 29 = .ok (.isub, 1) := by decide +kernel
theorem d_E_init_30 : decode m_E_init.2.1 30 = .ok (.goto 9, 3) := by decide +kernel
theorem d_E_init_33 : decode m_E_init.2.1 33 = .ok (.aload_n 3, 1) := by decide +kernel
theorem d_E_init_34 : decode m_E_init.2.1 34 = .ok (.bipush 14, 2) := by decide +kernel
theorem d_E_init_36 : decode m_E_init.2.1 36 = .ok (.invokevirtual 29, 3) := by decide +kernel
theorem d_E_init_39 : decode m_E_init.2.1 39 = .ok (.putfield 33, 3) := by decide +kernel
theorem d_E_init_42 : decode m_E_init.2.1 42 = .ok (.aload_n 0, 1) := by decide +kernel
theorem d_E_init_43 : decode m_E_init.2.1 43 = .ok (.iload_n 2, 1) := by decide +kernel
theorem d_E_init_44 : decode m_E_init.2.1 44 = .ok (.ifCond .ne 16, 3) := by decide +kernel
theorem d_E_init_47 : decode m_E_init.2.1 47 = .ok (.aload_n 3, 1) := by decide +kernel
theorem d_E_init_48 : decode m_E_init.2.1 48 = .ok (.bipush 15, 2) := by decide +kernel
theorem d_E_init_50 : decode m_E_init.2.1 50 = .ok (.invokevirtual 29, 3) := by decide +kernel
theorem d_E_init_53 : decode m_E_init.2.1 53 = .ok (.ifCond .le 7, 3) := by decide +kernel
theorem d_E_init_56 : decode m_E_init.2.1 56 = .ok (.iconst 1, 1) := by decide +kernel
theorem d_E_init_57 : decode m_E_init.2.1 57 = .ok (.goto 4, 3) := by decide +kernel
theorem d_E_init_60 : decode m_E_init.2.1 60 = .ok (.iconst 0, 1) := by decide +kernel
theorem d_E_init_61 : decode m_E_init.2.1 61 = .ok (.putfield 36, 3) := by decide +kernel
theorem d_E_init_64 : decode m_E_init.2.1 64 = .ok (.return_, 1) := by decide +kernel
theorem d_N_init_0 : decode m_N_init.2.1 0 = .ok (.aload_n 0, 1) := by decide +kernel
theorem d_N_init_1 : decode m_N_init.2.1 1 = .ok (.invokespecial 1, 3) := by decide +kernel
theorem d_N_init_4 : decode m_N_init.2.1 4 = .ok (.aload_n 0, 1) := by decide +kernel
theorem d_N_init_5 : decode m_N_init.2.1 5 = .ok (.iload_n 1, 1) := by decide +kernel
theorem d_N_init_6 : decode m_N_init.2.1 6 = .ok (.putfield 7, 3) := by decide +kernel
theorem d_N_init_9 : decode m_N_init.2.1 9 = .ok (.aload_n 0, 1) := by decide +kernel
theorem d_N_init_10 : decode m_N_init.2.1 10 = .ok (.iload_n 2, 1) := by decide +kernel
theorem d_N_init_11 : decode m_N_init.2.1 11 = .ok (.putfield 13, 3) := by decide +kernel
theorem d_N_init_14 : decode m_N_init.2.1 14 = .ok (.aload_n 0, 1) := by decide +kernel
theorem d_N_init_15 : decode m_N_init.2.1 15 = .ok (.iload_n 3, 1) := by decide +kernel
theorem d_N_init_16 : decode m_N_init.2.1 16 = .ok (.putfield 16, 3) := by decide +kernel
theorem d_N_init_19 : decode m_N_init.2.1 19 = .ok (.aload_n 0, 1) := by decide +kernel
theorem d_N_init_20 : decode m_N_init.2.1 20 = .ok (.iconst 0, 1) := by decide +kernel
theorem d_N_init_21 : decode m_N_init.2.1 21 = .ok (.putfield 19, 3) := by decide +kernel
theorem d_N_init_24 : decode m_N_init.2.1 24 = .ok (.aload_n 0, 1) := by decide +kernel
theorem d_N_init_25 : decode m_N_init.2.1 25 = .ok (.aconst_null, 1) := by decide +kernel
theorem d_N_init_26 : decode m_N_init.2.1 26 = .ok (.putfield 22, 3) := by decide +kernel
theorem d_N_init_29 : decode m_N_init.2.1 29 = .ok (.aload_n 0, 1) := by decide +kernel
theorem d_N_init_30 : decode m_N_init.2.1 30 = .ok (.aconst_null, 1) := by decide +kernel
theorem d_N_init_31 : decode m_N_init.2.1 31 = .ok (.putfield 26, 3) := by decide +kernel
theorem d_N_init_34 : decode m_N_init.2.1 34 = .ok (.aload_n 0, 1) := by decide +kernel
theorem d_N_init_35 : decode m_N_init.2.1 35 = .ok (.aconst_null, 1) := by decide +kernel
theorem d_N_init_36 : decode m_N_init.2.1 36 = .ok (.putfield 29, 3) := by decide +kernel
theorem d_N_init_39 : decode m_N_init.2.1 39 = .ok (.return_, 1) := by decide +kernel
theorem d_N_add_0 : decode m_N_add.2.1 0 = .ok (.aload_n 0, 1) := by decide +kernel
theorem d_N_add_1 : decode m_N_add.2.1 1 = .ok (.getfield 26, 3) := by decide +kernel
theorem d_N_add_4 : decode m_N_add.2.1 4 = .ok (.ifnonnull 11, 3) := by decide +kernel
theorem d_N_add_7 : decode m_N_add.2.1 7 = .ok (.aload_n 0, 1) := by decide +kernel
theorem d_N_add_8 : decode m_N_add.2.1 8 = .ok (.aload_n 1, 1) := by decide +kernel
theorem d_N_add_9 : decode m_N_add.2.1 9 = .ok (.putfield 22, 3) := by decide +kernel
theorem d_N_add_12 : decode m_N_add.2.1 12 = .ok (.goto 11, 3) := by decide +kernel
theorem d_N_add_15 : decode m_N_add.2.1 15 = .ok (.aload_n 0, 1) := by decide +kernel
theorem d_N_add_16 : decode m_N_add.2.1 16 = .ok (.getfield 26, 3) := by decide +kernel
theorem d_N_add_19 : decode m_N_add.2.1 19 = .ok (.aload_n 1, 1) := by decide +kernel
theorem d_N_add_20 : decode m_N_add.2.1 20 = .ok (.putfield 29, 3) := by decide +kernel
theorem d_N_add_23 : decode m_N_add.2.1 23 = .ok (.aload_n 0, 1) := by decide +kernel
theorem d_N_add_24 : decode m_N_add.2.1 24 = .ok (.aload_n 1, 1) := by decide +kernel
theorem d_N_add_25 : decode m_N_add.2.1 25 = .ok (.putfield 26, 3) := by decide +kernel
theorem d_N_add_28 : decode m_N_add.2.1 28 = .ok (.aload_n 0, 1) := by decide +kernel
theorem d_N_add_29 : decode m_N_add.2.1 29 = .ok (.dup, 1) := by decide +kernel
theorem d_N_add_30 : decode m_N_add.2.1 30 = .ok (.getfield 19, 3) := by decide +kernel
theorem d_N_add_33 : decode m_N_add.2.1 33 = .ok (.iconst 1, 1) := by decide +kernel
theorem d_N_add_34 : decode m_N_add.2.1 34 = .ok (.iadd, 1) := by decide +kernel
theorem d_N_add_35 : decode m_N_add.2.1 35 = .ok (.putfield 19, 3) := by decide +kernel
theorem d_N_add_38 : decode m_N_add.2.1 38 = .ok (.return_, 1) := by decide +kernel
theorem d_N_countOf_0 : decode m_N_countOf.2.1 0 = .ok (.iconst 0, 1) := by decide +kernel
theorem d_N_countOf_1 : decode m_N_countOf.2.1 1 = .ok (.istore_n 2, 1) := by decide +kernel
theorem d_N_countOf_2 : decode m_N_countOf.2.1 2 = .ok (.aload_n 0, 1) := by decide +kernel
theorem d_N_countOf_3 : decode m_N_countOf.2.1 3 = .ok (.getfield 22, 3) := by decide +kernel
theorem d_N_countOf_6 : decode m_N_countOf.2.1 6 = .ok (.astore_n 3, 1) := by decide +kernel
theorem d_N_countOf_7 : decode m_N_countOf.2.1 7 = .ok (.aload_n 3, 1) := by decide +kernel
theorem d_N_countOf_8 : decode m_N_countOf.2.1 8 = .ok (.ifnull 22, 3) := by decide +kernel
theorem d_N_countOf_11 : decode m_N_countOf.2.1 11 = .ok (.aload_n 3, 1) := by decide +kernel
theorem d_N_countOf_12 : decode m_N_countOf.2.1 12 = .ok (.getfield 7, 3) := by decide +kernel
theorem d_N_countOf_15 : decode m_N_countOf.2.1 15 = .ok (.iload_n 1, 1) := by decide +kernel
theorem d_N_countOf_16 : decode m_N_countOf.2.1 16 = .ok (.if_icmp .ne 6, 3) := by decide +kernel
theorem d_N_countOf_19 : decode m_N_countOf.2.1 19 = .ok (.iinc 2 1, 3) := by decide +kernel
theorem d_N_countOf_22 : decode m_N_countOf.2.1 22 = .ok (.aload_n 3, 1) := by decide +kernel
theorem d_N_countOf_23 : decode m_N_countOf.2.1 23 = .ok (.getfield 29, 3) := by decide +kernel
theorem d_N_countOf_26 : decode m_N_countOf.2.1 26 = .ok (.astore_n 3, 1) := by decide +kernel
theorem d_N_countOf_27 : decode m_N_countOf.2.1 27 = .ok (.goto (-20), 3) := by decide +kernel
theorem d_N_countOf_30 : decode m_N_countOf.2.1 30 = .ok (.iload_n 2, 1) := by decide +kernel
theorem d_N_countOf_31 : decode m_N_countOf.2.1 31 = .ok (.ireturn, 1) := by decide +kernel
theorem d_Q_init_0 : decode m_Q_init.2.1 0 = .ok (.aload_n 0, 1) := by decide +kernel
theorem d_Q_init_1 : decode m_Q_init.2.1 1 = .ok (.invokespecial 3, 3) := by decide +kernel
theorem d_Q_init_4 : decode m_Q_init.2.1 4 = .ok (.aload_n 0, 1) := by decide +kernel
theorem d_Q_init_5 : decode m_Q_init.2.1 5 = .ok (.iconst 0, 1) := by decide +kernel
theorem d_Q_init_6 : decode m_Q_init.2.1 6 = .ok (.newarray .char, 2) := by decide +kernel
theorem d_Q_init_8 : decode m_Q_init.2.1 8 = .ok (.putfield 9, 3) := by decide +kernel
theorem d_Q_init_11 : decode m_Q_init.2.1 11 = .ok (.aload_n 0, 1) := by decide +kernel
theorem d_Q_init_12 : decode m_Q_init.2.1 12 = .ok (.iconst 0, 1) := by decide +kernel
theorem d_Q_init_13 : decode m_Q_init.2.1 13 = .ok (.putfield 15, 3) := by decide +kernel
theorem d_Q_init_16 : decode m_Q_init.2.1 16 = .ok (.aload_n 0, 1) := by decide +kernel
theorem d_Q_init_17 : decode m_Q_init.2.1 17 = .ok (.iconst 0, 1) := by decide +kernel
theorem d_Q_init_18 : decode m_Q_init.2.1 18 = .ok (.putfield 19, 3) := by decide +kernel
theorem d_Q_init_21 : decode m_Q_init.2.1 21 = .ok (.return_, 1) := by decide +kernel
theorem d_Q_open_0 : decode m_Q_open.2.1 0 = .ok (.aload_n 0, 1) := by decide +kernel
theorem d_Q_open_1 : decode m_Q_open.2.1 1 = .ok (.aload_n 1, 1) := by decide +kernel
theorem d_Q_open_2 : decode m_Q_open.2.1 2 = .ok (.putfield 9, 3) := by decide +kernel
theorem d_Q_open_5 : decode m_Q_open.2.1 5 = .ok (.aload_n 0, 1) := by decide +kernel
theorem d_Q_open_6 : decode m_Q_open.2.1 6 = .ok (.iload_n 2, 1) := by decide +kernel
theorem d_Q_open_7 : decode m_Q_open.2.1 7 = .ok (.aload_n 1, 1) := by decide +kernel
theorem d_Q_open_8 : decode m_Q_open.2.1 8 = .ok (.arraylength, 1) := by decide +kernel
theorem d_Q_open_9 : decode m_Q_open.2.1 9 = .ok (.invokestatic 22, 3) := by decide +kernel
theorem d_Q_open_12 : decode m_Q_open.2.1 12 = .ok (.putfield 15, 3) := by decide +kernel
theorem d_Q_open_15 : decode m_Q_open.2.1 15 = .ok (.aload_n 0, 1) := by decide +kernel
theorem d_Q_open_16 : decode m_Q_open.2.1 16 = .ok (.iconst 0, 1) := by decide +kernel
theorem d_Q_open_17 : decode m_Q_open.2.1 17 = .ok (.putfield 19, 3) := by decide +kernel
theorem d_Q_open_20 : decode m_Q_open.2.1 20 = .ok (.return_, 1) := by decide +kernel
theorem d_Q_place_0 : decode m_Q_place.2.1 0 = .ok (.aload_n 0, 1) := by decide +kernel
theorem d_Q_place_1 : decode m_Q_place.2.1 1 = .ok (.getfield 19, 3) := by decide +kernel
theorem d_Q_place_4 : decode m_Q_place.2.1 4 = .ok (.ireturn, 1) := by decide +kernel
theorem d_Q_readTerm_0 : decode m_Q_readTerm.2.1 0 = .ok (.aload_n 0, 1) := by decide +kernel
theorem d_Q_readTerm_1 : decode m_Q_readTerm.2.1 1 = .ok (.aload_n 0, 1) := by decide +kernel
theorem d_Q_readTerm_2 : decode m_Q_readTerm.2.1 2 = .ok (.iconst 1, 1) := by decide +kernel
theorem d_Q_readTerm_3 : decode m_Q_readTerm.2.1 3 = .ok (.iconst 1, 1) := by decide +kernel
theorem d_Q_readTerm_4 : decode m_Q_readTerm.2.1 4 = .ok (.invokevirtual 28, 3) := by decide +kernel
theorem d_Q_readTerm_7 : decode m_Q_readTerm.2.1 7 = .ok (.invokevirtual 32, 3) := by decide +kernel
theorem d_Q_readTerm_10 : decode m_Q_readTerm.2.1 10 = .ok (.areturn, 1) := by decide +kernel
theorem d_Q_readTerms_0 : decode m_Q_readTerms.2.1 0 = .ok (.new 36, 3) := by decide +kernel
theorem d_Q_readTerms_3 : decode m_Q_readTerms.2.1 3 = .ok (.dup, 1) := by decide +kernel
theorem d_Q_readTerms_4 : decode m_Q_readTerms.2.1 4 = .ok (.bipush 17, 2) := by decide +kernel
theorem d_Q_readTerms_6 : decode m_Q_readTerms.2.1 6 = .ok (.iconst 0, 1) := by decide +kernel
theorem d_Q_readTerms_7 : decode m_Q_readTerms.2.1 7 = .ok (.iconst 0, 1) := by decide +kernel
theorem d_Q_readTerms_8 : decode m_Q_readTerms.2.1 8 = .ok (.invokespecial 38, 3) := by decide +kernel
theorem d_Q_readTerms_11 : decode m_Q_readTerms.2.1 11 = .ok (.astore_n 1, 1) := by decide +kernel
theorem d_Q_readTerms_12 : decode m_Q_readTerms.2.1 12 = .ok (.aload_n 0, 1) := by decide +kernel
theorem d_Q_readTerms_13 : decode m_Q_readTerms.2.1 13 = .ok (.aload_n 0, 1) := by decide +kernel
theorem d_Q_readTerms_14 : decode m_Q_readTerms.2.1 14 = .ok (.aload_n 1, 1) := by decide +kernel
theorem d_Q_readTerms_15 : decode m_Q_readTerms.2.1 15 = .ok (.iconst 2, 1) := by decide +kernel
theorem d_Q_readTerms_16 : decode m_Q_readTerms.2.1 16 = .ok (.iconst 1, 1) := by decide +kernel
theorem d_Q_readTerms_17 : decode m_Q_readTerms.2.1 17 = .ok (.iconst 0, 1) := by decide +kernel
theorem d_Q_readTerms_18 : decode m_Q_readTerms.2.1 18 = .ok (.invokevirtual 41, 3) := by decide +kernel
theorem d_Q_readTerms_21 : decode m_Q_readTerms.2.1 21 = .ok (.ifCond .eq 7, 3) := by decide +kernel
theorem d_Q_readTerms_24 : decode m_Q_readTerms.2.1 24 = .ok (.aload_n 1, 1) := by decide +kernel
theorem d_Q_readTerms_25 : decode m_Q_readTerms.2.1 25 = .ok (.goto 4, 3) := by decide +kernel
theorem d_Q_readTerms_28 : decode m_Q_readTerms.2.1 28 = .ok (.aconst_null, 1) := by decide +kernel
theorem d_Q_readTerms_29 : decode m_Q_readTerms.2.1 29 = .ok (.invokevirtual 32, 3) := by decide +kernel
theorem d_Q_readTerms_32 : decode m_Q_readTerms.2.1 32 = .ok (.areturn, 1) := by decide +kernel
theorem d_Q_readDeclaration_0 : decode m_Q_readDeclaration.2.1 0 = .ok (.new 36, 3) := by decide +kernel
theorem d_Q_readDeclaration_3 : decode m_Q_readDeclaration.2.1 3 = .ok (.dup, 1) := by decide +kernel
theorem d_Q_readDeclaration_4 : decode m_Q_readDeclaration.2.1 4 = .ok (.bipush 17, 2) := by decide +kernel
theorem d_Q_readDeclaration_6 : decode m_Q_readDeclaration.2.1 6 = .ok (.iconst 0, 1) := by decide +kernel
theorem d_Q_readDeclaration_7 : decode m_Q_readDeclaration.2.1 7 = .ok (.iconst 0, 1) := by decide +kernel
theorem d_Q_readDeclaration_8 : decode m_Q_readDeclaration.2.1 8 = .ok (.invokespecial 38, 3) := by decide +kernel
theorem d_Q_readDeclaration_11 : decode m_Q_readDeclaration.2.1 11 = .ok (.astore_n 1, 1) := by decide +kernel
theorem d_Q_readDeclaration_12 : decode m_Q_readDeclaration.2.1 12 = .ok (.aload_n 0, 1) := by decide +kernel
theorem d_Q_readDeclaration_13 : decode m_Q_readDeclaration.2.1 13 = .ok (.aload_n 1, 1) := by decide +kernel
theorem d_Q_readDeclaration_14 : decode m_Q_readDeclaration.2.1 14 = .ok (.invokevirtual 45, 3) := by decide +kernel
theorem d_Q_readDeclaration_17 : decode m_Q_readDeclaration.2.1 17 = .ok (.ifCond .ne 5, 3) := by decide +kernel
theorem d_Q_readDeclaration_20 : decode m_Q_readDeclaration.2.1 20 = .ok (.aconst_null, 1) := by decide +kernel
theorem d_Q_readDeclaration_21 : decode m_Q_readDeclaration.2.1 21 = .ok (.areturn, 1) := by decide +kernel
theorem d_Q_readDeclaration_22 : decode m_Q_readDeclaration.2.1 22 = .ok (.new 36, 3) := by decide +kernel
theorem d_Q_readDeclaration_25 : decode m_Q_readDeclaration.2.1 25 = .ok (.dup, 1) := by decide +kernel
theorem d_Q_readDeclaration_26 : decode m_Q_readDeclaration.2.1 26 = .ok (.bipush 16, 2) := by decide +kernel
theorem d_Q_readDeclaration_28 : decode m_Q_readDeclaration.2.1 28 = .ok (.iconst 0, 1) := by decide +kernel
theorem d_Q_readDeclaration_29 : decode m_Q_readDeclaration.2.1 29 = .ok (.aload_n 0, 1) := by decide +kernel
theorem d_Q_readDeclaration_30 : decode m_Q_readDeclaration.2.1 30 = .ok (.getfield 19, 3) := by decide +kernel
theorem d_Q_readDeclaration_33 : decode m_Q_readDeclaration.2.1 33 = .ok (.invokespecial 38, 3) := by decide +kernel
theorem d_Q_readDeclaration_36 : decode m_Q_readDeclaration.2.1 36 = .ok (.astore_n 2, 1) := by decide +kernel
theorem d_Q_readDeclaration_37 : decode m_Q_readDeclaration.2.1 37 = .ok (.aload_n 1, 1) := by decide +kernel
theorem d_Q_readDeclaration_38 : decode m_Q_readDeclaration.2.1 38 = .ok (.aload_n 2, 1) := by decide +kernel
theorem d_Q_readDeclaration_39 : decode m_Q_readDeclaration.2.1 39 = .ok (.invokevirtual 49, 3) := by decide +kernel
theorem d_Q_readDeclaration_42 : decode m_Q_readDeclaration.2.1 42 = .ok (.aload_n 0, 1) := by decide +kernel
theorem d_Q_readDeclaration_43 : decode m_Q_readDeclaration.2.1 43 = .ok (.invokevirtual 53, 3) := by decide +kernel
theorem d_Q_readDeclaration_46 : decode m_Q_readDeclaration.2.1 46 = .ok (.bipush 42, 2) := by decide +kernel
theorem d_Q_readDeclaration_48 : decode m_Q_readDeclaration.2.1 48 = .ok (.if_icmp .ne 19, 3) := by decide +kernel
theorem d_Q_readDeclaration_51 : decode m_Q_readDeclaration.2.1 51 = .ok (.aload_n 2, 1) := by decide +kernel
theorem d_Q_readDeclaration_52 : decode m_Q_readDeclaration.2.1 52 = .ok (.aload_n 0, 1) := by decide +kernel
theorem d_Q_readDeclaration_53 : decode m_Q_readDeclaration.2.1 53 = .ok (.iconst 3, 1) := by decide +kernel
theorem d_Q_readDeclaration_54 : decode m_Q_readDeclaration.2.1 54 = .ok (.iconst 0, 1) := by decide +kernel
theorem d_Q_readDeclaration_55 : decode m_Q_readDeclaration.2.1 55 = .ok (.invokevirtual 57, 3) := by decide +kernel
theorem d_Q_readDeclaration_58 : decode m_Q_readDeclaration.2.1 58 = .ok (.invokevirtual 49, 3) := by decide +kernel
theorem d_Q_readDeclaration_61 : decode m_Q_readDeclaration.2.1 61 = .ok (.aload_n 0, 1) := by decide +kernel
theorem d_Q_readDeclaration_62 : decode m_Q_readDeclaration.2.1 62 = .ok (.aload_n 1, 1) := by decide +kernel
theorem d_Q_readDeclaration_63 : decode m_Q_readDeclaration.2.1 63 = .ok (.invokevirtual 32, 3) := by decide +kernel
theorem d_Q_readDeclaration_66 : decode m_Q_readDeclaration.2.1 66 = .ok (.areturn, 1) := by decide +kernel
theorem d_Q_readDeclaration_67 : decode m_Q_readDeclaration.2.1 67 = .ok (.aload_n 0, 1) := by decide +kernel
theorem d_Q_readDeclaration_68 : decode m_Q_readDeclaration.2.1 68 = .ok (.aload_n 0, 1) := by decide +kernel
theorem d_Q_readDeclaration_69 : decode m_Q_readDeclaration.2.1 69 = .ok (.aload_n 2, 1) := by decide +kernel
theorem d_Q_readDeclaration_70 : decode m_Q_readDeclaration.2.1 70 = .ok (.iconst 2, 1) := by decide +kernel
theorem d_Q_readDeclaration_71 : decode m_Q_readDeclaration.2.1 71 = .ok (.iconst 1, 1) := by decide +kernel
theorem d_Q_readDeclaration_72 : decode m_Q_readDeclaration.2.1 72 = .ok (.invokevirtual 60, 3) := by decide +kernel
theorem d_Q_readDeclaration_75 : decode m_Q_readDeclaration.2.1 75 = .ok (.ifnonnull 7, 3) := by decide +kernel
theorem d_Q_readDeclaration_78 : decode m_Q_readDeclaration.2.1 78 = .ok (.aconst_null, 1) := by decide +kernel
theorem d_Q_readDeclaration_79 : decode m_Q_readDeclaration.2.1 79 = .ok (.goto 4, 3) := by decide +kernel
theorem d_Q_readDeclaration_82 : decode m_Q_readDeclaration.2.1 82 = .ok (.aload_n 1, 1) := by decide +kernel
theorem d_Q_readDeclaration_83 : decode m_Q_readDeclaration.2.1 83 = .ok (.invokevirtual 32, 3) := by decide +kernel
theorem d_Q_readDeclaration_86 : decode m_Q_readDeclaration.2.1 86 = .ok (.areturn, 1) := by decide +kernel
theorem d_Q_readProgram_0 : decode m_Q_readProgram.2.1 0 = .ok (.new 36, 3) := by decide +kernel
theorem d_Q_readProgram_3 : decode m_Q_readProgram.2.1 3 = .ok (.dup, 1) := by decide +kernel
theorem d_Q_readProgram_4 : decode m_Q_readProgram.2.1 4 = .ok (.bipush 17, 2) := by decide +kernel
theorem d_Q_readProgram_6 : decode m_Q_readProgram.2.1 6 = .ok (.iconst 0, 1) := by decide +kernel
theorem d_Q_readProgram_7 : decode m_Q_readProgram.2.1 7 = .ok (.iconst 0, 1) := by decide +kernel
theorem d_Q_readProgram_8 : decode m_Q_readProgram.2.1 8 = .ok (.invokespecial 38, 3) := by decide +kernel
theorem d_Q_readProgram_11 : decode m_Q_readProgram.2.1 11 = .ok (.astore_n 1, 1) := by decide +kernel
theorem d_Q_readProgram_12 : decode m_Q_readProgram.2.1 12 = .ok (.aload_n 0, 1) := by decide +kernel
theorem d_Q_readProgram_13 : decode m_Q_readProgram.2.1 13 = .ok (.aload_n 1, 1) := by decide +kernel
theorem d_Q_readProgram_14 : decode m_Q_readProgram.2.1 14 = .ok (.iconst 4, 1) := by decide +kernel
theorem d_Q_readProgram_15 : decode m_Q_readProgram.2.1 15 = .ok (.bipush 61, 2) := by decide +kernel
theorem d_Q_readProgram_17 : decode m_Q_readProgram.2.1 17 = .ok (.invokevirtual 64, 3) := by decide +kernel
theorem d_Q_readProgram_20 : decode m_Q_readProgram.2.1 20 = .ok (.ifCond .ne 5, 3) := by decide +kernel
theorem d_Q_readProgram_23 : decode m_Q_readProgram.2.1 23 = .ok (.aconst_null, 1) := by decide +kernel
theorem d_Q_readProgram_24 : decode m_Q_readProgram.2.1 24 = .ok (.areturn, 1) := by decide +kernel
theorem d_Q_readProgram_25 : decode m_Q_readProgram.2.1 25 = .ok (.aload_n 0, 1) := by decide +kernel
theorem d_Q_readProgram_26 : decode m_Q_readProgram.2.1 26 = .ok (.aload_n 0, 1) := by decide +kernel
theorem d_Q_readProgram_27 : decode m_Q_readProgram.2.1 27 = .ok (.aload_n 1, 1) := by decide +kernel
theorem d_Q_readProgram_28 : decode m_Q_readProgram.2.1 28 = .ok (.iconst 3, 1) := by decide +kernel
theorem d_Q_readProgram_29 : decode m_Q_readProgram.2.1 29 = .ok (.iconst 1, 1) := by decide +kernel
theorem d_Q_readProgram_30 : decode m_Q_readProgram.2.1 30 = .ok (.invokevirtual 60, 3) := by decide +kernel
theorem d_Q_readProgram_33 : decode m_Q_readProgram.2.1 33 = .ok (.invokevirtual 32, 3) := by decide +kernel
theorem d_Q_readProgram_36 : decode m_Q_readProgram.2.1 36 = .ok (.areturn, 1) := by decide +kernel
theorem d_Q_readParts_0 : decode m_Q_readParts.2.1 0 = .ok (.aload_n 0, 1) := by decide +kernel
theorem d_Q_readParts_1 : decode m_Q_readParts.2.1 1 = .ok (.bipush 62, 2) := by decide +kernel
theorem d_Q_readParts_3 : decode m_Q_readParts.2.1 3 = .ok (.invokevirtual 68, 3) := by decide +kernel
theorem d_Q_readParts_6 : decode m_Q_readParts.2.1 6 = .ok (.ifCond .eq 5, 3) := by decide +kernel
theorem d_Q_readParts_9 : decode m_Q_readParts.2.1 9 = .ok (.iconst 1, 1) := by decide +kernel
theorem d_Q_readParts_10 : decode m_Q_readParts.2.1 10 = .ok (.ireturn, 1) := by decide +kernel
theorem d_Q_readParts_11 : decode m_Q_readParts.2.1 11 = .ok (.iconst 1, 1) := by decide +kernel
theorem d_Q_readParts_12 : decode m_Q_readParts.2.1 12 = .ok (.istore_n 2, 1) := by decide +kernel
theorem d_Q_readParts_13 : decode m_Q_readParts.2.1 13 = .ok (.iload_n 2, 1) := by decide +kernel
theorem d_Q_readParts_14 : decode m_Q_readParts.2.1 14 = .ok (.bipush 6, 2) := by decide +kernel
theorem d_Q_readParts_16 : decode m_Q_readParts.2.1 16 = .ok (.if_icmp .gt 53, 3) := by decide +kernel
theorem d_Q_readParts_19 : decode m_Q_readParts.2.1 19 = .ok (.aload_n 0, 1) := by decide +kernel
theorem d_Q_readParts_20 : decode m_Q_readParts.2.1 20 = .ok (.invokevirtual 72, 3) := by decide +kernel
theorem d_Q_readParts_23 : decode m_Q_readParts.2.1 23 = .ok (.astore_n 3, 1) := by decide +kernel
theorem d_Q_readParts_24 : decode m_Q_readParts.2.1 24 = .ok (.aload_n 3, 1) := by decide +kernel
theorem d_Q_readParts_25 : decode m_Q_readParts.2.1 25 = .ok (.ifnonnull 5, 3) := by decide +kernel
theorem d_Q_readParts_28 : decode m_Q_readParts.2.1 28 = .ok (.iconst 0, 1) := by decide +kernel
theorem d_Q_readParts_29 : decode m_Q_readParts.2.1 29 = .ok (.ireturn, 1) := by decide +kernel
theorem d_Q_readParts_30 : decode m_Q_readParts.2.1 30 = .ok (.aload_n 1, 1) := by decide +kernel
theorem d_Q_readParts_31 : decode m_Q_readParts.2.1 31 = .ok (.aload_n 3, 1) := by decide +kernel
theorem d_Q_readParts_32 : decode m_Q_readParts.2.1 32 = .ok (.invokevirtual 49, 3) := by decide +kernel
theorem d_Q_readParts_35 : decode m_Q_readParts.2.1 35 = .ok (.aload_n 0, 1) := by decide +kernel
theorem d_Q_readParts_36 : decode m_Q_readParts.2.1 36 = .ok (.bipush 62, 2) := by decide +kernel
theorem d_Q_readParts_38 : decode m_Q_readParts.2.1 38 = .ok (.invokevirtual 68, 3) := by decide +kernel
theorem d_Q_readParts_41 : decode m_Q_readParts.2.1 41 = .ok (.ifCond .eq 5, 3) := by decide +kernel
theorem d_Q_readParts_44 : decode m_Q_readParts.2.1 44 = .ok (.iconst 1, 1) := by decide +kernel
theorem d_Q_readParts_45 : decode m_Q_readParts.2.1 45 = .ok (.ireturn, 1) := by decide +kernel
theorem d_Q_readParts_46 : decode m_Q_readParts.2.1 46 = .ok (.iload_n 2, 1) := by decide +kernel
theorem d_Q_readParts_47 : decode m_Q_readParts.2.1 47 = .ok (.bipush 6, 2) := by decide +kernel
theorem d_Q_readParts_49 : decode m_Q_readParts.2.1 49 = .ok (.if_icmp .eq 12, 3) := by decide +kernel
theorem d_Q_readParts_52 : decode m_Q_readParts.2.1 52 = .ok (.aload_n 0, 1) := by decide +kernel
theorem d_Q_readParts_53 : decode m_Q_readParts.2.1 53 = .ok (.bipush 44, 2) := by decide +kernel
theorem d_Q_readParts_55 : decode m_Q_readParts.2.1 55 = .ok (.invokevirtual 68, 3) := by decide +kernel
theorem d_Q_readParts_58 : decode m_Q_readParts.2.1 58 = .ok (.ifCond .ne 5, 3) := by decide +kernel
theorem d_Q_readParts_61 : decode m_Q_readParts.2.1 61 = .ok (.iconst 0, 1) := by decide +kernel
theorem d_Q_readParts_62 : decode m_Q_readParts.2.1 62 = .ok (.ireturn, 1) := by decide +kernel
theorem d_Q_readParts_63 : decode m_Q_readParts.2.1 63 = .ok (.iinc 2 1, 3) := by decide +kernel
theorem d_Q_readParts_66 : decode m_Q_readParts.2.1 66 = .ok (.goto (-53), 3) := by decide +kernel
theorem d_Q_readParts_69 : decode m_Q_readParts.2.1 69 = .ok (.iconst 0, 1) := by decide +kernel
theorem d_Q_readParts_70 : decode m_Q_readParts.2.1 70 = .ok (.ireturn, 1) := by decide +kernel
theorem d_Q_readPart_0 : decode m_Q_readPart.2.1 0 = .ok (.aload_n 0, 1) := by decide +kernel
theorem d_Q_readPart_1 : decode m_Q_readPart.2.1 1 = .ok (.invokevirtual 53, 3) := by decide +kernel
theorem d_Q_readPart_4 : decode m_Q_readPart.2.1 4 = .ok (.istore_n 1, 1) := by decide +kernel
theorem d_Q_readPart_5 : decode m_Q_readPart.2.1 5 = .ok (.iload_n 1, 1) := by decide +kernel
theorem d_Q_readPart_6 : decode m_Q_readPart.2.1 6 = .ok (.bipush 35, 2) := by decide +kernel
theorem d_Q_readPart_8 : decode m_Q_readPart.2.1 8 = .ok (.if_icmp .eq 10, 3) := by decide +kernel
theorem d_Q_readPart_11 : decode m_Q_readPart.2.1 11 = .ok (.iload_n 1, 1) := by decide +kernel
theorem d_Q_readPart_12 : decode m_Q_readPart.2.1 12 = .ok (.invokestatic 76, 3) := by decide +kernel
theorem d_Q_readPart_15 : decode m_Q_readPart.2.1 15 = .ok (.ifCond .eq 24, 3) := by decide +kernel
theorem d_Q_readPart_18 : decode m_Q_readPart.2.1 18 = .ok (.aload_n 0, 1) := by decide +kernel
theorem d_Q_readPart_19 : decode m_Q_readPart.2.1 19 = .ok (.new 36, 3) := by decide +kernel
theorem d_Q_readPart_22 : decode m_Q_readPart.2.1 22 = .ok (.dup, 1) := by decide +kernel
theorem d_Q_readPart_23 : decode m_Q_readPart.2.1 23 = .ok (.bipush 14, 2) := by decide +kernel
theorem d_Q_readPart_25 : decode m_Q_readPart.2.1 25 = .ok (.iconst 0, 1) := by decide +kernel
theorem d_Q_readPart_26 : decode m_Q_readPart.2.1 26 = .ok (.aload_n 0, 1) := by decide +kernel
theorem d_Q_readPart_27 : decode m_Q_readPart.2.1 27 = .ok (.getfield 19, 3) := by decide +kernel
theorem d_Q_readPart_30 : decode m_Q_readPart.2.1 30 = .ok (.invokespecial 38, 3) := by decide +kernel
theorem d_Q_readPart_33 : decode m_Q_readPart.2.1 33 = .ok (.iconst 2, 1) := by decide +kernel
theorem d_Q_readPart_34 : decode m_Q_readPart.2.1 34 = .ok (.iconst 1, 1) := by decide +kernel
theorem d_Q_readPart_35 : decode m_Q_readPart.2.1 35 = .ok (.invokevirtual 60, 3) := by decide +kernel
theorem d_Q_readPart_38 : decode m_Q_readPart.2.1 38 = .ok (.areturn, 1) := by decide +kernel
theorem d_Q_readPart_39 : decode m_Q_readPart.2.1 39 = .ok (.iload_n 1, 1) := by decide +kernel
theorem d_Q_readPart_40 : decode m_Q_readPart.2.1 40 = .ok (.invokestatic 79, 3) := by decide +kernel
theorem d_Q_readPart_43 : decode m_Q_readPart.2.1 43 = .ok (.ifCond .eq 32, 3) := by decide +kernel
theorem d_Q_readPart_46 : decode m_Q_readPart.2.1 46 = .ok (.aload_n 0, 1) := by decide +kernel
theorem d_Q_readPart_47 : decode m_Q_readPart.2.1 47 = .ok (.bipush 14, 2) := by decide +kernel
theorem d_Q_readPart_49 : decode m_Q_readPart.2.1 49 = .ok (.iload_n 1, 1) := by decide +kernel
theorem d_Q_readPart_50 : decode m_Q_readPart.2.1 50 = .ok (.invokevirtual 57, 3) := by decide +kernel
theorem d_Q_readPart_53 : decode m_Q_readPart.2.1 53 = .ok (.astore_n 2, 1) := by decide +kernel
theorem d_Q_readPart_54 : decode m_Q_readPart.2.1 54 = .ok (.aload_n 0, 1) := by decide +kernel
theorem d_Q_readPart_55 : decode m_Q_readPart.2.1 55 = .ok (.bipush 58, 2) := by decide +kernel
theorem d_Q_readPart_57 : decode m_Q_readPart.2.1 57 = .ok (.invokevirtual 68, 3) := by decide +kernel
theorem d_Q_readPart_60 : decode m_Q_readPart.2.1 60 = .ok (.ifCond .eq 13, 3) := by decide +kernel
theorem d_Q_readPart_63 : decode m_Q_readPart.2.1 63 = .ok (.aload_n 0, 1) := by decide +kernel
theorem d_Q_readPart_64 : decode m_Q_readPart.2.1 64 = .ok (.aload_n 2, 1) := by decide +kernel
theorem d_Q_readPart_65 : decode m_Q_readPart.2.1 65 = .ok (.iconst 2, 1) := by decide +kernel
theorem d_Q_readPart_66 : decode m_Q_readPart.2.1 66 = .ok (.iconst 1, 1) := by decide +kernel
theorem d_Q_readPart_67 : decode m_Q_readPart.2.1 67 = .ok (.invokevirtual 60, 3) := by decide +kernel
theorem d_Q_readPart_70 : decode m_Q_readPart.2.1 70 = .ok (.goto 4, 3) := by decide +kernel
theorem d_Q_readPart_73 : decode m_Q_readPart.2.1 73 = .ok (.aconst_null, 1) := by decide +kernel
theorem d_Q_readPart_74 : decode m_Q_readPart.2.1 74 = .ok (.areturn, 1) := by decide +kernel
theorem d_Q_readPart_75 : decode m_Q_readPart.2.1 75 = .ok (.aload_n 0, 1) := by decide +kernel
theorem d_Q_readPart_76 : decode m_Q_readPart.2.1 76 = .ok (.bipush 63, 2) := by decide +kernel
theorem d_Q_readPart_78 : decode m_Q_readPart.2.1 78 = .ok (.invokevirtual 68, 3) := by decide +kernel
theorem d_Q_readPart_81 : decode m_Q_readPart.2.1 81 = .ok (.ifCond .eq 13, 3) := by decide +kernel
theorem d_Q_readPart_84 : decode m_Q_readPart.2.1 84 = .ok (.aload_n 0, 1) := by decide +kernel
theorem d_Q_readPart_85 : decode m_Q_readPart.2.1 85 = .ok (.invokevirtual 53, 3) := by decide +kernel
theorem d_Q_readPart_88 : decode m_Q_readPart.2.1 88 = .ok (.invokestatic 76, 3) := by decide +kernel
theorem d_Q_readPart_91 : decode m_Q_readPart.2.1 91 = .ok (.ifCond .ne 5, 3) := by decide +kernel
theorem d_Q_readPart_94 : decode m_Q_readPart.2.1 94 = .ok (.aconst_null, 1) := by decide +kernel
theorem d_Q_readPart_95 : decode m_Q_readPart.2.1 95 = .ok (.areturn, 1) := by decide +kernel
theorem d_Q_readPart_96 : decode m_Q_readPart.2.1 96 = .ok (.aload_n 0, 1) := by decide +kernel
theorem d_Q_readPart_97 : decode m_Q_readPart.2.1 97 = .ok (.bipush 15, 2) := by decide +kernel
theorem d_Q_readPart_99 : decode m_Q_readPart.2.1 99 = .ok (.aload_n 0, 1) := by decide +kernel
theorem d_Q_readPart_100 : decode m_Q_readPart.2.1 100 = .ok (.invokevirtual 53, 3) := by decide +kernel
theorem d_Q_readPart_103 : decode m_Q_readPart.2.1 103 = .ok (.invokevirtual 57, 3) := by decide +kernel
theorem d_Q_readPart_106 : decode m_Q_readPart.2.1 106 = .ok (.astore_n 2, 1) := by decide +kernel
theorem d_Q_readPart_107 : decode m_Q_readPart.2.1 107 = .ok (.aload_n 0, 1) := by decide +kernel
theorem d_Q_readPart_108 : decode m_Q_readPart.2.1 108 = .ok (.bipush 40, 2) := by decide +kernel
theorem d_Q_readPart_110 : decode m_Q_readPart.2.1 110 = .ok (.invokevirtual 68, 3) := by decide +kernel
theorem d_Q_readPart_113 : decode m_Q_readPart.2.1 113 = .ok (.ifCond .eq 28, 3) := by decide +kernel
theorem d_Q_readPart_116 : decode m_Q_readPart.2.1 116 = .ok (.aload_n 0, 1) := by decide +kernel
theorem d_Q_readPart_117 : decode m_Q_readPart.2.1 117 = .ok (.aload_n 2, 1) := by decide +kernel
theorem d_Q_readPart_118 : decode m_Q_readPart.2.1 118 = .ok (.iconst 2, 1) := by decide +kernel
theorem d_Q_readPart_119 : decode m_Q_readPart.2.1 119 = .ok (.iconst 1, 1) := by decide +kernel
theorem d_Q_readPart_120 : decode m_Q_readPart.2.1 120 = .ok (.bipush 41, 2) := by decide +kernel
theorem d_Q_readPart_122 : decode m_Q_readPart.2.1 122 = .ok (.invokevirtual 41, 3) := by decide +kernel
theorem d_Q_readPart_125 : decode m_Q_readPart.2.1 125 = .ok (.ifCond .eq 16, 3) := by decide +kernel
theorem d_Q_readPart_128 : decode m_Q_readPart.2.1 128 = .ok (.aload_n 0, 1) := by decide +kernel
theorem d_Q_readPart_129 : decode m_Q_readPart.2.1 129 = .ok (.bipush 61, 2) := by decide +kernel
theorem d_Q_readPart_131 : decode m_Q_readPart.2.1 131 = .ok (.invokevirtual 68, 3) := by decide +kernel
theorem d_Q_readPart_134 : decode m_Q_readPart.2.1 134 = .ok (.ifCond .eq 7, 3) := by decide +kernel
theorem d_Q_readPart_137 : decode m_Q_readPart.2.1 137 = .ok (.iconst 1, 1) := by decide +kernel
theorem d_Q_readPart_138 : decode m_Q_readPart.2.1 138 = .ok (.goto 4, 3) := by decide +kernel
theorem d_Q_readPart_141 : decode m_Q_readPart.2.1 141 = .ok (.iconst 0, 1) := by decide +kernel
theorem d_Q_readPart_142 : decode m_Q_readPart.2.1 142 = .ok (.istore_n 3, 1) := by decide +kernel
theorem d_Q_readPart_143 : decode m_Q_readPart.2.1 143 = .ok (.iload_n 3, 1) := by decide +kernel
theorem d_Q_readPart_144 : decode m_Q_readPart.2.1 144 = .ok (.ifCond .eq 13, 3) := by decide +kernel
theorem d_Q_readPart_147 : decode m_Q_readPart.2.1 147 = .ok (.aload_n 0, 1) := by decide +kernel
theorem d_Q_readPart_148 : decode m_Q_readPart.2.1 148 = .ok (.aload_n 2, 1) := by decide +kernel
theorem d_Q_readPart_149 : decode m_Q_readPart.2.1 149 = .ok (.iconst 2, 1) := by decide +kernel
theorem d_Q_readPart_150 : decode m_Q_readPart.2.1 150 = .ok (.iconst 1, 1) := by decide +kernel
theorem d_Q_readPart_151 : decode m_Q_readPart.2.1 151 = .ok (.invokevirtual 60, 3) := by decide +kernel
theorem d_Q_readPart_154 : decode m_Q_readPart.2.1 154 = .ok (.goto 4, 3) := by decide +kernel
theorem d_Q_readPart_157 : decode m_Q_readPart.2.1 157 = .ok (.aconst_null, 1) := by decide +kernel
theorem d_Q_readPart_158 : decode m_Q_readPart.2.1 158 = .ok (.areturn, 1) := by decide +kernel
theorem d_Q_piece_0 : decode m_Q_piece.2.1 0 = .ok (.aload_n 0, 1) := by decide +kernel
theorem d_Q_piece_1 : decode m_Q_piece.2.1 1 = .ok (.invokevirtual 53, 3) := by decide +kernel
theorem d_Q_piece_4 : decode m_Q_piece.2.1 4 = .ok (.istore_n 3, 1) := by decide +kernel
theorem d_Q_piece_5 : decode m_Q_piece.2.1 5 = .ok (.iload_n 3, 1) := by decide +kernel
theorem d_Q_piece_6 : decode m_Q_piece.2.1 6 = .ok (.invokestatic 79, 3) := by decide +kernel
theorem d_Q_piece_9 : decode m_Q_piece.2.1 9 = .ok (.ifCond .eq 10, 3) := by decide +kernel
theorem d_Q_piece_12 : decode m_Q_piece.2.1 12 = .ok (.aload_n 0, 1) := by decide +kernel
theorem d_Q_piece_13 : decode m_Q_piece.2.1 13 = .ok (.iconst 5, 1) := by decide +kernel
theorem d_Q_piece_14 : decode m_Q_piece.2.1 14 = .ok (.iload_n 3, 1) := by decide +kernel
theorem d_Q_piece_15 : decode m_Q_piece.2.1 15 = .ok (.invokevirtual 57, 3) := by decide +kernel
theorem d_Q_piece_18 : decode m_Q_piece.2.1 18 = .ok (.areturn, 1) := by decide +kernel
theorem d_Q_piece_19 : decode m_Q_piece.2.1 19 = .ok (.iload_n 3, 1) := by decide +kernel
theorem d_Q_piece_20 : decode m_Q_piece.2.1 20 = .ok (.invokestatic 82, 3) := by decide +kernel
theorem d_Q_piece_23 : decode m_Q_piece.2.1 23 = .ok (.ifCond .eq 13, 3) := by decide +kernel
theorem d_Q_piece_26 : decode m_Q_piece.2.1 26 = .ok (.aload_n 0, 1) := by decide +kernel
theorem d_Q_piece_27 : decode m_Q_piece.2.1 27 = .ok (.iconst 1, 1) := by decide +kernel
theorem d_Q_piece_28 : decode m_Q_piece.2.1 28 = .ok (.iload_n 3, 1) := by decide +kernel
theorem d_Q_piece_29 : decode m_Q_piece.2.1 29 = .ok (.bipush 48, 2) := by decide +kernel
theorem d_Q_piece_31 : decode m_Q_piece.2.1 31 = .ok (.isub, 1) := by decide +kernel
theorem d_Q_piece_32 : decode m_Q_piece.2.1 32 = .ok (.invokevirtual 57, 3) := by decide +kernel
theorem d_Q_piece_35 : decode m_Q_piece.2.1 35 = .ok (.areturn, 1) := by decide +kernel
theorem d_Q_piece_36 : decode m_Q_piece.2.1 36 = .ok (.iload_n 3, 1) := by decide +kernel
theorem d_Q_piece_37 : decode m_Q_piece.2.1 37 = .ok (.invokestatic 76, 3) := by decide +kernel
theorem d_Q_piece_40 : decode m_Q_piece.2.1 40 = .ok (.ifCond .eq 10, 3) := by decide +kernel
theorem d_Q_piece_43 : decode m_Q_piece.2.1 43 = .ok (.aload_n 0, 1) := by decide +kernel
theorem d_Q_piece_44 : decode m_Q_piece.2.1 44 = .ok (.iload_n 1, 1) := by decide +kernel
theorem d_Q_piece_45 : decode m_Q_piece.2.1 45 = .ok (.iload_n 2, 1) := by decide +kernel
theorem d_Q_piece_46 : decode m_Q_piece.2.1 46 = .ok (.invokevirtual 85, 3) := by decide +kernel
theorem d_Q_piece_49 : decode m_Q_piece.2.1 49 = .ok (.areturn, 1) := by decide +kernel
theorem d_Q_piece_50 : decode m_Q_piece.2.1 50 = .ok (.iload_n 1, 1) := by decide +kernel
theorem d_Q_piece_51 : decode m_Q_piece.2.1 51 = .ok (.iconst 3, 1) := by decide +kernel
theorem d_Q_piece_52 : decode m_Q_piece.2.1 52 = .ok (.if_icmp .ne 10, 3) := by decide +kernel
theorem d_Q_piece_55 : decode m_Q_piece.2.1 55 = .ok (.aload_n 0, 1) := by decide +kernel
theorem d_Q_piece_56 : decode m_Q_piece.2.1 56 = .ok (.iload_n 3, 1) := by decide +kernel
theorem d_Q_piece_57 : decode m_Q_piece.2.1 57 = .ok (.iload_n 2, 1) := by decide +kernel
theorem d_Q_piece_58 : decode m_Q_piece.2.1 58 = .ok (.invokevirtual 88, 3) := by decide +kernel
theorem d_Q_piece_61 : decode m_Q_piece.2.1 61 = .ok (.areturn, 1) := by decide +kernel
theorem d_Q_piece_62 : decode m_Q_piece.2.1 62 = .ok (.iload_n 3, 1) := by decide +kernel
theorem d_Q_piece_63 : decode m_Q_piece.2.1 63 = .ok (.bipush 35, 2) := by decide +kernel
theorem d_Q_piece_65 : decode m_Q_piece.2.1 65 = .ok (.if_icmp .ne 10, 3) := by decide +kernel
theorem d_Q_piece_68 : decode m_Q_piece.2.1 68 = .ok (.aload_n 0, 1) := by decide +kernel
theorem d_Q_piece_69 : decode m_Q_piece.2.1 69 = .ok (.iconst 2, 1) := by decide +kernel
theorem d_Q_piece_70 : decode m_Q_piece.2.1 70 = .ok (.iconst 0, 1) := by decide +kernel
theorem d_Q_piece_71 : decode m_Q_piece.2.1 71 = .ok (.invokevirtual 57, 3) := by decide +kernel
theorem d_Q_piece_74 : decode m_Q_piece.2.1 74 = .ok (.areturn, 1) := by decide +kernel
theorem d_Q_piece_75 : decode m_Q_piece.2.1 75 = .ok (.iload_n 3, 1) := by decide +kernel
theorem d_Q_piece_76 : decode m_Q_piece.2.1 76 = .ok (.bipush 95, 2) := by decide +kernel
theorem d_Q_piece_78 : decode m_Q_piece.2.1 78 = .ok (.if_icmp .ne 17, 3) := by decide +kernel
theorem d_Q_piece_81 : decode m_Q_piece.2.1 81 = .ok (.iload_n 1, 1) := by decide +kernel
theorem d_Q_piece_82 : decode m_Q_piece.2.1 82 = .ok (.iconst 1, 1) := by decide +kernel
theorem d_Q_piece_83 : decode m_Q_piece.2.1 83 = .ok (.if_icmp .ne 12, 3) := by decide +kernel
theorem d_Q_piece_86 : decode m_Q_piece.2.1 86 = .ok (.aload_n 0, 1) := by decide +kernel
theorem d_Q_piece_87 : decode m_Q_piece.2.1 87 = .ok (.iconst 4, 1) := by decide +kernel
theorem d_Q_piece_88 : decode m_Q_piece.2.1 88 = .ok (.iconst 0, 1) := by decide +kernel
theorem d_Q_piece_89 : decode m_Q_piece.2.1 89 = .ok (.invokevirtual 57, 3) := by decide +kernel
theorem d_Q_piece_92 : decode m_Q_piece.2.1 92 = .ok (.goto 4, 3) := by decide +kernel
theorem d_Q_piece_95 : decode m_Q_piece.2.1 95 = .ok (.aconst_null, 1) := by decide +kernel
theorem d_Q_piece_96 : decode m_Q_piece.2.1 96 = .ok (.areturn, 1) := by decide +kernel
theorem d_Q_readApplication_0 : decode m_Q_readApplication.2.1 0 = .ok (.aload_n 0, 1) := by decide +kernel
theorem d_Q_readApplication_1 : decode m_Q_readApplication.2.1 1 = .ok (.bipush 6, 2) := by decide +kernel
theorem d_Q_readApplication_3 : decode m_Q_readApplication.2.1 3 = .ok (.aload_n 0, 1) := by decide +kernel
theorem d_Q_readApplication_4 : decode m_Q_readApplication.2.1 4 = .ok (.invokevirtual 53, 3) := by decide +kernel
theorem d_Q_readApplication_7 : decode m_Q_readApplication.2.1 7 = .ok (.invokevirtual 57, 3) := by decide +kernel
theorem d_Q_readApplication_10 : decode m_Q_readApplication.2.1 10 = .ok (.astore_n 3, 1) := by decide +kernel
theorem d_Q_readApplication_11 : decode m_Q_readApplication.2.1 11 = .ok (.iload_n 1, 1) := by decide +kernel
theorem d_Q_readApplication_12 : decode m_Q_readApplication.2.1 12 = .ok (.iconst 3, 1) := by decide +kernel
theorem d_Q_readApplication_13 : decode m_Q_readApplication.2.1 13 = .ok (.if_icmp .ne 8, 3) := by decide +kernel
theorem d_Q_readApplication_16 : decode m_Q_readApplication.2.1 16 = .ok (.bipush 12, 2) := by decide +kernel
theorem d_Q_readApplication_18 : decode m_Q_readApplication.2.1 18 = .ok (.goto 5, 3) := by decide +kernel
theorem d_Q_readApplication_21 : decode m_Q_readApplication.2.1 21 = .ok (.bipush 8, 2) := by decide +kernel
theorem d_Q_readApplication_23 : decode m_Q_readApplication.2.1 23 = .ok (.istore 4, 2) := by decide +kernel
theorem d_Q_readApplication_25 : decode m_Q_readApplication.2.1 25 = .ok (.iload_n 2, 1) := by decide +kernel
theorem d_Q_readApplication_26 : decode m_Q_readApplication.2.1 26 = .ok (.iload 4, 2) := by decide +kernel
theorem d_Q_readApplication_28 : decode m_Q_readApplication.2.1 28 = .ok (.if_icmp .ge 12, 3) := by decide +kernel
theorem d_Q_readApplication_31 : decode m_Q_readApplication.2.1 31 = .ok (.aload_n 0, 1) := by decide +kernel
theorem d_Q_readApplication_32 : decode m_Q_readApplication.2.1 32 = .ok (.bipush 40, 2) := by decide +kernel
theorem d_Q_readApplication_34 : decode m_Q_readApplication.2.1 34 = .ok (.invokevirtual 68, 3) := by decide +kernel
theorem d_Q_readApplication_37 : decode m_Q_readApplication.2.1 37 = .ok (.ifCond .ne 5, 3) := by decide +kernel
theorem d_Q_readApplication_40 : decode m_Q_readApplication.2.1 40 = .ok (.aload_n 3, 1) := by decide +kernel
theorem d_Q_readApplication_41 : decode m_Q_readApplication.2.1 41 = .ok (.areturn, 1) := by decide +kernel
theorem d_Q_readApplication_42 : decode m_Q_readApplication.2.1 42 = .ok (.aload_n 0, 1) := by decide +kernel
theorem d_Q_readApplication_43 : decode m_Q_readApplication.2.1 43 = .ok (.aload_n 3, 1) := by decide +kernel
theorem d_Q_readApplication_44 : decode m_Q_readApplication.2.1 44 = .ok (.iload_n 1, 1) := by decide +kernel
theorem d_Q_readApplication_45 : decode m_Q_readApplication.2.1 45 = .ok (.iload_n 2, 1) := by decide +kernel
theorem d_Q_readApplication_46 : decode m_Q_readApplication.2.1 46 = .ok (.iconst 1, 1) := by decide +kernel
theorem d_Q_readApplication_47 : decode m_Q_readApplication.2.1 47 = .ok (.iadd, 1) := by decide +kernel
theorem d_Q_readApplication_48 : decode m_Q_readApplication.2.1 48 = .ok (.bipush 41, 2) := by decide +kernel
theorem d_Q_readApplication_50 : decode m_Q_readApplication.2.1 50 = .ok (.invokevirtual 41, 3) := by decide +kernel
theorem d_Q_readApplication_53 : decode m_Q_readApplication.2.1 53 = .ok (.ifCond .eq 7, 3) := by decide +kernel
theorem d_Q_readApplication_56 : decode m_Q_readApplication.2.1 56 = .ok (.aload_n 3, 1) := by decide +kernel
theorem d_Q_readApplication_57 : decode m_Q_readApplication.2.1 57 = .ok (.goto 4, 3) := by decide +kernel
theorem d_Q_readApplication_60 : decode m_Q_readApplication.2.1 60 = .ok (.aconst_null, 1) := by decide +kernel
theorem d_Q_readApplication_61 : decode m_Q_readApplication.2.1 61 = .ok (.areturn, 1) := by decide +kernel
theorem d_Q_readSignedCode_0 : decode m_Q_readSignedCode.2.1 0 = .ok (.iload_n 1, 1) := by decide +kernel
theorem d_Q_readSignedCode_1 : decode m_Q_readSignedCode.2.1 1 = .ok (.bipush 126, 2) := by decide +kernel
theorem d_Q_readSignedCode_3 : decode m_Q_readSignedCode.2.1 3 = .ok (.if_icmp .ne 11, 3) := by decide +kernel
theorem d_Q_readSignedCode_6 : decode m_Q_readSignedCode.2.1 6 = .ok (.aload_n 0, 1) := by decide +kernel
theorem d_Q_readSignedCode_7 : decode m_Q_readSignedCode.2.1 7 = .ok (.bipush 13, 2) := by decide +kernel
theorem d_Q_readSignedCode_9 : decode m_Q_readSignedCode.2.1 9 = .ok (.iconst 0, 1) := by decide +kernel
theorem d_Q_readSignedCode_10 : decode m_Q_readSignedCode.2.1 10 = .ok (.invokevirtual 57, 3) := by decide +kernel
theorem d_Q_readSignedCode_13 : decode m_Q_readSignedCode.2.1 13 = .ok (.areturn, 1) := by decide +kernel
theorem d_Q_readSignedCode_14 : decode m_Q_readSignedCode.2.1 14 = .ok (.iload_n 2, 1) := by decide +kernel
theorem d_Q_readSignedCode_15 : decode m_Q_readSignedCode.2.1 15 = .ok (.bipush 12, 2) := by decide +kernel
theorem d_Q_readSignedCode_17 : decode m_Q_readSignedCode.2.1 17 = .ok (.if_icmp .lt 5, 3) := by decide +kernel
theorem d_Q_readSignedCode_20 : decode m_Q_readSignedCode.2.1 20 = .ok (.aconst_null, 1) := by decide +kernel
theorem d_Q_readSignedCode_21 : decode m_Q_readSignedCode.2.1 21 = .ok (.areturn, 1) := by decide +kernel
theorem d_Q_readSignedCode_22 : decode m_Q_readSignedCode.2.1 22 = .ok (.iload_n 1, 1) := by decide +kernel
theorem d_Q_readSignedCode_23 : decode m_Q_readSignedCode.2.1 23 = .ok (.lookupswitch 94 #[(43, 41), (45, 56), (91, 86), (123, 71)], 41) := by decide +kernel
theorem d_Q_readSignedCode_64 : decode m_Q_readSignedCode.2.1 64 = .ok (.aload_n 0, 1) := by decide +kernel
theorem d_Q_readSignedCode_65 : decode m_Q_readSignedCode.2.1 65 = .ok (.aload_n 0, 1) := by decide +kernel
theorem d_Q_readSignedCode_66 : decode m_Q_readSignedCode.2.1 66 = .ok (.bipush 7, 2) := by decide +kernel
theorem d_Q_readSignedCode_68 : decode m_Q_readSignedCode.2.1 68 = .ok (.iconst 0, 1) := by decide +kernel
theorem d_Q_readSignedCode_69 : decode m_Q_readSignedCode.2.1 69 = .ok (.invokevirtual 57, 3) := by decide +kernel
theorem d_Q_readSignedCode_72 : decode m_Q_readSignedCode.2.1 72 = .ok (.iload_n 2, 1) := by decide +kernel
theorem d_Q_readSignedCode_73 : decode m_Q_readSignedCode.2.1 73 = .ok (.iconst 1, 1) := by decide +kernel
theorem d_Q_readSignedCode_74 : decode m_Q_readSignedCode.2.1 74 = .ok (.iadd, 1) := by decide +kernel
theorem d_Q_readSignedCode_75 : decode m_Q_readSignedCode.2.1 75 = .ok (.invokevirtual 92, 3) := by decide +kernel
theorem d_Q_readSignedCode_78 : decode m_Q_readSignedCode.2.1 78 = .ok (.areturn, 1) := by decide +kernel
theorem d_Q_readSignedCode_79 : decode m_Q_readSignedCode.2.1 79 = .ok (.aload_n 0, 1) := by decide +kernel
theorem d_Q_readSignedCode_80 : decode m_Q_readSignedCode.2.1 80 = .ok (.aload_n 0, 1) := by decide +kernel
theorem d_Q_readSignedCode_81 : decode m_Q_readSignedCode.2.1 81 = .ok (.bipush 8, 2) := by decide +kernel
theorem d_Q_readSignedCode_83 : decode m_Q_readSignedCode.2.1 83 = .ok (.iconst 0, 1) := by decide +kernel
theorem d_Q_readSignedCode_84 : decode m_Q_readSignedCode.2.1 84 = .ok (.invokevirtual 57, 3) := by decide +kernel
theorem d_Q_readSignedCode_87 : decode m_Q_readSignedCode.2.1 87 = .ok (.iload_n 2, 1) := by decide +kernel
theorem d_Q_readSignedCode_88 : decode m_Q_readSignedCode.2.1 88 = .ok (.iconst 1, 1) := by decide +kernel
theorem d_Q_readSignedCode_89 : decode m_Q_readSignedCode.2.1 89 = .ok (.iadd, 1) := by decide +kernel
theorem d_Q_readSignedCode_90 : decode m_Q_readSignedCode.2.1 90 = .ok (.invokevirtual 92, 3) := by decide +kernel
theorem d_Q_readSignedCode_93 : decode m_Q_readSignedCode.2.1 93 = .ok (.areturn, 1) := by decide +kernel
theorem d_Q_readSignedCode_94 : decode m_Q_readSignedCode.2.1 94 = .ok (.aload_n 0, 1) := by decide +kernel
theorem d_Q_readSignedCode_95 : decode m_Q_readSignedCode.2.1 95 = .ok (.aload_n 0, 1) := by decide +kernel
theorem d_Q_readSignedCode_96 : decode m_Q_readSignedCode.2.1 96 = .ok (.bipush 9, 2) := by decide +kernel
theorem d_Q_readSignedCode_98 : decode m_Q_readSignedCode.2.1 98 = .ok (.iconst 0, 1) := by decide +kernel
theorem d_Q_readSignedCode_99 : decode m_Q_readSignedCode.2.1 99 = .ok (.invokevirtual 57, 3) := by decide +kernel
theorem d_Q_readSignedCode_102 : decode m_Q_readSignedCode.2.1 102 = .ok (.iload_n 2, 1) := by decide +kernel
theorem d_Q_readSignedCode_103 : decode m_Q_readSignedCode.2.1 103 = .ok (.iconst 1, 1) := by decide +kernel
theorem d_Q_readSignedCode_104 : decode m_Q_readSignedCode.2.1 104 = .ok (.iadd, 1) := by decide +kernel
theorem d_Q_readSignedCode_105 : decode m_Q_readSignedCode.2.1 105 = .ok (.invokevirtual 96, 3) := by decide +kernel
theorem d_Q_readSignedCode_108 : decode m_Q_readSignedCode.2.1 108 = .ok (.areturn, 1) := by decide +kernel
theorem d_Q_readSignedCode_109 : decode m_Q_readSignedCode.2.1 109 = .ok (.aload_n 0, 1) := by decide +kernel
theorem d_Q_readSignedCode_110 : decode m_Q_readSignedCode.2.1 110 = .ok (.iload_n 2, 1) := by decide +kernel
theorem d_Q_readSignedCode_111 : decode m_Q_readSignedCode.2.1 111 = .ok (.iconst 1, 1) := by decide +kernel
theorem d_Q_readSignedCode_112 : decode m_Q_readSignedCode.2.1 112 = .ok (.iadd, 1) := by decide +kernel
theorem d_Q_readSignedCode_113 : decode m_Q_readSignedCode.2.1 113 = .ok (.invokevirtual 99, 3) := by decide +kernel
theorem d_Q_readSignedCode_116 : decode m_Q_readSignedCode.2.1 116 = .ok (.areturn, 1) := by decide +kernel
theorem d_Q_readSignedCode_117 : decode m_Q_readSignedCode.2.1 117 = .ok (.aconst_null, 1) := by decide +kernel
theorem d_Q_readSignedCode_118 : decode m_Q_readSignedCode.2.1 118 = .ok (.areturn, 1) := by decide +kernel
theorem d_Q_readSum_0 : decode m_Q_readSum.2.1 0 = .ok (.aload_n 0, 1) := by decide +kernel
theorem d_Q_readSum_1 : decode m_Q_readSum.2.1 1 = .ok (.aload_n 0, 1) := by decide +kernel
theorem d_Q_readSum_2 : decode m_Q_readSum.2.1 2 = .ok (.aload_n 1, 1) := by decide +kernel
theorem d_Q_readSum_3 : decode m_Q_readSum.2.1 3 = .ok (.iconst 3, 1) := by decide +kernel
theorem d_Q_readSum_4 : decode m_Q_readSum.2.1 4 = .ok (.iload_n 2, 1) := by decide +kernel
theorem d_Q_readSum_5 : decode m_Q_readSum.2.1 5 = .ok (.invokevirtual 60, 3) := by decide +kernel
theorem d_Q_readSum_8 : decode m_Q_readSum.2.1 8 = .ok (.iconst 3, 1) := by decide +kernel
theorem d_Q_readSum_9 : decode m_Q_readSum.2.1 9 = .ok (.iload_n 2, 1) := by decide +kernel
theorem d_Q_readSum_10 : decode m_Q_readSum.2.1 10 = .ok (.invokevirtual 60, 3) := by decide +kernel
theorem d_Q_readSum_13 : decode m_Q_readSum.2.1 13 = .ok (.areturn, 1) := by decide +kernel
theorem d_Q_readMatch_0 : decode m_Q_readMatch.2.1 0 = .ok (.aload_n 0, 1) := by decide +kernel
theorem d_Q_readMatch_1 : decode m_Q_readMatch.2.1 1 = .ok (.aload_n 1, 1) := by decide +kernel
theorem d_Q_readMatch_2 : decode m_Q_readMatch.2.1 2 = .ok (.iconst 3, 1) := by decide +kernel
theorem d_Q_readMatch_3 : decode m_Q_readMatch.2.1 3 = .ok (.iload_n 2, 1) := by decide +kernel
theorem d_Q_readMatch_4 : decode m_Q_readMatch.2.1 4 = .ok (.invokevirtual 60, 3) := by decide +kernel
theorem d_Q_readMatch_7 : decode m_Q_readMatch.2.1 7 = .ok (.ifnull 12, 3) := by decide +kernel
theorem d_Q_readMatch_10 : decode m_Q_readMatch.2.1 10 = .ok (.aload_n 0, 1) := by decide +kernel
theorem d_Q_readMatch_11 : decode m_Q_readMatch.2.1 11 = .ok (.bipush 124, 2) := by decide +kernel
theorem d_Q_readMatch_13 : decode m_Q_readMatch.2.1 13 = .ok (.invokevirtual 68, 3) := by decide +kernel
theorem d_Q_readMatch_16 : decode m_Q_readMatch.2.1 16 = .ok (.ifCond .ne 5, 3) := by decide +kernel
theorem d_Q_readMatch_19 : decode m_Q_readMatch.2.1 19 = .ok (.aconst_null, 1) := by decide +kernel
theorem d_Q_readMatch_20 : decode m_Q_readMatch.2.1 20 = .ok (.areturn, 1) := by decide +kernel
theorem d_Q_readMatch_21 : decode m_Q_readMatch.2.1 21 = .ok (.iconst 1, 1) := by decide +kernel
theorem d_Q_readMatch_22 : decode m_Q_readMatch.2.1 22 = .ok (.istore_n 3, 1) := by decide +kernel
theorem d_Q_readMatch_23 : decode m_Q_readMatch.2.1 23 = .ok (.iload_n 3, 1) := by decide +kernel
theorem d_Q_readMatch_24 : decode m_Q_readMatch.2.1 24 = .ok (.iconst 5, 1) := by decide +kernel
theorem d_Q_readMatch_25 : decode m_Q_readMatch.2.1 25 = .ok (.if_icmp .gt 56, 3) := by decide +kernel
theorem d_Q_readMatch_28 : decode m_Q_readMatch.2.1 28 = .ok (.aload_n 0, 1) := by decide +kernel
theorem d_Q_readMatch_29 : decode m_Q_readMatch.2.1 29 = .ok (.iload_n 2, 1) := by decide +kernel
theorem d_Q_readMatch_30 : decode m_Q_readMatch.2.1 30 = .ok (.invokevirtual 103, 3) := by decide +kernel
theorem d_Q_readMatch_33 : decode m_Q_readMatch.2.1 33 = .ok (.astore 4, 2) := by decide +kernel
theorem d_Q_readMatch_35 : decode m_Q_readMatch.2.1 35 = .ok (.aload 4, 2) := by decide +kernel
theorem d_Q_readMatch_37 : decode m_Q_readMatch.2.1 37 = .ok (.ifnonnull 5, 3) := by decide +kernel
theorem d_Q_readMatch_40 : decode m_Q_readMatch.2.1 40 = .ok (.aconst_null, 1) := by decide +kernel
theorem d_Q_readMatch_41 : decode m_Q_readMatch.2.1 41 = .ok (.areturn, 1) := by decide +kernel
theorem d_Q_readMatch_42 : decode m_Q_readMatch.2.1 42 = .ok (.aload_n 1, 1) := by decide +kernel
theorem d_Q_readMatch_43 : decode m_Q_readMatch.2.1 43 = .ok (.aload 4, 2) := by decide +kernel
theorem d_Q_readMatch_45 : decode m_Q_readMatch.2.1 45 = .ok (.invokevirtual 49, 3) := by decide +kernel
theorem d_Q_readMatch_48 : decode m_Q_readMatch.2.1 48 = .ok (.aload_n 0, 1) := by decide +kernel
theorem d_Q_readMatch_49 : decode m_Q_readMatch.2.1 49 = .ok (.bipush 125, 2) := by decide +kernel
theorem d_Q_readMatch_51 : decode m_Q_readMatch.2.1 51 = .ok (.invokevirtual 68, 3) := by decide +kernel
theorem d_Q_readMatch_54 : decode m_Q_readMatch.2.1 54 = .ok (.ifCond .eq 5, 3) := by decide +kernel
theorem d_Q_readMatch_57 : decode m_Q_readMatch.2.1 57 = .ok (.aload_n 1, 1) := by decide +kernel
theorem d_Q_readMatch_58 : decode m_Q_readMatch.2.1 58 = .ok (.areturn, 1) := by decide +kernel
theorem d_Q_readMatch_59 : decode m_Q_readMatch.2.1 59 = .ok (.iload_n 3, 1) := by decide +kernel
theorem d_Q_readMatch_60 : decode m_Q_readMatch.2.1 60 = .ok (.iconst 5, 1) := by decide +kernel
theorem d_Q_readMatch_61 : decode m_Q_readMatch.2.1 61 = .ok (.if_icmp .eq 12, 3) := by decide +kernel
theorem d_Q_readMatch_64 : decode m_Q_readMatch.2.1 64 = .ok (.aload_n 0, 1) := by decide +kernel
theorem d_Q_readMatch_65 : decode m_Q_readMatch.2.1 65 = .ok (.bipush 124, 2) := by decide +kernel
theorem d_Q_readMatch_67 : decode m_Q_readMatch.2.1 67 = .ok (.invokevirtual 68, 3) := by decide +kernel
theorem d_Q_readMatch_70 : decode m_Q_readMatch.2.1 70 = .ok (.ifCond .ne 5, 3) := by decide +kernel
theorem d_Q_readMatch_73 : decode m_Q_readMatch.2.1 73 = .ok (.aconst_null, 1) := by decide +kernel
theorem d_Q_readMatch_74 : decode m_Q_readMatch.2.1 74 = .ok (.areturn, 1) := by decide +kernel
theorem d_Q_readMatch_75 : decode m_Q_readMatch.2.1 75 = .ok (.iinc 3 1, 3) := by decide +kernel
theorem d_Q_readMatch_78 : decode m_Q_readMatch.2.1 78 = .ok (.goto (-55), 3) := by decide +kernel
theorem d_Q_readMatch_81 : decode m_Q_readMatch.2.1 81 = .ok (.aconst_null, 1) := by decide +kernel
theorem d_Q_readMatch_82 : decode m_Q_readMatch.2.1 82 = .ok (.areturn, 1) := by decide +kernel
theorem d_Q_readCase_0 : decode m_Q_readCase.2.1 0 = .ok (.new 36, 3) := by decide +kernel
theorem d_Q_readCase_3 : decode m_Q_readCase.2.1 3 = .ok (.dup, 1) := by decide +kernel
theorem d_Q_readCase_4 : decode m_Q_readCase.2.1 4 = .ok (.bipush 10, 2) := by decide +kernel
theorem d_Q_readCase_6 : decode m_Q_readCase.2.1 6 = .ok (.iconst 0, 1) := by decide +kernel
theorem d_Q_readCase_7 : decode m_Q_readCase.2.1 7 = .ok (.aload_n 0, 1) := by decide +kernel
theorem d_Q_readCase_8 : decode m_Q_readCase.2.1 8 = .ok (.getfield 19, 3) := by decide +kernel
theorem d_Q_readCase_11 : decode m_Q_readCase.2.1 11 = .ok (.invokespecial 38, 3) := by decide +kernel
theorem d_Q_readCase_14 : decode m_Q_readCase.2.1 14 = .ok (.astore_n 2, 1) := by decide +kernel
theorem d_Q_readCase_15 : decode m_Q_readCase.2.1 15 = .ok (.aload_n 0, 1) := by decide +kernel
theorem d_Q_readCase_16 : decode m_Q_readCase.2.1 16 = .ok (.invokevirtual 106, 3) := by decide +kernel
theorem d_Q_readCase_19 : decode m_Q_readCase.2.1 19 = .ok (.astore_n 3, 1) := by decide +kernel
theorem d_Q_readCase_20 : decode m_Q_readCase.2.1 20 = .ok (.aload_n 3, 1) := by decide +kernel
theorem d_Q_readCase_21 : decode m_Q_readCase.2.1 21 = .ok (.ifnonnull 5, 3) := by decide +kernel
theorem d_Q_readCase_24 : decode m_Q_readCase.2.1 24 = .ok (.aconst_null, 1) := by decide +kernel
theorem d_Q_readCase_25 : decode m_Q_readCase.2.1 25 = .ok (.areturn, 1) := by decide +kernel
theorem d_Q_readCase_26 : decode m_Q_readCase.2.1 26 = .ok (.aload_n 2, 1) := by decide +kernel
theorem d_Q_readCase_27 : decode m_Q_readCase.2.1 27 = .ok (.aload_n 3, 1) := by decide +kernel
theorem d_Q_readCase_28 : decode m_Q_readCase.2.1 28 = .ok (.invokevirtual 49, 3) := by decide +kernel
theorem d_Q_readCase_31 : decode m_Q_readCase.2.1 31 = .ok (.aload_n 3, 1) := by decide +kernel
theorem d_Q_readCase_32 : decode m_Q_readCase.2.1 32 = .ok (.getfield 109, 3) := by decide +kernel
theorem d_Q_readCase_35 : decode m_Q_readCase.2.1 35 = .ok (.bipush 6, 2) := by decide +kernel
theorem d_Q_readCase_37 : decode m_Q_readCase.2.1 37 = .ok (.if_icmp .ne 26, 3) := by decide +kernel
theorem d_Q_readCase_40 : decode m_Q_readCase.2.1 40 = .ok (.aload_n 0, 1) := by decide +kernel
theorem d_Q_readCase_41 : decode m_Q_readCase.2.1 41 = .ok (.bipush 40, 2) := by decide +kernel
theorem d_Q_readCase_43 : decode m_Q_readCase.2.1 43 = .ok (.invokevirtual 68, 3) := by decide +kernel
theorem d_Q_readCase_46 : decode m_Q_readCase.2.1 46 = .ok (.ifCond .eq 17, 3) := by decide +kernel
theorem d_Q_readCase_49 : decode m_Q_readCase.2.1 49 = .ok (.aload_n 0, 1) := by decide +kernel
theorem d_Q_readCase_50 : decode m_Q_readCase.2.1 50 = .ok (.aload_n 3, 1) := by decide +kernel
theorem d_Q_readCase_51 : decode m_Q_readCase.2.1 51 = .ok (.bipush 6, 2) := by decide +kernel
theorem d_Q_readCase_53 : decode m_Q_readCase.2.1 53 = .ok (.bipush 41, 2) := by decide +kernel
theorem d_Q_readCase_55 : decode m_Q_readCase.2.1 55 = .ok (.invokevirtual 64, 3) := by decide +kernel
theorem d_Q_readCase_58 : decode m_Q_readCase.2.1 58 = .ok (.ifCond .ne 5, 3) := by decide +kernel
theorem d_Q_readCase_61 : decode m_Q_readCase.2.1 61 = .ok (.aconst_null, 1) := by decide +kernel
theorem d_Q_readCase_62 : decode m_Q_readCase.2.1 62 = .ok (.areturn, 1) := by decide +kernel
theorem d_Q_readCase_63 : decode m_Q_readCase.2.1 63 = .ok (.aload_n 0, 1) := by decide +kernel
theorem d_Q_readCase_64 : decode m_Q_readCase.2.1 64 = .ok (.bipush 62, 2) := by decide +kernel
theorem d_Q_readCase_66 : decode m_Q_readCase.2.1 66 = .ok (.invokevirtual 68, 3) := by decide +kernel
theorem d_Q_readCase_69 : decode m_Q_readCase.2.1 69 = .ok (.ifCond .eq 13, 3) := by decide +kernel
theorem d_Q_readCase_72 : decode m_Q_readCase.2.1 72 = .ok (.aload_n 0, 1) := by decide +kernel
theorem d_Q_readCase_73 : decode m_Q_readCase.2.1 73 = .ok (.aload_n 2, 1) := by decide +kernel
theorem d_Q_readCase_74 : decode m_Q_readCase.2.1 74 = .ok (.iconst 3, 1) := by decide +kernel
theorem d_Q_readCase_75 : decode m_Q_readCase.2.1 75 = .ok (.iload_n 1, 1) := by decide +kernel
theorem d_Q_readCase_76 : decode m_Q_readCase.2.1 76 = .ok (.invokevirtual 60, 3) := by decide +kernel
theorem d_Q_readCase_79 : decode m_Q_readCase.2.1 79 = .ok (.goto 4, 3) := by decide +kernel
theorem d_Q_readCase_82 : decode m_Q_readCase.2.1 82 = .ok (.aconst_null, 1) := by decide +kernel
theorem d_Q_readCase_83 : decode m_Q_readCase.2.1 83 = .ok (.areturn, 1) := by decide +kernel
theorem d_Q_readPatternHead_0 : decode m_Q_readPatternHead.2.1 0 = .ok (.aload_n 0, 1) := by decide +kernel
theorem d_Q_readPatternHead_1 : decode m_Q_readPatternHead.2.1 1 = .ok (.invokevirtual 53, 3) := by decide +kernel
theorem d_Q_readPatternHead_4 : decode m_Q_readPatternHead.2.1 4 = .ok (.istore_n 1, 1) := by decide +kernel
theorem d_Q_readPatternHead_5 : decode m_Q_readPatternHead.2.1 5 = .ok (.iload_n 1, 1) := by decide +kernel
theorem d_Q_readPatternHead_6 : decode m_Q_readPatternHead.2.1 6 = .ok (.bipush 95, 2) := by decide +kernel
theorem d_Q_readPatternHead_8 : decode m_Q_readPatternHead.2.1 8 = .ok (.if_icmp .ne 10, 3) := by decide +kernel
theorem d_Q_readPatternHead_11 : decode m_Q_readPatternHead.2.1 11 = .ok (.aload_n 0, 1) := by decide +kernel
theorem d_Q_readPatternHead_12 : decode m_Q_readPatternHead.2.1 12 = .ok (.iconst 4, 1) := by decide +kernel
theorem d_Q_readPatternHead_13 : decode m_Q_readPatternHead.2.1 13 = .ok (.iconst 0, 1) := by decide +kernel
theorem d_Q_readPatternHead_14 : decode m_Q_readPatternHead.2.1 14 = .ok (.invokevirtual 57, 3) := by decide +kernel
theorem d_Q_readPatternHead_17 : decode m_Q_readPatternHead.2.1 17 = .ok (.areturn, 1) := by decide +kernel
theorem d_Q_readPatternHead_18 : decode m_Q_readPatternHead.2.1 18 = .ok (.iload_n 1, 1) := by decide +kernel
theorem d_Q_readPatternHead_19 : decode m_Q_readPatternHead.2.1 19 = .ok (.invokestatic 82, 3) := by decide +kernel
theorem d_Q_readPatternHead_22 : decode m_Q_readPatternHead.2.1 22 = .ok (.ifCond .eq 13, 3) := by decide +kernel
theorem d_Q_readPatternHead_25 : decode m_Q_readPatternHead.2.1 25 = .ok (.aload_n 0, 1) := by decide +kernel
theorem d_Q_readPatternHead_26 : decode m_Q_readPatternHead.2.1 26 = .ok (.iconst 1, 1) := by decide +kernel
theorem d_Q_readPatternHead_27 : decode m_Q_readPatternHead.2.1 27 = .ok (.iload_n 1, 1) := by decide +kernel
theorem d_Q_readPatternHead_28 : decode m_Q_readPatternHead.2.1 28 = .ok (.bipush 48, 2) := by decide +kernel
theorem d_Q_readPatternHead_30 : decode m_Q_readPatternHead.2.1 30 = .ok (.isub, 1) := by decide +kernel
theorem d_Q_readPatternHead_31 : decode m_Q_readPatternHead.2.1 31 = .ok (.invokevirtual 57, 3) := by decide +kernel
theorem d_Q_readPatternHead_34 : decode m_Q_readPatternHead.2.1 34 = .ok (.areturn, 1) := by decide +kernel
theorem d_Q_readPatternHead_35 : decode m_Q_readPatternHead.2.1 35 = .ok (.iload_n 1, 1) := by decide +kernel
theorem d_Q_readPatternHead_36 : decode m_Q_readPatternHead.2.1 36 = .ok (.invokestatic 76, 3) := by decide +kernel
theorem d_Q_readPatternHead_39 : decode m_Q_readPatternHead.2.1 39 = .ok (.ifCond .eq 13, 3) := by decide +kernel
theorem d_Q_readPatternHead_42 : decode m_Q_readPatternHead.2.1 42 = .ok (.aload_n 0, 1) := by decide +kernel
theorem d_Q_readPatternHead_43 : decode m_Q_readPatternHead.2.1 43 = .ok (.bipush 6, 2) := by decide +kernel
theorem d_Q_readPatternHead_45 : decode m_Q_readPatternHead.2.1 45 = .ok (.iload_n 1, 1) := by decide +kernel
theorem d_Q_readPatternHead_46 : decode m_Q_readPatternHead.2.1 46 = .ok (.invokevirtual 57, 3) := by decide +kernel
theorem d_Q_readPatternHead_49 : decode m_Q_readPatternHead.2.1 49 = .ok (.goto 4, 3) := by decide +kernel
theorem d_Q_readPatternHead_52 : decode m_Q_readPatternHead.2.1 52 = .ok (.aconst_null, 1) := by decide +kernel
theorem d_Q_readPatternHead_53 : decode m_Q_readPatternHead.2.1 53 = .ok (.areturn, 1) := by decide +kernel
theorem d_Q_readChoice_0 : decode m_Q_readChoice.2.1 0 = .ok (.aload_n 0, 1) := by decide +kernel
theorem d_Q_readChoice_1 : decode m_Q_readChoice.2.1 1 = .ok (.getfield 19, 3) := by decide +kernel
theorem d_Q_readChoice_4 : decode m_Q_readChoice.2.1 4 = .ok (.istore_n 2, 1) := by decide +kernel
theorem d_Q_readChoice_5 : decode m_Q_readChoice.2.1 5 = .ok (.aload_n 0, 1) := by decide +kernel
theorem d_Q_readChoice_6 : decode m_Q_readChoice.2.1 6 = .ok (.bipush 91, 2) := by decide +kernel
theorem d_Q_readChoice_8 : decode m_Q_readChoice.2.1 8 = .ok (.invokevirtual 68, 3) := by decide +kernel
theorem d_Q_readChoice_11 : decode m_Q_readChoice.2.1 11 = .ok (.ifCond .ne 5, 3) := by decide +kernel
theorem d_Q_readChoice_14 : decode m_Q_readChoice.2.1 14 = .ok (.aconst_null, 1) := by decide +kernel
theorem d_Q_readChoice_15 : decode m_Q_readChoice.2.1 15 = .ok (.areturn, 1) := by decide +kernel
theorem d_Q_readChoice_16 : decode m_Q_readChoice.2.1 16 = .ok (.aload_n 0, 1) := by decide +kernel
theorem d_Q_readChoice_17 : decode m_Q_readChoice.2.1 17 = .ok (.iconst 3, 1) := by decide +kernel
theorem d_Q_readChoice_18 : decode m_Q_readChoice.2.1 18 = .ok (.iload_n 1, 1) := by decide +kernel
theorem d_Q_readChoice_19 : decode m_Q_readChoice.2.1 19 = .ok (.invokevirtual 28, 3) := by decide +kernel
theorem d_Q_readChoice_22 : decode m_Q_readChoice.2.1 22 = .ok (.astore_n 3, 1) := by decide +kernel
theorem d_Q_readChoice_23 : decode m_Q_readChoice.2.1 23 = .ok (.aload_n 3, 1) := by decide +kernel
theorem d_Q_readChoice_24 : decode m_Q_readChoice.2.1 24 = .ok (.ifnull 16, 3) := by decide +kernel
theorem d_Q_readChoice_27 : decode m_Q_readChoice.2.1 27 = .ok (.aload_n 0, 1) := by decide +kernel
theorem d_Q_readChoice_28 : decode m_Q_readChoice.2.1 28 = .ok (.invokevirtual 53, 3) := by decide +kernel
theorem d_Q_readChoice_31 : decode m_Q_readChoice.2.1 31 = .ok (.bipush 60, 2) := by decide +kernel
theorem d_Q_readChoice_33 : decode m_Q_readChoice.2.1 33 = .ok (.if_icmp .ne 7, 3) := by decide +kernel
theorem d_Q_readChoice_36 : decode m_Q_readChoice.2.1 36 = .ok (.iconst 1, 1) := by decide +kernel
theorem d_Q_readChoice_37 : decode m_Q_readChoice.2.1 37 = .ok (.goto 4, 3) := by decide +kernel
theorem d_Q_readChoice_40 : decode m_Q_readChoice.2.1 40 = .ok (.iconst 0, 1) := by decide +kernel
theorem d_Q_readChoice_41 : decode m_Q_readChoice.2.1 41 = .ok (.istore 4, 2) := by decide +kernel
theorem d_Q_readChoice_43 : decode m_Q_readChoice.2.1 43 = .ok (.aload_n 3, 1) := by decide +kernel
theorem d_Q_readChoice_44 : decode m_Q_readChoice.2.1 44 = .ok (.ifnull 22, 3) := by decide +kernel
theorem d_Q_readChoice_47 : decode m_Q_readChoice.2.1 47 = .ok (.aload_n 0, 1) := by decide +kernel
theorem d_Q_readChoice_48 : decode m_Q_readChoice.2.1 48 = .ok (.iload 4, 2) := by decide +kernel
theorem d_Q_readChoice_50 : decode m_Q_readChoice.2.1 50 = .ok (.ifCond .eq 8, 3) := by decide +kernel
theorem d_Q_readChoice_53 : decode m_Q_readChoice.2.1 53 = .ok (.bipush 60, 2) := by decide +kernel
theorem d_Q_readChoice_55 : decode m_Q_readChoice.2.1 55 = .ok (.goto 5, 3) := by decide +kernel
theorem d_Q_readChoice_58 : decode m_Q_readChoice.2.1 58 = .ok (.bipush 61, 2) := by decide +kernel
theorem d_Q_readChoice_60 : decode m_Q_readChoice.2.1 60 = .ok (.invokevirtual 68, 3) := by decide +kernel
theorem d_Q_readChoice_63 : decode m_Q_readChoice.2.1 63 = .ok (.ifCond .ne 5, 3) := by decide +kernel
theorem d_Q_readChoice_66 : decode m_Q_readChoice.2.1 66 = .ok (.aconst_null, 1) := by decide +kernel
theorem d_Q_readChoice_67 : decode m_Q_readChoice.2.1 67 = .ok (.areturn, 1) := by decide +kernel
theorem d_Q_readChoice_68 : decode m_Q_readChoice.2.1 68 = .ok (.new 36, 3) := by decide +kernel
theorem d_Q_readChoice_71 : decode m_Q_readChoice.2.1 71 = .ok (.dup, 1) := by decide +kernel
theorem d_Q_readChoice_72 : decode m_Q_readChoice.2.1 72 = .ok (.iload 4, 2) := by decide +kernel
theorem d_Q_readChoice_74 : decode m_Q_readChoice.2.1 74 = .ok (.ifCond .eq 8, 3) := by decide +kernel
theorem d_Q_readChoice_77 : decode m_Q_readChoice.2.1 77 = .ok (.bipush 12, 2) := by decide +kernel
theorem d_Q_readChoice_79 : decode m_Q_readChoice.2.1 79 = .ok (.goto 5, 3) := by decide +kernel
theorem d_Q_readChoice_82 : decode m_Q_readChoice.2.1 82 = .ok (.bipush 11, 2) := by decide +kernel
theorem d_Q_readChoice_84 : decode m_Q_readChoice.2.1 84 = .ok (.iconst 0, 1) := by decide +kernel
theorem d_Q_readChoice_85 : decode m_Q_readChoice.2.1 85 = .ok (.iload_n 2, 1) := by decide +kernel
theorem d_Q_readChoice_86 : decode m_Q_readChoice.2.1 86 = .ok (.invokespecial 38, 3) := by decide +kernel
theorem d_Q_readChoice_89 : decode m_Q_readChoice.2.1 89 = .ok (.astore 5, 2) := by decide +kernel
theorem d_Q_readChoice_91 : decode m_Q_readChoice.2.1 91 = .ok (.aload 5, 2) := by decide +kernel
theorem d_Q_readChoice_93 : decode m_Q_readChoice.2.1 93 = .ok (.aload_n 3, 1) := by decide +kernel
theorem d_Q_readChoice_94 : decode m_Q_readChoice.2.1 94 = .ok (.invokevirtual 49, 3) := by decide +kernel
theorem d_Q_readChoice_97 : decode m_Q_readChoice.2.1 97 = .ok (.aload_n 0, 1) := by decide +kernel
theorem d_Q_readChoice_98 : decode m_Q_readChoice.2.1 98 = .ok (.aload 5, 2) := by decide +kernel
theorem d_Q_readChoice_100 : decode m_Q_readChoice.2.1 100 = .ok (.iconst 3, 1) := by decide +kernel
theorem d_Q_readChoice_101 : decode m_Q_readChoice.2.1 101 = .ok (.iload_n 1, 1) := by decide +kernel
theorem d_Q_readChoice_102 : decode m_Q_readChoice.2.1 102 = .ok (.invokevirtual 60, 3) := by decide +kernel
theorem d_Q_readChoice_105 : decode m_Q_readChoice.2.1 105 = .ok (.ifnull 56, 3) := by decide +kernel
theorem d_Q_readChoice_108 : decode m_Q_readChoice.2.1 108 = .ok (.aload_n 0, 1) := by decide +kernel
theorem d_Q_readChoice_109 : decode m_Q_readChoice.2.1 109 = .ok (.bipush 63, 2) := by decide +kernel
theorem d_Q_readChoice_111 : decode m_Q_readChoice.2.1 111 = .ok (.invokevirtual 68, 3) := by decide +kernel
theorem d_Q_readChoice_114 : decode m_Q_readChoice.2.1 114 = .ok (.ifCond .eq 47, 3) := by decide +kernel
theorem d_Q_readChoice_117 : decode m_Q_readChoice.2.1 117 = .ok (.aload_n 0, 1) := by decide +kernel
theorem d_Q_readChoice_118 : decode m_Q_readChoice.2.1 118 = .ok (.aload 5, 2) := by decide +kernel
theorem d_Q_readChoice_120 : decode m_Q_readChoice.2.1 120 = .ok (.iconst 3, 1) := by decide +kernel
theorem d_Q_readChoice_121 : decode m_Q_readChoice.2.1 121 = .ok (.iload_n 1, 1) := by decide +kernel
theorem d_Q_readChoice_122 : decode m_Q_readChoice.2.1 122 = .ok (.invokevirtual 60, 3) := by decide +kernel
theorem d_Q_readChoice_125 : decode m_Q_readChoice.2.1 125 = .ok (.ifnull 36, 3) := by decide +kernel
theorem d_Q_readChoice_128 : decode m_Q_readChoice.2.1 128 = .ok (.aload_n 0, 1) := by decide +kernel
theorem d_Q_readChoice_129 : decode m_Q_readChoice.2.1 129 = .ok (.bipush 58, 2) := by decide +kernel
theorem d_Q_readChoice_131 : decode m_Q_readChoice.2.1 131 = .ok (.invokevirtual 68, 3) := by decide +kernel
theorem d_Q_readChoice_134 : decode m_Q_readChoice.2.1 134 = .ok (.ifCond .eq 27, 3) := by decide +kernel
theorem d_Q_readChoice_137 : decode m_Q_readChoice.2.1 137 = .ok (.aload_n 0, 1) := by decide +kernel
theorem d_Q_readChoice_138 : decode m_Q_readChoice.2.1 138 = .ok (.aload 5, 2) := by decide +kernel
theorem d_Q_readChoice_140 : decode m_Q_readChoice.2.1 140 = .ok (.iconst 3, 1) := by decide +kernel
theorem d_Q_readChoice_141 : decode m_Q_readChoice.2.1 141 = .ok (.iload_n 1, 1) := by decide +kernel
theorem d_Q_readChoice_142 : decode m_Q_readChoice.2.1 142 = .ok (.invokevirtual 60, 3) := by decide +kernel
theorem d_Q_readChoice_145 : decode m_Q_readChoice.2.1 145 = .ok (.ifnull 16, 3) := by decide +kernel
theorem d_Q_readChoice_148 : decode m_Q_readChoice.2.1 148 = .ok (.aload_n 0, 1) := by decide +kernel
theorem d_Q_readChoice_149 : decode m_Q_readChoice.2.1 149 = .ok (.bipush 93, 2) := by decide +kernel
theorem d_Q_readChoice_151 : decode m_Q_readChoice.2.1 151 = .ok (.invokevirtual 68, 3) := by decide +kernel
theorem d_Q_readChoice_154 : decode m_Q_readChoice.2.1 154 = .ok (.ifCond .eq 7, 3) := by decide +kernel
theorem d_Q_readChoice_157 : decode m_Q_readChoice.2.1 157 = .ok (.iconst 1, 1) := by decide +kernel
theorem d_Q_readChoice_158 : decode m_Q_readChoice.2.1 158 = .ok (.goto 4, 3) := by decide +kernel
theorem d_Q_readChoice_161 : decode m_Q_readChoice.2.1 161 = .ok (.iconst 0, 1) := by decide +kernel
theorem d_Q_readChoice_162 : decode m_Q_readChoice.2.1 162 = .ok (.istore 6, 2) := by decide +kernel
theorem d_Q_readChoice_164 : decode m_Q_readChoice.2.1 164 = .ok (.iload 6, 2) := by decide +kernel
theorem d_Q_readChoice_166 : decode m_Q_readChoice.2.1 166 = .ok (.ifCond .eq 8, 3) := by decide +kernel
theorem d_Q_readChoice_169 : decode m_Q_readChoice.2.1 169 = .ok (.aload 5, 2) := by decide +kernel
theorem d_Q_readChoice_171 : decode m_Q_readChoice.2.1 171 = .ok (.goto 4, 3) := by decide +kernel
theorem d_Q_readChoice_174 : decode m_Q_readChoice.2.1 174 = .ok (.aconst_null, 1) := by decide +kernel
theorem d_Q_readChoice_175 : decode m_Q_readChoice.2.1 175 = .ok (.areturn, 1) := by decide +kernel
theorem d_Q_readPieces_0 : decode m_Q_readPieces.2.1 0 = .ok (.iconst 1, 1) := by decide +kernel
theorem d_Q_readPieces_1 : decode m_Q_readPieces.2.1 1 = .ok (.istore 5, 2) := by decide +kernel
theorem d_Q_readPieces_3 : decode m_Q_readPieces.2.1 3 = .ok (.iload 5, 2) := by decide +kernel
theorem d_Q_readPieces_5 : decode m_Q_readPieces.2.1 5 = .ok (.bipush 6, 2) := by decide +kernel
theorem d_Q_readPieces_7 : decode m_Q_readPieces.2.1 7 = .ok (.if_icmp .gt 50, 3) := by decide +kernel
theorem d_Q_readPieces_10 : decode m_Q_readPieces.2.1 10 = .ok (.aload_n 0, 1) := by decide +kernel
theorem d_Q_readPieces_11 : decode m_Q_readPieces.2.1 11 = .ok (.aload_n 1, 1) := by decide +kernel
theorem d_Q_readPieces_12 : decode m_Q_readPieces.2.1 12 = .ok (.iload_n 2, 1) := by decide +kernel
theorem d_Q_readPieces_13 : decode m_Q_readPieces.2.1 13 = .ok (.iload_n 3, 1) := by decide +kernel
theorem d_Q_readPieces_14 : decode m_Q_readPieces.2.1 14 = .ok (.invokevirtual 60, 3) := by decide +kernel
theorem d_Q_readPieces_17 : decode m_Q_readPieces.2.1 17 = .ok (.ifnonnull 5, 3) := by decide +kernel
theorem d_Q_readPieces_20 : decode m_Q_readPieces.2.1 20 = .ok (.iconst 0, 1) := by decide +kernel
theorem d_Q_readPieces_21 : decode m_Q_readPieces.2.1 21 = .ok (.ireturn, 1) := by decide +kernel
theorem d_Q_readPieces_22 : decode m_Q_readPieces.2.1 22 = .ok (.aload_n 0, 1) := by decide +kernel
theorem d_Q_readPieces_23 : decode m_Q_readPieces.2.1 23 = .ok (.invokevirtual 53, 3) := by decide +kernel
theorem d_Q_readPieces_26 : decode m_Q_readPieces.2.1 26 = .ok (.iload 4, 2) := by decide +kernel
theorem d_Q_readPieces_28 : decode m_Q_readPieces.2.1 28 = .ok (.if_icmp .ne 23, 3) := by decide +kernel
theorem d_Q_readPieces_31 : decode m_Q_readPieces.2.1 31 = .ok (.iload 4, 2) := by decide +kernel
theorem d_Q_readPieces_33 : decode m_Q_readPieces.2.1 33 = .ok (.ifCond .eq 12, 3) := by decide +kernel
theorem d_Q_readPieces_36 : decode m_Q_readPieces.2.1 36 = .ok (.aload_n 0, 1) := by decide +kernel
theorem d_Q_readPieces_37 : decode m_Q_readPieces.2.1 37 = .ok (.iload 4, 2) := by decide +kernel
theorem d_Q_readPieces_39 : decode m_Q_readPieces.2.1 39 = .ok (.invokevirtual 68, 3) := by decide +kernel
theorem d_Q_readPieces_42 : decode m_Q_readPieces.2.1 42 = .ok (.ifCond .eq 7, 3) := by decide +kernel
theorem d_Q_readPieces_45 : decode m_Q_readPieces.2.1 45 = .ok (.iconst 1, 1) := by decide +kernel
theorem d_Q_readPieces_46 : decode m_Q_readPieces.2.1 46 = .ok (.goto 4, 3) := by decide +kernel
theorem d_Q_readPieces_49 : decode m_Q_readPieces.2.1 49 = .ok (.iconst 0, 1) := by decide +kernel
theorem d_Q_readPieces_50 : decode m_Q_readPieces.2.1 50 = .ok (.ireturn, 1) := by decide +kernel
theorem d_Q_readPieces_51 : decode m_Q_readPieces.2.1 51 = .ok (.iinc 5 1, 3) := by decide +kernel
theorem d_Q_readPieces_54 : decode m_Q_readPieces.2.1 54 = .ok (.goto (-51), 3) := by decide +kernel
theorem d_Q_readPieces_57 : decode m_Q_readPieces.2.1 57 = .ok (.iconst 0, 1) := by decide +kernel
theorem d_Q_readPieces_58 : decode m_Q_readPieces.2.1 58 = .ok (.ireturn, 1) := by decide +kernel
theorem d_Q_readVariables_0 : decode m_Q_readVariables.2.1 0 = .ok (.iconst 1, 1) := by decide +kernel
theorem d_Q_readVariables_1 : decode m_Q_readVariables.2.1 1 = .ok (.istore 4, 2) := by decide +kernel
theorem d_Q_readVariables_3 : decode m_Q_readVariables.2.1 3 = .ok (.iload 4, 2) := by decide +kernel
theorem d_Q_readVariables_5 : decode m_Q_readVariables.2.1 5 = .ok (.iload_n 2, 1) := by decide +kernel
theorem d_Q_readVariables_6 : decode m_Q_readVariables.2.1 6 = .ok (.if_icmp .gt 46, 3) := by decide +kernel
theorem d_Q_readVariables_9 : decode m_Q_readVariables.2.1 9 = .ok (.aload_n 0, 1) := by decide +kernel
theorem d_Q_readVariables_10 : decode m_Q_readVariables.2.1 10 = .ok (.invokevirtual 53, 3) := by decide +kernel
theorem d_Q_readVariables_13 : decode m_Q_readVariables.2.1 13 = .ok (.istore 5, 2) := by decide +kernel
theorem d_Q_readVariables_15 : decode m_Q_readVariables.2.1 15 = .ok (.iload 5, 2) := by decide +kernel
theorem d_Q_readVariables_17 : decode m_Q_readVariables.2.1 17 = .ok (.invokestatic 79, 3) := by decide +kernel
theorem d_Q_readVariables_20 : decode m_Q_readVariables.2.1 20 = .ok (.ifCond .ne 5, 3) := by decide +kernel
theorem d_Q_readVariables_23 : decode m_Q_readVariables.2.1 23 = .ok (.iconst 0, 1) := by decide +kernel
theorem d_Q_readVariables_24 : decode m_Q_readVariables.2.1 24 = .ok (.ireturn, 1) := by decide +kernel
theorem d_Q_readVariables_25 : decode m_Q_readVariables.2.1 25 = .ok (.aload_n 1, 1) := by decide +kernel
theorem d_Q_readVariables_26 : decode m_Q_readVariables.2.1 26 = .ok (.aload_n 0, 1) := by decide +kernel
theorem d_Q_readVariables_27 : decode m_Q_readVariables.2.1 27 = .ok (.iconst 5, 1) := by decide +kernel
theorem d_Q_readVariables_28 : decode m_Q_readVariables.2.1 28 = .ok (.iload 5, 2) := by decide +kernel
theorem d_Q_readVariables_30 : decode m_Q_readVariables.2.1 30 = .ok (.invokevirtual 57, 3) := by decide +kernel
theorem d_Q_readVariables_33 : decode m_Q_readVariables.2.1 33 = .ok (.invokevirtual 49, 3) := by decide +kernel
theorem d_Q_readVariables_36 : decode m_Q_readVariables.2.1 36 = .ok (.aload_n 0, 1) := by decide +kernel
theorem d_Q_readVariables_37 : decode m_Q_readVariables.2.1 37 = .ok (.iload_n 3, 1) := by decide +kernel
theorem d_Q_readVariables_38 : decode m_Q_readVariables.2.1 38 = .ok (.invokevirtual 68, 3) := by decide +kernel
theorem d_Q_readVariables_41 : decode m_Q_readVariables.2.1 41 = .ok (.ifCond .eq 5, 3) := by decide +kernel
theorem d_Q_readVariables_44 : decode m_Q_readVariables.2.1 44 = .ok (.iconst 1, 1) := by decide +kernel
theorem d_Q_readVariables_45 : decode m_Q_readVariables.2.1 45 = .ok (.ireturn, 1) := by decide +kernel
theorem d_Q_readVariables_46 : decode m_Q_readVariables.2.1 46 = .ok (.iinc 4 1, 3) := by decide +kernel
theorem d_Q_readVariables_49 : decode m_Q_readVariables.2.1 49 = .ok (.goto (-46), 3) := by decide +kernel
theorem d_Q_readVariables_52 : decode m_Q_readVariables.2.1 52 = .ok (.iconst 0, 1) := by decide +kernel
theorem d_Q_readVariables_53 : decode m_Q_readVariables.2.1 53 = .ok (.ireturn, 1) := by decide +kernel
theorem d_Q_withPiece_0 : decode m_Q_withPiece.2.1 0 = .ok (.aload_n 1, 1) := by decide +kernel
theorem d_Q_withPiece_1 : decode m_Q_withPiece.2.1 1 = .ok (.ifnonnull 5, 3) := by decide +kernel
theorem d_Q_withPiece_4 : decode m_Q_withPiece.2.1 4 = .ok (.aconst_null, 1) := by decide +kernel
theorem d_Q_withPiece_5 : decode m_Q_withPiece.2.1 5 = .ok (.areturn, 1) := by decide +kernel
theorem d_Q_withPiece_6 : decode m_Q_withPiece.2.1 6 = .ok (.aload_n 0, 1) := by decide +kernel
theorem d_Q_withPiece_7 : decode m_Q_withPiece.2.1 7 = .ok (.iload_n 2, 1) := by decide +kernel
theorem d_Q_withPiece_8 : decode m_Q_withPiece.2.1 8 = .ok (.iload_n 3, 1) := by decide +kernel
theorem d_Q_withPiece_9 : decode m_Q_withPiece.2.1 9 = .ok (.invokevirtual 28, 3) := by decide +kernel
theorem d_Q_withPiece_12 : decode m_Q_withPiece.2.1 12 = .ok (.astore 4, 2) := by decide +kernel
theorem d_Q_withPiece_14 : decode m_Q_withPiece.2.1 14 = .ok (.aload 4, 2) := by decide +kernel
theorem d_Q_withPiece_16 : decode m_Q_withPiece.2.1 16 = .ok (.ifnonnull 5, 3) := by decide +kernel
theorem d_Q_withPiece_19 : decode m_Q_withPiece.2.1 19 = .ok (.aconst_null, 1) := by decide +kernel
theorem d_Q_withPiece_20 : decode m_Q_withPiece.2.1 20 = .ok (.areturn, 1) := by decide +kernel
theorem d_Q_withPiece_21 : decode m_Q_withPiece.2.1 21 = .ok (.aload_n 1, 1) := by decide +kernel
theorem d_Q_withPiece_22 : decode m_Q_withPiece.2.1 22 = .ok (.aload 4, 2) := by decide +kernel
theorem d_Q_withPiece_24 : decode m_Q_withPiece.2.1 24 = .ok (.invokevirtual 49, 3) := by decide +kernel
theorem d_Q_withPiece_27 : decode m_Q_withPiece.2.1 27 = .ok (.aload_n 1, 1) := by decide +kernel
theorem d_Q_withPiece_28 : decode m_Q_withPiece.2.1 28 = .ok (.areturn, 1) := by decide +kernel
theorem d_Q_whole_0 : decode m_Q_whole.2.1 0 = .ok (.aload_n 0, 1) := by decide +kernel
theorem d_Q_whole_1 : decode m_Q_whole.2.1 1 = .ok (.getfield 19, 3) := by decide +kernel
theorem d_Q_whole_4 : decode m_Q_whole.2.1 4 = .ok (.aload_n 0, 1) := by decide +kernel
theorem d_Q_whole_5 : decode m_Q_whole.2.1 5 = .ok (.getfield 15, 3) := by decide +kernel
theorem d_Q_whole_8 : decode m_Q_whole.2.1 8 = .ok (.if_icmp .ne 7, 3) := by decide +kernel
theorem d_Q_whole_11 : decode m_Q_whole.2.1 11 = .ok (.aload_n 1, 1) := by decide +kernel
theorem d_Q_whole_12 : decode m_Q_whole.2.1 12 = .ok (.goto 4, 3) := by decide +kernel
theorem d_Q_whole_15 : decode m_Q_whole.2.1 15 = .ok (.aconst_null, 1) := by decide +kernel
theorem d_Q_whole_16 : decode m_Q_whole.2.1 16 = .ok (.areturn, 1) := by decide +kernel
theorem d_Q_leaf_0 : decode m_Q_leaf.2.1 0 = .ok (.new 36, 3) := by decide +kernel
theorem d_Q_leaf_3 : decode m_Q_leaf.2.1 3 = .ok (.dup, 1) := by decide +kernel
theorem d_Q_leaf_4 : decode m_Q_leaf.2.1 4 = .ok (.iload_n 1, 1) := by decide +kernel
theorem d_Q_leaf_5 : decode m_Q_leaf.2.1 5 = .ok (.iload_n 2, 1) := by decide +kernel
theorem d_Q_leaf_6 : decode m_Q_leaf.2.1 6 = .ok (.aload_n 0, 1) := by decide +kernel
theorem d_Q_leaf_7 : decode m_Q_leaf.2.1 7 = .ok (.getfield 19, 3) := by decide +kernel
theorem d_Q_leaf_10 : decode m_Q_leaf.2.1 10 = .ok (.invokespecial 38, 3) := by decide +kernel
theorem d_Q_leaf_13 : decode m_Q_leaf.2.1 13 = .ok (.astore_n 3, 1) := by decide +kernel
theorem d_Q_leaf_14 : decode m_Q_leaf.2.1 14 = .ok (.aload_n 0, 1) := by decide +kernel
theorem d_Q_leaf_15 : decode m_Q_leaf.2.1 15 = .ok (.dup, 1) := by decide +kernel
theorem d_Q_leaf_16 : decode m_Q_leaf.2.1 16 = .ok (.getfield 19, 3) := by decide +kernel
theorem d_Q_leaf_19 : decode m_Q_leaf.2.1 19 = .ok (.iconst 1, 1) := by decide +kernel
theorem d_Q_leaf_20 : decode m_Q_leaf.2.1 20 = .ok (.iadd, 1) := by decide +kernel
theorem d_Q_leaf_21 : decode m_Q_leaf.2.1 21 = .ok (.putfield 19, 3) := by decide +kernel
theorem d_Q_leaf_24 : decode m_Q_leaf.2.1 24 = .ok (.aload_n 3, 1) := by decide +kernel
theorem d_Q_leaf_25 : decode m_Q_leaf.2.1 25 = .ok (.areturn, 1) := by decide +kernel
theorem d_Q_peek_0 : decode m_Q_peek.2.1 0 = .ok (.aload_n 0, 1) := by decide +kernel
theorem d_Q_peek_1 : decode m_Q_peek.2.1 1 = .ok (.getfield 19, 3) := by decide +kernel
theorem d_Q_peek_4 : decode m_Q_peek.2.1 4 = .ok (.ifCond .lt 26, 3) := by decide +kernel
theorem d_Q_peek_7 : decode m_Q_peek.2.1 7 = .ok (.aload_n 0, 1) := by decide +kernel
theorem d_Q_peek_8 : decode m_Q_peek.2.1 8 = .ok (.getfield 19, 3) := by decide +kernel
theorem d_Q_peek_11 : decode m_Q_peek.2.1 11 = .ok (.aload_n 0, 1) := by decide +kernel
theorem d_Q_peek_12 : decode m_Q_peek.2.1 12 = .ok (.getfield 15, 3) := by decide +kernel
theorem d_Q_peek_15 : decode m_Q_peek.2.1 15 = .ok (.if_icmp .ge 15, 3) := by decide +kernel
theorem d_Q_peek_18 : decode m_Q_peek.2.1 18 = .ok (.aload_n 0, 1) := by decide +kernel
theorem d_Q_peek_19 : decode m_Q_peek.2.1 19 = .ok (.getfield 9, 3) := by decide +kernel
theorem d_Q_peek_22 : decode m_Q_peek.2.1 22 = .ok (.aload_n 0, 1) := by decide +kernel
theorem d_Q_peek_23 : decode m_Q_peek.2.1 23 = .ok (.getfield 19, 3) := by decide +kernel
theorem d_Q_peek_26 : decode m_Q_peek.2.1 26 = .ok (.caload, 1) := by decide +kernel
theorem d_Q_peek_27 : decode m_Q_peek.2.1 27 = .ok (.goto 4, 3) := by decide +kernel
theorem d_Q_peek_30 : decode m_Q_peek.2.1 30 = .ok (.iconst 0, 1) := by decide +kernel
theorem d_Q_peek_31 : decode m_Q_peek.2.1 31 = .ok (.ireturn, 1) := by decide +kernel
theorem d_Q_take_0 : decode m_Q_take.2.1 0 = .ok (.aload_n 0, 1) := by decide +kernel
theorem d_Q_take_1 : decode m_Q_take.2.1 1 = .ok (.invokevirtual 53, 3) := by decide +kernel
theorem d_Q_take_4 : decode m_Q_take.2.1 4 = .ok (.iload_n 1, 1) := by decide +kernel
theorem d_Q_take_5 : decode m_Q_take.2.1 5 = .ok (.if_icmp .ne 7, 3) := by decide +kernel
theorem d_Q_take_8 : decode m_Q_take.2.1 8 = .ok (.iconst 1, 1) := by decide +kernel
theorem d_Q_take_9 : decode m_Q_take.2.1 9 = .ok (.goto 4, 3) := by decide +kernel
theorem d_Q_take_12 : decode m_Q_take.2.1 12 = .ok (.iconst 0, 1) := by decide +kernel
theorem d_Q_take_13 : decode m_Q_take.2.1 13 = .ok (.istore_n 2, 1) := by decide +kernel
theorem d_Q_take_14 : decode m_Q_take.2.1 14 = .ok (.iload_n 2, 1) := by decide +kernel
theorem d_Q_take_15 : decode m_Q_take.2.1 15 = .ok (.ifCond .eq 13, 3) := by decide +kernel
theorem d_Q_take_18 : decode m_Q_take.2.1 18 = .ok (.aload_n 0, 1) := by decide +kernel
theorem d_Q_take_19 : decode m_Q_take.2.1 19 = .ok (.dup, 1) := by decide +kernel
theorem d_Q_take_20 : decode m_Q_take.2.1 20 = .ok (.getfield 19, 3) := by decide +kernel
theorem d_Q_take_23 : decode m_Q_take.2.1 23 = .ok (.iconst 1, 1) := by decide +kernel
theorem d_Q_take_24 : decode m_Q_take.2.1 24 = .ok (.iadd, 1) := by decide +kernel
theorem d_Q_take_25 : decode m_Q_take.2.1 25 = .ok (.putfield 19, 3) := by decide +kernel
theorem d_Q_take_28 : decode m_Q_take.2.1 28 = .ok (.iload_n 2, 1) := by decide +kernel
theorem d_Q_take_29 : decode m_Q_take.2.1 29 = .ok (.ireturn, 1) := by decide +kernel
theorem d_R_init_0 : decode m_R_init.2.1 0 = .ok (.aload_n 0, 1) := by decide +kernel
theorem d_R_init_1 : decode m_R_init.2.1 1 = .ok (.invokespecial 3, 3) := by decide +kernel
theorem d_R_init_4 : decode m_R_init.2.1 4 = .ok (.aload_n 0, 1) := by decide +kernel
theorem d_R_init_5 : decode m_R_init.2.1 5 = .ok (.iload_n 1, 1) := by decide +kernel
theorem d_R_init_6 : decode m_R_init.2.1 6 = .ok (.iconst 1, 1) := by decide +kernel
theorem d_R_init_7 : decode m_R_init.2.1 7 = .ok (.invokestatic 9, 3) := by decide +kernel
theorem d_R_init_10 : decode m_R_init.2.1 10 = .ok (.newarray .int, 2) := by decide +kernel
theorem d_R_init_12 : decode m_R_init.2.1 12 = .ok (.putfield 15, 3) := by decide +kernel
theorem d_R_init_15 : decode m_R_init.2.1 15 = .ok (.aload_n 0, 1) := by decide +kernel
theorem d_R_init_16 : decode m_R_init.2.1 16 = .ok (.iconst 0, 1) := by decide +kernel
theorem d_R_init_17 : decode m_R_init.2.1 17 = .ok (.putfield 21, 3) := by decide +kernel
theorem d_R_init_20 : decode m_R_init.2.1 20 = .ok (.return_, 1) := by decide +kernel
theorem d_R_size_0 : decode m_R_size.2.1 0 = .ok (.aload_n 0, 1) := by decide +kernel
theorem d_R_size_1 : decode m_R_size.2.1 1 = .ok (.getfield 21, 3) := by decide +kernel
theorem d_R_size_4 : decode m_R_size.2.1 4 = .ok (.ireturn, 1) := by decide +kernel
theorem d_R_push_0 : decode m_R_push.2.1 0 = .ok (.aload_n 0, 1) := by decide +kernel
theorem d_R_push_1 : decode m_R_push.2.1 1 = .ok (.getfield 21, 3) := by decide +kernel
theorem d_R_push_4 : decode m_R_push.2.1 4 = .ok (.aload_n 0, 1) := by decide +kernel
theorem d_R_push_5 : decode m_R_push.2.1 5 = .ok (.getfield 15, 3) := by decide +kernel
theorem d_R_push_8 : decode m_R_push.2.1 8 = .ok (.arraylength, 1) := by decide +kernel
theorem d_R_push_9 : decode m_R_push.2.1 9 = .ok (.if_icmp .ne 20, 3) := by decide +kernel
theorem d_R_push_12 : decode m_R_push.2.1 12 = .ok (.aload_n 0, 1) := by decide +kernel
theorem d_R_push_13 : decode m_R_push.2.1 13 = .ok (.aload_n 0, 1) := by decide +kernel
theorem d_R_push_14 : decode m_R_push.2.1 14 = .ok (.getfield 15, 3) := by decide +kernel
theorem d_R_push_17 : decode m_R_push.2.1 17 = .ok (.iconst 2, 1) := by decide +kernel
theorem d_R_push_18 : decode m_R_push.2.1 18 = .ok (.aload_n 0, 1) := by decide +kernel
theorem d_R_push_19 : decode m_R_push.2.1 19 = .ok (.getfield 21, 3) := by decide +kernel
theorem d_R_push_22 : decode m_R_push.2.1 22 = .ok (.imul, 1) := by decide +kernel
theorem d_R_push_23 : decode m_R_push.2.1 23 = .ok (.invokestatic 25, 3) := by decide +kernel
theorem d_R_push_26 : decode m_R_push.2.1 26 = .ok (.putfield 15, 3) := by decide +kernel
theorem d_R_push_29 : decode m_R_push.2.1 29 = .ok (.aload_n 0, 1) := by decide +kernel
theorem d_R_push_30 : decode m_R_push.2.1 30 = .ok (.getfield 15, 3) := by decide +kernel
theorem d_R_push_33 : decode m_R_push.2.1 33 = .ok (.aload_n 0, 1) := by decide +kernel
theorem d_R_push_34 : decode m_R_push.2.1 34 = .ok (.getfield 21, 3) := by decide +kernel
theorem d_R_push_37 : decode m_R_push.2.1 37 = .ok (.iload_n 1, 1) := by decide +kernel
theorem d_R_push_38 : decode m_R_push.2.1 38 = .ok (.iastore, 1) := by decide +kernel
theorem d_R_push_39 : decode m_R_push.2.1 39 = .ok (.aload_n 0, 1) := by decide +kernel
theorem d_R_push_40 : decode m_R_push.2.1 40 = .ok (.dup, 1) := by decide +kernel
theorem d_R_push_41 : decode m_R_push.2.1 41 = .ok (.getfield 21, 3) := by decide +kernel
theorem d_R_push_44 : decode m_R_push.2.1 44 = .ok (.iconst 1, 1) := by decide +kernel
theorem d_R_push_45 : decode m_R_push.2.1 45 = .ok (.iadd, 1) := by decide +kernel
theorem d_R_push_46 : decode m_R_push.2.1 46 = .ok (.putfield 21, 3) := by decide +kernel
theorem d_R_push_49 : decode m_R_push.2.1 49 = .ok (.return_, 1) := by decide +kernel
theorem d_R_pop_0 : decode m_R_pop.2.1 0 = .ok (.aload_n 0, 1) := by decide +kernel
theorem d_R_pop_1 : decode m_R_pop.2.1 1 = .ok (.getfield 21, 3) := by decide +kernel
theorem d_R_pop_4 : decode m_R_pop.2.1 4 = .ok (.ifCond .ne 5, 3) := by decide +kernel
theorem d_R_pop_7 : decode m_R_pop.2.1 7 = .ok (.iconst (-1), 1) := by decide +kernel
theorem d_R_pop_8 : decode m_R_pop.2.1 8 = .ok (.ireturn, 1) := by decide +kernel
theorem d_R_pop_9 : decode m_R_pop.2.1 9 = .ok (.aload_n 0, 1) := by decide +kernel
theorem d_R_pop_10 : decode m_R_pop.2.1 10 = .ok (.dup, 1) := by decide +kernel
theorem d_R_pop_11 : decode m_R_pop.2.1 11 = .ok (.getfield 21, 3) := by decide +kernel
theorem d_R_pop_14 : decode m_R_pop.2.1 14 = .ok (.iconst 1, 1) := by decide +kernel
theorem d_R_pop_15 : decode m_R_pop.2.1 15 = .ok (.isub, 1) := by decide +kernel
theorem d_R_pop_16 : decode m_R_pop.2.1 16 = .ok (.putfield 21, 3) := by decide +kernel
theorem d_R_pop_19 : decode m_R_pop.2.1 19 = .ok (.aload_n 0, 1) := by decide +kernel
theorem d_R_pop_20 : decode m_R_pop.2.1 20 = .ok (.getfield 15, 3) := by decide +kernel
theorem d_R_pop_23 : decode m_R_pop.2.1 23 = .ok (.aload_n 0, 1) := by decide +kernel
theorem d_R_pop_24 : decode m_R_pop.2.1 24 = .ok (.getfield 21, 3) := by decide +kernel
theorem d_R_pop_27 : decode m_R_pop.2.1 27 = .ok (.iaload, 1) := by decide +kernel
theorem d_R_pop_28 : decode m_R_pop.2.1 28 = .ok (.ireturn, 1) := by decide +kernel
theorem d_R_get_0 : decode m_R_get.2.1 0 = .ok (.iload_n 1, 1) := by decide +kernel
theorem d_R_get_1 : decode m_R_get.2.1 1 = .ok (.ifCond .lt 20, 3) := by decide +kernel
theorem d_R_get_4 : decode m_R_get.2.1 4 = .ok (.iload_n 1, 1) := by decide +kernel
theorem d_R_get_5 : decode m_R_get.2.1 5 = .ok (.aload_n 0, 1) := by decide +kernel
theorem d_R_get_6 : decode m_R_get.2.1 6 = .ok (.getfield 21, 3) := by decide +kernel
theorem d_R_get_9 : decode m_R_get.2.1 9 = .ok (.if_icmp .ge 12, 3) := by decide +kernel
theorem d_R_get_12 : decode m_R_get.2.1 12 = .ok (.aload_n 0, 1) := by decide +kernel
theorem d_R_get_13 : decode m_R_get.2.1 13 = .ok (.getfield 15, 3) := by decide +kernel
theorem d_R_get_16 : decode m_R_get.2.1 16 = .ok (.iload_n 1, 1) := by decide +kernel
theorem d_R_get_17 : decode m_R_get.2.1 17 = .ok (.iaload, 1) := by decide +kernel
theorem d_R_get_18 : decode m_R_get.2.1 18 = .ok (.goto 4, 3) := by decide +kernel
theorem d_R_get_21 : decode m_R_get.2.1 21 = .ok (.iconst (-1), 1) := by decide +kernel
theorem d_R_get_22 : decode m_R_get.2.1 22 = .ok (.ireturn, 1) := by decide +kernel
theorem d_R_set_0 : decode m_R_set.2.1 0 = .ok (.iload_n 1, 1) := by decide +kernel
theorem d_R_set_1 : decode m_R_set.2.1 1 = .ok (.ifCond .lt 18, 3) := by decide +kernel
theorem d_R_set_4 : decode m_R_set.2.1 4 = .ok (.iload_n 1, 1) := by decide +kernel
theorem d_R_set_5 : decode m_R_set.2.1 5 = .ok (.aload_n 0, 1) := by decide +kernel
theorem d_R_set_6 : decode m_R_set.2.1 6 = .ok (.getfield 21, 3) := by decide +kernel
theorem d_R_set_9 : decode m_R_set.2.1 9 = .ok (.if_icmp .ge 10, 3) := by decide +kernel
theorem d_R_set_12 : decode m_R_set.2.1 12 = .ok (.aload_n 0, 1) := by decide +kernel
theorem d_R_set_13 : decode m_R_set.2.1 13 = .ok (.getfield 15, 3) := by decide +kernel
theorem d_R_set_16 : decode m_R_set.2.1 16 = .ok (.iload_n 1, 1) := by decide +kernel
theorem d_R_set_17 : decode m_R_set.2.1 17 = .ok (.iload_n 2, 1) := by decide +kernel
theorem d_R_set_18 : decode m_R_set.2.1 18 = .ok (.iastore, 1) := by decide +kernel
theorem d_R_set_19 : decode m_R_set.2.1 19 = .ok (.return_, 1) := by decide +kernel
theorem d_R_cut_0 : decode m_R_cut.2.1 0 = .ok (.iload_n 1, 1) := by decide +kernel
theorem d_R_cut_1 : decode m_R_cut.2.1 1 = .ok (.ifCond .lt 16, 3) := by decide +kernel
theorem d_R_cut_4 : decode m_R_cut.2.1 4 = .ok (.iload_n 1, 1) := by decide +kernel
theorem d_R_cut_5 : decode m_R_cut.2.1 5 = .ok (.aload_n 0, 1) := by decide +kernel
theorem d_R_cut_6 : decode m_R_cut.2.1 6 = .ok (.getfield 21, 3) := by decide +kernel
theorem d_R_cut_9 : decode m_R_cut.2.1 9 = .ok (.if_icmp .ge 8, 3) := by decide +kernel
theorem d_R_cut_12 : decode m_R_cut.2.1 12 = .ok (.aload_n 0, 1) := by decide +kernel
theorem d_R_cut_13 : decode m_R_cut.2.1 13 = .ok (.iload_n 1, 1) := by decide +kernel
theorem d_R_cut_14 : decode m_R_cut.2.1 14 = .ok (.putfield 21, 3) := by decide +kernel
theorem d_R_cut_17 : decode m_R_cut.2.1 17 = .ok (.return_, 1) := by decide +kernel
theorem d_U_init_0 : decode m_U_init.2.1 0 = .ok (.aload_n 0, 1) := by decide +kernel
theorem d_U_init_1 : decode m_U_init.2.1 1 = .ok (.invokespecial 3, 3) := by decide +kernel
theorem d_U_init_4 : decode m_U_init.2.1 4 = .ok (.aload_n 0, 1) := by decide +kernel
theorem d_U_init_5 : decode m_U_init.2.1 5 = .ok (.aload_n 1, 1) := by decide +kernel
theorem d_U_init_6 : decode m_U_init.2.1 6 = .ok (.putfield 9, 3) := by decide +kernel
theorem d_U_init_9 : decode m_U_init.2.1 9 = .ok (.aload_n 0, 1) := by decide +kernel
theorem d_U_init_10 : decode m_U_init.2.1 10 = .ok (.aload_n 2, 1) := by decide +kernel
theorem d_U_init_11 : decode m_U_init.2.1 11 = .ok (.putfield 15, 3) := by decide +kernel
theorem d_U_init_14 : decode m_U_init.2.1 14 = .ok (.aload_n 0, 1) := by decide +kernel
theorem d_U_init_15 : decode m_U_init.2.1 15 = .ok (.aload_n 3, 1) := by decide +kernel
theorem d_U_init_16 : decode m_U_init.2.1 16 = .ok (.putfield 19, 3) := by decide +kernel
theorem d_U_init_19 : decode m_U_init.2.1 19 = .ok (.aload_n 0, 1) := by decide +kernel
theorem d_U_init_20 : decode m_U_init.2.1 20 = .ok (.iconst 0, 1) := by decide +kernel
theorem d_U_init_21 : decode m_U_init.2.1 21 = .ok (.putfield 23, 3) := by decide +kernel
theorem d_U_init_24 : decode m_U_init.2.1 24 = .ok (.aload_n 0, 1) := by decide +kernel
theorem d_U_init_25 : decode m_U_init.2.1 25 = .ok (.iconst 0, 1) := by decide +kernel
theorem d_U_init_26 : decode m_U_init.2.1 26 = .ok (.putfield 27, 3) := by decide +kernel
theorem d_U_init_29 : decode m_U_init.2.1 29 = .ok (.return_, 1) := by decide +kernel
theorem d_U_forgetSteps_0 : decode m_U_forgetSteps.2.1 0 = .ok (.aload_n 0, 1) := by decide +kernel
theorem d_U_forgetSteps_1 : decode m_U_forgetSteps.2.1 1 = .ok (.iconst 0, 1) := by decide +kernel
theorem d_U_forgetSteps_2 : decode m_U_forgetSteps.2.1 2 = .ok (.putfield 27, 3) := by decide +kernel
theorem d_U_forgetSteps_5 : decode m_U_forgetSteps.2.1 5 = .ok (.return_, 1) := by decide +kernel
theorem d_U_allSteps_0 : decode m_U_allSteps.2.1 0 = .ok (.aload_n 0, 1) := by decide +kernel
theorem d_U_allSteps_1 : decode m_U_allSteps.2.1 1 = .ok (.getfield 27, 3) := by decide +kernel
theorem d_U_allSteps_4 : decode m_U_allSteps.2.1 4 = .ok (.ireturn, 1) := by decide +kernel
theorem d_U_carryOut_0 : decode m_U_carryOut.2.1 0 = .ok (.aload_n 0, 1) := by decide +kernel
theorem d_U_carryOut_1 : decode m_U_carryOut.2.1 1 = .ok (.getfield 9, 3) := by decide +kernel
theorem d_U_carryOut_4 : decode m_U_carryOut.2.1 4 = .ok (.iload_n 1, 1) := by decide +kernel
theorem d_U_carryOut_5 : decode m_U_carryOut.2.1 5 = .ok (.invokevirtual 30, 3) := by decide +kernel
theorem d_U_carryOut_8 : decode m_U_carryOut.2.1 8 = .ok (.astore_n 3, 1) := by decide +kernel
theorem d_U_carryOut_9 : decode m_U_carryOut.2.1 9 = .ok (.aload_n 3, 1) := by decide +kernel
theorem d_U_carryOut_10 : decode m_U_carryOut.2.1 10 = .ok (.ifnonnull 5, 3) := by decide +kernel
theorem d_U_carryOut_13 : decode m_U_carryOut.2.1 13 = .ok (.iconst (-1), 1) := by decide +kernel
theorem d_U_carryOut_14 : decode m_U_carryOut.2.1 14 = .ok (.ireturn, 1) := by decide +kernel
theorem d_U_carryOut_15 : decode m_U_carryOut.2.1 15 = .ok (.aload_n 0, 1) := by decide +kernel
theorem d_U_carryOut_16 : decode m_U_carryOut.2.1 16 = .ok (.iconst 0, 1) := by decide +kernel
theorem d_U_carryOut_17 : decode m_U_carryOut.2.1 17 = .ok (.putfield 23, 3) := by decide +kernel
theorem d_U_carryOut_20 : decode m_U_carryOut.2.1 20 = .ok (.aload_n 0, 1) := by decide +kernel
theorem d_U_carryOut_21 : decode m_U_carryOut.2.1 21 = .ok (.aload_n 3, 1) := by decide +kernel
theorem d_U_carryOut_22 : decode m_U_carryOut.2.1 22 = .ok (.iload_n 2, 1) := by decide +kernel
theorem d_U_carryOut_23 : decode m_U_carryOut.2.1 23 = .ok (.invokevirtual 36, 3) := by decide +kernel
theorem d_U_carryOut_26 : decode m_U_carryOut.2.1 26 = .ok (.aload_n 0, 1) := by decide +kernel
theorem d_U_carryOut_27 : decode m_U_carryOut.2.1 27 = .ok (.aload_n 3, 1) := by decide +kernel
theorem d_U_carryOut_28 : decode m_U_carryOut.2.1 28 = .ok (.getfield 40, 3) := by decide +kernel
theorem d_U_carryOut_31 : decode m_U_carryOut.2.1 31 = .ok (.getfield 46, 3) := by decide +kernel
theorem d_U_carryOut_34 : decode m_U_carryOut.2.1 34 = .ok (.iconst 1, 1) := by decide +kernel
theorem d_U_carryOut_35 : decode m_U_carryOut.2.1 35 = .ok (.iload_n 2, 1) := by decide +kernel
theorem d_U_carryOut_36 : decode m_U_carryOut.2.1 36 = .ok (.invokevirtual 51, 3) := by decide +kernel
theorem d_U_carryOut_39 : decode m_U_carryOut.2.1 39 = .ok (.istore 4, 2) := by decide +kernel
theorem d_U_carryOut_41 : decode m_U_carryOut.2.1 41 = .ok (.aload_n 0, 1) := by decide +kernel
theorem d_U_carryOut_42 : decode m_U_carryOut.2.1 42 = .ok (.getfield 19, 3) := by decide +kernel
theorem d_U_carryOut_45 : decode m_U_carryOut.2.1 45 = .ok (.iload_n 2, 1) := by decide +kernel
theorem d_U_carryOut_46 : decode m_U_carryOut.2.1 46 = .ok (.invokevirtual 55, 3) := by decide +kernel
theorem d_U_carryOut_49 : decode m_U_carryOut.2.1 49 = .ok (.aload_n 0, 1) := by decide +kernel
theorem d_U_carryOut_50 : decode m_U_carryOut.2.1 50 = .ok (.dup, 1) := by decide +kernel
theorem d_U_carryOut_51 : decode m_U_carryOut.2.1 51 = .ok (.getfield 27, 3) := by decide +kernel
theorem d_U_carryOut_54 : decode m_U_carryOut.2.1 54 = .ok (.aload_n 0, 1) := by decide +kernel
theorem d_U_carryOut_55 : decode m_U_carryOut.2.1 55 = .ok (.getfield 23, 3) := by decide +kernel
theorem d_U_carryOut_58 : decode m_U_carryOut.2.1 58 = .ok (.iadd, 1) := by decide +kernel
theorem d_U_carryOut_59 : decode m_U_carryOut.2.1 59 = .ok (.putfield 27, 3) := by decide +kernel
theorem d_U_carryOut_62 : decode m_U_carryOut.2.1 62 = .ok (.iload 4, 2) := by decide +kernel
theorem d_U_carryOut_64 : decode m_U_carryOut.2.1 64 = .ok (.ireturn, 1) := by decide +kernel
theorem d_U_nameArguments_0 : decode m_U_nameArguments.2.1 0 = .ok (.iload_n 2, 1) := by decide +kernel
theorem d_U_nameArguments_1 : decode m_U_nameArguments.2.1 1 = .ok (.istore_n 3, 1) := by decide +kernel
theorem d_U_nameArguments_2 : decode m_U_nameArguments.2.1 2 = .ok (.aload_n 1, 1) := by decide +kernel
theorem d_U_nameArguments_3 : decode m_U_nameArguments.2.1 3 = .ok (.getfield 40, 3) := by decide +kernel
theorem d_U_nameArguments_6 : decode m_U_nameArguments.2.1 6 = .ok (.getfield 61, 3) := by decide +kernel
theorem d_U_nameArguments_9 : decode m_U_nameArguments.2.1 9 = .ok (.astore 4, 2) := by decide +kernel
theorem d_U_nameArguments_11 : decode m_U_nameArguments.2.1 11 = .ok (.aload 4, 2) := by decide +kernel
theorem d_U_nameArguments_13 : decode m_U_nameArguments.2.1 13 = .ok (.ifnull 41, 3) := by decide +kernel
theorem d_U_nameArguments_16 : decode m_U_nameArguments.2.1 16 = .ok (.aload 4, 2) := by decide +kernel
theorem d_U_nameArguments_18 : decode m_U_nameArguments.2.1 18 = .ok (.aload_n 1, 1) := by decide +kernel
theorem d_U_nameArguments_19 : decode m_U_nameArguments.2.1 19 = .ok (.getfield 40, 3) := by decide +kernel
theorem d_U_nameArguments_22 : decode m_U_nameArguments.2.1 22 = .ok (.getfield 46, 3) := by decide +kernel
theorem d_U_nameArguments_25 : decode m_U_nameArguments.2.1 25 = .ok (.if_acmp .eq 29, 3) := by decide +kernel
theorem d_U_nameArguments_28 : decode m_U_nameArguments.2.1 28 = .ok (.aload_n 0, 1) := by decide +kernel
theorem d_U_nameArguments_29 : decode m_U_nameArguments.2.1 29 = .ok (.getfield 19, 3) := by decide +kernel
theorem d_U_nameArguments_32 : decode m_U_nameArguments.2.1 32 = .ok (.iload_n 3, 1) := by decide +kernel
theorem d_U_nameArguments_33 : decode m_U_nameArguments.2.1 33 = .ok (.aload 4, 2) := by decide +kernel
theorem d_U_nameArguments_35 : decode m_U_nameArguments.2.1 35 = .ok (.getfield 64, 3) := by decide +kernel
theorem d_U_nameArguments_38 : decode m_U_nameArguments.2.1 38 = .ok (.invokevirtual 67, 3) := by decide +kernel
theorem d_U_nameArguments_41 : decode m_U_nameArguments.2.1 41 = .ok (.iinc 3 1, 3) := by decide +kernel
theorem d_U_nameArguments_44 : decode m_U_nameArguments.2.1 44 = .ok (.aload 4, 2) := by decide +kernel
theorem d_U_nameArguments_46 : decode m_U_nameArguments.2.1 46 = .ok (.getfield 71, 3) := by decide +kernel
theorem d_U_nameArguments_49 : decode m_U_nameArguments.2.1 49 = .ok (.astore 4, 2) := by decide +kernel
theorem d_U_nameArguments_51 : decode m_U_nameArguments.2.1 51 = .ok (.goto (-40), 3) := by decide +kernel
theorem d_U_nameArguments_54 : decode m_U_nameArguments.2.1 54 = .ok (.return_, 1) := by decide +kernel
theorem d_U_work_0 : decode m_U_work.2.1 0 = .ok (.aload_n 1, 1) := by decide +kernel
theorem d_U_work_1 : decode m_U_work.2.1 1 = .ok (.ifnull 18, 3) := by decide +kernel
theorem d_U_work_4 : decode m_U_work.2.1 4 = .ok (.aload_n 0, 1) := by decide +kernel
theorem d_U_work_5 : decode m_U_work.2.1 5 = .ok (.getfield 23, 3) := by decide +kernel
theorem d_U_work_8 : decode m_U_work.2.1 8 = .ok (.bipush 100, 2) := by decide +kernel
theorem d_U_work_10 : decode m_U_work.2.1 10 = .ok (.if_icmp .ge 9, 3) := by decide +kernel
theorem d_U_work_13 : decode m_U_work.2.1 13 = .ok (.iload_n 2, 1) := by decide +kernel
theorem d_U_work_14 : decode m_U_work.2.1 14 = .ok (.bipush 30, 2) := by decide +kernel
theorem d_U_work_16 : decode m_U_work.2.1 16 = .ok (.if_icmp .le 5, 3) := by decide +kernel
theorem d_U_work_19 : decode m_U_work.2.1 19 = .ok (.iconst (-1), 1) := by decide +kernel
theorem d_U_work_20 : decode m_U_work.2.1 20 = .ok (.ireturn, 1) := by decide +kernel
theorem d_U_work_21 : decode m_U_work.2.1 21 = .ok (.aload_n 0, 1) := by decide +kernel
theorem d_U_work_22 : decode m_U_work.2.1 22 = .ok (.dup, 1) := by decide +kernel
theorem d_U_work_23 : decode m_U_work.2.1 23 = .ok (.getfield 23, 3) := by decide +kernel
theorem d_U_work_26 : decode m_U_work.2.1 26 = .ok (.iconst 1, 1) := by decide +kernel
theorem d_U_work_27 : decode m_U_work.2.1 27 = .ok (.iadd, 1) := by decide +kernel
theorem d_U_work_28 : decode m_U_work.2.1 28 = .ok (.putfield 23, 3) := by decide +kernel
theorem d_U_work_31 : decode m_U_work.2.1 31 = .ok (.aload_n 1, 1) := by decide +kernel
theorem d_U_work_32 : decode m_U_work.2.1 32 = .ok (.getfield 74, 3) := by decide +kernel
theorem d_U_work_35 : decode m_U_work.2.1 35 = .ok (.tableswitch 119 1 12 #[74, 119, 119, 119, 61, 87, 95, 95, 103, 119, 111, 111], 61) := by decide +kernel
theorem d_U_work_96 : decode m_U_work.2.1 96 = .ok (.aload_n 0, 1) := by decide +kernel
theorem d_U_work_97 : decode m_U_work.2.1 97 = .ok (.getfield 19, 3) := by decide +kernel
theorem d_U_work_100 : decode m_U_work.2.1 100 = .ok (.aload_n 1, 1) := by decide +kernel
theorem d_U_work_101 : decode m_U_work.2.1 101 = .ok (.getfield 64, 3) := by decide +kernel
theorem d_U_work_104 : decode m_U_work.2.1 104 = .ok (.iload_n 3, 1) := by decide +kernel
theorem d_U_work_105 : decode m_U_work.2.1 105 = .ok (.invokevirtual 77, 3) := by decide +kernel
theorem d_U_work_108 : decode m_U_work.2.1 108 = .ok (.ireturn, 1) := by decide +kernel
theorem d_U_work_109 : decode m_U_work.2.1 109 = .ok (.aload_n 0, 1) := by decide +kernel
theorem d_U_work_110 : decode m_U_work.2.1 110 = .ok (.getfield 15, 3) := by decide +kernel
theorem d_U_work_113 : decode m_U_work.2.1 113 = .ok (.iconst 1, 1) := by decide +kernel
theorem d_U_work_114 : decode m_U_work.2.1 114 = .ok (.aload_n 1, 1) := by decide +kernel
theorem d_U_work_115 : decode m_U_work.2.1 115 = .ok (.getfield 64, 3) := by decide +kernel
theorem d_U_work_118 : decode m_U_work.2.1 118 = .ok (.invokevirtual 81, 3) := by decide +kernel
theorem d_U_work_121 : decode m_U_work.2.1 121 = .ok (.ireturn, 1) := by decide +kernel
theorem d_U_work_122 : decode m_U_work.2.1 122 = .ok (.aload_n 0, 1) := by decide +kernel
theorem d_U_work_123 : decode m_U_work.2.1 123 = .ok (.aload_n 1, 1) := by decide +kernel
theorem d_U_work_124 : decode m_U_work.2.1 124 = .ok (.iload_n 2, 1) := by decide +kernel
theorem d_U_work_125 : decode m_U_work.2.1 125 = .ok (.iload_n 3, 1) := by decide +kernel
theorem d_U_work_126 : decode m_U_work.2.1 126 = .ok (.invokevirtual 86, 3) := by decide +kernel
theorem d_U_work_129 : decode m_U_work.2.1 129 = .ok (.ireturn, 1) := by decide +kernel
theorem d_U_work_130 : decode m_U_work.2.1 130 = .ok (.aload_n 0, 1) := by decide +kernel
theorem d_U_work_131 : decode m_U_work.2.1 131 = .ok (.aload_n 1, 1) := by decide +kernel
theorem d_U_work_132 : decode m_U_work.2.1 132 = .ok (.iload_n 2, 1) := by decide +kernel
theorem d_U_work_133 : decode m_U_work.2.1 133 = .ok (.iload_n 3, 1) := by decide +kernel
theorem d_U_work_134 : decode m_U_work.2.1 134 = .ok (.invokevirtual 89, 3) := by decide +kernel
theorem d_U_work_137 : decode m_U_work.2.1 137 = .ok (.ireturn, 1) := by decide +kernel
theorem d_U_work_138 : decode m_U_work.2.1 138 = .ok (.aload_n 0, 1) := by decide +kernel
theorem d_U_work_139 : decode m_U_work.2.1 139 = .ok (.aload_n 1, 1) := by decide +kernel
theorem d_U_work_140 : decode m_U_work.2.1 140 = .ok (.iload_n 2, 1) := by decide +kernel
theorem d_U_work_141 : decode m_U_work.2.1 141 = .ok (.iload_n 3, 1) := by decide +kernel
theorem d_U_work_142 : decode m_U_work.2.1 142 = .ok (.invokevirtual 92, 3) := by decide +kernel
theorem d_U_work_145 : decode m_U_work.2.1 145 = .ok (.ireturn, 1) := by decide +kernel
theorem d_U_work_146 : decode m_U_work.2.1 146 = .ok (.aload_n 0, 1) := by decide +kernel
theorem d_U_work_147 : decode m_U_work.2.1 147 = .ok (.aload_n 1, 1) := by decide +kernel
theorem d_U_work_148 : decode m_U_work.2.1 148 = .ok (.iload_n 2, 1) := by decide +kernel
theorem d_U_work_149 : decode m_U_work.2.1 149 = .ok (.iload_n 3, 1) := by decide +kernel
theorem d_U_work_150 : decode m_U_work.2.1 150 = .ok (.invokevirtual 95, 3) := by decide +kernel
theorem d_U_work_153 : decode m_U_work.2.1 153 = .ok (.ireturn, 1) := by decide +kernel
theorem d_U_work_154 : decode m_U_work.2.1 154 = .ok (.iconst (-1), 1) := by decide +kernel
theorem d_U_work_155 : decode m_U_work.2.1 155 = .ok (.ireturn, 1) := by decide +kernel
theorem d_U_apply_0 : decode m_U_apply.2.1 0 = .ok (.aload_n 0, 1) := by decide +kernel
theorem d_U_apply_1 : decode m_U_apply.2.1 1 = .ok (.getfield 9, 3) := by decide +kernel
theorem d_U_apply_4 : decode m_U_apply.2.1 4 = .ok (.aload_n 1, 1) := by decide +kernel
theorem d_U_apply_5 : decode m_U_apply.2.1 5 = .ok (.getfield 64, 3) := by decide +kernel
theorem d_U_apply_8 : decode m_U_apply.2.1 8 = .ok (.invokevirtual 30, 3) := by decide +kernel
theorem d_U_apply_11 : decode m_U_apply.2.1 11 = .ok (.astore 4, 2) := by decide +kernel
theorem d_U_apply_13 : decode m_U_apply.2.1 13 = .ok (.aload_n 0, 1) := by decide +kernel
theorem d_U_apply_14 : decode m_U_apply.2.1 14 = .ok (.getfield 19, 3) := by decide +kernel
theorem d_U_apply_17 : decode m_U_apply.2.1 17 = .ok (.invokevirtual 98, 3) := by decide +kernel
theorem d_U_apply_20 : decode m_U_apply.2.1 20 = .ok (.istore 5, 2) := by decide +kernel
theorem d_U_apply_22 : decode m_U_apply.2.1 22 = .ok (.aload_n 1, 1) := by decide +kernel
theorem d_U_apply_23 : decode m_U_apply.2.1 23 = .ok (.getfield 61, 3) := by decide +kernel
theorem d_U_apply_26 : decode m_U_apply.2.1 26 = .ok (.astore 6, 2) := by decide +kernel
theorem d_U_apply_28 : decode m_U_apply.2.1 28 = .ok (.aload 6, 2) := by decide +kernel
theorem d_U_apply_30 : decode m_U_apply.2.1 30 = .ok (.ifnull 42, 3) := by decide +kernel
theorem d_U_apply_33 : decode m_U_apply.2.1 33 = .ok (.aload_n 0, 1) := by decide +kernel
theorem d_U_apply_34 : decode m_U_apply.2.1 34 = .ok (.aload 6, 2) := by decide +kernel
theorem d_U_apply_36 : decode m_U_apply.2.1 36 = .ok (.iload_n 2, 1) := by decide +kernel
theorem d_U_apply_37 : decode m_U_apply.2.1 37 = .ok (.iconst 1, 1) := by decide +kernel
theorem d_U_apply_38 : decode m_U_apply.2.1 38 = .ok (.iadd, 1) := by decide +kernel
theorem d_U_apply_39 : decode m_U_apply.2.1 39 = .ok (.iload_n 3, 1) := by decide +kernel
theorem d_U_apply_40 : decode m_U_apply.2.1 40 = .ok (.invokevirtual 51, 3) := by decide +kernel
theorem d_U_apply_43 : decode m_U_apply.2.1 43 = .ok (.istore 7, 2) := by decide +kernel
theorem d_U_apply_45 : decode m_U_apply.2.1 45 = .ok (.iload 7, 2) := by decide +kernel
theorem d_U_apply_47 : decode m_U_apply.2.1 47 = .ok (.iconst (-1), 1) := by decide +kernel
theorem d_U_apply_48 : decode m_U_apply.2.1 48 = .ok (.if_icmp .ne 5, 3) := by decide +kernel
theorem d_U_apply_51 : decode m_U_apply.2.1 51 = .ok (.iconst (-1), 1) := by decide +kernel
theorem d_U_apply_52 : decode m_U_apply.2.1 52 = .ok (.ireturn, 1) := by decide +kernel
theorem d_U_apply_53 : decode m_U_apply.2.1 53 = .ok (.aload_n 0, 1) := by decide +kernel
theorem d_U_apply_54 : decode m_U_apply.2.1 54 = .ok (.getfield 19, 3) := by decide +kernel
theorem d_U_apply_57 : decode m_U_apply.2.1 57 = .ok (.iload 7, 2) := by decide +kernel
theorem d_U_apply_59 : decode m_U_apply.2.1 59 = .ok (.invokevirtual 102, 3) := by decide +kernel
theorem d_U_apply_62 : decode m_U_apply.2.1 62 = .ok (.aload 6, 2) := by decide +kernel
theorem d_U_apply_64 : decode m_U_apply.2.1 64 = .ok (.getfield 71, 3) := by decide +kernel
theorem d_U_apply_67 : decode m_U_apply.2.1 67 = .ok (.astore 6, 2) := by decide +kernel
theorem d_U_apply_69 : decode m_U_apply.2.1 69 = .ok (.goto (-41), 3) := by decide +kernel
theorem d_U_apply_72 : decode m_U_apply.2.1 72 = .ok (.aload 4, 2) := by decide +kernel
theorem d_U_apply_74 : decode m_U_apply.2.1 74 = .ok (.ifnull 50, 3) := by decide +kernel
theorem d_U_apply_77 : decode m_U_apply.2.1 77 = .ok (.aload 4, 2) := by decide +kernel
theorem d_U_apply_79 : decode m_U_apply.2.1 79 = .ok (.getfield 105, 3) := by decide +kernel
theorem d_U_apply_82 : decode m_U_apply.2.1 82 = .ok (.ifCond .eq 42, 3) := by decide +kernel
theorem d_U_apply_85 : decode m_U_apply.2.1 85 = .ok (.aload_n 0, 1) := by decide +kernel
theorem d_U_apply_86 : decode m_U_apply.2.1 86 = .ok (.aload 4, 2) := by decide +kernel
theorem d_U_apply_88 : decode m_U_apply.2.1 88 = .ok (.iload 5, 2) := by decide +kernel
theorem d_U_apply_90 : decode m_U_apply.2.1 90 = .ok (.invokevirtual 36, 3) := by decide +kernel
theorem d_U_apply_93 : decode m_U_apply.2.1 93 = .ok (.aload_n 0, 1) := by decide +kernel
theorem d_U_apply_94 : decode m_U_apply.2.1 94 = .ok (.aload 4, 2) := by decide +kernel
theorem d_U_apply_96 : decode m_U_apply.2.1 96 = .ok (.getfield 40, 3) := by decide +kernel
theorem d_U_apply_99 : decode m_U_apply.2.1 99 = .ok (.getfield 46, 3) := by decide +kernel
theorem d_U_apply_102 : decode m_U_apply.2.1 102 = .ok (.iload_n 2, 1) := by decide +kernel
theorem d_U_apply_103 : decode m_U_apply.2.1 103 = .ok (.iconst 1, 1) := by decide +kernel
theorem d_U_apply_104 : decode m_U_apply.2.1 104 = .ok (.iadd, 1) := by decide +kernel
theorem d_U_apply_105 : decode m_U_apply.2.1 105 = .ok (.iload 5, 2) := by decide +kernel
theorem d_U_apply_107 : decode m_U_apply.2.1 107 = .ok (.invokevirtual 51, 3) := by decide +kernel
theorem d_U_apply_110 : decode m_U_apply.2.1 110 = .ok (.istore 6, 2) := by decide +kernel
theorem d_U_apply_112 : decode m_U_apply.2.1 112 = .ok (.aload_n 0, 1) := by decide +kernel
theorem d_U_apply_113 : decode m_U_apply.2.1 113 = .ok (.getfield 19, 3) := by decide +kernel
theorem d_U_apply_116 : decode m_U_apply.2.1 116 = .ok (.iload 5, 2) := by decide +kernel
theorem d_U_apply_118 : decode m_U_apply.2.1 118 = .ok (.invokevirtual 55, 3) := by decide +kernel
theorem d_U_apply_121 : decode m_U_apply.2.1 121 = .ok (.iload 6, 2) := by decide +kernel
theorem d_U_apply_123 : decode m_U_apply.2.1 123 = .ok (.ireturn, 1) := by decide +kernel
theorem d_U_apply_124 : decode m_U_apply.2.1 124 = .ok (.aload_n 0, 1) := by decide +kernel
theorem d_U_apply_125 : decode m_U_apply.2.1 125 = .ok (.getfield 15, 3) := by decide +kernel
theorem d_U_apply_128 : decode m_U_apply.2.1 128 = .ok (.aload_n 1, 1) := by decide +kernel
theorem d_U_apply_129 : decode m_U_apply.2.1 129 = .ok (.getfield 64, 3) := by decide +kernel
theorem d_U_apply_132 : decode m_U_apply.2.1 132 = .ok (.aload_n 0, 1) := by decide +kernel
theorem d_U_apply_133 : decode m_U_apply.2.1 133 = .ok (.getfield 19, 3) := by decide +kernel
theorem d_U_apply_136 : decode m_U_apply.2.1 136 = .ok (.iload 5, 2) := by decide +kernel
theorem d_U_apply_138 : decode m_U_apply.2.1 138 = .ok (.invokevirtual 109, 3) := by decide +kernel
theorem d_U_apply_141 : decode m_U_apply.2.1 141 = .ok (.istore 6, 2) := by decide +kernel
theorem d_U_apply_143 : decode m_U_apply.2.1 143 = .ok (.aload_n 0, 1) := by decide +kernel
theorem d_U_apply_144 : decode m_U_apply.2.1 144 = .ok (.getfield 19, 3) := by decide +kernel
theorem d_U_apply_147 : decode m_U_apply.2.1 147 = .ok (.iload 5, 2) := by decide +kernel
theorem d_U_apply_149 : decode m_U_apply.2.1 149 = .ok (.invokevirtual 55, 3) := by decide +kernel
theorem d_U_apply_152 : decode m_U_apply.2.1 152 = .ok (.aload_n 0, 1) := by decide +kernel
theorem d_U_apply_153 : decode m_U_apply.2.1 153 = .ok (.getfield 15, 3) := by decide +kernel
theorem d_U_apply_156 : decode m_U_apply.2.1 156 = .ok (.iload 6, 2) := by decide +kernel
theorem d_U_apply_158 : decode m_U_apply.2.1 158 = .ok (.iconst (-1), 1) := by decide +kernel
theorem d_U_apply_159 : decode m_U_apply.2.1 159 = .ok (.invokevirtual 113, 3) := by decide +kernel
theorem d_U_apply_162 : decode m_U_apply.2.1 162 = .ok (.ifCond .eq 8, 3) := by decide +kernel
theorem d_U_apply_165 : decode m_U_apply.2.1 165 = .ok (.iload 6, 2) := by decide +kernel
theorem d_U_apply_167 : decode m_U_apply.2.1 167 = .ok (.goto 4, 3) := by decide +kernel
theorem d_U_apply_170 : decode m_U_apply.2.1 170 = .ok (.iconst (-1), 1) := by decide +kernel
theorem d_U_apply_171 : decode m_U_apply.2.1 171 = .ok (.ireturn, 1) := by decide +kernel
theorem d_U_reckon_0 : decode m_U_reckon.2.1 0 = .ok (.aload_n 0, 1) := by decide +kernel
theorem d_U_reckon_1 : decode m_U_reckon.2.1 1 = .ok (.aload_n 1, 1) := by decide +kernel
theorem d_U_reckon_2 : decode m_U_reckon.2.1 2 = .ok (.getfield 61, 3) := by decide +kernel
theorem d_U_reckon_5 : decode m_U_reckon.2.1 5 = .ok (.iload_n 2, 1) := by decide +kernel
theorem d_U_reckon_6 : decode m_U_reckon.2.1 6 = .ok (.iconst 1, 1) := by decide +kernel
theorem d_U_reckon_7 : decode m_U_reckon.2.1 7 = .ok (.iadd, 1) := by decide +kernel
theorem d_U_reckon_8 : decode m_U_reckon.2.1 8 = .ok (.iload_n 3, 1) := by decide +kernel
theorem d_U_reckon_9 : decode m_U_reckon.2.1 9 = .ok (.invokevirtual 117, 3) := by decide +kernel
theorem d_U_reckon_12 : decode m_U_reckon.2.1 12 = .ok (.istore 4, 2) := by decide +kernel
theorem d_U_reckon_14 : decode m_U_reckon.2.1 14 = .ok (.iload 4, 2) := by decide +kernel
theorem d_U_reckon_16 : decode m_U_reckon.2.1 16 = .ok (.iconst (-1), 1) := by decide +kernel
theorem d_U_reckon_17 : decode m_U_reckon.2.1 17 = .ok (.if_icmp .ne 7, 3) := by decide +kernel
theorem d_U_reckon_20 : decode m_U_reckon.2.1 20 = .ok (.iconst (-1), 1) := by decide +kernel
theorem d_U_reckon_21 : decode m_U_reckon.2.1 21 = .ok (.goto 15, 3) := by decide +kernel
theorem d_U_reckon_24 : decode m_U_reckon.2.1 24 = .ok (.aload_n 0, 1) := by decide +kernel
theorem d_U_reckon_25 : decode m_U_reckon.2.1 25 = .ok (.aload_n 1, 1) := by decide +kernel
theorem d_U_reckon_26 : decode m_U_reckon.2.1 26 = .ok (.getfield 46, 3) := by decide +kernel
theorem d_U_reckon_29 : decode m_U_reckon.2.1 29 = .ok (.iload_n 2, 1) := by decide +kernel
theorem d_U_reckon_30 : decode m_U_reckon.2.1 30 = .ok (.iconst 1, 1) := by decide +kernel
theorem d_U_reckon_31 : decode m_U_reckon.2.1 31 = .ok (.iadd, 1) := by decide +kernel
theorem d_U_reckon_32 : decode m_U_reckon.2.1 32 = .ok (.iload_n 3, 1) := by decide +kernel
theorem d_U_reckon_33 : decode m_U_reckon.2.1 33 = .ok (.invokevirtual 117, 3) := by decide +kernel
theorem d_U_reckon_36 : decode m_U_reckon.2.1 36 = .ok (.istore 5, 2) := by decide +kernel
theorem d_U_reckon_38 : decode m_U_reckon.2.1 38 = .ok (.aload_n 0, 1) := by decide +kernel
theorem d_U_reckon_39 : decode m_U_reckon.2.1 39 = .ok (.iload 4, 2) := by decide +kernel
theorem d_U_reckon_41 : decode m_U_reckon.2.1 41 = .ok (.iload 5, 2) := by decide +kernel
theorem d_U_reckon_43 : decode m_U_reckon.2.1 43 = .ok (.invokevirtual 120, 3) := by decide +kernel
theorem d_U_reckon_46 : decode m_U_reckon.2.1 46 = .ok (.ifCond .ne 5, 3) := by decide +kernel
theorem d_U_reckon_49 : decode m_U_reckon.2.1 49 = .ok (.iconst (-1), 1) := by decide +kernel
theorem d_U_reckon_50 : decode m_U_reckon.2.1 50 = .ok (.ireturn, 1) := by decide +kernel
theorem d_U_reckon_51 : decode m_U_reckon.2.1 51 = .ok (.aload_n 0, 1) := by decide +kernel
theorem d_U_reckon_52 : decode m_U_reckon.2.1 52 = .ok (.getfield 15, 3) := by decide +kernel
theorem d_U_reckon_55 : decode m_U_reckon.2.1 55 = .ok (.iload 4, 2) := by decide +kernel
theorem d_U_reckon_57 : decode m_U_reckon.2.1 57 = .ok (.invokevirtual 123, 3) := by decide +kernel
theorem d_U_reckon_60 : decode m_U_reckon.2.1 60 = .ok (.istore 6, 2) := by decide +kernel
theorem d_U_reckon_62 : decode m_U_reckon.2.1 62 = .ok (.aload_n 0, 1) := by decide +kernel
theorem d_U_reckon_63 : decode m_U_reckon.2.1 63 = .ok (.getfield 15, 3) := by decide +kernel
theorem d_U_reckon_66 : decode m_U_reckon.2.1 66 = .ok (.iload 5, 2) := by decide +kernel
theorem d_U_reckon_68 : decode m_U_reckon.2.1 68 = .ok (.invokevirtual 123, 3) := by decide +kernel
theorem d_U_reckon_71 : decode m_U_reckon.2.1 71 = .ok (.istore 7, 2) := by decide +kernel
theorem d_U_reckon_73 : decode m_U_reckon.2.1 73 = .ok (.aload_n 0, 1) := by decide +kernel
theorem d_U_reckon_74 : decode m_U_reckon.2.1 74 = .ok (.getfield 15, 3) := by decide +kernel
theorem d_U_reckon_77 : decode m_U_reckon.2.1 77 = .ok (.iconst 1, 1) := by decide +kernel
theorem d_U_reckon_78 : decode m_U_reckon.2.1 78 = .ok (.aload_n 1, 1) := by decide +kernel
theorem d_U_reckon_79 : decode m_U_reckon.2.1 79 = .ok (.getfield 74, 3) := by decide +kernel
theorem d_U_reckon_82 : decode m_U_reckon.2.1 82 = .ok (.bipush 7, 2) := by decide +kernel
theorem d_U_reckon_84 : decode m_U_reckon.2.1 84 = .ok (.if_icmp .ne 11, 3) := by decide +kernel
theorem d_U_reckon_87 : decode m_U_reckon.2.1 87 = .ok (.iload 6, 2) := by decide +kernel
theorem d_U_reckon_89 : decode m_U_reckon.2.1 89 = .ok (.iload 7, 2) := by decide +kernel
theorem d_U_reckon_91 : decode m_U_reckon.2.1 91 = .ok (.iadd, 1) := by decide +kernel
theorem d_U_reckon_92 : decode m_U_reckon.2.1 92 = .ok (.goto 8, 3) := by decide +kernel
theorem d_U_reckon_95 : decode m_U_reckon.2.1 95 = .ok (.iload 6, 2) := by decide +kernel
theorem d_U_reckon_97 : decode m_U_reckon.2.1 97 = .ok (.iload 7, 2) := by decide +kernel
theorem d_U_reckon_99 : decode m_U_reckon.2.1 99 = .ok (.isub, 1) := by decide +kernel
theorem d_U_reckon_100 : decode m_U_reckon.2.1 100 = .ok (.invokevirtual 81, 3) := by decide +kernel
theorem d_U_reckon_103 : decode m_U_reckon.2.1 103 = .ok (.ireturn, 1) := by decide +kernel
theorem d_U_match_0 : decode m_U_match.2.1 0 = .ok (.aload_n 1, 1) := by decide +kernel
theorem d_U_match_1 : decode m_U_match.2.1 1 = .ok (.getfield 61, 3) := by decide +kernel
theorem d_U_match_4 : decode m_U_match.2.1 4 = .ok (.astore 4, 2) := by decide +kernel
theorem d_U_match_6 : decode m_U_match.2.1 6 = .ok (.aload_n 0, 1) := by decide +kernel
theorem d_U_match_7 : decode m_U_match.2.1 7 = .ok (.aload 4, 2) := by decide +kernel
theorem d_U_match_9 : decode m_U_match.2.1 9 = .ok (.iload_n 2, 1) := by decide +kernel
theorem d_U_match_10 : decode m_U_match.2.1 10 = .ok (.iconst 1, 1) := by decide +kernel
theorem d_U_match_11 : decode m_U_match.2.1 11 = .ok (.iadd, 1) := by decide +kernel
theorem d_U_match_12 : decode m_U_match.2.1 12 = .ok (.iload_n 3, 1) := by decide +kernel
theorem d_U_match_13 : decode m_U_match.2.1 13 = .ok (.invokevirtual 117, 3) := by decide +kernel
theorem d_U_match_16 : decode m_U_match.2.1 16 = .ok (.istore 5, 2) := by decide +kernel
theorem d_U_match_18 : decode m_U_match.2.1 18 = .ok (.aload 4, 2) := by decide +kernel
theorem d_U_match_20 : decode m_U_match.2.1 20 = .ok (.ifnull 21, 3) := by decide +kernel
theorem d_U_match_23 : decode m_U_match.2.1 23 = .ok (.iload 5, 2) := by decide +kernel
theorem d_U_match_25 : decode m_U_match.2.1 25 = .ok (.iconst (-1), 1) := by decide +kernel
theorem d_U_match_26 : decode m_U_match.2.1 26 = .ok (.if_icmp .eq 15, 3) := by decide +kernel
theorem d_U_match_29 : decode m_U_match.2.1 29 = .ok (.aload_n 0, 1) := by decide +kernel
theorem d_U_match_30 : decode m_U_match.2.1 30 = .ok (.getfield 15, 3) := by decide +kernel
theorem d_U_match_33 : decode m_U_match.2.1 33 = .ok (.iload 5, 2) := by decide +kernel
theorem d_U_match_35 : decode m_U_match.2.1 35 = .ok (.invokevirtual 127, 3) := by decide +kernel
theorem d_U_match_38 : decode m_U_match.2.1 38 = .ok (.ifCond .eq 5, 3) := by decide +kernel
theorem d_U_match_41 : decode m_U_match.2.1 41 = .ok (.iconst (-1), 1) := by decide +kernel
theorem d_U_match_42 : decode m_U_match.2.1 42 = .ok (.ireturn, 1) := by decide +kernel
theorem d_U_match_43 : decode m_U_match.2.1 43 = .ok (.aload 4, 2) := by decide +kernel
theorem d_U_match_45 : decode m_U_match.2.1 45 = .ok (.getfield 71, 3) := by decide +kernel
theorem d_U_match_48 : decode m_U_match.2.1 48 = .ok (.astore 6, 2) := by decide +kernel
theorem d_U_match_50 : decode m_U_match.2.1 50 = .ok (.aload 6, 2) := by decide +kernel
theorem d_U_match_52 : decode m_U_match.2.1 52 = .ok (.ifnull 74, 3) := by decide +kernel
theorem d_U_match_55 : decode m_U_match.2.1 55 = .ok (.aload_n 0, 1) := by decide +kernel
theorem d_U_match_56 : decode m_U_match.2.1 56 = .ok (.aload 6, 2) := by decide +kernel
theorem d_U_match_58 : decode m_U_match.2.1 58 = .ok (.getfield 61, 3) := by decide +kernel
theorem d_U_match_61 : decode m_U_match.2.1 61 = .ok (.iload 5, 2) := by decide +kernel
theorem d_U_match_63 : decode m_U_match.2.1 63 = .ok (.invokevirtual 131, 3) := by decide +kernel
theorem d_U_match_66 : decode m_U_match.2.1 66 = .ok (.ifCond .eq 50, 3) := by decide +kernel
theorem d_U_match_69 : decode m_U_match.2.1 69 = .ok (.aload_n 0, 1) := by decide +kernel
theorem d_U_match_70 : decode m_U_match.2.1 70 = .ok (.getfield 19, 3) := by decide +kernel
theorem d_U_match_73 : decode m_U_match.2.1 73 = .ok (.invokevirtual 98, 3) := by decide +kernel
theorem d_U_match_76 : decode m_U_match.2.1 76 = .ok (.istore 7, 2) := by decide +kernel
theorem d_U_match_78 : decode m_U_match.2.1 78 = .ok (.aload_n 0, 1) := by decide +kernel
theorem d_U_match_79 : decode m_U_match.2.1 79 = .ok (.aload 6, 2) := by decide +kernel
theorem d_U_match_81 : decode m_U_match.2.1 81 = .ok (.getfield 61, 3) := by decide +kernel
theorem d_U_match_84 : decode m_U_match.2.1 84 = .ok (.iload 5, 2) := by decide +kernel
theorem d_U_match_86 : decode m_U_match.2.1 86 = .ok (.invokevirtual 135, 3) := by decide +kernel
theorem d_U_match_89 : decode m_U_match.2.1 89 = .ok (.aload_n 0, 1) := by decide +kernel
theorem d_U_match_90 : decode m_U_match.2.1 90 = .ok (.aload 6, 2) := by decide +kernel
theorem d_U_match_92 : decode m_U_match.2.1 92 = .ok (.getfield 46, 3) := by decide +kernel
theorem d_U_match_95 : decode m_U_match.2.1 95 = .ok (.iload_n 2, 1) := by decide +kernel
theorem d_U_match_96 : decode m_U_match.2.1 96 = .ok (.iconst 1, 1) := by decide +kernel
theorem d_U_match_97 : decode m_U_match.2.1 97 = .ok (.iadd, 1) := by decide +kernel
theorem d_U_match_98 : decode m_U_match.2.1 98 = .ok (.iload_n 3, 1) := by decide +kernel
theorem d_U_match_99 : decode m_U_match.2.1 99 = .ok (.invokevirtual 51, 3) := by decide +kernel
theorem d_U_match_102 : decode m_U_match.2.1 102 = .ok (.istore 8, 2) := by decide +kernel
theorem d_U_match_104 : decode m_U_match.2.1 104 = .ok (.aload_n 0, 1) := by decide +kernel
theorem d_U_match_105 : decode m_U_match.2.1 105 = .ok (.getfield 19, 3) := by decide +kernel
theorem d_U_match_108 : decode m_U_match.2.1 108 = .ok (.iload 7, 2) := by decide +kernel
theorem d_U_match_110 : decode m_U_match.2.1 110 = .ok (.invokevirtual 55, 3) := by decide +kernel
theorem d_U_match_113 : decode m_U_match.2.1 113 = .ok (.iload 8, 2) := by decide +kernel
theorem d_U_match_115 : decode m_U_match.2.1 115 = .ok (.ireturn, 1) := by decide +kernel
theorem d_U_match_116 : decode m_U_match.2.1 116 = .ok (.aload 6, 2) := by decide +kernel
theorem d_U_match_118 : decode m_U_match.2.1 118 = .ok (.getfield 71, 3) := by decide +kernel
theorem d_U_match_121 : decode m_U_match.2.1 121 = .ok (.astore 6, 2) := by decide +kernel
theorem d_U_match_123 : decode m_U_match.2.1 123 = .ok (.goto (-73), 3) := by decide +kernel
theorem d_U_match_126 : decode m_U_match.2.1 126 = .ok (.iconst (-1), 1) := by decide +kernel
theorem d_U_match_127 : decode m_U_match.2.1 127 = .ok (.ireturn, 1) := by decide +kernel
theorem d_U_fits_0 : decode m_U_fits.2.1 0 = .ok (.aload_n 1, 1) := by decide +kernel
theorem d_U_fits_1 : decode m_U_fits.2.1 1 = .ok (.getfield 74, 3) := by decide +kernel
theorem d_U_fits_4 : decode m_U_fits.2.1 4 = .ok (.iconst 4, 1) := by decide +kernel
theorem d_U_fits_5 : decode m_U_fits.2.1 5 = .ok (.if_icmp .eq 33, 3) := by decide +kernel
theorem d_U_fits_8 : decode m_U_fits.2.1 8 = .ok (.aload_n 1, 1) := by decide +kernel
theorem d_U_fits_9 : decode m_U_fits.2.1 9 = .ok (.getfield 74, 3) := by decide +kernel
theorem d_U_fits_12 : decode m_U_fits.2.1 12 = .ok (.aload_n 0, 1) := by decide +kernel
theorem d_U_fits_13 : decode m_U_fits.2.1 13 = .ok (.getfield 15, 3) := by decide +kernel
theorem d_U_fits_16 : decode m_U_fits.2.1 16 = .ok (.iload_n 2, 1) := by decide +kernel
theorem d_U_fits_17 : decode m_U_fits.2.1 17 = .ok (.invokevirtual 139, 3) := by decide +kernel
theorem d_U_fits_20 : decode m_U_fits.2.1 20 = .ok (.if_icmp .ne 22, 3) := by decide +kernel
theorem d_U_fits_23 : decode m_U_fits.2.1 23 = .ok (.aload_n 1, 1) := by decide +kernel
theorem d_U_fits_24 : decode m_U_fits.2.1 24 = .ok (.getfield 64, 3) := by decide +kernel
theorem d_U_fits_27 : decode m_U_fits.2.1 27 = .ok (.aload_n 0, 1) := by decide +kernel
theorem d_U_fits_28 : decode m_U_fits.2.1 28 = .ok (.getfield 15, 3) := by decide +kernel
theorem d_U_fits_31 : decode m_U_fits.2.1 31 = .ok (.iload_n 2, 1) := by decide +kernel
theorem d_U_fits_32 : decode m_U_fits.2.1 32 = .ok (.invokevirtual 123, 3) := by decide +kernel
theorem d_U_fits_35 : decode m_U_fits.2.1 35 = .ok (.if_icmp .ne 7, 3) := by decide +kernel
theorem d_U_fits_38 : decode m_U_fits.2.1 38 = .ok (.iconst 1, 1) := by decide +kernel
theorem d_U_fits_39 : decode m_U_fits.2.1 39 = .ok (.goto 4, 3) := by decide +kernel
theorem d_U_fits_42 : decode m_U_fits.2.1 42 = .ok (.iconst 0, 1) := by decide +kernel
theorem d_U_fits_43 : decode m_U_fits.2.1 43 = .ok (.ireturn, 1) := by decide +kernel
theorem d_U_bindVariables_0 : decode m_U_bindVariables.2.1 0 = .ok (.iconst 0, 1) := by decide +kernel
theorem d_U_bindVariables_1 : decode m_U_bindVariables.2.1 1 = .ok (.istore_n 3, 1) := by decide +kernel
theorem d_U_bindVariables_2 : decode m_U_bindVariables.2.1 2 = .ok (.aload_n 1, 1) := by decide +kernel
theorem d_U_bindVariables_3 : decode m_U_bindVariables.2.1 3 = .ok (.getfield 61, 3) := by decide +kernel
theorem d_U_bindVariables_6 : decode m_U_bindVariables.2.1 6 = .ok (.astore 4, 2) := by decide +kernel
theorem d_U_bindVariables_8 : decode m_U_bindVariables.2.1 8 = .ok (.aload 4, 2) := by decide +kernel
theorem d_U_bindVariables_10 : decode m_U_bindVariables.2.1 10 = .ok (.ifnull 38, 3) := by decide +kernel
theorem d_U_bindVariables_13 : decode m_U_bindVariables.2.1 13 = .ok (.aload_n 0, 1) := by decide +kernel
theorem d_U_bindVariables_14 : decode m_U_bindVariables.2.1 14 = .ok (.getfield 19, 3) := by decide +kernel
theorem d_U_bindVariables_17 : decode m_U_bindVariables.2.1 17 = .ok (.aload 4, 2) := by decide +kernel
theorem d_U_bindVariables_19 : decode m_U_bindVariables.2.1 19 = .ok (.getfield 64, 3) := by decide +kernel
theorem d_U_bindVariables_22 : decode m_U_bindVariables.2.1 22 = .ok (.aload_n 0, 1) := by decide +kernel
theorem d_U_bindVariables_23 : decode m_U_bindVariables.2.1 23 = .ok (.getfield 15, 3) := by decide +kernel
theorem d_U_bindVariables_26 : decode m_U_bindVariables.2.1 26 = .ok (.iload_n 2, 1) := by decide +kernel
theorem d_U_bindVariables_27 : decode m_U_bindVariables.2.1 27 = .ok (.iload_n 3, 1) := by decide +kernel
theorem d_U_bindVariables_28 : decode m_U_bindVariables.2.1 28 = .ok (.invokevirtual 142, 3) := by decide +kernel
theorem d_U_bindVariables_31 : decode m_U_bindVariables.2.1 31 = .ok (.iconst (-1), 1) := by decide +kernel
theorem d_U_bindVariables_32 : decode m_U_bindVariables.2.1 32 = .ok (.invokevirtual 145, 3) := by decide +kernel
theorem d_U_bindVariables_35 : decode m_U_bindVariables.2.1 35 = .ok (.iinc 3 1, 3) := by decide +kernel
theorem d_U_bindVariables_38 : decode m_U_bindVariables.2.1 38 = .ok (.aload 4, 2) := by decide +kernel
theorem d_U_bindVariables_40 : decode m_U_bindVariables.2.1 40 = .ok (.getfield 71, 3) := by decide +kernel
theorem d_U_bindVariables_43 : decode m_U_bindVariables.2.1 43 = .ok (.astore 4, 2) := by decide +kernel
theorem d_U_bindVariables_45 : decode m_U_bindVariables.2.1 45 = .ok (.goto (-37), 3) := by decide +kernel
theorem d_U_bindVariables_48 : decode m_U_bindVariables.2.1 48 = .ok (.return_, 1) := by decide +kernel
theorem d_U_choose_0 : decode m_U_choose.2.1 0 = .ok (.aload_n 1, 1) := by decide +kernel
theorem d_U_choose_1 : decode m_U_choose.2.1 1 = .ok (.getfield 61, 3) := by decide +kernel
theorem d_U_choose_4 : decode m_U_choose.2.1 4 = .ok (.astore 4, 2) := by decide +kernel
theorem d_U_choose_6 : decode m_U_choose.2.1 6 = .ok (.aload 4, 2) := by decide +kernel
theorem d_U_choose_8 : decode m_U_choose.2.1 8 = .ok (.ifnonnull 7, 3) := by decide +kernel
theorem d_U_choose_11 : decode m_U_choose.2.1 11 = .ok (.aconst_null, 1) := by decide +kernel
theorem d_U_choose_12 : decode m_U_choose.2.1 12 = .ok (.goto 8, 3) := by decide +kernel
theorem d_U_choose_15 : decode m_U_choose.2.1 15 = .ok (.aload 4, 2) := by decide +kernel
theorem d_U_choose_17 : decode m_U_choose.2.1 17 = .ok (.getfield 71, 3) := by decide +kernel
theorem d_U_choose_20 : decode m_U_choose.2.1 20 = .ok (.astore 5, 2) := by decide +kernel
theorem d_U_choose_22 : decode m_U_choose.2.1 22 = .ok (.aload_n 0, 1) := by decide +kernel
theorem d_U_choose_23 : decode m_U_choose.2.1 23 = .ok (.aload 4, 2) := by decide +kernel
theorem d_U_choose_25 : decode m_U_choose.2.1 25 = .ok (.iload_n 2, 1) := by decide +kernel
theorem d_U_choose_26 : decode m_U_choose.2.1 26 = .ok (.iconst 1, 1) := by decide +kernel
theorem d_U_choose_27 : decode m_U_choose.2.1 27 = .ok (.iadd, 1) := by decide +kernel
theorem d_U_choose_28 : decode m_U_choose.2.1 28 = .ok (.iload_n 3, 1) := by decide +kernel
theorem d_U_choose_29 : decode m_U_choose.2.1 29 = .ok (.invokevirtual 117, 3) := by decide +kernel
theorem d_U_choose_32 : decode m_U_choose.2.1 32 = .ok (.istore 6, 2) := by decide +kernel
theorem d_U_choose_34 : decode m_U_choose.2.1 34 = .ok (.iload 6, 2) := by decide +kernel
theorem d_U_choose_36 : decode m_U_choose.2.1 36 = .ok (.iconst (-1), 1) := by decide +kernel
theorem d_U_choose_37 : decode m_U_choose.2.1 37 = .ok (.if_icmp .ne 7, 3) := by decide +kernel
theorem d_U_choose_40 : decode m_U_choose.2.1 40 = .ok (.iconst (-1), 1) := by decide +kernel
theorem d_U_choose_41 : decode m_U_choose.2.1 41 = .ok (.goto 13, 3) := by decide +kernel
theorem d_U_choose_44 : decode m_U_choose.2.1 44 = .ok (.aload_n 0, 1) := by decide +kernel
theorem d_U_choose_45 : decode m_U_choose.2.1 45 = .ok (.aload 5, 2) := by decide +kernel
theorem d_U_choose_47 : decode m_U_choose.2.1 47 = .ok (.iload_n 2, 1) := by decide +kernel
theorem d_U_choose_48 : decode m_U_choose.2.1 48 = .ok (.iconst 1, 1) := by decide +kernel
theorem d_U_choose_49 : decode m_U_choose.2.1 49 = .ok (.iadd, 1) := by decide +kernel
theorem d_U_choose_50 : decode m_U_choose.2.1 50 = .ok (.iload_n 3, 1) := by decide +kernel
theorem d_U_choose_51 : decode m_U_choose.2.1 51 = .ok (.invokevirtual 117, 3) := by decide +kernel
theorem d_U_choose_54 : decode m_U_choose.2.1 54 = .ok (.istore 7, 2) := by decide +kernel
theorem d_U_choose_56 : decode m_U_choose.2.1 56 = .ok (.aload_n 1, 1) := by decide +kernel
theorem d_U_choose_57 : decode m_U_choose.2.1 57 = .ok (.getfield 74, 3) := by decide +kernel
theorem d_U_choose_60 : decode m_U_choose.2.1 60 = .ok (.bipush 12, 2) := by decide +kernel
theorem d_U_choose_62 : decode m_U_choose.2.1 62 = .ok (.if_icmp .ne 7, 3) := by decide +kernel
theorem d_U_choose_65 : decode m_U_choose.2.1 65 = .ok (.iconst 1, 1) := by decide +kernel
theorem d_U_choose_66 : decode m_U_choose.2.1 66 = .ok (.goto 4, 3) := by decide +kernel
theorem d_U_choose_69 : decode m_U_choose.2.1 69 = .ok (.iconst 0, 1) := by decide +kernel
theorem d_U_choose_70 : decode m_U_choose.2.1 70 = .ok (.istore 8, 2) := by decide +kernel
theorem d_U_choose_72 : decode m_U_choose.2.1 72 = .ok (.aload 5, 2) := by decide +kernel
theorem d_U_choose_74 : decode m_U_choose.2.1 74 = .ok (.ifnull 25, 3) := by decide +kernel
theorem d_U_choose_77 : decode m_U_choose.2.1 77 = .ok (.iload 7, 2) := by decide +kernel
theorem d_U_choose_79 : decode m_U_choose.2.1 79 = .ok (.iconst (-1), 1) := by decide +kernel
theorem d_U_choose_80 : decode m_U_choose.2.1 80 = .ok (.if_icmp .eq 19, 3) := by decide +kernel
theorem d_U_choose_83 : decode m_U_choose.2.1 83 = .ok (.iload 8, 2) := by decide +kernel
theorem d_U_choose_85 : decode m_U_choose.2.1 85 = .ok (.ifCond .eq 16, 3) := by decide +kernel
theorem d_U_choose_88 : decode m_U_choose.2.1 88 = .ok (.aload_n 0, 1) := by decide +kernel
theorem d_U_choose_89 : decode m_U_choose.2.1 89 = .ok (.iload 6, 2) := by decide +kernel
theorem d_U_choose_91 : decode m_U_choose.2.1 91 = .ok (.iload 7, 2) := by decide +kernel
theorem d_U_choose_93 : decode m_U_choose.2.1 93 = .ok (.invokevirtual 120, 3) := by decide +kernel
theorem d_U_choose_96 : decode m_U_choose.2.1 96 = .ok (.ifCond .ne 5, 3) := by decide +kernel
theorem d_U_choose_99 : decode m_U_choose.2.1 99 = .ok (.iconst (-1), 1) := by decide +kernel
theorem d_U_choose_100 : decode m_U_choose.2.1 100 = .ok (.ireturn, 1) := by decide +kernel
theorem d_U_choose_101 : decode m_U_choose.2.1 101 = .ok (.iload 8, 2) := by decide +kernel
theorem d_U_choose_103 : decode m_U_choose.2.1 103 = .ok (.ifCond .eq 14, 3) := by decide +kernel
theorem d_U_choose_106 : decode m_U_choose.2.1 106 = .ok (.aload_n 0, 1) := by decide +kernel
theorem d_U_choose_107 : decode m_U_choose.2.1 107 = .ok (.iload 6, 2) := by decide +kernel
theorem d_U_choose_109 : decode m_U_choose.2.1 109 = .ok (.iload 7, 2) := by decide +kernel
theorem d_U_choose_111 : decode m_U_choose.2.1 111 = .ok (.invokevirtual 149, 3) := by decide +kernel
theorem d_U_choose_114 : decode m_U_choose.2.1 114 = .ok (.goto 14, 3) := by decide +kernel
theorem d_U_choose_117 : decode m_U_choose.2.1 117 = .ok (.aload_n 0, 1) := by decide +kernel
theorem d_U_choose_118 : decode m_U_choose.2.1 118 = .ok (.getfield 15, 3) := by decide +kernel
theorem d_U_choose_121 : decode m_U_choose.2.1 121 = .ok (.iload 6, 2) := by decide +kernel
theorem d_U_choose_123 : decode m_U_choose.2.1 123 = .ok (.iload 7, 2) := by decide +kernel
theorem d_U_choose_125 : decode m_U_choose.2.1 125 = .ok (.invokevirtual 152, 3) := by decide +kernel
theorem d_U_choose_128 : decode m_U_choose.2.1 128 = .ok (.istore 9, 2) := by decide +kernel
theorem d_U_choose_130 : decode m_U_choose.2.1 130 = .ok (.iload 9, 2) := by decide +kernel
theorem d_U_choose_132 : decode m_U_choose.2.1 132 = .ok (.iconst (-1), 1) := by decide +kernel
theorem d_U_choose_133 : decode m_U_choose.2.1 133 = .ok (.if_icmp .ne 5, 3) := by decide +kernel
theorem d_U_choose_136 : decode m_U_choose.2.1 136 = .ok (.iconst (-1), 1) := by decide +kernel
theorem d_U_choose_137 : decode m_U_choose.2.1 137 = .ok (.ireturn, 1) := by decide +kernel
theorem d_U_choose_138 : decode m_U_choose.2.1 138 = .ok (.aload_n 0, 1) := by decide +kernel
theorem d_U_choose_139 : decode m_U_choose.2.1 139 = .ok (.iload 9, 2) := by decide +kernel
theorem d_U_choose_141 : decode m_U_choose.2.1 141 = .ok (.iconst 1, 1) := by decide +kernel
theorem d_U_choose_142 : decode m_U_choose.2.1 142 = .ok (.if_icmp .ne 11, 3) := by decide +kernel
theorem d_U_choose_145 : decode m_U_choose.2.1 145 = .ok (.aload 5, 2) := by decide +kernel
theorem d_U_choose_147 : decode m_U_choose.2.1 147 = .ok (.getfield 71, 3) := by decide +kernel
theorem d_U_choose_150 : decode m_U_choose.2.1 150 = .ok (.goto 7, 3) := by decide +kernel
theorem d_U_choose_153 : decode m_U_choose.2.1 153 = .ok (.aload_n 1, 1) := by decide +kernel
theorem d_U_choose_154 : decode m_U_choose.2.1 154 = .ok (.getfield 46, 3) := by decide +kernel
theorem d_U_choose_157 : decode m_U_choose.2.1 157 = .ok (.iload_n 2, 1) := by decide +kernel
theorem d_U_choose_158 : decode m_U_choose.2.1 158 = .ok (.iconst 1, 1) := by decide +kernel
theorem d_U_choose_159 : decode m_U_choose.2.1 159 = .ok (.iadd, 1) := by decide +kernel
theorem d_U_choose_160 : decode m_U_choose.2.1 160 = .ok (.iload_n 3, 1) := by decide +kernel
theorem d_U_choose_161 : decode m_U_choose.2.1 161 = .ok (.invokevirtual 51, 3) := by decide +kernel
theorem d_U_choose_164 : decode m_U_choose.2.1 164 = .ok (.ireturn, 1) := by decide +kernel
theorem d_U_isLess_0 : decode m_U_isLess.2.1 0 = .ok (.aload_n 0, 1) := by decide +kernel
theorem d_U_isLess_1 : decode m_U_isLess.2.1 1 = .ok (.getfield 15, 3) := by decide +kernel
theorem d_U_isLess_4 : decode m_U_isLess.2.1 4 = .ok (.iload_n 1, 1) := by decide +kernel
theorem d_U_isLess_5 : decode m_U_isLess.2.1 5 = .ok (.invokevirtual 123, 3) := by decide +kernel
theorem d_U_isLess_8 : decode m_U_isLess.2.1 8 = .ok (.aload_n 0, 1) := by decide +kernel
theorem d_U_isLess_9 : decode m_U_isLess.2.1 9 = .ok (.getfield 15, 3) := by decide +kernel
theorem d_U_isLess_12 : decode m_U_isLess.2.1 12 = .ok (.iload_n 2, 1) := by decide +kernel
theorem d_U_isLess_13 : decode m_U_isLess.2.1 13 = .ok (.invokevirtual 123, 3) := by decide +kernel
theorem d_U_isLess_16 : decode m_U_isLess.2.1 16 = .ok (.if_icmp .ge 7, 3) := by decide +kernel
theorem d_U_isLess_19 : decode m_U_isLess.2.1 19 = .ok (.iconst 1, 1) := by decide +kernel
theorem d_U_isLess_20 : decode m_U_isLess.2.1 20 = .ok (.goto 4, 3) := by decide +kernel
theorem d_U_isLess_23 : decode m_U_isLess.2.1 23 = .ok (.iconst 0, 1) := by decide +kernel
theorem d_U_isLess_24 : decode m_U_isLess.2.1 24 = .ok (.ireturn, 1) := by decide +kernel
theorem d_U_areNumbers_0 : decode m_U_areNumbers.2.1 0 = .ok (.iload_n 1, 1) := by decide +kernel
theorem d_U_areNumbers_1 : decode m_U_areNumbers.2.1 1 = .ok (.iconst (-1), 1) := by decide +kernel
theorem d_U_areNumbers_2 : decode m_U_areNumbers.2.1 2 = .ok (.if_icmp .eq 36, 3) := by decide +kernel
theorem d_U_areNumbers_5 : decode m_U_areNumbers.2.1 5 = .ok (.iload_n 2, 1) := by decide +kernel
theorem d_U_areNumbers_6 : decode m_U_areNumbers.2.1 6 = .ok (.iconst (-1), 1) := by decide +kernel
theorem d_U_areNumbers_7 : decode m_U_areNumbers.2.1 7 = .ok (.if_icmp .eq 31, 3) := by decide +kernel
theorem d_U_areNumbers_10 : decode m_U_areNumbers.2.1 10 = .ok (.aload_n 0, 1) := by decide +kernel
theorem d_U_areNumbers_11 : decode m_U_areNumbers.2.1 11 = .ok (.getfield 15, 3) := by decide +kernel
theorem d_U_areNumbers_14 : decode m_U_areNumbers.2.1 14 = .ok (.iload_n 1, 1) := by decide +kernel
theorem d_U_areNumbers_15 : decode m_U_areNumbers.2.1 15 = .ok (.invokevirtual 139, 3) := by decide +kernel
theorem d_U_areNumbers_18 : decode m_U_areNumbers.2.1 18 = .ok (.iconst 1, 1) := by decide +kernel
theorem d_U_areNumbers_19 : decode m_U_areNumbers.2.1 19 = .ok (.if_icmp .ne 19, 3) := by decide +kernel
theorem d_U_areNumbers_22 : decode m_U_areNumbers.2.1 22 = .ok (.aload_n 0, 1) := by decide +kernel
theorem d_U_areNumbers_23 : decode m_U_areNumbers.2.1 23 = .ok (.getfield 15, 3) := by decide +kernel
theorem d_U_areNumbers_26 : decode m_U_areNumbers.2.1 26 = .ok (.iload_n 2, 1) := by decide +kernel
theorem d_U_areNumbers_27 : decode m_U_areNumbers.2.1 27 = .ok (.invokevirtual 139, 3) := by decide +kernel
theorem d_U_areNumbers_30 : decode m_U_areNumbers.2.1 30 = .ok (.iconst 1, 1) := by decide +kernel
theorem d_U_areNumbers_31 : decode m_U_areNumbers.2.1 31 = .ok (.if_icmp .ne 7, 3) := by decide +kernel
theorem d_U_areNumbers_34 : decode m_U_areNumbers.2.1 34 = .ok (.iconst 1, 1) := by decide +kernel
theorem d_U_areNumbers_35 : decode m_U_areNumbers.2.1 35 = .ok (.goto 4, 3) := by decide +kernel
theorem d_U_areNumbers_38 : decode m_U_areNumbers.2.1 38 = .ok (.iconst 0, 1) := by decide +kernel
theorem d_U_areNumbers_39 : decode m_U_areNumbers.2.1 39 = .ok (.ireturn, 1) := by decide +kernel
theorem d_U_workAndLook_0 : decode m_U_workAndLook.2.1 0 = .ok (.aload_n 0, 1) := by decide +kernel
theorem d_U_workAndLook_1 : decode m_U_workAndLook.2.1 1 = .ok (.aload_n 1, 1) := by decide +kernel
theorem d_U_workAndLook_2 : decode m_U_workAndLook.2.1 2 = .ok (.iload_n 2, 1) := by decide +kernel
theorem d_U_workAndLook_3 : decode m_U_workAndLook.2.1 3 = .ok (.iload_n 3, 1) := by decide +kernel
theorem d_U_workAndLook_4 : decode m_U_workAndLook.2.1 4 = .ok (.invokevirtual 51, 3) := by decide +kernel
theorem d_U_workAndLook_7 : decode m_U_workAndLook.2.1 7 = .ok (.istore 4, 2) := by decide +kernel
theorem d_U_workAndLook_9 : decode m_U_workAndLook.2.1 9 = .ok (.iload 4, 2) := by decide +kernel
theorem d_U_workAndLook_11 : decode m_U_workAndLook.2.1 11 = .ok (.iconst (-1), 1) := by decide +kernel
theorem d_U_workAndLook_12 : decode m_U_workAndLook.2.1 12 = .ok (.if_icmp .ne 7, 3) := by decide +kernel
theorem d_U_workAndLook_15 : decode m_U_workAndLook.2.1 15 = .ok (.iconst (-1), 1) := by decide +kernel
theorem d_U_workAndLook_16 : decode m_U_workAndLook.2.1 16 = .ok (.goto 12, 3) := by decide +kernel
theorem d_U_workAndLook_19 : decode m_U_workAndLook.2.1 19 = .ok (.aload_n 0, 1) := by decide +kernel
theorem d_U_workAndLook_20 : decode m_U_workAndLook.2.1 20 = .ok (.getfield 15, 3) := by decide +kernel
theorem d_U_workAndLook_23 : decode m_U_workAndLook.2.1 23 = .ok (.iload 4, 2) := by decide +kernel
theorem d_U_workAndLook_25 : decode m_U_workAndLook.2.1 25 = .ok (.invokevirtual 155, 3) := by decide +kernel
theorem d_U_workAndLook_28 : decode m_U_workAndLook.2.1 28 = .ok (.ireturn, 1) := by decide +kernel
theorem d_T_init_0 : decode m_T_init.2.1 0 = .ok (.aload_n 0, 1) := by decide +kernel
theorem d_T_init_1 : decode m_T_init.2.1 1 = .ok (.invokespecial 3, 3) := by decide +kernel
theorem d_T_init_4 : decode m_T_init.2.1 4 = .ok (.aload_n 0, 1) := by decide +kernel
theorem d_T_init_5 : decode m_T_init.2.1 5 = .ok (.aload_n 1, 1) := by decide +kernel
theorem d_T_init_6 : decode m_T_init.2.1 6 = .ok (.putfield 9, 3) := by decide +kernel
theorem d_T_init_9 : decode m_T_init.2.1 9 = .ok (.aload_n 0, 1) := by decide +kernel
theorem d_T_init_10 : decode m_T_init.2.1 10 = .ok (.aload_n 2, 1) := by decide +kernel
theorem d_T_init_11 : decode m_T_init.2.1 11 = .ok (.putfield 15, 3) := by decide +kernel
theorem d_T_init_14 : decode m_T_init.2.1 14 = .ok (.aload_n 0, 1) := by decide +kernel
theorem d_T_init_15 : decode m_T_init.2.1 15 = .ok (.aload_n 3, 1) := by decide +kernel
theorem d_T_init_16 : decode m_T_init.2.1 16 = .ok (.putfield 19, 3) := by decide +kernel
theorem d_T_init_19 : decode m_T_init.2.1 19 = .ok (.aload_n 0, 1) := by decide +kernel
theorem d_T_init_20 : decode m_T_init.2.1 20 = .ok (.aload 4, 2) := by decide +kernel
theorem d_T_init_22 : decode m_T_init.2.1 22 = .ok (.putfield 23, 3) := by decide +kernel
theorem d_T_init_25 : decode m_T_init.2.1 25 = .ok (.aload_n 0, 1) := by decide +kernel
theorem d_T_init_26 : decode m_T_init.2.1 26 = .ok (.iconst 0, 1) := by decide +kernel
theorem d_T_init_27 : decode m_T_init.2.1 27 = .ok (.putfield 27, 3) := by decide +kernel
theorem d_T_init_30 : decode m_T_init.2.1 30 = .ok (.aload_n 0, 1) := by decide +kernel
theorem d_T_init_31 : decode m_T_init.2.1 31 = .ok (.iconst 0, 1) := by decide +kernel
theorem d_T_init_32 : decode m_T_init.2.1 32 = .ok (.putfield 31, 3) := by decide +kernel
theorem d_T_init_35 : decode m_T_init.2.1 35 = .ok (.aload_n 0, 1) := by decide +kernel
theorem d_T_init_36 : decode m_T_init.2.1 36 = .ok (.iconst (-1), 1) := by decide +kernel
theorem d_T_init_37 : decode m_T_init.2.1 37 = .ok (.putfield 35, 3) := by decide +kernel
theorem d_T_init_40 : decode m_T_init.2.1 40 = .ok (.aload_n 0, 1) := by decide +kernel
theorem d_T_init_41 : decode m_T_init.2.1 41 = .ok (.iconst (-1), 1) := by decide +kernel
theorem d_T_init_42 : decode m_T_init.2.1 42 = .ok (.putfield 38, 3) := by decide +kernel
theorem d_T_init_45 : decode m_T_init.2.1 45 = .ok (.return_, 1) := by decide +kernel
theorem d_T_wrongPlace_0 : decode m_T_wrongPlace.2.1 0 = .ok (.aload_n 0, 1) := by decide +kernel
theorem d_T_wrongPlace_1 : decode m_T_wrongPlace.2.1 1 = .ok (.getfield 35, 3) := by decide +kernel
theorem d_T_wrongPlace_4 : decode m_T_wrongPlace.2.1 4 = .ok (.ireturn, 1) := by decide +kernel
theorem d_T_typeAlone_0 : decode m_T_typeAlone.2.1 0 = .ok (.aload_n 0, 1) := by decide +kernel
theorem d_T_typeAlone_1 : decode m_T_typeAlone.2.1 1 = .ok (.iconst 0, 1) := by decide +kernel
theorem d_T_typeAlone_2 : decode m_T_typeAlone.2.1 2 = .ok (.invokevirtual 41, 3) := by decide +kernel
theorem d_T_typeAlone_5 : decode m_T_typeAlone.2.1 5 = .ok (.aload_n 0, 1) := by decide +kernel
theorem d_T_typeAlone_6 : decode m_T_typeAlone.2.1 6 = .ok (.aload_n 1, 1) := by decide +kernel
theorem d_T_typeAlone_7 : decode m_T_typeAlone.2.1 7 = .ok (.invokevirtual 45, 3) := by decide +kernel
theorem d_T_typeAlone_10 : decode m_T_typeAlone.2.1 10 = .ok (.ireturn, 1) := by decide +kernel
theorem d_T_wrongInArguments_0 : decode m_T_wrongInArguments.2.1 0 = .ok (.aload_n 0, 1) := by decide +kernel
theorem d_T_wrongInArguments_1 : decode m_T_wrongInArguments.2.1 1 = .ok (.iconst 0, 1) := by decide +kernel
theorem d_T_wrongInArguments_2 : decode m_T_wrongInArguments.2.1 2 = .ok (.invokevirtual 41, 3) := by decide +kernel
theorem d_T_wrongInArguments_5 : decode m_T_wrongInArguments.2.1 5 = .ok (.aload_n 1, 1) := by decide +kernel
theorem d_T_wrongInArguments_6 : decode m_T_wrongInArguments.2.1 6 = .ok (.getfield 49, 3) := by decide +kernel
theorem d_T_wrongInArguments_9 : decode m_T_wrongInArguments.2.1 9 = .ok (.astore_n 2, 1) := by decide +kernel
theorem d_T_wrongInArguments_10 : decode m_T_wrongInArguments.2.1 10 = .ok (.aload_n 2, 1) := by decide +kernel
theorem d_T_wrongInArguments_11 : decode m_T_wrongInArguments.2.1 11 = .ok (.ifnull 36, 3) := by decide +kernel
theorem d_T_wrongInArguments_14 : decode m_T_wrongInArguments.2.1 14 = .ok (.aload_n 0, 1) := by decide +kernel
theorem d_T_wrongInArguments_15 : decode m_T_wrongInArguments.2.1 15 = .ok (.aload_n 2, 1) := by decide +kernel
theorem d_T_wrongInArguments_16 : decode m_T_wrongInArguments.2.1 16 = .ok (.invokevirtual 45, 3) := by decide +kernel
theorem d_T_wrongInArguments_19 : decode m_T_wrongInArguments.2.1 19 = .ok (.iconst (-1), 1) := by decide +kernel
theorem d_T_wrongInArguments_20 : decode m_T_wrongInArguments.2.1 20 = .ok (.if_icmp .ne 8, 3) := by decide +kernel
theorem d_T_wrongInArguments_23 : decode m_T_wrongInArguments.2.1 23 = .ok (.aload_n 0, 1) := by decide +kernel
theorem d_T_wrongInArguments_24 : decode m_T_wrongInArguments.2.1 24 = .ok (.getfield 35, 3) := by decide +kernel
theorem d_T_wrongInArguments_27 : decode m_T_wrongInArguments.2.1 27 = .ok (.ireturn, 1) := by decide +kernel
theorem d_T_wrongInArguments_28 : decode m_T_wrongInArguments.2.1 28 = .ok (.aload_n 0, 1) := by decide +kernel
theorem d_T_wrongInArguments_29 : decode m_T_wrongInArguments.2.1 29 = .ok (.getfield 19, 3) := by decide +kernel
theorem d_T_wrongInArguments_32 : decode m_T_wrongInArguments.2.1 32 = .ok (.aload_n 0, 1) := by decide +kernel
theorem d_T_wrongInArguments_33 : decode m_T_wrongInArguments.2.1 33 = .ok (.getfield 38, 3) := by decide +kernel
theorem d_T_wrongInArguments_36 : decode m_T_wrongInArguments.2.1 36 = .ok (.invokevirtual 55, 3) := by decide +kernel
theorem d_T_wrongInArguments_39 : decode m_T_wrongInArguments.2.1 39 = .ok (.aload_n 2, 1) := by decide +kernel
theorem d_T_wrongInArguments_40 : decode m_T_wrongInArguments.2.1 40 = .ok (.getfield 61, 3) := by decide +kernel
theorem d_T_wrongInArguments_43 : decode m_T_wrongInArguments.2.1 43 = .ok (.astore_n 2, 1) := by decide +kernel
theorem d_T_wrongInArguments_44 : decode m_T_wrongInArguments.2.1 44 = .ok (.goto (-34), 3) := by decide +kernel
theorem d_T_wrongInArguments_47 : decode m_T_wrongInArguments.2.1 47 = .ok (.iconst (-1), 1) := by decide +kernel
theorem d_T_wrongInArguments_48 : decode m_T_wrongInArguments.2.1 48 = .ok (.ireturn, 1) := by decide +kernel
theorem d_T_wrongInDeclaration_0 : decode m_T_wrongInDeclaration.2.1 0 = .ok (.aload_n 0, 1) := by decide +kernel
theorem d_T_wrongInDeclaration_1 : decode m_T_wrongInDeclaration.2.1 1 = .ok (.iconst 1, 1) := by decide +kernel
theorem d_T_wrongInDeclaration_2 : decode m_T_wrongInDeclaration.2.1 2 = .ok (.invokevirtual 41, 3) := by decide +kernel
theorem d_T_wrongInDeclaration_5 : decode m_T_wrongInDeclaration.2.1 5 = .ok (.aload_n 1, 1) := by decide +kernel
theorem d_T_wrongInDeclaration_6 : decode m_T_wrongInDeclaration.2.1 6 = .ok (.getfield 49, 3) := by decide +kernel
theorem d_T_wrongInDeclaration_9 : decode m_T_wrongInDeclaration.2.1 9 = .ok (.astore_n 2, 1) := by decide +kernel
theorem d_T_wrongInDeclaration_10 : decode m_T_wrongInDeclaration.2.1 10 = .ok (.aload_n 2, 1) := by decide +kernel
theorem d_T_wrongInDeclaration_11 : decode m_T_wrongInDeclaration.2.1 11 = .ok (.ifnull 119, 3) := by decide +kernel
theorem d_T_wrongInDeclaration_14 : decode m_T_wrongInDeclaration.2.1 14 = .ok (.aload_n 2, 1) := by decide +kernel
theorem d_T_wrongInDeclaration_15 : decode m_T_wrongInDeclaration.2.1 15 = .ok (.getfield 64, 3) := by decide +kernel
theorem d_T_wrongInDeclaration_18 : decode m_T_wrongInDeclaration.2.1 18 = .ok (.bipush 15, 2) := by decide +kernel
theorem d_T_wrongInDeclaration_20 : decode m_T_wrongInDeclaration.2.1 20 = .ok (.if_icmp .ne 7, 3) := by decide +kernel
theorem d_T_wrongInDeclaration_23 : decode m_T_wrongInDeclaration.2.1 23 = .ok (.iconst 1, 1) := by decide +kernel
theorem d_T_wrongInDeclaration_24 : decode m_T_wrongInDeclaration.2.1 24 = .ok (.goto 4, 3) := by decide +kernel
theorem d_T_wrongInDeclaration_27 : decode m_T_wrongInDeclaration.2.1 27 = .ok (.iconst 0, 1) := by decide +kernel
theorem d_T_wrongInDeclaration_28 : decode m_T_wrongInDeclaration.2.1 28 = .ok (.istore_n 3, 1) := by decide +kernel
theorem d_T_wrongInDeclaration_29 : decode m_T_wrongInDeclaration.2.1 29 = .ok (.iload_n 3, 1) := by decide +kernel
theorem d_T_wrongInDeclaration_30 : decode m_T_wrongInDeclaration.2.1 30 = .ok (.ifCond .eq 16, 3) := by decide +kernel
theorem d_T_wrongInDeclaration_33 : decode m_T_wrongInDeclaration.2.1 33 = .ok (.aload_n 0, 1) := by decide +kernel
theorem d_T_wrongInDeclaration_34 : decode m_T_wrongInDeclaration.2.1 34 = .ok (.aload_n 2, 1) := by decide +kernel
theorem d_T_wrongInDeclaration_35 : decode m_T_wrongInDeclaration.2.1 35 = .ok (.invokevirtual 67, 3) := by decide +kernel
theorem d_T_wrongInDeclaration_38 : decode m_T_wrongInDeclaration.2.1 38 = .ok (.ifCond .ne 8, 3) := by decide +kernel
theorem d_T_wrongInDeclaration_41 : decode m_T_wrongInDeclaration.2.1 41 = .ok (.aload_n 2, 1) := by decide +kernel
theorem d_T_wrongInDeclaration_42 : decode m_T_wrongInDeclaration.2.1 42 = .ok (.getfield 71, 3) := by decide +kernel
theorem d_T_wrongInDeclaration_45 : decode m_T_wrongInDeclaration.2.1 45 = .ok (.ireturn, 1) := by decide +kernel
theorem d_T_wrongInDeclaration_46 : decode m_T_wrongInDeclaration.2.1 46 = .ok (.aload_n 2, 1) := by decide +kernel
theorem d_T_wrongInDeclaration_47 : decode m_T_wrongInDeclaration.2.1 47 = .ok (.getfield 49, 3) := by decide +kernel
theorem d_T_wrongInDeclaration_50 : decode m_T_wrongInDeclaration.2.1 50 = .ok (.astore 4, 2) := by decide +kernel
theorem d_T_wrongInDeclaration_52 : decode m_T_wrongInDeclaration.2.1 52 = .ok (.aload 4, 2) := by decide +kernel
theorem d_T_wrongInDeclaration_54 : decode m_T_wrongInDeclaration.2.1 54 = .ok (.ifnull 51, 3) := by decide +kernel
theorem d_T_wrongInDeclaration_57 : decode m_T_wrongInDeclaration.2.1 57 = .ok (.aload_n 0, 1) := by decide +kernel
theorem d_T_wrongInDeclaration_58 : decode m_T_wrongInDeclaration.2.1 58 = .ok (.aload 4, 2) := by decide +kernel
theorem d_T_wrongInDeclaration_60 : decode m_T_wrongInDeclaration.2.1 60 = .ok (.invokevirtual 45, 3) := by decide +kernel
theorem d_T_wrongInDeclaration_63 : decode m_T_wrongInDeclaration.2.1 63 = .ok (.istore 5, 2) := by decide +kernel
theorem d_T_wrongInDeclaration_65 : decode m_T_wrongInDeclaration.2.1 65 = .ok (.iload 5, 2) := by decide +kernel
theorem d_T_wrongInDeclaration_67 : decode m_T_wrongInDeclaration.2.1 67 = .ok (.iconst (-1), 1) := by decide +kernel
theorem d_T_wrongInDeclaration_68 : decode m_T_wrongInDeclaration.2.1 68 = .ok (.if_icmp .ne 8, 3) := by decide +kernel
theorem d_T_wrongInDeclaration_71 : decode m_T_wrongInDeclaration.2.1 71 = .ok (.aload_n 0, 1) := by decide +kernel
theorem d_T_wrongInDeclaration_72 : decode m_T_wrongInDeclaration.2.1 72 = .ok (.getfield 35, 3) := by decide +kernel
theorem d_T_wrongInDeclaration_75 : decode m_T_wrongInDeclaration.2.1 75 = .ok (.ireturn, 1) := by decide +kernel
theorem d_T_wrongInDeclaration_76 : decode m_T_wrongInDeclaration.2.1 76 = .ok (.iload_n 3, 1) := by decide +kernel
theorem d_T_wrongInDeclaration_77 : decode m_T_wrongInDeclaration.2.1 77 = .ok (.ifCond .ne 18, 3) := by decide +kernel
theorem d_T_wrongInDeclaration_80 : decode m_T_wrongInDeclaration.2.1 80 = .ok (.aload_n 0, 1) := by decide +kernel
theorem d_T_wrongInDeclaration_81 : decode m_T_wrongInDeclaration.2.1 81 = .ok (.iload 5, 2) := by decide +kernel
theorem d_T_wrongInDeclaration_83 : decode m_T_wrongInDeclaration.2.1 83 = .ok (.invokevirtual 74, 3) := by decide +kernel
theorem d_T_wrongInDeclaration_86 : decode m_T_wrongInDeclaration.2.1 86 = .ok (.ifCond .ne 9, 3) := by decide +kernel
theorem d_T_wrongInDeclaration_89 : decode m_T_wrongInDeclaration.2.1 89 = .ok (.aload 4, 2) := by decide +kernel
theorem d_T_wrongInDeclaration_91 : decode m_T_wrongInDeclaration.2.1 91 = .ok (.getfield 71, 3) := by decide +kernel
theorem d_T_wrongInDeclaration_94 : decode m_T_wrongInDeclaration.2.1 94 = .ok (.ireturn, 1) := by decide +kernel
theorem d_T_wrongInDeclaration_95 : decode m_T_wrongInDeclaration.2.1 95 = .ok (.aload 4, 2) := by decide +kernel
theorem d_T_wrongInDeclaration_97 : decode m_T_wrongInDeclaration.2.1 97 = .ok (.getfield 61, 3) := by decide +kernel
theorem d_T_wrongInDeclaration_100 : decode m_T_wrongInDeclaration.2.1 100 = .ok (.astore 4, 2) := by decide +kernel
theorem d_T_wrongInDeclaration_102 : decode m_T_wrongInDeclaration.2.1 102 = .ok (.goto (-50), 3) := by decide +kernel
theorem d_T_wrongInDeclaration_105 : decode m_T_wrongInDeclaration.2.1 105 = .ok (.aload_n 2, 1) := by decide +kernel
theorem d_T_wrongInDeclaration_106 : decode m_T_wrongInDeclaration.2.1 106 = .ok (.getfield 64, 3) := by decide +kernel
theorem d_T_wrongInDeclaration_109 : decode m_T_wrongInDeclaration.2.1 109 = .ok (.bipush 14, 2) := by decide +kernel
theorem d_T_wrongInDeclaration_111 : decode m_T_wrongInDeclaration.2.1 111 = .ok (.if_icmp .ne 11, 3) := by decide +kernel
theorem d_T_wrongInDeclaration_114 : decode m_T_wrongInDeclaration.2.1 114 = .ok (.aload_n 0, 1) := by decide +kernel
theorem d_T_wrongInDeclaration_115 : decode m_T_wrongInDeclaration.2.1 115 = .ok (.aload_n 2, 1) := by decide +kernel
theorem d_T_wrongInDeclaration_116 : decode m_T_wrongInDeclaration.2.1 116 = .ok (.getfield 78, 3) := by decide +kernel
theorem d_T_wrongInDeclaration_119 : decode m_T_wrongInDeclaration.2.1 119 = .ok (.invokevirtual 81, 3) := by decide +kernel
theorem d_T_wrongInDeclaration_122 : decode m_T_wrongInDeclaration.2.1 122 = .ok (.aload_n 2, 1) := by decide +kernel
theorem d_T_wrongInDeclaration_123 : decode m_T_wrongInDeclaration.2.1 123 = .ok (.getfield 61, 3) := by decide +kernel
theorem d_T_wrongInDeclaration_126 : decode m_T_wrongInDeclaration.2.1 126 = .ok (.astore_n 2, 1) := by decide +kernel
theorem d_T_wrongInDeclaration_127 : decode m_T_wrongInDeclaration.2.1 127 = .ok (.goto (-117), 3) := by decide +kernel
theorem d_T_wrongInDeclaration_130 : decode m_T_wrongInDeclaration.2.1 130 = .ok (.iconst (-1), 1) := by decide +kernel
theorem d_T_wrongInDeclaration_131 : decode m_T_wrongInDeclaration.2.1 131 = .ok (.ireturn, 1) := by decide +kernel
theorem d_T_begin_0 : decode m_T_begin.2.1 0 = .ok (.aload_n 0, 1) := by decide +kernel
theorem d_T_begin_1 : decode m_T_begin.2.1 1 = .ok (.iload_n 1, 1) := by decide +kernel
theorem d_T_begin_2 : decode m_T_begin.2.1 2 = .ok (.putfield 27, 3) := by decide +kernel
theorem d_T_begin_5 : decode m_T_begin.2.1 5 = .ok (.aload_n 0, 1) := by decide +kernel
theorem d_T_begin_6 : decode m_T_begin.2.1 6 = .ok (.iconst 0, 1) := by decide +kernel
theorem d_T_begin_7 : decode m_T_begin.2.1 7 = .ok (.putfield 31, 3) := by decide +kernel
theorem d_T_begin_10 : decode m_T_begin.2.1 10 = .ok (.aload_n 0, 1) := by decide +kernel
theorem d_T_begin_11 : decode m_T_begin.2.1 11 = .ok (.iconst (-1), 1) := by decide +kernel
theorem d_T_begin_12 : decode m_T_begin.2.1 12 = .ok (.putfield 35, 3) := by decide +kernel
theorem d_T_begin_15 : decode m_T_begin.2.1 15 = .ok (.return_, 1) := by decide +kernel
theorem d_T_fitsItsProgram_0 : decode m_T_fitsItsProgram.2.1 0 = .ok (.aload_n 0, 1) := by decide +kernel
theorem d_T_fitsItsProgram_1 : decode m_T_fitsItsProgram.2.1 1 = .ok (.getfield 9, 3) := by decide +kernel
theorem d_T_fitsItsProgram_4 : decode m_T_fitsItsProgram.2.1 4 = .ok (.aload_n 1, 1) := by decide +kernel
theorem d_T_fitsItsProgram_5 : decode m_T_fitsItsProgram.2.1 5 = .ok (.getfield 78, 3) := by decide +kernel
theorem d_T_fitsItsProgram_8 : decode m_T_fitsItsProgram.2.1 8 = .ok (.invokevirtual 84, 3) := by decide +kernel
theorem d_T_fitsItsProgram_11 : decode m_T_fitsItsProgram.2.1 11 = .ok (.astore_n 2, 1) := by decide +kernel
theorem d_T_fitsItsProgram_12 : decode m_T_fitsItsProgram.2.1 12 = .ok (.aload_n 2, 1) := by decide +kernel
theorem d_T_fitsItsProgram_13 : decode m_T_fitsItsProgram.2.1 13 = .ok (.ifnull 27, 3) := by decide +kernel
theorem d_T_fitsItsProgram_16 : decode m_T_fitsItsProgram.2.1 16 = .ok (.aload_n 2, 1) := by decide +kernel
theorem d_T_fitsItsProgram_17 : decode m_T_fitsItsProgram.2.1 17 = .ok (.getfield 90, 3) := by decide +kernel
theorem d_T_fitsItsProgram_20 : decode m_T_fitsItsProgram.2.1 20 = .ok (.ifCond .eq 20, 3) := by decide +kernel
theorem d_T_fitsItsProgram_23 : decode m_T_fitsItsProgram.2.1 23 = .ok (.aload_n 2, 1) := by decide +kernel
theorem d_T_fitsItsProgram_24 : decode m_T_fitsItsProgram.2.1 24 = .ok (.getfield 95, 3) := by decide +kernel
theorem d_T_fitsItsProgram_27 : decode m_T_fitsItsProgram.2.1 27 = .ok (.aload_n 1, 1) := by decide +kernel
theorem d_T_fitsItsProgram_28 : decode m_T_fitsItsProgram.2.1 28 = .ok (.getfield 98, 3) := by decide +kernel
theorem d_T_fitsItsProgram_31 : decode m_T_fitsItsProgram.2.1 31 = .ok (.iconst 1, 1) := by decide +kernel
theorem d_T_fitsItsProgram_32 : decode m_T_fitsItsProgram.2.1 32 = .ok (.isub, 1) := by decide +kernel
theorem d_T_fitsItsProgram_33 : decode m_T_fitsItsProgram.2.1 33 = .ok (.if_icmp .ne 7, 3) := by decide +kernel
theorem d_T_fitsItsProgram_36 : decode m_T_fitsItsProgram.2.1 36 = .ok (.iconst 1, 1) := by decide +kernel
theorem d_T_fitsItsProgram_37 : decode m_T_fitsItsProgram.2.1 37 = .ok (.goto 4, 3) := by decide +kernel
theorem d_T_fitsItsProgram_40 : decode m_T_fitsItsProgram.2.1 40 = .ok (.iconst 0, 1) := by decide +kernel
theorem d_T_fitsItsProgram_41 : decode m_T_fitsItsProgram.2.1 41 = .ok (.ireturn, 1) := by decide +kernel
theorem d_T_learnName_0 : decode m_T_learnName.2.1 0 = .ok (.aload_n 0, 1) := by decide +kernel
theorem d_T_learnName_1 : decode m_T_learnName.2.1 1 = .ok (.getfield 19, 3) := by decide +kernel
theorem d_T_learnName_4 : decode m_T_learnName.2.1 4 = .ok (.iload_n 1, 1) := by decide +kernel
theorem d_T_learnName_5 : decode m_T_learnName.2.1 5 = .ok (.aload_n 0, 1) := by decide +kernel
theorem d_T_learnName_6 : decode m_T_learnName.2.1 6 = .ok (.getfield 15, 3) := by decide +kernel
theorem d_T_learnName_9 : decode m_T_learnName.2.1 9 = .ok (.invokevirtual 101, 3) := by decide +kernel
theorem d_T_learnName_12 : decode m_T_learnName.2.1 12 = .ok (.aload_n 0, 1) := by decide +kernel
theorem d_T_learnName_13 : decode m_T_learnName.2.1 13 = .ok (.getfield 38, 3) := by decide +kernel
theorem d_T_learnName_16 : decode m_T_learnName.2.1 16 = .ok (.invokevirtual 107, 3) := by decide +kernel
theorem d_T_learnName_19 : decode m_T_learnName.2.1 19 = .ok (.aload_n 0, 1) := by decide +kernel
theorem d_T_learnName_20 : decode m_T_learnName.2.1 20 = .ok (.aload_n 0, 1) := by decide +kernel
theorem d_T_learnName_21 : decode m_T_learnName.2.1 21 = .ok (.getfield 19, 3) := by decide +kernel
theorem d_T_learnName_24 : decode m_T_learnName.2.1 24 = .ok (.invokevirtual 111, 3) := by decide +kernel
theorem d_T_learnName_27 : decode m_T_learnName.2.1 27 = .ok (.putfield 31, 3) := by decide +kernel
theorem d_T_learnName_30 : decode m_T_learnName.2.1 30 = .ok (.return_, 1) := by decide +kernel
theorem d_T_isStar_0 : decode m_T_isStar.2.1 0 = .ok (.aload_n 0, 1) := by decide +kernel
theorem d_T_isStar_1 : decode m_T_isStar.2.1 1 = .ok (.getfield 15, 3) := by decide +kernel
theorem d_T_isStar_4 : decode m_T_isStar.2.1 4 = .ok (.iload_n 1, 1) := by decide +kernel
theorem d_T_isStar_5 : decode m_T_isStar.2.1 5 = .ok (.invokevirtual 114, 3) := by decide +kernel
theorem d_T_isStar_8 : decode m_T_isStar.2.1 8 = .ok (.iconst 3, 1) := by decide +kernel
theorem d_T_isStar_9 : decode m_T_isStar.2.1 9 = .ok (.if_icmp .ne 7, 3) := by decide +kernel
theorem d_T_isStar_12 : decode m_T_isStar.2.1 12 = .ok (.iconst 1, 1) := by decide +kernel
theorem d_T_isStar_13 : decode m_T_isStar.2.1 13 = .ok (.goto 4, 3) := by decide +kernel
theorem d_T_isStar_16 : decode m_T_isStar.2.1 16 = .ok (.iconst 0, 1) := by decide +kernel
theorem d_T_isStar_17 : decode m_T_isStar.2.1 17 = .ok (.ireturn, 1) := by decide +kernel
theorem d_T_typeOf_0 : decode m_T_typeOf.2.1 0 = .ok (.aload_n 1, 1) := by decide +kernel
theorem d_T_typeOf_1 : decode m_T_typeOf.2.1 1 = .ok (.getfield 64, 3) := by decide +kernel
theorem d_T_typeOf_4 : decode m_T_typeOf.2.1 4 = .ok (.tableswitch 104 1 6 #[40, 66, 66, 104, 92, 98], 40) := by decide +kernel
theorem d_T_typeOf_44 : decode m_T_typeOf.2.1 44 = .ok (.aload_n 0, 1) := by decide +kernel
theorem d_T_typeOf_45 : decode m_T_typeOf.2.1 45 = .ok (.aload_n 0, 1) := by decide +kernel
theorem d_T_typeOf_46 : decode m_T_typeOf.2.1 46 = .ok (.getfield 15, 3) := by decide +kernel
theorem d_T_typeOf_49 : decode m_T_typeOf.2.1 49 = .ok (.iconst 1, 1) := by decide +kernel
theorem d_T_typeOf_50 : decode m_T_typeOf.2.1 50 = .ok (.aload_n 1, 1) := by decide +kernel
theorem d_T_typeOf_51 : decode m_T_typeOf.2.1 51 = .ok (.getfield 78, 3) := by decide +kernel
theorem d_T_typeOf_54 : decode m_T_typeOf.2.1 54 = .ok (.invokevirtual 118, 3) := by decide +kernel
theorem d_T_typeOf_57 : decode m_T_typeOf.2.1 57 = .ok (.putfield 38, 3) := by decide +kernel
theorem d_T_typeOf_60 : decode m_T_typeOf.2.1 60 = .ok (.aload_n 0, 1) := by decide +kernel
theorem d_T_typeOf_61 : decode m_T_typeOf.2.1 61 = .ok (.getfield 15, 3) := by decide +kernel
theorem d_T_typeOf_64 : decode m_T_typeOf.2.1 64 = .ok (.iconst 2, 1) := by decide +kernel
theorem d_T_typeOf_65 : decode m_T_typeOf.2.1 65 = .ok (.iconst 0, 1) := by decide +kernel
theorem d_T_typeOf_66 : decode m_T_typeOf.2.1 66 = .ok (.invokevirtual 118, 3) := by decide +kernel
theorem d_T_typeOf_69 : decode m_T_typeOf.2.1 69 = .ok (.ireturn, 1) := by decide +kernel
theorem d_T_typeOf_70 : decode m_T_typeOf.2.1 70 = .ok (.aload_n 0, 1) := by decide +kernel
theorem d_T_typeOf_71 : decode m_T_typeOf.2.1 71 = .ok (.aload_n 0, 1) := by decide +kernel
theorem d_T_typeOf_72 : decode m_T_typeOf.2.1 72 = .ok (.getfield 15, 3) := by decide +kernel
theorem d_T_typeOf_75 : decode m_T_typeOf.2.1 75 = .ok (.aload_n 1, 1) := by decide +kernel
theorem d_T_typeOf_76 : decode m_T_typeOf.2.1 76 = .ok (.getfield 64, 3) := by decide +kernel
theorem d_T_typeOf_79 : decode m_T_typeOf.2.1 79 = .ok (.iconst 0, 1) := by decide +kernel
theorem d_T_typeOf_80 : decode m_T_typeOf.2.1 80 = .ok (.invokevirtual 118, 3) := by decide +kernel
theorem d_T_typeOf_83 : decode m_T_typeOf.2.1 83 = .ok (.putfield 38, 3) := by decide +kernel
theorem d_T_typeOf_86 : decode m_T_typeOf.2.1 86 = .ok (.aload_n 0, 1) := by decide +kernel
theorem d_T_typeOf_87 : decode m_T_typeOf.2.1 87 = .ok (.getfield 15, 3) := by decide +kernel
theorem d_T_typeOf_90 : decode m_T_typeOf.2.1 90 = .ok (.iconst 3, 1) := by decide +kernel
theorem d_T_typeOf_91 : decode m_T_typeOf.2.1 91 = .ok (.iconst 0, 1) := by decide +kernel
theorem d_T_typeOf_92 : decode m_T_typeOf.2.1 92 = .ok (.invokevirtual 118, 3) := by decide +kernel
theorem d_T_typeOf_95 : decode m_T_typeOf.2.1 95 = .ok (.ireturn, 1) := by decide +kernel
theorem d_T_typeOf_96 : decode m_T_typeOf.2.1 96 = .ok (.aload_n 0, 1) := by decide +kernel
theorem d_T_typeOf_97 : decode m_T_typeOf.2.1 97 = .ok (.aload_n 1, 1) := by decide +kernel
theorem d_T_typeOf_98 : decode m_T_typeOf.2.1 98 = .ok (.invokevirtual 122, 3) := by decide +kernel
theorem d_T_typeOf_101 : decode m_T_typeOf.2.1 101 = .ok (.ireturn, 1) := by decide +kernel
theorem d_T_typeOf_102 : decode m_T_typeOf.2.1 102 = .ok (.aload_n 0, 1) := by decide +kernel
theorem d_T_typeOf_103 : decode m_T_typeOf.2.1 103 = .ok (.aload_n 1, 1) := by decide +kernel
theorem d_T_typeOf_104 : decode m_T_typeOf.2.1 104 = .ok (.invokevirtual 125, 3) := by decide +kernel
theorem d_T_typeOf_107 : decode m_T_typeOf.2.1 107 = .ok (.ireturn, 1) := by decide +kernel
theorem d_T_typeOf_108 : decode m_T_typeOf.2.1 108 = .ok (.aload_n 0, 1) := by decide +kernel
theorem d_T_typeOf_109 : decode m_T_typeOf.2.1 109 = .ok (.aload_n 1, 1) := by decide +kernel
theorem d_T_typeOf_110 : decode m_T_typeOf.2.1 110 = .ok (.getfield 71, 3) := by decide +kernel
theorem d_T_typeOf_113 : decode m_T_typeOf.2.1 113 = .ok (.invokevirtual 128, 3) := by decide +kernel
theorem d_T_typeOf_116 : decode m_T_typeOf.2.1 116 = .ok (.ireturn, 1) := by decide +kernel
theorem d_T_noType_0 : decode m_T_noType.2.1 0 = .ok (.aload_n 0, 1) := by decide +kernel
theorem d_T_noType_1 : decode m_T_noType.2.1 1 = .ok (.iload_n 1, 1) := by decide +kernel
theorem d_T_noType_2 : decode m_T_noType.2.1 2 = .ok (.putfield 35, 3) := by decide +kernel
theorem d_T_noType_5 : decode m_T_noType.2.1 5 = .ok (.iconst (-1), 1) := by decide +kernel
theorem d_T_noType_6 : decode m_T_noType.2.1 6 = .ok (.ireturn, 1) := by decide +kernel
theorem d_T_typeOfVariable_0 : decode m_T_typeOfVariable.2.1 0 = .ok (.aload_n 0, 1) := by decide +kernel
theorem d_T_typeOfVariable_1 : decode m_T_typeOfVariable.2.1 1 = .ok (.getfield 19, 3) := by decide +kernel
theorem d_T_typeOfVariable_4 : decode m_T_typeOfVariable.2.1 4 = .ok (.aload_n 1, 1) := by decide +kernel
theorem d_T_typeOfVariable_5 : decode m_T_typeOfVariable.2.1 5 = .ok (.getfield 78, 3) := by decide +kernel
theorem d_T_typeOfVariable_8 : decode m_T_typeOfVariable.2.1 8 = .ok (.iconst 0, 1) := by decide +kernel
theorem d_T_typeOfVariable_9 : decode m_T_typeOfVariable.2.1 9 = .ok (.aload_n 0, 1) := by decide +kernel
theorem d_T_typeOfVariable_10 : decode m_T_typeOfVariable.2.1 10 = .ok (.getfield 31, 3) := by decide +kernel
theorem d_T_typeOfVariable_13 : decode m_T_typeOfVariable.2.1 13 = .ok (.invokevirtual 131, 3) := by decide +kernel
theorem d_T_typeOfVariable_16 : decode m_T_typeOfVariable.2.1 16 = .ok (.istore_n 2, 1) := by decide +kernel
theorem d_T_typeOfVariable_17 : decode m_T_typeOfVariable.2.1 17 = .ok (.iload_n 2, 1) := by decide +kernel
theorem d_T_typeOfVariable_18 : decode m_T_typeOfVariable.2.1 18 = .ok (.iconst (-1), 1) := by decide +kernel
theorem d_T_typeOfVariable_19 : decode m_T_typeOfVariable.2.1 19 = .ok (.if_icmp .ne 12, 3) := by decide +kernel
theorem d_T_typeOfVariable_22 : decode m_T_typeOfVariable.2.1 22 = .ok (.aload_n 0, 1) := by decide +kernel
theorem d_T_typeOfVariable_23 : decode m_T_typeOfVariable.2.1 23 = .ok (.aload_n 1, 1) := by decide +kernel
theorem d_T_typeOfVariable_24 : decode m_T_typeOfVariable.2.1 24 = .ok (.getfield 71, 3) := by decide +kernel
theorem d_T_typeOfVariable_27 : decode m_T_typeOfVariable.2.1 27 = .ok (.invokevirtual 128, 3) := by decide +kernel
theorem d_T_typeOfVariable_30 : decode m_T_typeOfVariable.2.1 30 = .ok (.ireturn, 1) := by decide +kernel
theorem d_T_typeOfVariable_31 : decode m_T_typeOfVariable.2.1 31 = .ok (.aload_n 0, 1) := by decide +kernel
theorem d_T_typeOfVariable_32 : decode m_T_typeOfVariable.2.1 32 = .ok (.aload_n 0, 1) := by decide +kernel
theorem d_T_typeOfVariable_33 : decode m_T_typeOfVariable.2.1 33 = .ok (.getfield 19, 3) := by decide +kernel
theorem d_T_typeOfVariable_36 : decode m_T_typeOfVariable.2.1 36 = .ok (.iload_n 2, 1) := by decide +kernel
theorem d_T_typeOfVariable_37 : decode m_T_typeOfVariable.2.1 37 = .ok (.invokevirtual 135, 3) := by decide +kernel
theorem d_T_typeOfVariable_40 : decode m_T_typeOfVariable.2.1 40 = .ok (.putfield 38, 3) := by decide +kernel
theorem d_T_typeOfVariable_43 : decode m_T_typeOfVariable.2.1 43 = .ok (.aload_n 0, 1) := by decide +kernel
theorem d_T_typeOfVariable_44 : decode m_T_typeOfVariable.2.1 44 = .ok (.getfield 19, 3) := by decide +kernel
theorem d_T_typeOfVariable_47 : decode m_T_typeOfVariable.2.1 47 = .ok (.iload_n 2, 1) := by decide +kernel
theorem d_T_typeOfVariable_48 : decode m_T_typeOfVariable.2.1 48 = .ok (.invokevirtual 138, 3) := by decide +kernel
theorem d_T_typeOfVariable_51 : decode m_T_typeOfVariable.2.1 51 = .ok (.ireturn, 1) := by decide +kernel
theorem d_T_typeOfConstant_0 : decode m_T_typeOfConstant.2.1 0 = .ok (.aload_n 0, 1) := by decide +kernel
theorem d_T_typeOfConstant_1 : decode m_T_typeOfConstant.2.1 1 = .ok (.getfield 9, 3) := by decide +kernel
theorem d_T_typeOfConstant_4 : decode m_T_typeOfConstant.2.1 4 = .ok (.aload_n 1, 1) := by decide +kernel
theorem d_T_typeOfConstant_5 : decode m_T_typeOfConstant.2.1 5 = .ok (.invokevirtual 141, 3) := by decide +kernel
theorem d_T_typeOfConstant_8 : decode m_T_typeOfConstant.2.1 8 = .ok (.astore_n 2, 1) := by decide +kernel
theorem d_T_typeOfConstant_9 : decode m_T_typeOfConstant.2.1 9 = .ok (.aload_n 2, 1) := by decide +kernel
theorem d_T_typeOfConstant_10 : decode m_T_typeOfConstant.2.1 10 = .ok (.ifnull 17, 3) := by decide +kernel
theorem d_T_typeOfConstant_13 : decode m_T_typeOfConstant.2.1 13 = .ok (.aload_n 0, 1) := by decide +kernel
theorem d_T_typeOfConstant_14 : decode m_T_typeOfConstant.2.1 14 = .ok (.getfield 27, 3) := by decide +kernel
theorem d_T_typeOfConstant_17 : decode m_T_typeOfConstant.2.1 17 = .ok (.ifCond .eq 19, 3) := by decide +kernel
theorem d_T_typeOfConstant_20 : decode m_T_typeOfConstant.2.1 20 = .ok (.aload_n 2, 1) := by decide +kernel
theorem d_T_typeOfConstant_21 : decode m_T_typeOfConstant.2.1 21 = .ok (.getfield 145, 3) := by decide +kernel
theorem d_T_typeOfConstant_24 : decode m_T_typeOfConstant.2.1 24 = .ok (.ifCond .eq 12, 3) := by decide +kernel
theorem d_T_typeOfConstant_27 : decode m_T_typeOfConstant.2.1 27 = .ok (.aload_n 0, 1) := by decide +kernel
theorem d_T_typeOfConstant_28 : decode m_T_typeOfConstant.2.1 28 = .ok (.aload_n 1, 1) := by decide +kernel
theorem d_T_typeOfConstant_29 : decode m_T_typeOfConstant.2.1 29 = .ok (.getfield 71, 3) := by decide +kernel
theorem d_T_typeOfConstant_32 : decode m_T_typeOfConstant.2.1 32 = .ok (.invokevirtual 128, 3) := by decide +kernel
theorem d_T_typeOfConstant_35 : decode m_T_typeOfConstant.2.1 35 = .ok (.ireturn, 1) := by decide +kernel
theorem d_T_typeOfConstant_36 : decode m_T_typeOfConstant.2.1 36 = .ok (.aload_n 0, 1) := by decide +kernel
theorem d_T_typeOfConstant_37 : decode m_T_typeOfConstant.2.1 37 = .ok (.getfield 19, 3) := by decide +kernel
theorem d_T_typeOfConstant_40 : decode m_T_typeOfConstant.2.1 40 = .ok (.invokevirtual 111, 3) := by decide +kernel
theorem d_T_typeOfConstant_43 : decode m_T_typeOfConstant.2.1 43 = .ok (.istore_n 3, 1) := by decide +kernel
theorem d_T_typeOfConstant_44 : decode m_T_typeOfConstant.2.1 44 = .ok (.aload_n 1, 1) := by decide +kernel
theorem d_T_typeOfConstant_45 : decode m_T_typeOfConstant.2.1 45 = .ok (.getfield 49, 3) := by decide +kernel
theorem d_T_typeOfConstant_48 : decode m_T_typeOfConstant.2.1 48 = .ok (.astore 4, 2) := by decide +kernel
theorem d_T_typeOfConstant_50 : decode m_T_typeOfConstant.2.1 50 = .ok (.aload_n 2, 1) := by decide +kernel
theorem d_T_typeOfConstant_51 : decode m_T_typeOfConstant.2.1 51 = .ok (.getfield 148, 3) := by decide +kernel
theorem d_T_typeOfConstant_54 : decode m_T_typeOfConstant.2.1 54 = .ok (.getfield 49, 3) := by decide +kernel
theorem d_T_typeOfConstant_57 : decode m_T_typeOfConstant.2.1 57 = .ok (.astore 5, 2) := by decide +kernel
theorem d_T_typeOfConstant_59 : decode m_T_typeOfConstant.2.1 59 = .ok (.aload 5, 2) := by decide +kernel
theorem d_T_typeOfConstant_61 : decode m_T_typeOfConstant.2.1 61 = .ok (.ifnull 125, 3) := by decide +kernel
theorem d_T_typeOfConstant_64 : decode m_T_typeOfConstant.2.1 64 = .ok (.aload 5, 2) := by decide +kernel
theorem d_T_typeOfConstant_66 : decode m_T_typeOfConstant.2.1 66 = .ok (.aload_n 2, 1) := by decide +kernel
theorem d_T_typeOfConstant_67 : decode m_T_typeOfConstant.2.1 67 = .ok (.getfield 148, 3) := by decide +kernel
theorem d_T_typeOfConstant_70 : decode m_T_typeOfConstant.2.1 70 = .ok (.getfield 151, 3) := by decide +kernel
theorem d_T_typeOfConstant_73 : decode m_T_typeOfConstant.2.1 73 = .ok (.if_acmp .eq 113, 3) := by decide +kernel
theorem d_T_typeOfConstant_76 : decode m_T_typeOfConstant.2.1 76 = .ok (.aload 5, 2) := by decide +kernel
theorem d_T_typeOfConstant_78 : decode m_T_typeOfConstant.2.1 78 = .ok (.getfield 64, 3) := by decide +kernel
theorem d_T_typeOfConstant_81 : decode m_T_typeOfConstant.2.1 81 = .ok (.bipush 15, 2) := by decide +kernel
theorem d_T_typeOfConstant_83 : decode m_T_typeOfConstant.2.1 83 = .ok (.if_icmp .ne 64, 3) := by decide +kernel
theorem d_T_typeOfConstant_86 : decode m_T_typeOfConstant.2.1 86 = .ok (.aload_n 0, 1) := by decide +kernel
theorem d_T_typeOfConstant_87 : decode m_T_typeOfConstant.2.1 87 = .ok (.getfield 23, 3) := by decide +kernel
theorem d_T_typeOfConstant_90 : decode m_T_typeOfConstant.2.1 90 = .ok (.aload 5, 2) := by decide +kernel
theorem d_T_typeOfConstant_92 : decode m_T_typeOfConstant.2.1 92 = .ok (.getfield 78, 3) := by decide +kernel
theorem d_T_typeOfConstant_95 : decode m_T_typeOfConstant.2.1 95 = .ok (.aload_n 0, 1) := by decide +kernel
theorem d_T_typeOfConstant_96 : decode m_T_typeOfConstant.2.1 96 = .ok (.aload 5, 2) := by decide +kernel
theorem d_T_typeOfConstant_98 : decode m_T_typeOfConstant.2.1 98 = .ok (.iload_n 3, 1) := by decide +kernel
theorem d_T_typeOfConstant_99 : decode m_T_typeOfConstant.2.1 99 = .ok (.invokevirtual 154, 3) := by decide +kernel
theorem d_T_typeOfConstant_102 : decode m_T_typeOfConstant.2.1 102 = .ok (.invokevirtual 158, 3) := by decide +kernel
theorem d_T_typeOfConstant_105 : decode m_T_typeOfConstant.2.1 105 = .ok (.istore 6, 2) := by decide +kernel
theorem d_T_typeOfConstant_107 : decode m_T_typeOfConstant.2.1 107 = .ok (.iload 6, 2) := by decide +kernel
theorem d_T_typeOfConstant_109 : decode m_T_typeOfConstant.2.1 109 = .ok (.iconst (-1), 1) := by decide +kernel
theorem d_T_typeOfConstant_110 : decode m_T_typeOfConstant.2.1 110 = .ok (.if_icmp .eq 25, 3) := by decide +kernel
theorem d_T_typeOfConstant_113 : decode m_T_typeOfConstant.2.1 113 = .ok (.aload_n 0, 1) := by decide +kernel
theorem d_T_typeOfConstant_114 : decode m_T_typeOfConstant.2.1 114 = .ok (.getfield 15, 3) := by decide +kernel
theorem d_T_typeOfConstant_117 : decode m_T_typeOfConstant.2.1 117 = .ok (.iload 6, 2) := by decide +kernel
theorem d_T_typeOfConstant_119 : decode m_T_typeOfConstant.2.1 119 = .ok (.aload_n 0, 1) := by decide +kernel
theorem d_T_typeOfConstant_120 : decode m_T_typeOfConstant.2.1 120 = .ok (.aload 5, 2) := by decide +kernel
theorem d_T_typeOfConstant_122 : decode m_T_typeOfConstant.2.1 122 = .ok (.getfield 151, 3) := by decide +kernel
theorem d_T_typeOfConstant_125 : decode m_T_typeOfConstant.2.1 125 = .ok (.iload_n 3, 1) := by decide +kernel
theorem d_T_typeOfConstant_126 : decode m_T_typeOfConstant.2.1 126 = .ok (.invokevirtual 163, 3) := by decide +kernel
theorem d_T_typeOfConstant_129 : decode m_T_typeOfConstant.2.1 129 = .ok (.invokevirtual 166, 3) := by decide +kernel
theorem d_T_typeOfConstant_132 : decode m_T_typeOfConstant.2.1 132 = .ok (.ifCond .ne 12, 3) := by decide +kernel
theorem d_T_typeOfConstant_135 : decode m_T_typeOfConstant.2.1 135 = .ok (.aload_n 0, 1) := by decide +kernel
theorem d_T_typeOfConstant_136 : decode m_T_typeOfConstant.2.1 136 = .ok (.aload_n 1, 1) := by decide +kernel
theorem d_T_typeOfConstant_137 : decode m_T_typeOfConstant.2.1 137 = .ok (.getfield 71, 3) := by decide +kernel
theorem d_T_typeOfConstant_140 : decode m_T_typeOfConstant.2.1 140 = .ok (.invokevirtual 128, 3) := by decide +kernel
theorem d_T_typeOfConstant_143 : decode m_T_typeOfConstant.2.1 143 = .ok (.ireturn, 1) := by decide +kernel
theorem d_T_typeOfConstant_144 : decode m_T_typeOfConstant.2.1 144 = .ok (.goto 32, 3) := by decide +kernel
theorem d_T_typeOfConstant_147 : decode m_T_typeOfConstant.2.1 147 = .ok (.aload 4, 2) := by decide +kernel
theorem d_T_typeOfConstant_149 : decode m_T_typeOfConstant.2.1 149 = .ok (.ifnull 25, 3) := by decide +kernel
theorem d_T_typeOfConstant_152 : decode m_T_typeOfConstant.2.1 152 = .ok (.aload_n 0, 1) := by decide +kernel
theorem d_T_typeOfConstant_153 : decode m_T_typeOfConstant.2.1 153 = .ok (.aload 5, 2) := by decide +kernel
theorem d_T_typeOfConstant_155 : decode m_T_typeOfConstant.2.1 155 = .ok (.aload 4, 2) := by decide +kernel
theorem d_T_typeOfConstant_157 : decode m_T_typeOfConstant.2.1 157 = .ok (.iload_n 3, 1) := by decide +kernel
theorem d_T_typeOfConstant_158 : decode m_T_typeOfConstant.2.1 158 = .ok (.invokevirtual 170, 3) := by decide +kernel
theorem d_T_typeOfConstant_161 : decode m_T_typeOfConstant.2.1 161 = .ok (.ifCond .eq 13, 3) := by decide +kernel
theorem d_T_typeOfConstant_164 : decode m_T_typeOfConstant.2.1 164 = .ok (.aload 4, 2) := by decide +kernel
theorem d_T_typeOfConstant_166 : decode m_T_typeOfConstant.2.1 166 = .ok (.getfield 61, 3) := by decide +kernel
theorem d_T_typeOfConstant_169 : decode m_T_typeOfConstant.2.1 169 = .ok (.astore 4, 2) := by decide +kernel
theorem d_T_typeOfConstant_171 : decode m_T_typeOfConstant.2.1 171 = .ok (.goto 5, 3) := by decide +kernel
theorem d_T_typeOfConstant_174 : decode m_T_typeOfConstant.2.1 174 = .ok (.iconst (-1), 1) := by decide +kernel
theorem d_T_typeOfConstant_175 : decode m_T_typeOfConstant.2.1 175 = .ok (.ireturn, 1) := by decide +kernel
theorem d_T_typeOfConstant_176 : decode m_T_typeOfConstant.2.1 176 = .ok (.aload 5, 2) := by decide +kernel
theorem d_T_typeOfConstant_178 : decode m_T_typeOfConstant.2.1 178 = .ok (.getfield 61, 3) := by decide +kernel
theorem d_T_typeOfConstant_181 : decode m_T_typeOfConstant.2.1 181 = .ok (.astore 5, 2) := by decide +kernel
theorem d_T_typeOfConstant_183 : decode m_T_typeOfConstant.2.1 183 = .ok (.goto (-124), 3) := by decide +kernel
theorem d_T_typeOfConstant_186 : decode m_T_typeOfConstant.2.1 186 = .ok (.aload_n 0, 1) := by decide +kernel
theorem d_T_typeOfConstant_187 : decode m_T_typeOfConstant.2.1 187 = .ok (.aload_n 2, 1) := by decide +kernel
theorem d_T_typeOfConstant_188 : decode m_T_typeOfConstant.2.1 188 = .ok (.getfield 148, 3) := by decide +kernel
theorem d_T_typeOfConstant_191 : decode m_T_typeOfConstant.2.1 191 = .ok (.getfield 151, 3) := by decide +kernel
theorem d_T_typeOfConstant_194 : decode m_T_typeOfConstant.2.1 194 = .ok (.getfield 49, 3) := by decide +kernel
theorem d_T_typeOfConstant_197 : decode m_T_typeOfConstant.2.1 197 = .ok (.iload_n 3, 1) := by decide +kernel
theorem d_T_typeOfConstant_198 : decode m_T_typeOfConstant.2.1 198 = .ok (.invokevirtual 163, 3) := by decide +kernel
theorem d_T_typeOfConstant_201 : decode m_T_typeOfConstant.2.1 201 = .ok (.istore 5, 2) := by decide +kernel
theorem d_T_typeOfConstant_203 : decode m_T_typeOfConstant.2.1 203 = .ok (.aload_n 0, 1) := by decide +kernel
theorem d_T_typeOfConstant_204 : decode m_T_typeOfConstant.2.1 204 = .ok (.aload_n 0, 1) := by decide +kernel
theorem d_T_typeOfConstant_205 : decode m_T_typeOfConstant.2.1 205 = .ok (.getfield 15, 3) := by decide +kernel
theorem d_T_typeOfConstant_208 : decode m_T_typeOfConstant.2.1 208 = .ok (.aload_n 1, 1) := by decide +kernel
theorem d_T_typeOfConstant_209 : decode m_T_typeOfConstant.2.1 209 = .ok (.getfield 78, 3) := by decide +kernel
theorem d_T_typeOfConstant_212 : decode m_T_typeOfConstant.2.1 212 = .ok (.aload_n 0, 1) := by decide +kernel
theorem d_T_typeOfConstant_213 : decode m_T_typeOfConstant.2.1 213 = .ok (.getfield 19, 3) := by decide +kernel
theorem d_T_typeOfConstant_216 : decode m_T_typeOfConstant.2.1 216 = .ok (.iload_n 3, 1) := by decide +kernel
theorem d_T_typeOfConstant_217 : decode m_T_typeOfConstant.2.1 217 = .ok (.invokevirtual 174, 3) := by decide +kernel
theorem d_T_typeOfConstant_220 : decode m_T_typeOfConstant.2.1 220 = .ok (.putfield 38, 3) := by decide +kernel
theorem d_T_typeOfConstant_223 : decode m_T_typeOfConstant.2.1 223 = .ok (.aload_n 0, 1) := by decide +kernel
theorem d_T_typeOfConstant_224 : decode m_T_typeOfConstant.2.1 224 = .ok (.getfield 19, 3) := by decide +kernel
theorem d_T_typeOfConstant_227 : decode m_T_typeOfConstant.2.1 227 = .ok (.iload_n 3, 1) := by decide +kernel
theorem d_T_typeOfConstant_228 : decode m_T_typeOfConstant.2.1 228 = .ok (.invokevirtual 178, 3) := by decide +kernel
theorem d_T_typeOfConstant_231 : decode m_T_typeOfConstant.2.1 231 = .ok (.iload 5, 2) := by decide +kernel
theorem d_T_typeOfConstant_233 : decode m_T_typeOfConstant.2.1 233 = .ok (.ireturn, 1) := by decide +kernel
theorem d_T_takeArgument_0 : decode m_T_takeArgument.2.1 0 = .ok (.aload_n 2, 1) := by decide +kernel
theorem d_T_takeArgument_1 : decode m_T_takeArgument.2.1 1 = .ok (.getfield 64, 3) := by decide +kernel
theorem d_T_takeArgument_4 : decode m_T_takeArgument.2.1 4 = .ok (.iconst 4, 1) := by decide +kernel
theorem d_T_takeArgument_5 : decode m_T_takeArgument.2.1 5 = .ok (.if_icmp .ne 24, 3) := by decide +kernel
theorem d_T_takeArgument_8 : decode m_T_takeArgument.2.1 8 = .ok (.aload_n 0, 1) := by decide +kernel
theorem d_T_takeArgument_9 : decode m_T_takeArgument.2.1 9 = .ok (.getfield 19, 3) := by decide +kernel
theorem d_T_takeArgument_12 : decode m_T_takeArgument.2.1 12 = .ok (.aload_n 1, 1) := by decide +kernel
theorem d_T_takeArgument_13 : decode m_T_takeArgument.2.1 13 = .ok (.getfield 78, 3) := by decide +kernel
theorem d_T_takeArgument_16 : decode m_T_takeArgument.2.1 16 = .ok (.aload_n 0, 1) := by decide +kernel
theorem d_T_takeArgument_17 : decode m_T_takeArgument.2.1 17 = .ok (.getfield 15, 3) := by decide +kernel
theorem d_T_takeArgument_20 : decode m_T_takeArgument.2.1 20 = .ok (.invokevirtual 181, 3) := by decide +kernel
theorem d_T_takeArgument_23 : decode m_T_takeArgument.2.1 23 = .ok (.iconst (-1), 1) := by decide +kernel
theorem d_T_takeArgument_24 : decode m_T_takeArgument.2.1 24 = .ok (.invokevirtual 107, 3) := by decide +kernel
theorem d_T_takeArgument_27 : decode m_T_takeArgument.2.1 27 = .ok (.iconst 1, 1) := by decide +kernel
theorem d_T_takeArgument_28 : decode m_T_takeArgument.2.1 28 = .ok (.ireturn, 1) := by decide +kernel
theorem d_T_takeArgument_29 : decode m_T_takeArgument.2.1 29 = .ok (.aload_n 0, 1) := by decide +kernel
theorem d_T_takeArgument_30 : decode m_T_takeArgument.2.1 30 = .ok (.aload_n 2, 1) := by decide +kernel
theorem d_T_takeArgument_31 : decode m_T_takeArgument.2.1 31 = .ok (.invokevirtual 45, 3) := by decide +kernel
theorem d_T_takeArgument_34 : decode m_T_takeArgument.2.1 34 = .ok (.istore 4, 2) := by decide +kernel
theorem d_T_takeArgument_36 : decode m_T_takeArgument.2.1 36 = .ok (.iload 4, 2) := by decide +kernel
theorem d_T_takeArgument_38 : decode m_T_takeArgument.2.1 38 = .ok (.iconst (-1), 1) := by decide +kernel
theorem d_T_takeArgument_39 : decode m_T_takeArgument.2.1 39 = .ok (.if_icmp .ne 5, 3) := by decide +kernel
theorem d_T_takeArgument_42 : decode m_T_takeArgument.2.1 42 = .ok (.iconst 0, 1) := by decide +kernel
theorem d_T_takeArgument_43 : decode m_T_takeArgument.2.1 43 = .ok (.ireturn, 1) := by decide +kernel
theorem d_T_takeArgument_44 : decode m_T_takeArgument.2.1 44 = .ok (.aload_n 0, 1) := by decide +kernel
theorem d_T_takeArgument_45 : decode m_T_takeArgument.2.1 45 = .ok (.getfield 38, 3) := by decide +kernel
theorem d_T_takeArgument_48 : decode m_T_takeArgument.2.1 48 = .ok (.istore 5, 2) := by decide +kernel
theorem d_T_takeArgument_50 : decode m_T_takeArgument.2.1 50 = .ok (.aload_n 0, 1) := by decide +kernel
theorem d_T_takeArgument_51 : decode m_T_takeArgument.2.1 51 = .ok (.iload 4, 2) := by decide +kernel
theorem d_T_takeArgument_53 : decode m_T_takeArgument.2.1 53 = .ok (.invokevirtual 74, 3) := by decide +kernel
theorem d_T_takeArgument_56 : decode m_T_takeArgument.2.1 56 = .ok (.ifCond .ne 24, 3) := by decide +kernel
theorem d_T_takeArgument_59 : decode m_T_takeArgument.2.1 59 = .ok (.aload_n 0, 1) := by decide +kernel
theorem d_T_takeArgument_60 : decode m_T_takeArgument.2.1 60 = .ok (.getfield 15, 3) := by decide +kernel
theorem d_T_takeArgument_63 : decode m_T_takeArgument.2.1 63 = .ok (.iload 4, 2) := by decide +kernel
theorem d_T_takeArgument_65 : decode m_T_takeArgument.2.1 65 = .ok (.aload_n 0, 1) := by decide +kernel
theorem d_T_takeArgument_66 : decode m_T_takeArgument.2.1 66 = .ok (.aload_n 1, 1) := by decide +kernel
theorem d_T_takeArgument_67 : decode m_T_takeArgument.2.1 67 = .ok (.getfield 49, 3) := by decide +kernel
theorem d_T_takeArgument_70 : decode m_T_takeArgument.2.1 70 = .ok (.iload_n 3, 1) := by decide +kernel
theorem d_T_takeArgument_71 : decode m_T_takeArgument.2.1 71 = .ok (.invokevirtual 163, 3) := by decide +kernel
theorem d_T_takeArgument_74 : decode m_T_takeArgument.2.1 74 = .ok (.invokevirtual 166, 3) := by decide +kernel
theorem d_T_takeArgument_77 : decode m_T_takeArgument.2.1 77 = .ok (.ifCond .ne 13, 3) := by decide +kernel
theorem d_T_takeArgument_80 : decode m_T_takeArgument.2.1 80 = .ok (.aload_n 0, 1) := by decide +kernel
theorem d_T_takeArgument_81 : decode m_T_takeArgument.2.1 81 = .ok (.aload_n 2, 1) := by decide +kernel
theorem d_T_takeArgument_82 : decode m_T_takeArgument.2.1 82 = .ok (.getfield 71, 3) := by decide +kernel
theorem d_T_takeArgument_85 : decode m_T_takeArgument.2.1 85 = .ok (.putfield 35, 3) := by decide +kernel
theorem d_T_takeArgument_88 : decode m_T_takeArgument.2.1 88 = .ok (.iconst 0, 1) := by decide +kernel
theorem d_T_takeArgument_89 : decode m_T_takeArgument.2.1 89 = .ok (.ireturn, 1) := by decide +kernel
theorem d_T_takeArgument_90 : decode m_T_takeArgument.2.1 90 = .ok (.aload_n 0, 1) := by decide +kernel
theorem d_T_takeArgument_91 : decode m_T_takeArgument.2.1 91 = .ok (.getfield 19, 3) := by decide +kernel
theorem d_T_takeArgument_94 : decode m_T_takeArgument.2.1 94 = .ok (.aload_n 1, 1) := by decide +kernel
theorem d_T_takeArgument_95 : decode m_T_takeArgument.2.1 95 = .ok (.getfield 78, 3) := by decide +kernel
theorem d_T_takeArgument_98 : decode m_T_takeArgument.2.1 98 = .ok (.iload 5, 2) := by decide +kernel
theorem d_T_takeArgument_100 : decode m_T_takeArgument.2.1 100 = .ok (.iconst (-1), 1) := by decide +kernel
theorem d_T_takeArgument_101 : decode m_T_takeArgument.2.1 101 = .ok (.invokevirtual 107, 3) := by decide +kernel
theorem d_T_takeArgument_104 : decode m_T_takeArgument.2.1 104 = .ok (.iconst 1, 1) := by decide +kernel
theorem d_T_takeArgument_105 : decode m_T_takeArgument.2.1 105 = .ok (.ireturn, 1) := by decide +kernel
theorem d_T_bindTerms_0 : decode m_T_bindTerms.2.1 0 = .ok (.aload_n 0, 1) := by decide +kernel
theorem d_T_bindTerms_1 : decode m_T_bindTerms.2.1 1 = .ok (.getfield 19, 3) := by decide +kernel
theorem d_T_bindTerms_4 : decode m_T_bindTerms.2.1 4 = .ok (.invokevirtual 111, 3) := by decide +kernel
theorem d_T_bindTerms_7 : decode m_T_bindTerms.2.1 7 = .ok (.istore_n 3, 1) := by decide +kernel
theorem d_T_bindTerms_8 : decode m_T_bindTerms.2.1 8 = .ok (.aload_n 1, 1) := by decide +kernel
theorem d_T_bindTerms_9 : decode m_T_bindTerms.2.1 9 = .ok (.getfield 49, 3) := by decide +kernel
theorem d_T_bindTerms_12 : decode m_T_bindTerms.2.1 12 = .ok (.astore 4, 2) := by decide +kernel
theorem d_T_bindTerms_14 : decode m_T_bindTerms.2.1 14 = .ok (.aload 4, 2) := by decide +kernel
theorem d_T_bindTerms_16 : decode m_T_bindTerms.2.1 16 = .ok (.ifnull 36, 3) := by decide +kernel
theorem d_T_bindTerms_19 : decode m_T_bindTerms.2.1 19 = .ok (.aload 4, 2) := by decide +kernel
theorem d_T_bindTerms_21 : decode m_T_bindTerms.2.1 21 = .ok (.aload_n 1, 1) := by decide +kernel
theorem d_T_bindTerms_22 : decode m_T_bindTerms.2.1 22 = .ok (.getfield 151, 3) := by decide +kernel
theorem d_T_bindTerms_25 : decode m_T_bindTerms.2.1 25 = .ok (.if_acmp .eq 27, 3) := by decide +kernel
theorem d_T_bindTerms_28 : decode m_T_bindTerms.2.1 28 = .ok (.aload_n 0, 1) := by decide +kernel
theorem d_T_bindTerms_29 : decode m_T_bindTerms.2.1 29 = .ok (.getfield 19, 3) := by decide +kernel
theorem d_T_bindTerms_32 : decode m_T_bindTerms.2.1 32 = .ok (.aload_n 0, 1) := by decide +kernel
theorem d_T_bindTerms_33 : decode m_T_bindTerms.2.1 33 = .ok (.aload 4, 2) := by decide +kernel
theorem d_T_bindTerms_35 : decode m_T_bindTerms.2.1 35 = .ok (.iload_n 2, 1) := by decide +kernel
theorem d_T_bindTerms_36 : decode m_T_bindTerms.2.1 36 = .ok (.invokevirtual 163, 3) := by decide +kernel
theorem d_T_bindTerms_39 : decode m_T_bindTerms.2.1 39 = .ok (.invokevirtual 55, 3) := by decide +kernel
theorem d_T_bindTerms_42 : decode m_T_bindTerms.2.1 42 = .ok (.aload 4, 2) := by decide +kernel
theorem d_T_bindTerms_44 : decode m_T_bindTerms.2.1 44 = .ok (.getfield 61, 3) := by decide +kernel
theorem d_T_bindTerms_47 : decode m_T_bindTerms.2.1 47 = .ok (.astore 4, 2) := by decide +kernel
theorem d_T_bindTerms_49 : decode m_T_bindTerms.2.1 49 = .ok (.goto (-35), 3) := by decide +kernel
theorem d_T_bindTerms_52 : decode m_T_bindTerms.2.1 52 = .ok (.iload_n 3, 1) := by decide +kernel
theorem d_T_bindTerms_53 : decode m_T_bindTerms.2.1 53 = .ok (.ireturn, 1) := by decide +kernel
theorem d_T_valueBy_0 : decode m_T_valueBy.2.1 0 = .ok (.aload_n 1, 1) := by decide +kernel
theorem d_T_valueBy_1 : decode m_T_valueBy.2.1 1 = .ok (.getfield 64, 3) := by decide +kernel
theorem d_T_valueBy_4 : decode m_T_valueBy.2.1 4 = .ok (.iconst 5, 1) := by decide +kernel
theorem d_T_valueBy_5 : decode m_T_valueBy.2.1 5 = .ok (.if_icmp .ne 16, 3) := by decide +kernel
theorem d_T_valueBy_8 : decode m_T_valueBy.2.1 8 = .ok (.aload_n 0, 1) := by decide +kernel
theorem d_T_valueBy_9 : decode m_T_valueBy.2.1 9 = .ok (.getfield 19, 3) := by decide +kernel
theorem d_T_valueBy_12 : decode m_T_valueBy.2.1 12 = .ok (.aload_n 1, 1) := by decide +kernel
theorem d_T_valueBy_13 : decode m_T_valueBy.2.1 13 = .ok (.getfield 78, 3) := by decide +kernel
theorem d_T_valueBy_16 : decode m_T_valueBy.2.1 16 = .ok (.iload_n 2, 1) := by decide +kernel
theorem d_T_valueBy_17 : decode m_T_valueBy.2.1 17 = .ok (.invokevirtual 184, 3) := by decide +kernel
theorem d_T_valueBy_20 : decode m_T_valueBy.2.1 20 = .ok (.ireturn, 1) := by decide +kernel
theorem d_T_valueBy_21 : decode m_T_valueBy.2.1 21 = .ok (.aload_n 1, 1) := by decide +kernel
theorem d_T_valueBy_22 : decode m_T_valueBy.2.1 22 = .ok (.getfield 64, 3) := by decide +kernel
theorem d_T_valueBy_25 : decode m_T_valueBy.2.1 25 = .ok (.bipush 6, 2) := by decide +kernel
theorem d_T_valueBy_27 : decode m_T_valueBy.2.1 27 = .ok (.if_icmp .eq 19, 3) := by decide +kernel
theorem d_T_valueBy_30 : decode m_T_valueBy.2.1 30 = .ok (.aload_n 0, 1) := by decide +kernel
theorem d_T_valueBy_31 : decode m_T_valueBy.2.1 31 = .ok (.getfield 15, 3) := by decide +kernel
theorem d_T_valueBy_34 : decode m_T_valueBy.2.1 34 = .ok (.aload_n 1, 1) := by decide +kernel
theorem d_T_valueBy_35 : decode m_T_valueBy.2.1 35 = .ok (.getfield 64, 3) := by decide +kernel
theorem d_T_valueBy_38 : decode m_T_valueBy.2.1 38 = .ok (.aload_n 1, 1) := by decide +kernel
theorem d_T_valueBy_39 : decode m_T_valueBy.2.1 39 = .ok (.getfield 78, 3) := by decide +kernel
theorem d_T_valueBy_42 : decode m_T_valueBy.2.1 42 = .ok (.invokevirtual 118, 3) := by decide +kernel
theorem d_T_valueBy_45 : decode m_T_valueBy.2.1 45 = .ok (.ireturn, 1) := by decide +kernel
theorem d_T_valueBy_46 : decode m_T_valueBy.2.1 46 = .ok (.aload_n 0, 1) := by decide +kernel
theorem d_T_valueBy_47 : decode m_T_valueBy.2.1 47 = .ok (.getfield 19, 3) := by decide +kernel
theorem d_T_valueBy_50 : decode m_T_valueBy.2.1 50 = .ok (.invokevirtual 111, 3) := by decide +kernel
theorem d_T_valueBy_53 : decode m_T_valueBy.2.1 53 = .ok (.istore_n 3, 1) := by decide +kernel
theorem d_T_valueBy_54 : decode m_T_valueBy.2.1 54 = .ok (.aload_n 1, 1) := by decide +kernel
theorem d_T_valueBy_55 : decode m_T_valueBy.2.1 55 = .ok (.getfield 49, 3) := by decide +kernel
theorem d_T_valueBy_58 : decode m_T_valueBy.2.1 58 = .ok (.astore 4, 2) := by decide +kernel
theorem d_T_valueBy_60 : decode m_T_valueBy.2.1 60 = .ok (.aload 4, 2) := by decide +kernel
theorem d_T_valueBy_62 : decode m_T_valueBy.2.1 62 = .ok (.ifnull 27, 3) := by decide +kernel
theorem d_T_valueBy_65 : decode m_T_valueBy.2.1 65 = .ok (.aload_n 0, 1) := by decide +kernel
theorem d_T_valueBy_66 : decode m_T_valueBy.2.1 66 = .ok (.getfield 19, 3) := by decide +kernel
theorem d_T_valueBy_69 : decode m_T_valueBy.2.1 69 = .ok (.aload_n 0, 1) := by decide +kernel
theorem d_T_valueBy_70 : decode m_T_valueBy.2.1 70 = .ok (.aload 4, 2) := by decide +kernel
theorem d_T_valueBy_72 : decode m_T_valueBy.2.1 72 = .ok (.iload_n 2, 1) := by decide +kernel
theorem d_T_valueBy_73 : decode m_T_valueBy.2.1 73 = .ok (.invokevirtual 163, 3) := by decide +kernel
theorem d_T_valueBy_76 : decode m_T_valueBy.2.1 76 = .ok (.invokevirtual 55, 3) := by decide +kernel
theorem d_T_valueBy_79 : decode m_T_valueBy.2.1 79 = .ok (.aload 4, 2) := by decide +kernel
theorem d_T_valueBy_81 : decode m_T_valueBy.2.1 81 = .ok (.getfield 61, 3) := by decide +kernel
theorem d_T_valueBy_84 : decode m_T_valueBy.2.1 84 = .ok (.astore 4, 2) := by decide +kernel
theorem d_T_valueBy_86 : decode m_T_valueBy.2.1 86 = .ok (.goto (-26), 3) := by decide +kernel
theorem d_T_valueBy_89 : decode m_T_valueBy.2.1 89 = .ok (.aload_n 0, 1) := by decide +kernel
theorem d_T_valueBy_90 : decode m_T_valueBy.2.1 90 = .ok (.getfield 15, 3) := by decide +kernel
theorem d_T_valueBy_93 : decode m_T_valueBy.2.1 93 = .ok (.aload_n 1, 1) := by decide +kernel
theorem d_T_valueBy_94 : decode m_T_valueBy.2.1 94 = .ok (.getfield 78, 3) := by decide +kernel
theorem d_T_valueBy_97 : decode m_T_valueBy.2.1 97 = .ok (.aload_n 0, 1) := by decide +kernel
theorem d_T_valueBy_98 : decode m_T_valueBy.2.1 98 = .ok (.getfield 19, 3) := by decide +kernel
theorem d_T_valueBy_101 : decode m_T_valueBy.2.1 101 = .ok (.iload_n 3, 1) := by decide +kernel
theorem d_T_valueBy_102 : decode m_T_valueBy.2.1 102 = .ok (.invokevirtual 174, 3) := by decide +kernel
theorem d_T_valueBy_105 : decode m_T_valueBy.2.1 105 = .ok (.istore 4, 2) := by decide +kernel
theorem d_T_valueBy_107 : decode m_T_valueBy.2.1 107 = .ok (.aload_n 0, 1) := by decide +kernel
theorem d_T_valueBy_108 : decode m_T_valueBy.2.1 108 = .ok (.getfield 19, 3) := by decide +kernel
theorem d_T_valueBy_111 : decode m_T_valueBy.2.1 111 = .ok (.iload_n 3, 1) := by decide +kernel
theorem d_T_valueBy_112 : decode m_T_valueBy.2.1 112 = .ok (.invokevirtual 178, 3) := by decide +kernel
theorem d_T_valueBy_115 : decode m_T_valueBy.2.1 115 = .ok (.iload 4, 2) := by decide +kernel
theorem d_T_valueBy_117 : decode m_T_valueBy.2.1 117 = .ok (.ireturn, 1) := by decide +kernel
theorem d_V_init_0 : decode m_V_init.2.1 0 = .ok (.aload_n 0, 1) := by decide +kernel
theorem d_V_init_1 : decode m_V_init.2.1 1 = .ok (.invokespecial 3, 3) := by decide +kernel
theorem d_V_init_4 : decode m_V_init.2.1 4 = .ok (.aload_n 0, 1) := by decide +kernel
theorem d_V_init_5 : decode m_V_init.2.1 5 = .ok (.new 9, 3) := by decide +kernel
theorem d_V_init_8 : decode m_V_init.2.1 8 = .ok (.dup, 1) := by decide +kernel
theorem d_V_init_9 : decode m_V_init.2.1 9 = .ok (.sipush 512, 3) := by decide +kernel
theorem d_V_init_12 : decode m_V_init.2.1 12 = .ok (.invokespecial 11, 3) := by decide +kernel
theorem d_V_init_15 : decode m_V_init.2.1 15 = .ok (.putfield 14, 3) := by decide +kernel
theorem d_V_init_18 : decode m_V_init.2.1 18 = .ok (.aload_n 0, 1) := by decide +kernel
theorem d_V_init_19 : decode m_V_init.2.1 19 = .ok (.new 9, 3) := by decide +kernel
theorem d_V_init_22 : decode m_V_init.2.1 22 = .ok (.dup, 1) := by decide +kernel
theorem d_V_init_23 : decode m_V_init.2.1 23 = .ok (.bipush 64, 2) := by decide +kernel
theorem d_V_init_25 : decode m_V_init.2.1 25 = .ok (.invokespecial 11, 3) := by decide +kernel
theorem d_V_init_28 : decode m_V_init.2.1 28 = .ok (.putfield 20, 3) := by decide +kernel
theorem d_V_init_31 : decode m_V_init.2.1 31 = .ok (.aload_n 0, 1) := by decide +kernel
theorem d_V_init_32 : decode m_V_init.2.1 32 = .ok (.new 9, 3) := by decide +kernel
theorem d_V_init_35 : decode m_V_init.2.1 35 = .ok (.dup, 1) := by decide +kernel
theorem d_V_init_36 : decode m_V_init.2.1 36 = .ok (.bipush 64, 2) := by decide +kernel
theorem d_V_init_38 : decode m_V_init.2.1 38 = .ok (.invokespecial 11, 3) := by decide +kernel
theorem d_V_init_41 : decode m_V_init.2.1 41 = .ok (.putfield 23, 3) := by decide +kernel
theorem d_V_init_44 : decode m_V_init.2.1 44 = .ok (.aload_n 0, 1) := by decide +kernel
theorem d_V_init_45 : decode m_V_init.2.1 45 = .ok (.bipush 101, 2) := by decide +kernel
theorem d_V_init_47 : decode m_V_init.2.1 47 = .ok (.newarray .char, 2) := by decide +kernel
theorem d_V_init_49 : decode m_V_init.2.1 49 = .ok (.putfield 26, 3) := by decide +kernel
theorem d_V_init_52 : decode m_V_init.2.1 52 = .ok (.aload_n 0, 1) := by decide +kernel
theorem d_V_init_53 : decode m_V_init.2.1 53 = .ok (.iconst 0, 1) := by decide +kernel
theorem d_V_init_54 : decode m_V_init.2.1 54 = .ok (.putfield 30, 3) := by decide +kernel
theorem d_V_init_57 : decode m_V_init.2.1 57 = .ok (.return_, 1) := by decide +kernel
theorem d_V_clear_0 : decode m_V_clear.2.1 0 = .ok (.aload_n 0, 1) := by decide +kernel
theorem d_V_clear_1 : decode m_V_clear.2.1 1 = .ok (.getfield 14, 3) := by decide +kernel
theorem d_V_clear_4 : decode m_V_clear.2.1 4 = .ok (.iconst 0, 1) := by decide +kernel
theorem d_V_clear_5 : decode m_V_clear.2.1 5 = .ok (.invokevirtual 34, 3) := by decide +kernel
theorem d_V_clear_8 : decode m_V_clear.2.1 8 = .ok (.return_, 1) := by decide +kernel
theorem d_V_sortOf_0 : decode m_V_sortOf.2.1 0 = .ok (.aload_n 0, 1) := by decide +kernel
theorem d_V_sortOf_1 : decode m_V_sortOf.2.1 1 = .ok (.getfield 14, 3) := by decide +kernel
theorem d_V_sortOf_4 : decode m_V_sortOf.2.1 4 = .ok (.iload_n 1, 1) := by decide +kernel
theorem d_V_sortOf_5 : decode m_V_sortOf.2.1 5 = .ok (.invokevirtual 37, 3) := by decide +kernel
theorem d_V_sortOf_8 : decode m_V_sortOf.2.1 8 = .ok (.ireturn, 1) := by decide +kernel
theorem d_V_datumOf_0 : decode m_V_datumOf.2.1 0 = .ok (.aload_n 0, 1) := by decide +kernel
theorem d_V_datumOf_1 : decode m_V_datumOf.2.1 1 = .ok (.getfield 14, 3) := by decide +kernel
theorem d_V_datumOf_4 : decode m_V_datumOf.2.1 4 = .ok (.iload_n 1, 1) := by decide +kernel
theorem d_V_datumOf_5 : decode m_V_datumOf.2.1 5 = .ok (.iconst 1, 1) := by decide +kernel
theorem d_V_datumOf_6 : decode m_V_datumOf.2.1 6 = .ok (.iadd, 1) := by decide +kernel
theorem d_V_datumOf_7 : decode m_V_datumOf.2.1 7 = .ok (.invokevirtual 37, 3) := by decide +kernel
theorem d_V_datumOf_10 : decode m_V_datumOf.2.1 10 = .ok (.ireturn, 1) := by decide +kernel
theorem d_V_countOf_0 : decode m_V_countOf.2.1 0 = .ok (.aload_n 0, 1) := by decide +kernel
theorem d_V_countOf_1 : decode m_V_countOf.2.1 1 = .ok (.getfield 14, 3) := by decide +kernel
theorem d_V_countOf_4 : decode m_V_countOf.2.1 4 = .ok (.iload_n 1, 1) := by decide +kernel
theorem d_V_countOf_5 : decode m_V_countOf.2.1 5 = .ok (.iconst 2, 1) := by decide +kernel
theorem d_V_countOf_6 : decode m_V_countOf.2.1 6 = .ok (.iadd, 1) := by decide +kernel
theorem d_V_countOf_7 : decode m_V_countOf.2.1 7 = .ok (.invokevirtual 37, 3) := by decide +kernel
theorem d_V_countOf_10 : decode m_V_countOf.2.1 10 = .ok (.ireturn, 1) := by decide +kernel
theorem d_V_argumentOf_0 : decode m_V_argumentOf.2.1 0 = .ok (.aload_n 0, 1) := by decide +kernel
theorem d_V_argumentOf_1 : decode m_V_argumentOf.2.1 1 = .ok (.getfield 14, 3) := by decide +kernel
theorem d_V_argumentOf_4 : decode m_V_argumentOf.2.1 4 = .ok (.iload_n 1, 1) := by decide +kernel
theorem d_V_argumentOf_5 : decode m_V_argumentOf.2.1 5 = .ok (.iconst 3, 1) := by decide +kernel
theorem d_V_argumentOf_6 : decode m_V_argumentOf.2.1 6 = .ok (.iadd, 1) := by decide +kernel
theorem d_V_argumentOf_7 : decode m_V_argumentOf.2.1 7 = .ok (.iload_n 2, 1) := by decide +kernel
theorem d_V_argumentOf_8 : decode m_V_argumentOf.2.1 8 = .ok (.iadd, 1) := by decide +kernel
theorem d_V_argumentOf_9 : decode m_V_argumentOf.2.1 9 = .ok (.invokevirtual 37, 3) := by decide +kernel
theorem d_V_argumentOf_12 : decode m_V_argumentOf.2.1 12 = .ok (.ireturn, 1) := by decide +kernel
theorem d_V_makeSimple_0 : decode m_V_makeSimple.2.1 0 = .ok (.aload_n 0, 1) := by decide +kernel
theorem d_V_makeSimple_1 : decode m_V_makeSimple.2.1 1 = .ok (.getfield 14, 3) := by decide +kernel
theorem d_V_makeSimple_4 : decode m_V_makeSimple.2.1 4 = .ok (.invokevirtual 41, 3) := by decide +kernel
theorem d_V_makeSimple_7 : decode m_V_makeSimple.2.1 7 = .ok (.istore_n 3, 1) := by decide +kernel
theorem d_V_makeSimple_8 : decode m_V_makeSimple.2.1 8 = .ok (.aload_n 0, 1) := by decide +kernel
theorem d_V_makeSimple_9 : decode m_V_makeSimple.2.1 9 = .ok (.getfield 14, 3) := by decide +kernel
theorem d_V_makeSimple_12 : decode m_V_makeSimple.2.1 12 = .ok (.iload_n 1, 1) := by decide +kernel
theorem d_V_makeSimple_13 : decode m_V_makeSimple.2.1 13 = .ok (.invokevirtual 45, 3) := by decide +kernel
theorem d_V_makeSimple_16 : decode m_V_makeSimple.2.1 16 = .ok (.aload_n 0, 1) := by decide +kernel
theorem d_V_makeSimple_17 : decode m_V_makeSimple.2.1 17 = .ok (.getfield 14, 3) := by decide +kernel
theorem d_V_makeSimple_20 : decode m_V_makeSimple.2.1 20 = .ok (.iload_n 2, 1) := by decide +kernel
theorem d_V_makeSimple_21 : decode m_V_makeSimple.2.1 21 = .ok (.invokevirtual 45, 3) := by decide +kernel
theorem d_V_makeSimple_24 : decode m_V_makeSimple.2.1 24 = .ok (.aload_n 0, 1) := by decide +kernel
theorem d_V_makeSimple_25 : decode m_V_makeSimple.2.1 25 = .ok (.getfield 14, 3) := by decide +kernel
theorem d_V_makeSimple_28 : decode m_V_makeSimple.2.1 28 = .ok (.iconst 0, 1) := by decide +kernel
theorem d_V_makeSimple_29 : decode m_V_makeSimple.2.1 29 = .ok (.invokevirtual 45, 3) := by decide +kernel
theorem d_V_makeSimple_32 : decode m_V_makeSimple.2.1 32 = .ok (.iload_n 3, 1) := by decide +kernel
theorem d_V_makeSimple_33 : decode m_V_makeSimple.2.1 33 = .ok (.ireturn, 1) := by decide +kernel
theorem d_V_makeHole_0 : decode m_V_makeHole.2.1 0 = .ok (.aload_n 0, 1) := by decide +kernel
theorem d_V_makeHole_1 : decode m_V_makeHole.2.1 1 = .ok (.iconst 4, 1) := by decide +kernel
theorem d_V_makeHole_2 : decode m_V_makeHole.2.1 2 = .ok (.iconst (-1), 1) := by decide +kernel
theorem d_V_makeHole_3 : decode m_V_makeHole.2.1 3 = .ok (.invokevirtual 48, 3) := by decide +kernel
theorem d_V_makeHole_6 : decode m_V_makeHole.2.1 6 = .ok (.ireturn, 1) := by decide +kernel
theorem d_V_makeName_0 : decode m_V_makeName.2.1 0 = .ok (.aload_n 0, 1) := by decide +kernel
theorem d_V_makeName_1 : decode m_V_makeName.2.1 1 = .ok (.iconst 5, 1) := by decide +kernel
theorem d_V_makeName_2 : decode m_V_makeName.2.1 2 = .ok (.aload_n 0, 1) := by decide +kernel
theorem d_V_makeName_3 : decode m_V_makeName.2.1 3 = .ok (.getfield 14, 3) := by decide +kernel
theorem d_V_makeName_6 : decode m_V_makeName.2.1 6 = .ok (.invokevirtual 41, 3) := by decide +kernel
theorem d_V_makeName_9 : decode m_V_makeName.2.1 9 = .ok (.invokevirtual 48, 3) := by decide +kernel
theorem d_V_makeName_12 : decode m_V_makeName.2.1 12 = .ok (.ireturn, 1) := by decide +kernel
theorem d_V_makeConstant_0 : decode m_V_makeConstant.2.1 0 = .ok (.aload_n 0, 1) := by decide +kernel
theorem d_V_makeConstant_1 : decode m_V_makeConstant.2.1 1 = .ok (.bipush 6, 2) := by decide +kernel
theorem d_V_makeConstant_3 : decode m_V_makeConstant.2.1 3 = .ok (.iload_n 1, 1) := by decide +kernel
theorem d_V_makeConstant_4 : decode m_V_makeConstant.2.1 4 = .ok (.invokevirtual 48, 3) := by decide +kernel
theorem d_V_makeConstant_7 : decode m_V_makeConstant.2.1 7 = .ok (.istore 4, 2) := by decide +kernel
theorem d_V_makeConstant_9 : decode m_V_makeConstant.2.1 9 = .ok (.aload_n 2, 1) := by decide +kernel
theorem d_V_makeConstant_10 : decode m_V_makeConstant.2.1 10 = .ok (.invokevirtual 52, 3) := by decide +kernel
theorem d_V_makeConstant_13 : decode m_V_makeConstant.2.1 13 = .ok (.iload_n 3, 1) := by decide +kernel
theorem d_V_makeConstant_14 : decode m_V_makeConstant.2.1 14 = .ok (.isub, 1) := by decide +kernel
theorem d_V_makeConstant_15 : decode m_V_makeConstant.2.1 15 = .ok (.istore 5, 2) := by decide +kernel
theorem d_V_makeConstant_17 : decode m_V_makeConstant.2.1 17 = .ok (.aload_n 0, 1) := by decide +kernel
theorem d_V_makeConstant_18 : decode m_V_makeConstant.2.1 18 = .ok (.getfield 14, 3) := by decide +kernel
theorem d_V_makeConstant_21 : decode m_V_makeConstant.2.1 21 = .ok (.iload 4, 2) := by decide +kernel
theorem d_V_makeConstant_23 : decode m_V_makeConstant.2.1 23 = .ok (.iconst 2, 1) := by decide +kernel
theorem d_V_makeConstant_24 : decode m_V_makeConstant.2.1 24 = .ok (.iadd, 1) := by decide +kernel
theorem d_V_makeConstant_25 : decode m_V_makeConstant.2.1 25 = .ok (.iload 5, 2) := by decide +kernel
theorem d_V_makeConstant_27 : decode m_V_makeConstant.2.1 27 = .ok (.invokevirtual 55, 3) := by decide +kernel
theorem d_V_makeConstant_30 : decode m_V_makeConstant.2.1 30 = .ok (.iconst 0, 1) := by decide +kernel
theorem d_V_makeConstant_31 : decode m_V_makeConstant.2.1 31 = .ok (.istore 6, 2) := by decide +kernel
theorem d_V_makeConstant_33 : decode m_V_makeConstant.2.1 33 = .ok (.iload 6, 2) := by decide +kernel
theorem d_V_makeConstant_35 : decode m_V_makeConstant.2.1 35 = .ok (.iload 5, 2) := by decide +kernel
theorem d_V_makeConstant_37 : decode m_V_makeConstant.2.1 37 = .ok (.if_icmp .ge 24, 3) := by decide +kernel
theorem d_V_makeConstant_40 : decode m_V_makeConstant.2.1 40 = .ok (.aload_n 0, 1) := by decide +kernel
theorem d_V_makeConstant_41 : decode m_V_makeConstant.2.1 41 = .ok (.getfield 14, 3) := by decide +kernel
theorem d_V_makeConstant_44 : decode m_V_makeConstant.2.1 44 = .ok (.aload_n 2, 1) := by decide +kernel
theorem d_V_makeConstant_45 : decode m_V_makeConstant.2.1 45 = .ok (.iload_n 3, 1) := by decide +kernel
theorem d_V_makeConstant_46 : decode m_V_makeConstant.2.1 46 = .ok (.iload 6, 2) := by decide +kernel
theorem d_V_makeConstant_48 : decode m_V_makeConstant.2.1 48 = .ok (.iadd, 1) := by decide +kernel
theorem d_V_makeConstant_49 : decode m_V_makeConstant.2.1 49 = .ok (.invokevirtual 59, 3) := by decide +kernel
theorem d_V_makeConstant_52 : decode m_V_makeConstant.2.1 52 = .ok (.invokevirtual 45, 3) := by decide +kernel
theorem d_V_makeConstant_55 : decode m_V_makeConstant.2.1 55 = .ok (.iinc 6 1, 3) := by decide +kernel
theorem d_V_makeConstant_58 : decode m_V_makeConstant.2.1 58 = .ok (.goto (-25), 3) := by decide +kernel
theorem d_V_makeConstant_61 : decode m_V_makeConstant.2.1 61 = .ok (.iload 4, 2) := by decide +kernel
theorem d_V_makeConstant_63 : decode m_V_makeConstant.2.1 63 = .ok (.ireturn, 1) := by decide +kernel
theorem d_V_lookThrough_0 : decode m_V_lookThrough.2.1 0 = .ok (.iload_n 1, 1) := by decide +kernel
theorem d_V_lookThrough_1 : decode m_V_lookThrough.2.1 1 = .ok (.istore_n 2, 1) := by decide +kernel
theorem d_V_lookThrough_2 : decode m_V_lookThrough.2.1 2 = .ok (.iconst 0, 1) := by decide +kernel
theorem d_V_lookThrough_3 : decode m_V_lookThrough.2.1 3 = .ok (.istore_n 3, 1) := by decide +kernel
theorem d_V_lookThrough_4 : decode m_V_lookThrough.2.1 4 = .ok (.iload_n 3, 1) := by decide +kernel
theorem d_V_lookThrough_5 : decode m_V_lookThrough.2.1 5 = .ok (.aload_n 0, 1) := by decide +kernel
theorem d_V_lookThrough_6 : decode m_V_lookThrough.2.1 6 = .ok (.getfield 14, 3) := by decide +kernel
theorem d_V_lookThrough_9 : decode m_V_lookThrough.2.1 9 = .ok (.invokevirtual 41, 3) := by decide +kernel
theorem d_V_lookThrough_12 : decode m_V_lookThrough.2.1 12 = .ok (.if_icmp .ge 46, 3) := by decide +kernel
theorem d_V_lookThrough_15 : decode m_V_lookThrough.2.1 15 = .ok (.aload_n 0, 1) := by decide +kernel
theorem d_V_lookThrough_16 : decode m_V_lookThrough.2.1 16 = .ok (.getfield 14, 3) := by decide +kernel
theorem d_V_lookThrough_19 : decode m_V_lookThrough.2.1 19 = .ok (.iload_n 2, 1) := by decide +kernel
theorem d_V_lookThrough_20 : decode m_V_lookThrough.2.1 20 = .ok (.invokevirtual 37, 3) := by decide +kernel
theorem d_V_lookThrough_23 : decode m_V_lookThrough.2.1 23 = .ok (.iconst 4, 1) := by decide +kernel
theorem d_V_lookThrough_24 : decode m_V_lookThrough.2.1 24 = .ok (.if_icmp .ne 34, 3) := by decide +kernel
theorem d_V_lookThrough_27 : decode m_V_lookThrough.2.1 27 = .ok (.aload_n 0, 1) := by decide +kernel
theorem d_V_lookThrough_28 : decode m_V_lookThrough.2.1 28 = .ok (.getfield 14, 3) := by decide +kernel
theorem d_V_lookThrough_31 : decode m_V_lookThrough.2.1 31 = .ok (.iload_n 2, 1) := by decide +kernel
theorem d_V_lookThrough_32 : decode m_V_lookThrough.2.1 32 = .ok (.iconst 1, 1) := by decide +kernel
theorem d_V_lookThrough_33 : decode m_V_lookThrough.2.1 33 = .ok (.iadd, 1) := by decide +kernel
theorem d_V_lookThrough_34 : decode m_V_lookThrough.2.1 34 = .ok (.invokevirtual 37, 3) := by decide +kernel
theorem d_V_lookThrough_37 : decode m_V_lookThrough.2.1 37 = .ok (.iconst (-1), 1) := by decide +kernel
theorem d_V_lookThrough_38 : decode m_V_lookThrough.2.1 38 = .ok (.if_icmp .eq 20, 3) := by decide +kernel
theorem d_V_lookThrough_41 : decode m_V_lookThrough.2.1 41 = .ok (.aload_n 0, 1) := by decide +kernel
theorem d_V_lookThrough_42 : decode m_V_lookThrough.2.1 42 = .ok (.getfield 14, 3) := by decide +kernel
theorem d_V_lookThrough_45 : decode m_V_lookThrough.2.1 45 = .ok (.iload_n 2, 1) := by decide +kernel
theorem d_V_lookThrough_46 : decode m_V_lookThrough.2.1 46 = .ok (.iconst 1, 1) := by decide +kernel
theorem d_V_lookThrough_47 : decode m_V_lookThrough.2.1 47 = .ok (.iadd, 1) := by decide +kernel
theorem d_V_lookThrough_48 : decode m_V_lookThrough.2.1 48 = .ok (.invokevirtual 37, 3) := by decide +kernel
theorem d_V_lookThrough_51 : decode m_V_lookThrough.2.1 51 = .ok (.istore_n 2, 1) := by decide +kernel
theorem d_V_lookThrough_52 : decode m_V_lookThrough.2.1 52 = .ok (.iinc 3 1, 3) := by decide +kernel
theorem d_V_lookThrough_55 : decode m_V_lookThrough.2.1 55 = .ok (.goto (-51), 3) := by decide +kernel
theorem d_V_lookThrough_58 : decode m_V_lookThrough.2.1 58 = .ok (.iload_n 2, 1) := by decide +kernel
theorem d_V_lookThrough_59 : decode m_V_lookThrough.2.1 59 = .ok (.ireturn, 1) := by decide +kernel
theorem d_V_isOpenHole_0 : decode m_V_isOpenHole.2.1 0 = .ok (.aload_n 0, 1) := by decide +kernel
theorem d_V_isOpenHole_1 : decode m_V_isOpenHole.2.1 1 = .ok (.getfield 14, 3) := by decide +kernel
theorem d_V_isOpenHole_4 : decode m_V_isOpenHole.2.1 4 = .ok (.iload_n 1, 1) := by decide +kernel
theorem d_V_isOpenHole_5 : decode m_V_isOpenHole.2.1 5 = .ok (.invokevirtual 37, 3) := by decide +kernel
theorem d_V_isOpenHole_8 : decode m_V_isOpenHole.2.1 8 = .ok (.iconst 4, 1) := by decide +kernel
theorem d_V_isOpenHole_9 : decode m_V_isOpenHole.2.1 9 = .ok (.if_icmp .ne 7, 3) := by decide +kernel
theorem d_V_isOpenHole_12 : decode m_V_isOpenHole.2.1 12 = .ok (.iconst 1, 1) := by decide +kernel
theorem d_V_isOpenHole_13 : decode m_V_isOpenHole.2.1 13 = .ok (.goto 4, 3) := by decide +kernel
theorem d_V_isOpenHole_16 : decode m_V_isOpenHole.2.1 16 = .ok (.iconst 0, 1) := by decide +kernel
theorem d_V_isOpenHole_17 : decode m_V_isOpenHole.2.1 17 = .ok (.ireturn, 1) := by decide +kernel
theorem d_V_isSmallWithout_0 : decode m_V_isSmallWithout.2.1 0 = .ok (.aload_n 0, 1) := by decide +kernel
theorem d_V_isSmallWithout_1 : decode m_V_isSmallWithout.2.1 1 = .ok (.getfield 20, 3) := by decide +kernel
theorem d_V_isSmallWithout_4 : decode m_V_isSmallWithout.2.1 4 = .ok (.iconst 0, 1) := by decide +kernel
theorem d_V_isSmallWithout_5 : decode m_V_isSmallWithout.2.1 5 = .ok (.invokevirtual 34, 3) := by decide +kernel
theorem d_V_isSmallWithout_8 : decode m_V_isSmallWithout.2.1 8 = .ok (.aload_n 0, 1) := by decide +kernel
theorem d_V_isSmallWithout_9 : decode m_V_isSmallWithout.2.1 9 = .ok (.getfield 20, 3) := by decide +kernel
theorem d_V_isSmallWithout_12 : decode m_V_isSmallWithout.2.1 12 = .ok (.iload_n 1, 1) := by decide +kernel
theorem d_V_isSmallWithout_13 : decode m_V_isSmallWithout.2.1 13 = .ok (.invokevirtual 45, 3) := by decide +kernel
theorem d_V_isSmallWithout_16 : decode m_V_isSmallWithout.2.1 16 = .ok (.iconst 0, 1) := by decide +kernel
theorem d_V_isSmallWithout_17 : decode m_V_isSmallWithout.2.1 17 = .ok (.istore_n 3, 1) := by decide +kernel
theorem d_V_isSmallWithout_18 : decode m_V_isSmallWithout.2.1 18 = .ok (.iload_n 3, 1) := by decide +kernel
theorem d_V_isSmallWithout_19 : decode m_V_isSmallWithout.2.1 19 = .ok (.sipush 200, 3) := by decide +kernel
theorem d_V_isSmallWithout_22 : decode m_V_isSmallWithout.2.1 22 = .ok (.if_icmp .ge 78, 3) := by decide +kernel
theorem d_V_isSmallWithout_25 : decode m_V_isSmallWithout.2.1 25 = .ok (.aload_n 0, 1) := by decide +kernel
theorem d_V_isSmallWithout_26 : decode m_V_isSmallWithout.2.1 26 = .ok (.getfield 20, 3) := by decide +kernel
theorem d_V_isSmallWithout_29 : decode m_V_isSmallWithout.2.1 29 = .ok (.invokevirtual 41, 3) := by decide +kernel
theorem d_V_isSmallWithout_32 : decode m_V_isSmallWithout.2.1 32 = .ok (.ifCond .ne 5, 3) := by decide +kernel
theorem d_V_isSmallWithout_35 : decode m_V_isSmallWithout.2.1 35 = .ok (.iconst 1, 1) := by decide +kernel
theorem d_V_isSmallWithout_36 : decode m_V_isSmallWithout.2.1 36 = .ok (.ireturn, 1) := by decide +kernel
theorem d_V_isSmallWithout_37 : decode m_V_isSmallWithout.2.1 37 = .ok (.aload_n 0, 1) := by decide +kernel
theorem d_V_isSmallWithout_38 : decode m_V_isSmallWithout.2.1 38 = .ok (.aload_n 0, 1) := by decide +kernel
theorem d_V_isSmallWithout_39 : decode m_V_isSmallWithout.2.1 39 = .ok (.getfield 20, 3) := by decide +kernel
theorem d_V_isSmallWithout_42 : decode m_V_isSmallWithout.2.1 42 = .ok (.invokevirtual 62, 3) := by decide +kernel
theorem d_V_isSmallWithout_45 : decode m_V_isSmallWithout.2.1 45 = .ok (.invokevirtual 65, 3) := by decide +kernel
theorem d_V_isSmallWithout_48 : decode m_V_isSmallWithout.2.1 48 = .ok (.istore 4, 2) := by decide +kernel
theorem d_V_isSmallWithout_50 : decode m_V_isSmallWithout.2.1 50 = .ok (.iload 4, 2) := by decide +kernel
theorem d_V_isSmallWithout_52 : decode m_V_isSmallWithout.2.1 52 = .ok (.iload_n 2, 1) := by decide +kernel
theorem d_V_isSmallWithout_53 : decode m_V_isSmallWithout.2.1 53 = .ok (.if_icmp .ne 5, 3) := by decide +kernel
theorem d_V_isSmallWithout_56 : decode m_V_isSmallWithout.2.1 56 = .ok (.iconst 0, 1) := by decide +kernel
theorem d_V_isSmallWithout_57 : decode m_V_isSmallWithout.2.1 57 = .ok (.ireturn, 1) := by decide +kernel
theorem d_V_isSmallWithout_58 : decode m_V_isSmallWithout.2.1 58 = .ok (.aload_n 0, 1) := by decide +kernel
theorem d_V_isSmallWithout_59 : decode m_V_isSmallWithout.2.1 59 = .ok (.iload 4, 2) := by decide +kernel
theorem d_V_isSmallWithout_61 : decode m_V_isSmallWithout.2.1 61 = .ok (.invokevirtual 68, 3) := by decide +kernel
theorem d_V_isSmallWithout_64 : decode m_V_isSmallWithout.2.1 64 = .ok (.iconst 1, 1) := by decide +kernel
theorem d_V_isSmallWithout_65 : decode m_V_isSmallWithout.2.1 65 = .ok (.isub, 1) := by decide +kernel
theorem d_V_isSmallWithout_66 : decode m_V_isSmallWithout.2.1 66 = .ok (.istore 5, 2) := by decide +kernel
theorem d_V_isSmallWithout_68 : decode m_V_isSmallWithout.2.1 68 = .ok (.iload 5, 2) := by decide +kernel
theorem d_V_isSmallWithout_70 : decode m_V_isSmallWithout.2.1 70 = .ok (.ifCond .lt 24, 3) := by decide +kernel
theorem d_V_isSmallWithout_73 : decode m_V_isSmallWithout.2.1 73 = .ok (.aload_n 0, 1) := by decide +kernel
theorem d_V_isSmallWithout_74 : decode m_V_isSmallWithout.2.1 74 = .ok (.getfield 20, 3) := by decide +kernel
theorem d_V_isSmallWithout_77 : decode m_V_isSmallWithout.2.1 77 = .ok (.aload_n 0, 1) := by decide +kernel
theorem d_V_isSmallWithout_78 : decode m_V_isSmallWithout.2.1 78 = .ok (.iload 4, 2) := by decide +kernel
theorem d_V_isSmallWithout_80 : decode m_V_isSmallWithout.2.1 80 = .ok (.iload 5, 2) := by decide +kernel
theorem d_V_isSmallWithout_82 : decode m_V_isSmallWithout.2.1 82 = .ok (.invokevirtual 71, 3) := by decide +kernel
theorem d_V_isSmallWithout_85 : decode m_V_isSmallWithout.2.1 85 = .ok (.invokevirtual 45, 3) := by decide +kernel
theorem d_V_isSmallWithout_88 : decode m_V_isSmallWithout.2.1 88 = .ok (.iinc 5 (-1), 3) := by decide +kernel
theorem d_V_isSmallWithout_91 : decode m_V_isSmallWithout.2.1 91 = .ok (.goto (-23), 3) := by decide +kernel
theorem d_V_isSmallWithout_94 : decode m_V_isSmallWithout.2.1 94 = .ok (.iinc 3 1, 3) := by decide +kernel
theorem d_V_isSmallWithout_97 : decode m_V_isSmallWithout.2.1 97 = .ok (.goto (-79), 3) := by decide +kernel
theorem d_V_isSmallWithout_100 : decode m_V_isSmallWithout.2.1 100 = .ok (.aload_n 0, 1) := by decide +kernel
theorem d_V_isSmallWithout_101 : decode m_V_isSmallWithout.2.1 101 = .ok (.getfield 20, 3) := by decide +kernel
theorem d_V_isSmallWithout_104 : decode m_V_isSmallWithout.2.1 104 = .ok (.invokevirtual 41, 3) := by decide +kernel
theorem d_V_isSmallWithout_107 : decode m_V_isSmallWithout.2.1 107 = .ok (.ifCond .ne 7, 3) := by decide +kernel
theorem d_V_isSmallWithout_110 : decode m_V_isSmallWithout.2.1 110 = .ok (.iconst 1, 1) := by decide +kernel
theorem d_V_isSmallWithout_111 : decode m_V_isSmallWithout.2.1 111 = .ok (.goto 4, 3) := by decide +kernel
theorem d_V_isSmallWithout_114 : decode m_V_isSmallWithout.2.1 114 = .ok (.iconst 0, 1) := by decide +kernel
theorem d_V_isSmallWithout_115 : decode m_V_isSmallWithout.2.1 115 = .ok (.ireturn, 1) := by decide +kernel
theorem d_V_makeSame_0 : decode m_V_makeSame.2.1 0 = .ok (.aload_n 0, 1) := by decide +kernel
theorem d_V_makeSame_1 : decode m_V_makeSame.2.1 1 = .ok (.iload_n 1, 1) := by decide +kernel
theorem d_V_makeSame_2 : decode m_V_makeSame.2.1 2 = .ok (.iload_n 2, 1) := by decide +kernel
theorem d_V_makeSame_3 : decode m_V_makeSame.2.1 3 = .ok (.invokevirtual 74, 3) := by decide +kernel
theorem d_V_makeSame_6 : decode m_V_makeSame.2.1 6 = .ok (.iconst 0, 1) := by decide +kernel
theorem d_V_makeSame_7 : decode m_V_makeSame.2.1 7 = .ok (.istore_n 3, 1) := by decide +kernel
theorem d_V_makeSame_8 : decode m_V_makeSame.2.1 8 = .ok (.iload_n 3, 1) := by decide +kernel
theorem d_V_makeSame_9 : decode m_V_makeSame.2.1 9 = .ok (.sipush 1000, 3) := by decide +kernel
theorem d_V_makeSame_12 : decode m_V_makeSame.2.1 12 = .ok (.if_icmp .ge 102, 3) := by decide +kernel
theorem d_V_makeSame_15 : decode m_V_makeSame.2.1 15 = .ok (.aload_n 0, 1) := by decide +kernel
theorem d_V_makeSame_16 : decode m_V_makeSame.2.1 16 = .ok (.getfield 23, 3) := by decide +kernel
theorem d_V_makeSame_19 : decode m_V_makeSame.2.1 19 = .ok (.invokevirtual 41, 3) := by decide +kernel
theorem d_V_makeSame_22 : decode m_V_makeSame.2.1 22 = .ok (.ifCond .ne 5, 3) := by decide +kernel
theorem d_V_makeSame_25 : decode m_V_makeSame.2.1 25 = .ok (.iconst 1, 1) := by decide +kernel
theorem d_V_makeSame_26 : decode m_V_makeSame.2.1 26 = .ok (.ireturn, 1) := by decide +kernel
theorem d_V_makeSame_27 : decode m_V_makeSame.2.1 27 = .ok (.aload_n 0, 1) := by decide +kernel
theorem d_V_makeSame_28 : decode m_V_makeSame.2.1 28 = .ok (.aload_n 0, 1) := by decide +kernel
theorem d_V_makeSame_29 : decode m_V_makeSame.2.1 29 = .ok (.getfield 23, 3) := by decide +kernel
theorem d_V_makeSame_32 : decode m_V_makeSame.2.1 32 = .ok (.invokevirtual 62, 3) := by decide +kernel
theorem d_V_makeSame_35 : decode m_V_makeSame.2.1 35 = .ok (.invokevirtual 65, 3) := by decide +kernel
theorem d_V_makeSame_38 : decode m_V_makeSame.2.1 38 = .ok (.istore 4, 2) := by decide +kernel
theorem d_V_makeSame_40 : decode m_V_makeSame.2.1 40 = .ok (.aload_n 0, 1) := by decide +kernel
theorem d_V_makeSame_41 : decode m_V_makeSame.2.1 41 = .ok (.aload_n 0, 1) := by decide +kernel
theorem d_V_makeSame_42 : decode m_V_makeSame.2.1 42 = .ok (.getfield 23, 3) := by decide +kernel
theorem d_V_makeSame_45 : decode m_V_makeSame.2.1 45 = .ok (.invokevirtual 62, 3) := by decide +kernel
theorem d_V_makeSame_48 : decode m_V_makeSame.2.1 48 = .ok (.invokevirtual 65, 3) := by decide +kernel
theorem d_V_makeSame_51 : decode m_V_makeSame.2.1 51 = .ok (.istore 5, 2) := by decide +kernel
theorem d_V_makeSame_53 : decode m_V_makeSame.2.1 53 = .ok (.aload_n 0, 1) := by decide +kernel
theorem d_V_makeSame_54 : decode m_V_makeSame.2.1 54 = .ok (.iload 5, 2) := by decide +kernel
theorem d_V_makeSame_56 : decode m_V_makeSame.2.1 56 = .ok (.invokevirtual 77, 3) := by decide +kernel
theorem d_V_makeSame_59 : decode m_V_makeSame.2.1 59 = .ok (.ifCond .ne 12, 3) := by decide +kernel
theorem d_V_makeSame_62 : decode m_V_makeSame.2.1 62 = .ok (.aload_n 0, 1) := by decide +kernel
theorem d_V_makeSame_63 : decode m_V_makeSame.2.1 63 = .ok (.iload 4, 2) := by decide +kernel
theorem d_V_makeSame_65 : decode m_V_makeSame.2.1 65 = .ok (.invokevirtual 77, 3) := by decide +kernel
theorem d_V_makeSame_68 : decode m_V_makeSame.2.1 68 = .ok (.ifCond .eq 16, 3) := by decide +kernel
theorem d_V_makeSame_71 : decode m_V_makeSame.2.1 71 = .ok (.aload_n 0, 1) := by decide +kernel
theorem d_V_makeSame_72 : decode m_V_makeSame.2.1 72 = .ok (.iload 5, 2) := by decide +kernel
theorem d_V_makeSame_74 : decode m_V_makeSame.2.1 74 = .ok (.iload 4, 2) := by decide +kernel
theorem d_V_makeSame_76 : decode m_V_makeSame.2.1 76 = .ok (.invokevirtual 81, 3) := by decide +kernel
theorem d_V_makeSame_79 : decode m_V_makeSame.2.1 79 = .ok (.ifCond .ne 29, 3) := by decide +kernel
theorem d_V_makeSame_82 : decode m_V_makeSame.2.1 82 = .ok (.iconst 0, 1) := by decide +kernel
theorem d_V_makeSame_83 : decode m_V_makeSame.2.1 83 = .ok (.ireturn, 1) := by decide +kernel
theorem d_V_makeSame_84 : decode m_V_makeSame.2.1 84 = .ok (.aload_n 0, 1) := by decide +kernel
theorem d_V_makeSame_85 : decode m_V_makeSame.2.1 85 = .ok (.iload 5, 2) := by decide +kernel
theorem d_V_makeSame_87 : decode m_V_makeSame.2.1 87 = .ok (.iload 4, 2) := by decide +kernel
theorem d_V_makeSame_89 : decode m_V_makeSame.2.1 89 = .ok (.invokevirtual 85, 3) := by decide +kernel
theorem d_V_makeSame_92 : decode m_V_makeSame.2.1 92 = .ok (.ifCond .eq 14, 3) := by decide +kernel
theorem d_V_makeSame_95 : decode m_V_makeSame.2.1 95 = .ok (.aload_n 0, 1) := by decide +kernel
theorem d_V_makeSame_96 : decode m_V_makeSame.2.1 96 = .ok (.iload 5, 2) := by decide +kernel
theorem d_V_makeSame_98 : decode m_V_makeSame.2.1 98 = .ok (.iload 4, 2) := by decide +kernel
theorem d_V_makeSame_100 : decode m_V_makeSame.2.1 100 = .ok (.invokevirtual 88, 3) := by decide +kernel
theorem d_V_makeSame_103 : decode m_V_makeSame.2.1 103 = .ok (.goto 5, 3) := by decide +kernel
theorem d_V_makeSame_106 : decode m_V_makeSame.2.1 106 = .ok (.iconst 0, 1) := by decide +kernel
theorem d_V_makeSame_107 : decode m_V_makeSame.2.1 107 = .ok (.ireturn, 1) := by decide +kernel
theorem d_V_makeSame_108 : decode m_V_makeSame.2.1 108 = .ok (.iinc 3 1, 3) := by decide +kernel
theorem d_V_makeSame_111 : decode m_V_makeSame.2.1 111 = .ok (.goto (-103), 3) := by decide +kernel
theorem d_V_makeSame_114 : decode m_V_makeSame.2.1 114 = .ok (.aload_n 0, 1) := by decide +kernel
theorem d_V_makeSame_115 : decode m_V_makeSame.2.1 115 = .ok (.getfield 23, 3) := by decide +kernel
theorem d_V_makeSame_118 : decode m_V_makeSame.2.1 118 = .ok (.invokevirtual 41, 3) := by decide +kernel
theorem d_V_makeSame_121 : decode m_V_makeSame.2.1 121 = .ok (.ifCond .ne 7, 3) := by decide +kernel
theorem d_V_makeSame_124 : decode m_V_makeSame.2.1 124 = .ok (.iconst 1, 1) := by decide +kernel
theorem d_V_makeSame_125 : decode m_V_makeSame.2.1 125 = .ok (.goto 4, 3) := by decide +kernel
theorem d_V_makeSame_128 : decode m_V_makeSame.2.1 128 = .ok (.iconst 0, 1) := by decide +kernel
theorem d_V_makeSame_129 : decode m_V_makeSame.2.1 129 = .ok (.ireturn, 1) := by decide +kernel
theorem d_V_fillOneOf_0 : decode m_V_fillOneOf.2.1 0 = .ok (.aload_n 0, 1) := by decide +kernel
theorem d_V_fillOneOf_1 : decode m_V_fillOneOf.2.1 1 = .ok (.iload_n 1, 1) := by decide +kernel
theorem d_V_fillOneOf_2 : decode m_V_fillOneOf.2.1 2 = .ok (.invokevirtual 77, 3) := by decide +kernel
theorem d_V_fillOneOf_5 : decode m_V_fillOneOf.2.1 5 = .ok (.ifCond .eq 7, 3) := by decide +kernel
theorem d_V_fillOneOf_8 : decode m_V_fillOneOf.2.1 8 = .ok (.iload_n 1, 1) := by decide +kernel
theorem d_V_fillOneOf_9 : decode m_V_fillOneOf.2.1 9 = .ok (.goto 4, 3) := by decide +kernel
theorem d_V_fillOneOf_12 : decode m_V_fillOneOf.2.1 12 = .ok (.iload_n 2, 1) := by decide +kernel
theorem d_V_fillOneOf_13 : decode m_V_fillOneOf.2.1 13 = .ok (.istore_n 3, 1) := by decide +kernel
theorem d_V_fillOneOf_14 : decode m_V_fillOneOf.2.1 14 = .ok (.iload_n 3, 1) := by decide +kernel
theorem d_V_fillOneOf_15 : decode m_V_fillOneOf.2.1 15 = .ok (.iload_n 1, 1) := by decide +kernel
theorem d_V_fillOneOf_16 : decode m_V_fillOneOf.2.1 16 = .ok (.if_icmp .ne 7, 3) := by decide +kernel
theorem d_V_fillOneOf_19 : decode m_V_fillOneOf.2.1 19 = .ok (.iload_n 2, 1) := by decide +kernel
theorem d_V_fillOneOf_20 : decode m_V_fillOneOf.2.1 20 = .ok (.goto 4, 3) := by decide +kernel
theorem d_V_fillOneOf_23 : decode m_V_fillOneOf.2.1 23 = .ok (.iload_n 1, 1) := by decide +kernel
theorem d_V_fillOneOf_24 : decode m_V_fillOneOf.2.1 24 = .ok (.istore 4, 2) := by decide +kernel
theorem d_V_fillOneOf_26 : decode m_V_fillOneOf.2.1 26 = .ok (.iload 4, 2) := by decide +kernel
theorem d_V_fillOneOf_28 : decode m_V_fillOneOf.2.1 28 = .ok (.iload_n 3, 1) := by decide +kernel
theorem d_V_fillOneOf_29 : decode m_V_fillOneOf.2.1 29 = .ok (.if_icmp .ne 5, 3) := by decide +kernel
theorem d_V_fillOneOf_32 : decode m_V_fillOneOf.2.1 32 = .ok (.iconst 1, 1) := by decide +kernel
theorem d_V_fillOneOf_33 : decode m_V_fillOneOf.2.1 33 = .ok (.ireturn, 1) := by decide +kernel
theorem d_V_fillOneOf_34 : decode m_V_fillOneOf.2.1 34 = .ok (.aload_n 0, 1) := by decide +kernel
theorem d_V_fillOneOf_35 : decode m_V_fillOneOf.2.1 35 = .ok (.iload 4, 2) := by decide +kernel
theorem d_V_fillOneOf_37 : decode m_V_fillOneOf.2.1 37 = .ok (.invokevirtual 91, 3) := by decide +kernel
theorem d_V_fillOneOf_40 : decode m_V_fillOneOf.2.1 40 = .ok (.bipush 6, 2) := by decide +kernel
theorem d_V_fillOneOf_42 : decode m_V_fillOneOf.2.1 42 = .ok (.if_icmp .ne 15, 3) := by decide +kernel
theorem d_V_fillOneOf_45 : decode m_V_fillOneOf.2.1 45 = .ok (.aload_n 0, 1) := by decide +kernel
theorem d_V_fillOneOf_46 : decode m_V_fillOneOf.2.1 46 = .ok (.iload 4, 2) := by decide +kernel
theorem d_V_fillOneOf_48 : decode m_V_fillOneOf.2.1 48 = .ok (.iload_n 3, 1) := by decide +kernel
theorem d_V_fillOneOf_49 : decode m_V_fillOneOf.2.1 49 = .ok (.invokevirtual 94, 3) := by decide +kernel
theorem d_V_fillOneOf_52 : decode m_V_fillOneOf.2.1 52 = .ok (.ifCond .ne 5, 3) := by decide +kernel
theorem d_V_fillOneOf_55 : decode m_V_fillOneOf.2.1 55 = .ok (.iconst 0, 1) := by decide +kernel
theorem d_V_fillOneOf_56 : decode m_V_fillOneOf.2.1 56 = .ok (.ireturn, 1) := by decide +kernel
theorem d_V_fillOneOf_57 : decode m_V_fillOneOf.2.1 57 = .ok (.aload_n 0, 1) := by decide +kernel
theorem d_V_fillOneOf_58 : decode m_V_fillOneOf.2.1 58 = .ok (.getfield 14, 3) := by decide +kernel
theorem d_V_fillOneOf_61 : decode m_V_fillOneOf.2.1 61 = .ok (.iload_n 3, 1) := by decide +kernel
theorem d_V_fillOneOf_62 : decode m_V_fillOneOf.2.1 62 = .ok (.iconst 1, 1) := by decide +kernel
theorem d_V_fillOneOf_63 : decode m_V_fillOneOf.2.1 63 = .ok (.iadd, 1) := by decide +kernel
theorem d_V_fillOneOf_64 : decode m_V_fillOneOf.2.1 64 = .ok (.iload 4, 2) := by decide +kernel
theorem d_V_fillOneOf_66 : decode m_V_fillOneOf.2.1 66 = .ok (.invokevirtual 55, 3) := by decide +kernel
theorem d_V_fillOneOf_69 : decode m_V_fillOneOf.2.1 69 = .ok (.iconst 1, 1) := by decide +kernel
theorem d_V_fillOneOf_70 : decode m_V_fillOneOf.2.1 70 = .ok (.ireturn, 1) := by decide +kernel
theorem d_V_compare_0 : decode m_V_compare.2.1 0 = .ok (.aload_n 0, 1) := by decide +kernel
theorem d_V_compare_1 : decode m_V_compare.2.1 1 = .ok (.iload_n 1, 1) := by decide +kernel
theorem d_V_compare_2 : decode m_V_compare.2.1 2 = .ok (.iload_n 2, 1) := by decide +kernel
theorem d_V_compare_3 : decode m_V_compare.2.1 3 = .ok (.invokevirtual 74, 3) := by decide +kernel
theorem d_V_compare_6 : decode m_V_compare.2.1 6 = .ok (.iconst 0, 1) := by decide +kernel
theorem d_V_compare_7 : decode m_V_compare.2.1 7 = .ok (.istore_n 3, 1) := by decide +kernel
theorem d_V_compare_8 : decode m_V_compare.2.1 8 = .ok (.iload_n 3, 1) := by decide +kernel
theorem d_V_compare_9 : decode m_V_compare.2.1 9 = .ok (.sipush 1000, 3) := by decide +kernel
theorem d_V_compare_12 : decode m_V_compare.2.1 12 = .ok (.if_icmp .ge 88, 3) := by decide +kernel
theorem d_V_compare_15 : decode m_V_compare.2.1 15 = .ok (.aload_n 0, 1) := by decide +kernel
theorem d_V_compare_16 : decode m_V_compare.2.1 16 = .ok (.getfield 23, 3) := by decide +kernel
theorem d_V_compare_19 : decode m_V_compare.2.1 19 = .ok (.invokevirtual 41, 3) := by decide +kernel
theorem d_V_compare_22 : decode m_V_compare.2.1 22 = .ok (.ifCond .ne 5, 3) := by decide +kernel
theorem d_V_compare_25 : decode m_V_compare.2.1 25 = .ok (.iconst 1, 1) := by decide +kernel
theorem d_V_compare_26 : decode m_V_compare.2.1 26 = .ok (.ireturn, 1) := by decide +kernel
theorem d_V_compare_27 : decode m_V_compare.2.1 27 = .ok (.aload_n 0, 1) := by decide +kernel
theorem d_V_compare_28 : decode m_V_compare.2.1 28 = .ok (.aload_n 0, 1) := by decide +kernel
theorem d_V_compare_29 : decode m_V_compare.2.1 29 = .ok (.getfield 23, 3) := by decide +kernel
theorem d_V_compare_32 : decode m_V_compare.2.1 32 = .ok (.invokevirtual 62, 3) := by decide +kernel
theorem d_V_compare_35 : decode m_V_compare.2.1 35 = .ok (.invokevirtual 65, 3) := by decide +kernel
theorem d_V_compare_38 : decode m_V_compare.2.1 38 = .ok (.istore 4, 2) := by decide +kernel
theorem d_V_compare_40 : decode m_V_compare.2.1 40 = .ok (.aload_n 0, 1) := by decide +kernel
theorem d_V_compare_41 : decode m_V_compare.2.1 41 = .ok (.aload_n 0, 1) := by decide +kernel
theorem d_V_compare_42 : decode m_V_compare.2.1 42 = .ok (.getfield 23, 3) := by decide +kernel
theorem d_V_compare_45 : decode m_V_compare.2.1 45 = .ok (.invokevirtual 62, 3) := by decide +kernel
theorem d_V_compare_48 : decode m_V_compare.2.1 48 = .ok (.invokevirtual 65, 3) := by decide +kernel
theorem d_V_compare_51 : decode m_V_compare.2.1 51 = .ok (.istore 5, 2) := by decide +kernel
theorem d_V_compare_53 : decode m_V_compare.2.1 53 = .ok (.aload_n 0, 1) := by decide +kernel
theorem d_V_compare_54 : decode m_V_compare.2.1 54 = .ok (.iload 5, 2) := by decide +kernel
theorem d_V_compare_56 : decode m_V_compare.2.1 56 = .ok (.invokevirtual 77, 3) := by decide +kernel
theorem d_V_compare_59 : decode m_V_compare.2.1 59 = .ok (.ifCond .ne 12, 3) := by decide +kernel
theorem d_V_compare_62 : decode m_V_compare.2.1 62 = .ok (.aload_n 0, 1) := by decide +kernel
theorem d_V_compare_63 : decode m_V_compare.2.1 63 = .ok (.iload 4, 2) := by decide +kernel
theorem d_V_compare_65 : decode m_V_compare.2.1 65 = .ok (.invokevirtual 77, 3) := by decide +kernel
theorem d_V_compare_68 : decode m_V_compare.2.1 68 = .ok (.ifCond .eq 5, 3) := by decide +kernel
theorem d_V_compare_71 : decode m_V_compare.2.1 71 = .ok (.iconst (-1), 1) := by decide +kernel
theorem d_V_compare_72 : decode m_V_compare.2.1 72 = .ok (.ireturn, 1) := by decide +kernel
theorem d_V_compare_73 : decode m_V_compare.2.1 73 = .ok (.aload_n 0, 1) := by decide +kernel
theorem d_V_compare_74 : decode m_V_compare.2.1 74 = .ok (.iload 5, 2) := by decide +kernel
theorem d_V_compare_76 : decode m_V_compare.2.1 76 = .ok (.iload 4, 2) := by decide +kernel
theorem d_V_compare_78 : decode m_V_compare.2.1 78 = .ok (.invokevirtual 85, 3) := by decide +kernel
theorem d_V_compare_81 : decode m_V_compare.2.1 81 = .ok (.ifCond .ne 5, 3) := by decide +kernel
theorem d_V_compare_84 : decode m_V_compare.2.1 84 = .ok (.iconst 0, 1) := by decide +kernel
theorem d_V_compare_85 : decode m_V_compare.2.1 85 = .ok (.ireturn, 1) := by decide +kernel
theorem d_V_compare_86 : decode m_V_compare.2.1 86 = .ok (.aload_n 0, 1) := by decide +kernel
theorem d_V_compare_87 : decode m_V_compare.2.1 87 = .ok (.iload 5, 2) := by decide +kernel
theorem d_V_compare_89 : decode m_V_compare.2.1 89 = .ok (.iload 4, 2) := by decide +kernel
theorem d_V_compare_91 : decode m_V_compare.2.1 91 = .ok (.invokevirtual 88, 3) := by decide +kernel
theorem d_V_compare_94 : decode m_V_compare.2.1 94 = .ok (.iinc 3 1, 3) := by decide +kernel
theorem d_V_compare_97 : decode m_V_compare.2.1 97 = .ok (.goto (-89), 3) := by decide +kernel
theorem d_V_compare_100 : decode m_V_compare.2.1 100 = .ok (.aload_n 0, 1) := by decide +kernel
theorem d_V_compare_101 : decode m_V_compare.2.1 101 = .ok (.getfield 23, 3) := by decide +kernel
theorem d_V_compare_104 : decode m_V_compare.2.1 104 = .ok (.invokevirtual 41, 3) := by decide +kernel
theorem d_V_compare_107 : decode m_V_compare.2.1 107 = .ok (.ifCond .ne 7, 3) := by decide +kernel
theorem d_V_compare_110 : decode m_V_compare.2.1 110 = .ok (.iconst 1, 1) := by decide +kernel
theorem d_V_compare_111 : decode m_V_compare.2.1 111 = .ok (.goto 4, 3) := by decide +kernel
theorem d_V_compare_114 : decode m_V_compare.2.1 114 = .ok (.iconst (-1), 1) := by decide +kernel
theorem d_V_compare_115 : decode m_V_compare.2.1 115 = .ok (.ireturn, 1) := by decide +kernel
theorem d_V_haveSameHead_0 : decode m_V_haveSameHead.2.1 0 = .ok (.aload_n 0, 1) := by decide +kernel
theorem d_V_haveSameHead_1 : decode m_V_haveSameHead.2.1 1 = .ok (.getfield 14, 3) := by decide +kernel
theorem d_V_haveSameHead_4 : decode m_V_haveSameHead.2.1 4 = .ok (.iload_n 1, 1) := by decide +kernel
theorem d_V_haveSameHead_5 : decode m_V_haveSameHead.2.1 5 = .ok (.invokevirtual 37, 3) := by decide +kernel
theorem d_V_haveSameHead_8 : decode m_V_haveSameHead.2.1 8 = .ok (.aload_n 0, 1) := by decide +kernel
theorem d_V_haveSameHead_9 : decode m_V_haveSameHead.2.1 9 = .ok (.getfield 14, 3) := by decide +kernel
theorem d_V_haveSameHead_12 : decode m_V_haveSameHead.2.1 12 = .ok (.iload_n 2, 1) := by decide +kernel
theorem d_V_haveSameHead_13 : decode m_V_haveSameHead.2.1 13 = .ok (.invokevirtual 37, 3) := by decide +kernel
theorem d_V_haveSameHead_16 : decode m_V_haveSameHead.2.1 16 = .ok (.if_icmp .ne 53, 3) := by decide +kernel
theorem d_V_haveSameHead_19 : decode m_V_haveSameHead.2.1 19 = .ok (.aload_n 0, 1) := by decide +kernel
theorem d_V_haveSameHead_20 : decode m_V_haveSameHead.2.1 20 = .ok (.getfield 14, 3) := by decide +kernel
theorem d_V_haveSameHead_23 : decode m_V_haveSameHead.2.1 23 = .ok (.iload_n 1, 1) := by decide +kernel
theorem d_V_haveSameHead_24 : decode m_V_haveSameHead.2.1 24 = .ok (.iconst 1, 1) := by decide +kernel
theorem d_V_haveSameHead_25 : decode m_V_haveSameHead.2.1 25 = .ok (.iadd, 1) := by decide +kernel
theorem d_V_haveSameHead_26 : decode m_V_haveSameHead.2.1 26 = .ok (.invokevirtual 37, 3) := by decide +kernel
theorem d_V_haveSameHead_29 : decode m_V_haveSameHead.2.1 29 = .ok (.aload_n 0, 1) := by decide +kernel
theorem d_V_haveSameHead_30 : decode m_V_haveSameHead.2.1 30 = .ok (.getfield 14, 3) := by decide +kernel
theorem d_V_haveSameHead_33 : decode m_V_haveSameHead.2.1 33 = .ok (.iload_n 2, 1) := by decide +kernel
theorem d_V_haveSameHead_34 : decode m_V_haveSameHead.2.1 34 = .ok (.iconst 1, 1) := by decide +kernel
theorem d_V_haveSameHead_35 : decode m_V_haveSameHead.2.1 35 = .ok (.iadd, 1) := by decide +kernel
theorem d_V_haveSameHead_36 : decode m_V_haveSameHead.2.1 36 = .ok (.invokevirtual 37, 3) := by decide +kernel
theorem d_V_haveSameHead_39 : decode m_V_haveSameHead.2.1 39 = .ok (.if_icmp .ne 30, 3) := by decide +kernel
theorem d_V_haveSameHead_42 : decode m_V_haveSameHead.2.1 42 = .ok (.aload_n 0, 1) := by decide +kernel
theorem d_V_haveSameHead_43 : decode m_V_haveSameHead.2.1 43 = .ok (.getfield 14, 3) := by decide +kernel
theorem d_V_haveSameHead_46 : decode m_V_haveSameHead.2.1 46 = .ok (.iload_n 1, 1) := by decide +kernel
theorem d_V_haveSameHead_47 : decode m_V_haveSameHead.2.1 47 = .ok (.iconst 2, 1) := by decide +kernel
theorem d_V_haveSameHead_48 : decode m_V_haveSameHead.2.1 48 = .ok (.iadd, 1) := by decide +kernel
theorem d_V_haveSameHead_49 : decode m_V_haveSameHead.2.1 49 = .ok (.invokevirtual 37, 3) := by decide +kernel
theorem d_V_haveSameHead_52 : decode m_V_haveSameHead.2.1 52 = .ok (.aload_n 0, 1) := by decide +kernel
theorem d_V_haveSameHead_53 : decode m_V_haveSameHead.2.1 53 = .ok (.getfield 14, 3) := by decide +kernel
theorem d_V_haveSameHead_56 : decode m_V_haveSameHead.2.1 56 = .ok (.iload_n 2, 1) := by decide +kernel
theorem d_V_haveSameHead_57 : decode m_V_haveSameHead.2.1 57 = .ok (.iconst 2, 1) := by decide +kernel
theorem d_V_haveSameHead_58 : decode m_V_haveSameHead.2.1 58 = .ok (.iadd, 1) := by decide +kernel
theorem d_V_haveSameHead_59 : decode m_V_haveSameHead.2.1 59 = .ok (.invokevirtual 37, 3) := by decide +kernel
theorem d_V_haveSameHead_62 : decode m_V_haveSameHead.2.1 62 = .ok (.if_icmp .ne 7, 3) := by decide +kernel
theorem d_V_haveSameHead_65 : decode m_V_haveSameHead.2.1 65 = .ok (.iconst 1, 1) := by decide +kernel
theorem d_V_haveSameHead_66 : decode m_V_haveSameHead.2.1 66 = .ok (.goto 4, 3) := by decide +kernel
theorem d_V_haveSameHead_69 : decode m_V_haveSameHead.2.1 69 = .ok (.iconst 0, 1) := by decide +kernel
theorem d_V_haveSameHead_70 : decode m_V_haveSameHead.2.1 70 = .ok (.ireturn, 1) := by decide +kernel
theorem d_V_startPairs_0 : decode m_V_startPairs.2.1 0 = .ok (.aload_n 0, 1) := by decide +kernel
theorem d_V_startPairs_1 : decode m_V_startPairs.2.1 1 = .ok (.getfield 23, 3) := by decide +kernel
theorem d_V_startPairs_4 : decode m_V_startPairs.2.1 4 = .ok (.iconst 0, 1) := by decide +kernel
theorem d_V_startPairs_5 : decode m_V_startPairs.2.1 5 = .ok (.invokevirtual 34, 3) := by decide +kernel
theorem d_V_startPairs_8 : decode m_V_startPairs.2.1 8 = .ok (.aload_n 0, 1) := by decide +kernel
theorem d_V_startPairs_9 : decode m_V_startPairs.2.1 9 = .ok (.getfield 23, 3) := by decide +kernel
theorem d_V_startPairs_12 : decode m_V_startPairs.2.1 12 = .ok (.iload_n 1, 1) := by decide +kernel
theorem d_V_startPairs_13 : decode m_V_startPairs.2.1 13 = .ok (.invokevirtual 45, 3) := by decide +kernel
theorem d_V_startPairs_16 : decode m_V_startPairs.2.1 16 = .ok (.aload_n 0, 1) := by decide +kernel
theorem d_V_startPairs_17 : decode m_V_startPairs.2.1 17 = .ok (.getfield 23, 3) := by decide +kernel
theorem d_V_startPairs_20 : decode m_V_startPairs.2.1 20 = .ok (.iload_n 2, 1) := by decide +kernel
theorem d_V_startPairs_21 : decode m_V_startPairs.2.1 21 = .ok (.invokevirtual 45, 3) := by decide +kernel
theorem d_V_startPairs_24 : decode m_V_startPairs.2.1 24 = .ok (.return_, 1) := by decide +kernel
theorem d_V_pushArgumentPairs_0 : decode m_V_pushArgumentPairs.2.1 0 = .ok (.iconst 3, 1) := by decide +kernel
theorem d_V_pushArgumentPairs_1 : decode m_V_pushArgumentPairs.2.1 1 = .ok (.aload_n 0, 1) := by decide +kernel
theorem d_V_pushArgumentPairs_2 : decode m_V_pushArgumentPairs.2.1 2 = .ok (.getfield 14, 3) := by decide +kernel
theorem d_V_pushArgumentPairs_5 : decode m_V_pushArgumentPairs.2.1 5 = .ok (.iload_n 1, 1) := by decide +kernel
theorem d_V_pushArgumentPairs_6 : decode m_V_pushArgumentPairs.2.1 6 = .ok (.iconst 2, 1) := by decide +kernel
theorem d_V_pushArgumentPairs_7 : decode m_V_pushArgumentPairs.2.1 7 = .ok (.iadd, 1) := by decide +kernel
theorem d_V_pushArgumentPairs_8 : decode m_V_pushArgumentPairs.2.1 8 = .ok (.invokevirtual 37, 3) := by decide +kernel
theorem d_V_pushArgumentPairs_11 : decode m_V_pushArgumentPairs.2.1 11 = .ok (.iadd, 1) := by decide +kernel
theorem d_V_pushArgumentPairs_12 : decode m_V_pushArgumentPairs.2.1 12 = .ok (.iconst 1, 1) := by decide +kernel
theorem d_V_pushArgumentPairs_13 : decode m_V_pushArgumentPairs.2.1 13 = .ok (.isub, 1) := by decide +kernel
theorem d_V_pushArgumentPairs_14 : decode m_V_pushArgumentPairs.2.1 14 = .ok (.istore_n 3, 1) := by decide +kernel
theorem d_V_pushArgumentPairs_15 : decode m_V_pushArgumentPairs.2.1 15 = .ok (.iload_n 3, 1) := by decide +kernel
theorem d_V_pushArgumentPairs_16 : decode m_V_pushArgumentPairs.2.1 16 = .ok (.iconst 3, 1) := by decide +kernel
theorem d_V_pushArgumentPairs_17 : decode m_V_pushArgumentPairs.2.1 17 = .ok (.if_icmp .lt 43, 3) := by decide +kernel
theorem d_V_pushArgumentPairs_20 : decode m_V_pushArgumentPairs.2.1 20 = .ok (.aload_n 0, 1) := by decide +kernel
theorem d_V_pushArgumentPairs_21 : decode m_V_pushArgumentPairs.2.1 21 = .ok (.getfield 23, 3) := by decide +kernel
theorem d_V_pushArgumentPairs_24 : decode m_V_pushArgumentPairs.2.1 24 = .ok (.aload_n 0, 1) := by decide +kernel
theorem d_V_pushArgumentPairs_25 : decode m_V_pushArgumentPairs.2.1 25 = .ok (.getfield 14, 3) := by decide +kernel
theorem d_V_pushArgumentPairs_28 : decode m_V_pushArgumentPairs.2.1 28 = .ok (.iload_n 1, 1) := by decide +kernel
theorem d_V_pushArgumentPairs_29 : decode m_V_pushArgumentPairs.2.1 29 = .ok (.iload_n 3, 1) := by decide +kernel
theorem d_V_pushArgumentPairs_30 : decode m_V_pushArgumentPairs.2.1 30 = .ok (.iadd, 1) := by decide +kernel
theorem d_V_pushArgumentPairs_31 : decode m_V_pushArgumentPairs.2.1 31 = .ok (.invokevirtual 37, 3) := by decide +kernel
theorem d_V_pushArgumentPairs_34 : decode m_V_pushArgumentPairs.2.1 34 = .ok (.invokevirtual 45, 3) := by decide +kernel
theorem d_V_pushArgumentPairs_37 : decode m_V_pushArgumentPairs.2.1 37 = .ok (.aload_n 0, 1) := by decide +kernel
theorem d_V_pushArgumentPairs_38 : decode m_V_pushArgumentPairs.2.1 38 = .ok (.getfield 23, 3) := by decide +kernel
theorem d_V_pushArgumentPairs_41 : decode m_V_pushArgumentPairs.2.1 41 = .ok (.aload_n 0, 1) := by decide +kernel
theorem d_V_pushArgumentPairs_42 : decode m_V_pushArgumentPairs.2.1 42 = .ok (.getfield 14, 3) := by decide +kernel
theorem d_V_pushArgumentPairs_45 : decode m_V_pushArgumentPairs.2.1 45 = .ok (.iload_n 2, 1) := by decide +kernel
theorem d_V_pushArgumentPairs_46 : decode m_V_pushArgumentPairs.2.1 46 = .ok (.iload_n 3, 1) := by decide +kernel
theorem d_V_pushArgumentPairs_47 : decode m_V_pushArgumentPairs.2.1 47 = .ok (.iadd, 1) := by decide +kernel
theorem d_V_pushArgumentPairs_48 : decode m_V_pushArgumentPairs.2.1 48 = .ok (.invokevirtual 37, 3) := by decide +kernel
theorem d_V_pushArgumentPairs_51 : decode m_V_pushArgumentPairs.2.1 51 = .ok (.invokevirtual 45, 3) := by decide +kernel
theorem d_V_pushArgumentPairs_54 : decode m_V_pushArgumentPairs.2.1 54 = .ok (.iinc 3 (-1), 3) := by decide +kernel
theorem d_V_pushArgumentPairs_57 : decode m_V_pushArgumentPairs.2.1 57 = .ok (.goto (-42), 3) := by decide +kernel
theorem d_V_pushArgumentPairs_60 : decode m_V_pushArgumentPairs.2.1 60 = .ok (.return_, 1) := by decide +kernel
theorem d_V_write_0 : decode m_V_write.2.1 0 = .ok (.aload_n 0, 1) := by decide +kernel
theorem d_V_write_1 : decode m_V_write.2.1 1 = .ok (.iconst 0, 1) := by decide +kernel
theorem d_V_write_2 : decode m_V_write.2.1 2 = .ok (.putfield 30, 3) := by decide +kernel
theorem d_V_write_5 : decode m_V_write.2.1 5 = .ok (.aload_n 0, 1) := by decide +kernel
theorem d_V_write_6 : decode m_V_write.2.1 6 = .ok (.getfield 20, 3) := by decide +kernel
theorem d_V_write_9 : decode m_V_write.2.1 9 = .ok (.iconst 0, 1) := by decide +kernel
theorem d_V_write_10 : decode m_V_write.2.1 10 = .ok (.invokevirtual 34, 3) := by decide +kernel
theorem d_V_write_13 : decode m_V_write.2.1 13 = .ok (.aload_n 0, 1) := by decide +kernel
theorem d_V_write_14 : decode m_V_write.2.1 14 = .ok (.getfield 20, 3) := by decide +kernel
theorem d_V_write_17 : decode m_V_write.2.1 17 = .ok (.iload_n 1, 1) := by decide +kernel
theorem d_V_write_18 : decode m_V_write.2.1 18 = .ok (.invokevirtual 45, 3) := by decide +kernel
theorem d_V_write_21 : decode m_V_write.2.1 21 = .ok (.iconst 0, 1) := by decide +kernel
theorem d_V_write_22 : decode m_V_write.2.1 22 = .ok (.istore_n 2, 1) := by decide +kernel
theorem d_V_write_23 : decode m_V_write.2.1 23 = .ok (.iload_n 2, 1) := by decide +kernel
theorem d_V_write_24 : decode m_V_write.2.1 24 = .ok (.bipush 100, 2) := by decide +kernel
theorem d_V_write_26 : decode m_V_write.2.1 26 = .ok (.if_icmp .gt 50, 3) := by decide +kernel
theorem d_V_write_29 : decode m_V_write.2.1 29 = .ok (.aload_n 0, 1) := by decide +kernel
theorem d_V_write_30 : decode m_V_write.2.1 30 = .ok (.getfield 20, 3) := by decide +kernel
theorem d_V_write_33 : decode m_V_write.2.1 33 = .ok (.invokevirtual 41, 3) := by decide +kernel
theorem d_V_write_36 : decode m_V_write.2.1 36 = .ok (.ifCond .le 40, 3) := by decide +kernel
theorem d_V_write_39 : decode m_V_write.2.1 39 = .ok (.aload_n 0, 1) := by decide +kernel
theorem d_V_write_40 : decode m_V_write.2.1 40 = .ok (.getfield 20, 3) := by decide +kernel
theorem d_V_write_43 : decode m_V_write.2.1 43 = .ok (.invokevirtual 62, 3) := by decide +kernel
theorem d_V_write_46 : decode m_V_write.2.1 46 = .ok (.istore_n 3, 1) := by decide +kernel
theorem d_V_write_47 : decode m_V_write.2.1 47 = .ok (.iload_n 3, 1) := by decide +kernel
theorem d_V_write_48 : decode m_V_write.2.1 48 = .ok (.iconst (-1), 1) := by decide +kernel
theorem d_V_write_49 : decode m_V_write.2.1 49 = .ok (.if_icmp .ne 12, 3) := by decide +kernel
theorem d_V_write_52 : decode m_V_write.2.1 52 = .ok (.aload_n 0, 1) := by decide +kernel
theorem d_V_write_53 : decode m_V_write.2.1 53 = .ok (.bipush 41, 2) := by decide +kernel
theorem d_V_write_55 : decode m_V_write.2.1 55 = .ok (.invokevirtual 97, 3) := by decide +kernel
theorem d_V_write_58 : decode m_V_write.2.1 58 = .ok (.goto 12, 3) := by decide +kernel
theorem d_V_write_61 : decode m_V_write.2.1 61 = .ok (.aload_n 0, 1) := by decide +kernel
theorem d_V_write_62 : decode m_V_write.2.1 62 = .ok (.aload_n 0, 1) := by decide +kernel
theorem d_V_write_63 : decode m_V_write.2.1 63 = .ok (.iload_n 3, 1) := by decide +kernel
theorem d_V_write_64 : decode m_V_write.2.1 64 = .ok (.invokevirtual 65, 3) := by decide +kernel
theorem d_V_write_67 : decode m_V_write.2.1 67 = .ok (.invokevirtual 101, 3) := by decide +kernel
theorem d_V_write_70 : decode m_V_write.2.1 70 = .ok (.iinc 2 1, 3) := by decide +kernel
theorem d_V_write_73 : decode m_V_write.2.1 73 = .ok (.goto (-50), 3) := by decide +kernel
theorem d_V_write_76 : decode m_V_write.2.1 76 = .ok (.aload_n 0, 1) := by decide +kernel
theorem d_V_write_77 : decode m_V_write.2.1 77 = .ok (.getfield 30, 3) := by decide +kernel
theorem d_V_write_80 : decode m_V_write.2.1 80 = .ok (.ireturn, 1) := by decide +kernel
theorem d_V_written_0 : decode m_V_written.2.1 0 = .ok (.iload_n 1, 1) := by decide +kernel
theorem d_V_written_1 : decode m_V_written.2.1 1 = .ok (.ifCond .lt 20, 3) := by decide +kernel
theorem d_V_written_4 : decode m_V_written.2.1 4 = .ok (.iload_n 1, 1) := by decide +kernel
theorem d_V_written_5 : decode m_V_written.2.1 5 = .ok (.aload_n 0, 1) := by decide +kernel
theorem d_V_written_6 : decode m_V_written.2.1 6 = .ok (.getfield 30, 3) := by decide +kernel
theorem d_V_written_9 : decode m_V_written.2.1 9 = .ok (.if_icmp .ge 12, 3) := by decide +kernel
theorem d_V_written_12 : decode m_V_written.2.1 12 = .ok (.aload_n 0, 1) := by decide +kernel
theorem d_V_written_13 : decode m_V_written.2.1 13 = .ok (.getfield 26, 3) := by decide +kernel
theorem d_V_written_16 : decode m_V_written.2.1 16 = .ok (.iload_n 1, 1) := by decide +kernel
theorem d_V_written_17 : decode m_V_written.2.1 17 = .ok (.caload, 1) := by decide +kernel
theorem d_V_written_18 : decode m_V_written.2.1 18 = .ok (.goto 5, 3) := by decide +kernel
theorem d_V_written_21 : decode m_V_written.2.1 21 = .ok (.bipush 32, 2) := by decide +kernel
theorem d_V_written_23 : decode m_V_written.2.1 23 = .ok (.ireturn, 1) := by decide +kernel
theorem d_V_writeHead_0 : decode m_V_writeHead.2.1 0 = .ok (.aload_n 0, 1) := by decide +kernel
theorem d_V_writeHead_1 : decode m_V_writeHead.2.1 1 = .ok (.iload_n 1, 1) := by decide +kernel
theorem d_V_writeHead_2 : decode m_V_writeHead.2.1 2 = .ok (.invokevirtual 91, 3) := by decide +kernel
theorem d_V_writeHead_5 : decode m_V_writeHead.2.1 5 = .ok (.tableswitch 77 1 6 #[39, 59, 68, 77, 77, 51], 39) := by decide +kernel
theorem d_V_writeHead_44 : decode m_V_writeHead.2.1 44 = .ok (.aload_n 0, 1) := by decide +kernel
theorem d_V_writeHead_45 : decode m_V_writeHead.2.1 45 = .ok (.aload_n 0, 1) := by decide +kernel
theorem d_V_writeHead_46 : decode m_V_writeHead.2.1 46 = .ok (.iload_n 1, 1) := by decide +kernel
theorem d_V_writeHead_47 : decode m_V_writeHead.2.1 47 = .ok (.invokevirtual 104, 3) := by decide +kernel
theorem d_V_writeHead_50 : decode m_V_writeHead.2.1 50 = .ok (.invokevirtual 107, 3) := by decide +kernel
theorem d_V_writeHead_53 : decode m_V_writeHead.2.1 53 = .ok (.goto 35, 3) := by decide +kernel
theorem d_V_writeHead_56 : decode m_V_writeHead.2.1 56 = .ok (.aload_n 0, 1) := by decide +kernel
theorem d_V_writeHead_57 : decode m_V_writeHead.2.1 57 = .ok (.iload_n 1, 1) := by decide +kernel
theorem d_V_writeHead_58 : decode m_V_writeHead.2.1 58 = .ok (.invokevirtual 110, 3) := by decide +kernel
theorem d_V_writeHead_61 : decode m_V_writeHead.2.1 61 = .ok (.goto 27, 3) := by decide +kernel
theorem d_V_writeHead_64 : decode m_V_writeHead.2.1 64 = .ok (.aload_n 0, 1) := by decide +kernel
theorem d_V_writeHead_65 : decode m_V_writeHead.2.1 65 = .ok (.bipush 35, 2) := by decide +kernel
theorem d_V_writeHead_67 : decode m_V_writeHead.2.1 67 = .ok (.invokevirtual 97, 3) := by decide +kernel
theorem d_V_writeHead_70 : decode m_V_writeHead.2.1 70 = .ok (.goto 18, 3) := by decide +kernel
theorem d_V_writeHead_73 : decode m_V_writeHead.2.1 73 = .ok (.aload_n 0, 1) := by decide +kernel
theorem d_V_writeHead_74 : decode m_V_writeHead.2.1 74 = .ok (.bipush 42, 2) := by decide +kernel
theorem d_V_writeHead_76 : decode m_V_writeHead.2.1 76 = .ok (.invokevirtual 97, 3) := by decide +kernel
theorem d_V_writeHead_79 : decode m_V_writeHead.2.1 79 = .ok (.goto 9, 3) := by decide +kernel
theorem d_V_writeHead_82 : decode m_V_writeHead.2.1 82 = .ok (.aload_n 0, 1) := by decide +kernel
theorem d_V_writeHead_83 : decode m_V_writeHead.2.1 83 = .ok (.bipush 95, 2) := by decide +kernel
theorem d_V_writeHead_85 : decode m_V_writeHead.2.1 85 = .ok (.invokevirtual 97, 3) := by decide +kernel
theorem d_V_writeHead_88 : decode m_V_writeHead.2.1 88 = .ok (.return_, 1) := by decide +kernel
theorem d_V_writeConstant_0 : decode m_V_writeConstant.2.1 0 = .ok (.aload_n 0, 1) := by decide +kernel
theorem d_V_writeConstant_1 : decode m_V_writeConstant.2.1 1 = .ok (.aload_n 0, 1) := by decide +kernel
theorem d_V_writeConstant_2 : decode m_V_writeConstant.2.1 2 = .ok (.iload_n 1, 1) := by decide +kernel
theorem d_V_writeConstant_3 : decode m_V_writeConstant.2.1 3 = .ok (.invokevirtual 104, 3) := by decide +kernel
theorem d_V_writeConstant_6 : decode m_V_writeConstant.2.1 6 = .ok (.i2c, 1) := by decide +kernel
theorem d_V_writeConstant_7 : decode m_V_writeConstant.2.1 7 = .ok (.invokevirtual 97, 3) := by decide +kernel
theorem d_V_writeConstant_10 : decode m_V_writeConstant.2.1 10 = .ok (.aload_n 0, 1) := by decide +kernel
theorem d_V_writeConstant_11 : decode m_V_writeConstant.2.1 11 = .ok (.iload_n 1, 1) := by decide +kernel
theorem d_V_writeConstant_12 : decode m_V_writeConstant.2.1 12 = .ok (.invokevirtual 68, 3) := by decide +kernel
theorem d_V_writeConstant_15 : decode m_V_writeConstant.2.1 15 = .ok (.ifCond .ne 4, 3) := by decide +kernel
theorem d_V_writeConstant_18 : decode m_V_writeConstant.2.1 18 = .ok (.return_, 1) := by decide +kernel
theorem d_V_writeConstant_19 : decode m_V_writeConstant.2.1 19 = .ok (.aload_n 0, 1) := by decide +kernel
theorem d_V_writeConstant_20 : decode m_V_writeConstant.2.1 20 = .ok (.bipush 40, 2) := by decide +kernel
theorem d_V_writeConstant_22 : decode m_V_writeConstant.2.1 22 = .ok (.invokevirtual 97, 3) := by decide +kernel
theorem d_V_writeConstant_25 : decode m_V_writeConstant.2.1 25 = .ok (.aload_n 0, 1) := by decide +kernel
theorem d_V_writeConstant_26 : decode m_V_writeConstant.2.1 26 = .ok (.getfield 20, 3) := by decide +kernel
theorem d_V_writeConstant_29 : decode m_V_writeConstant.2.1 29 = .ok (.iconst (-1), 1) := by decide +kernel
theorem d_V_writeConstant_30 : decode m_V_writeConstant.2.1 30 = .ok (.invokevirtual 45, 3) := by decide +kernel
theorem d_V_writeConstant_33 : decode m_V_writeConstant.2.1 33 = .ok (.aload_n 0, 1) := by decide +kernel
theorem d_V_writeConstant_34 : decode m_V_writeConstant.2.1 34 = .ok (.iload_n 1, 1) := by decide +kernel
theorem d_V_writeConstant_35 : decode m_V_writeConstant.2.1 35 = .ok (.invokevirtual 68, 3) := by decide +kernel
theorem d_V_writeConstant_38 : decode m_V_writeConstant.2.1 38 = .ok (.iconst 1, 1) := by decide +kernel
theorem d_V_writeConstant_39 : decode m_V_writeConstant.2.1 39 = .ok (.isub, 1) := by decide +kernel
theorem d_V_writeConstant_40 : decode m_V_writeConstant.2.1 40 = .ok (.istore_n 2, 1) := by decide +kernel
theorem d_V_writeConstant_41 : decode m_V_writeConstant.2.1 41 = .ok (.iload_n 2, 1) := by decide +kernel
theorem d_V_writeConstant_42 : decode m_V_writeConstant.2.1 42 = .ok (.ifCond .lt 22, 3) := by decide +kernel
theorem d_V_writeConstant_45 : decode m_V_writeConstant.2.1 45 = .ok (.aload_n 0, 1) := by decide +kernel
theorem d_V_writeConstant_46 : decode m_V_writeConstant.2.1 46 = .ok (.getfield 20, 3) := by decide +kernel
theorem d_V_writeConstant_49 : decode m_V_writeConstant.2.1 49 = .ok (.aload_n 0, 1) := by decide +kernel
theorem d_V_writeConstant_50 : decode m_V_writeConstant.2.1 50 = .ok (.iload_n 1, 1) := by decide +kernel
theorem d_V_writeConstant_51 : decode m_V_writeConstant.2.1 51 = .ok (.iload_n 2, 1) := by decide +kernel
theorem d_V_writeConstant_52 : decode m_V_writeConstant.2.1 52 = .ok (.invokevirtual 71, 3) := by decide +kernel
theorem d_V_writeConstant_55 : decode m_V_writeConstant.2.1 55 = .ok (.invokevirtual 45, 3) := by decide +kernel
theorem d_V_writeConstant_58 : decode m_V_writeConstant.2.1 58 = .ok (.iinc 2 (-1), 3) := by decide +kernel
theorem d_V_writeConstant_61 : decode m_V_writeConstant.2.1 61 = .ok (.goto (-20), 3) := by decide +kernel
theorem d_V_writeConstant_64 : decode m_V_writeConstant.2.1 64 = .ok (.return_, 1) := by decide +kernel
theorem d_V_writeNumber_0 : decode m_V_writeNumber.2.1 0 = .ok (.iload_n 1, 1) := by decide +kernel
theorem d_V_writeNumber_1 : decode m_V_writeNumber.2.1 1 = .ok (.i2l, 1) := by decide +kernel
theorem d_V_writeNumber_2 : decode m_V_writeNumber.2.1 2 = .ok (.lstore_n 2, 1) := by decide +kernel
theorem d_V_writeNumber_3 : decode m_V_writeNumber.2.1 3 = .ok (.lload_n 2, 1) := by decide +kernel
theorem d_V_writeNumber_4 : decode m_V_writeNumber.2.1 4 = .ok (.lconst 0, 1) := by decide +kernel
theorem d_V_writeNumber_5 : decode m_V_writeNumber.2.1 5 = .ok (.lcmp, 1) := by decide +kernel
theorem d_V_writeNumber_6 : decode m_V_writeNumber.2.1 6 = .ok (.ifCond .ge 12, 3) := by decide +kernel
theorem d_V_writeNumber_9 : decode m_V_writeNumber.2.1 9 = .ok (.aload_n 0, 1) := by decide +kernel
theorem d_V_writeNumber_10 : decode m_V_writeNumber.2.1 10 = .ok (.bipush 45, 2) := by decide +kernel
theorem d_V_writeNumber_12 : decode m_V_writeNumber.2.1 12 = .ok (.invokevirtual 97, 3) := by decide +kernel
theorem d_V_writeNumber_15 : decode m_V_writeNumber.2.1 15 = .ok (.lload_n 2, 1) := by decide +kernel
theorem d_V_writeNumber_16 : decode m_V_writeNumber.2.1 16 = .ok (.lneg, 1) := by decide +kernel
theorem d_V_writeNumber_17 : decode m_V_writeNumber.2.1 17 = .ok (.lstore_n 2, 1) := by decide +kernel
theorem d_V_writeNumber_18 : decode m_V_writeNumber.2.1 18 = .ok (.lconst 1, 1) := by decide +kernel
theorem d_V_writeNumber_19 : decode m_V_writeNumber.2.1 19 = .ok (.lstore 4, 2) := by decide +kernel
theorem d_V_writeNumber_21 : decode m_V_writeNumber.2.1 21 = .ok (.ldc2_w 113, 3) := by decide +kernel
theorem d_V_writeNumber_24 : decode m_V_writeNumber.2.1 24 = .ok (.lstore 6, 2) := by decide +kernel
theorem d_V_writeNumber_26 : decode m_V_writeNumber.2.1 26 = .ok (.lload 6, 2) := by decide +kernel
theorem d_V_writeNumber_28 : decode m_V_writeNumber.2.1 28 = .ok (.lload_n 2, 1) := by decide +kernel
theorem d_V_writeNumber_29 : decode m_V_writeNumber.2.1 29 = .ok (.lcmp, 1) := by decide +kernel
theorem d_V_writeNumber_30 : decode m_V_writeNumber.2.1 30 = .ok (.ifCond .gt 18, 3) := by decide +kernel
theorem d_V_writeNumber_33 : decode m_V_writeNumber.2.1 33 = .ok (.lload 6, 2) := by decide +kernel
theorem d_V_writeNumber_35 : decode m_V_writeNumber.2.1 35 = .ok (.lstore 4, 2) := by decide +kernel
theorem d_V_writeNumber_37 : decode m_V_writeNumber.2.1 37 = .ok (.lload 6, 2) := by decide +kernel
theorem d_V_writeNumber_39 : decode m_V_writeNumber.2.1 39 = .ok (.ldc2_w 113, 3) := by decide +kernel
theorem d_V_writeNumber_42 : decode m_V_writeNumber.2.1 42 = .ok (.lmul, 1) := by decide +kernel
theorem d_V_writeNumber_43 : decode m_V_writeNumber.2.1 43 = .ok (.lstore 6, 2) := by decide +kernel
theorem d_V_writeNumber_45 : decode m_V_writeNumber.2.1 45 = .ok (.goto (-19), 3) := by decide +kernel
theorem d_V_writeNumber_48 : decode m_V_writeNumber.2.1 48 = .ok (.lload 4, 2) := by decide +kernel
theorem d_V_writeNumber_50 : decode m_V_writeNumber.2.1 50 = .ok (.lconst 0, 1) := by decide +kernel
theorem d_V_writeNumber_51 : decode m_V_writeNumber.2.1 51 = .ok (.lcmp, 1) := by decide +kernel
theorem d_V_writeNumber_52 : decode m_V_writeNumber.2.1 52 = .ok (.ifCond .le 32, 3) := by decide +kernel
theorem d_V_writeNumber_55 : decode m_V_writeNumber.2.1 55 = .ok (.aload_n 0, 1) := by decide +kernel
theorem d_V_writeNumber_56 : decode m_V_writeNumber.2.1 56 = .ok (.ldc2_w 115, 3) := by decide +kernel
theorem d_V_writeNumber_59 : decode m_V_writeNumber.2.1 59 = .ok (.lload_n 2, 1) := by decide +kernel
theorem d_V_writeNumber_60 : decode m_V_writeNumber.2.1 60 = .ok (.lload 4, 2) := by decide +kernel
theorem d_V_writeNumber_62 : decode m_V_writeNumber.2.1 62 = .ok (.ldiv, 1) := by decide +kernel
theorem d_V_writeNumber_63 : decode m_V_writeNumber.2.1 63 = .ok (.ldc2_w 113, 3) := by decide +kernel
theorem d_V_writeNumber_66 : decode m_V_writeNumber.2.1 66 = .ok (.lrem, 1) := by decide +kernel
theorem d_V_writeNumber_67 : decode m_V_writeNumber.2.1 67 = .ok (.ladd, 1) := by decide +kernel
theorem d_V_writeNumber_68 : decode m_V_writeNumber.2.1 68 = .ok (.l2i, 1) := by decide +kernel
theorem d_V_writeNumber_69 : decode m_V_writeNumber.2.1 69 = .ok (.i2c, 1) := by decide +kernel
theorem d_V_writeNumber_70 : decode m_V_writeNumber.2.1 70 = .ok (.invokevirtual 97, 3) := by decide +kernel
theorem d_V_writeNumber_73 : decode m_V_writeNumber.2.1 73 = .ok (.lload 4, 2) := by decide +kernel
theorem d_V_writeNumber_75 : decode m_V_writeNumber.2.1 75 = .ok (.ldc2_w 113, 3) := by decide +kernel
theorem d_V_writeNumber_78 : decode m_V_writeNumber.2.1 78 = .ok (.ldiv, 1) := by decide +kernel
theorem d_V_writeNumber_79 : decode m_V_writeNumber.2.1 79 = .ok (.lstore 4, 2) := by decide +kernel
theorem d_V_writeNumber_81 : decode m_V_writeNumber.2.1 81 = .ok (.goto (-33), 3) := by decide +kernel
theorem d_V_writeNumber_84 : decode m_V_writeNumber.2.1 84 = .ok (.return_, 1) := by decide +kernel
theorem d_V_put_0 : decode m_V_put.2.1 0 = .ok (.aload_n 0, 1) := by decide +kernel
theorem d_V_put_1 : decode m_V_put.2.1 1 = .ok (.getfield 30, 3) := by decide +kernel
theorem d_V_put_4 : decode m_V_put.2.1 4 = .ok (.aload_n 0, 1) := by decide +kernel
theorem d_V_put_5 : decode m_V_put.2.1 5 = .ok (.getfield 26, 3) := by decide +kernel
theorem d_V_put_8 : decode m_V_put.2.1 8 = .ok (.arraylength, 1) := by decide +kernel
theorem d_V_put_9 : decode m_V_put.2.1 9 = .ok (.if_icmp .ge 23, 3) := by decide +kernel
theorem d_V_put_12 : decode m_V_put.2.1 12 = .ok (.aload_n 0, 1) := by decide +kernel
theorem d_V_put_13 : decode m_V_put.2.1 13 = .ok (.getfield 26, 3) := by decide +kernel
theorem d_V_put_16 : decode m_V_put.2.1 16 = .ok (.aload_n 0, 1) := by decide +kernel
theorem d_V_put_17 : decode m_V_put.2.1 17 = .ok (.getfield 30, 3) := by decide +kernel
theorem d_V_put_20 : decode m_V_put.2.1 20 = .ok (.iload_n 1, 1) := by decide +kernel
theorem d_V_put_21 : decode m_V_put.2.1 21 = .ok (.castore, 1) := by decide +kernel
theorem d_V_put_22 : decode m_V_put.2.1 22 = .ok (.aload_n 0, 1) := by decide +kernel
theorem d_V_put_23 : decode m_V_put.2.1 23 = .ok (.dup, 1) := by decide +kernel
theorem d_V_put_24 : decode m_V_put.2.1 24 = .ok (.getfield 30, 3) := by decide +kernel
theorem d_V_put_27 : decode m_V_put.2.1 27 = .ok (.iconst 1, 1) := by decide +kernel
theorem d_V_put_28 : decode m_V_put.2.1 28 = .ok (.iadd, 1) := by decide +kernel
theorem d_V_put_29 : decode m_V_put.2.1 29 = .ok (.putfield 30, 3) := by decide +kernel
theorem d_V_put_32 : decode m_V_put.2.1 32 = .ok (.return_, 1) := by decide +kernel
theorem d_V_keep_0 : decode m_V_keep.2.1 0 = .ok (.aload_n 0, 1) := by decide +kernel
theorem d_V_keep_1 : decode m_V_keep.2.1 1 = .ok (.iload_n 1, 1) := by decide +kernel
theorem d_V_keep_2 : decode m_V_keep.2.1 2 = .ok (.invokevirtual 65, 3) := by decide +kernel
theorem d_V_keep_5 : decode m_V_keep.2.1 5 = .ok (.istore_n 3, 1) := by decide +kernel
theorem d_V_keep_6 : decode m_V_keep.2.1 6 = .ok (.iload_n 2, 1) := by decide +kernel
theorem d_V_keep_7 : decode m_V_keep.2.1 7 = .ok (.bipush 40, 2) := by decide +kernel
theorem d_V_keep_9 : decode m_V_keep.2.1 9 = .ok (.if_icmp .le 14, 3) := by decide +kernel
theorem d_V_keep_12 : decode m_V_keep.2.1 12 = .ok (.new 117, 3) := by decide +kernel
theorem d_V_keep_15 : decode m_V_keep.2.1 15 = .ok (.dup, 1) := by decide +kernel
theorem d_V_keep_16 : decode m_V_keep.2.1 16 = .ok (.iconst 4, 1) := by decide +kernel
theorem d_V_keep_17 : decode m_V_keep.2.1 17 = .ok (.iconst 0, 1) := by decide +kernel
theorem d_V_keep_18 : decode m_V_keep.2.1 18 = .ok (.iconst 0, 1) := by decide +kernel
theorem d_V_keep_19 : decode m_V_keep.2.1 19 = .ok (.invokespecial 119, 3) := by decide +kernel
theorem d_V_keep_22 : decode m_V_keep.2.1 22 = .ok (.areturn, 1) := by decide +kernel
theorem d_V_keep_23 : decode m_V_keep.2.1 23 = .ok (.new 117, 3) := by decide +kernel
theorem d_V_keep_26 : decode m_V_keep.2.1 26 = .ok (.dup, 1) := by decide +kernel
theorem d_V_keep_27 : decode m_V_keep.2.1 27 = .ok (.aload_n 0, 1) := by decide +kernel
theorem d_V_keep_28 : decode m_V_keep.2.1 28 = .ok (.iload_n 3, 1) := by decide +kernel
theorem d_V_keep_29 : decode m_V_keep.2.1 29 = .ok (.invokevirtual 91, 3) := by decide +kernel
theorem d_V_keep_32 : decode m_V_keep.2.1 32 = .ok (.aload_n 0, 1) := by decide +kernel
theorem d_V_keep_33 : decode m_V_keep.2.1 33 = .ok (.iload_n 3, 1) := by decide +kernel
theorem d_V_keep_34 : decode m_V_keep.2.1 34 = .ok (.invokevirtual 104, 3) := by decide +kernel
theorem d_V_keep_37 : decode m_V_keep.2.1 37 = .ok (.iconst 0, 1) := by decide +kernel
theorem d_V_keep_38 : decode m_V_keep.2.1 38 = .ok (.invokespecial 119, 3) := by decide +kernel
theorem d_V_keep_41 : decode m_V_keep.2.1 41 = .ok (.astore 4, 2) := by decide +kernel
theorem d_V_keep_43 : decode m_V_keep.2.1 43 = .ok (.iconst 0, 1) := by decide +kernel
theorem d_V_keep_44 : decode m_V_keep.2.1 44 = .ok (.istore 5, 2) := by decide +kernel
theorem d_V_keep_46 : decode m_V_keep.2.1 46 = .ok (.iload 5, 2) := by decide +kernel
theorem d_V_keep_48 : decode m_V_keep.2.1 48 = .ok (.aload_n 0, 1) := by decide +kernel
theorem d_V_keep_49 : decode m_V_keep.2.1 49 = .ok (.iload_n 3, 1) := by decide +kernel
theorem d_V_keep_50 : decode m_V_keep.2.1 50 = .ok (.invokevirtual 68, 3) := by decide +kernel
theorem d_V_keep_53 : decode m_V_keep.2.1 53 = .ok (.if_icmp .ge 28, 3) := by decide +kernel
theorem d_V_keep_56 : decode m_V_keep.2.1 56 = .ok (.aload 4, 2) := by decide +kernel
theorem d_V_keep_58 : decode m_V_keep.2.1 58 = .ok (.aload_n 0, 1) := by decide +kernel
theorem d_V_keep_59 : decode m_V_keep.2.1 59 = .ok (.aload_n 0, 1) := by decide +kernel
theorem d_V_keep_60 : decode m_V_keep.2.1 60 = .ok (.iload_n 3, 1) := by decide +kernel
theorem d_V_keep_61 : decode m_V_keep.2.1 61 = .ok (.iload 5, 2) := by decide +kernel
theorem d_V_keep_63 : decode m_V_keep.2.1 63 = .ok (.invokevirtual 71, 3) := by decide +kernel
theorem d_V_keep_66 : decode m_V_keep.2.1 66 = .ok (.iload_n 2, 1) := by decide +kernel
theorem d_V_keep_67 : decode m_V_keep.2.1 67 = .ok (.iconst 1, 1) := by decide +kernel
theorem d_V_keep_68 : decode m_V_keep.2.1 68 = .ok (.iadd, 1) := by decide +kernel
theorem d_V_keep_69 : decode m_V_keep.2.1 69 = .ok (.invokevirtual 122, 3) := by decide +kernel
theorem d_V_keep_72 : decode m_V_keep.2.1 72 = .ok (.invokevirtual 126, 3) := by decide +kernel
theorem d_V_keep_75 : decode m_V_keep.2.1 75 = .ok (.iinc 5 1, 3) := by decide +kernel
theorem d_V_keep_78 : decode m_V_keep.2.1 78 = .ok (.goto (-32), 3) := by decide +kernel
theorem d_V_keep_81 : decode m_V_keep.2.1 81 = .ok (.aload 4, 2) := by decide +kernel
theorem d_V_keep_83 : decode m_V_keep.2.1 83 = .ok (.areturn, 1) := by decide +kernel
theorem d_C_init_0 : decode m_C_init.2.1 0 = .ok (.aload_n 0, 1) := by decide +kernel
theorem d_C_init_1 : decode m_C_init.2.1 1 = .ok (.aload_n 1, 1) := by decide +kernel
theorem d_C_init_2 : decode m_C_init.2.1 2 = .ok (.invokespecial 7, 3) := by decide +kernel
theorem d_C_init_5 : decode m_C_init.2.1 5 = .ok (.return_, 1) := by decide +kernel
theorem d_A_init_0 : decode m_A_init.2.1 0 = .ok (.aload_n 0, 1) := by decide +kernel
theorem d_A_init_1 : decode m_A_init.2.1 1 = .ok (.aload_n 1, 1) := by decide +kernel
theorem d_A_init_2 : decode m_A_init.2.1 2 = .ok (.invokespecial 7, 3) := by decide +kernel
theorem d_A_init_5 : decode m_A_init.2.1 5 = .ok (.return_, 1) := by decide +kernel
theorem d_S_init_0 : decode m_S_init.2.1 0 = .ok (.aload_n 0, 1) := by decide +kernel
theorem d_S_init_1 : decode m_S_init.2.1 1 = .ok (.aload_n 1, 1) := by decide +kernel
theorem d_S_init_2 : decode m_S_init.2.1 2 = .ok (.invokespecial 7, 3) := by decide +kernel
theorem d_S_init_5 : decode m_S_init.2.1 5 = .ok (.return_, 1) := by decide +kernel
theorem d_H_max_0 : decode m_H_max.2.1 0 = .ok (.iload_n 0, 1) := by decide +kernel
theorem d_H_max_1 : decode m_H_max.2.1 1 = .ok (.iload_n 1, 1) := by decide +kernel
theorem d_H_max_2 : decode m_H_max.2.1 2 = .ok (.if_icmp .lt 7, 3) := by decide +kernel
theorem d_H_max_5 : decode m_H_max.2.1 5 = .ok (.iload_n 0, 1) := by decide +kernel
theorem d_H_max_6 : decode m_H_max.2.1 6 = .ok (.goto 4, 3) := by decide +kernel
theorem d_H_max_9 : decode m_H_max.2.1 9 = .ok (.iload_n 1, 1) := by decide +kernel
theorem d_H_max_10 : decode m_H_max.2.1 10 = .ok (.ireturn, 1) := by decide +kernel
theorem d_H_min_0 : decode m_H_min.2.1 0 = .ok (.iload_n 0, 1) := by decide +kernel
theorem d_H_min_1 : decode m_H_min.2.1 1 = .ok (.iload_n 1, 1) := by decide +kernel
theorem d_H_min_2 : decode m_H_min.2.1 2 = .ok (.if_icmp .gt 7, 3) := by decide +kernel
theorem d_H_min_5 : decode m_H_min.2.1 5 = .ok (.iload_n 0, 1) := by decide +kernel
theorem d_H_min_6 : decode m_H_min.2.1 6 = .ok (.goto 4, 3) := by decide +kernel
theorem d_H_min_9 : decode m_H_min.2.1 9 = .ok (.iload_n 1, 1) := by decide +kernel
theorem d_H_min_10 : decode m_H_min.2.1 10 = .ok (.ireturn, 1) := by decide +kernel
theorem d_X_init_0 : decode m_X_init.2.1 0 = .ok (.aload_n 0, 1) := by decide +kernel
theorem d_X_init_1 : decode m_X_init.2.1 1 = .ok (.aload_n 1, 1) := by decide +kernel
theorem d_X_init_2 : decode m_X_init.2.1 2 = .ok (.invokespecial 7, 3) := by decide +kernel
theorem d_X_init_5 : decode m_X_init.2.1 5 = .ok (.return_, 1) := by decide +kernel
theorem d_W_init_0 : decode m_W_init.2.1 0 = .ok (.aload_n 0, 1) := by decide +kernel
theorem d_W_init_1 : decode m_W_init.2.1 1 = .ok (.invokespecial 1, 3) := by decide +kernel
theorem d_W_init_4 : decode m_W_init.2.1 4 = .ok (.aload_n 0, 1) := by decide +kernel
theorem d_W_init_5 : decode m_W_init.2.1 5 = .ok (.aload_n 0, 1) := by decide +kernel
theorem d_W_init_6 : decode m_W_init.2.1 6 = .ok (.putfield 7, 3) := by decide +kernel
theorem d_W_init_9 : decode m_W_init.2.1 9 = .ok (.aload_n 0, 1) := by decide +kernel
theorem d_W_init_10 : decode m_W_init.2.1 10 = .ok (.getstatic 13, 3) := by decide +kernel
theorem d_W_init_13 : decode m_W_init.2.1 13 = .ok (.putfield 17, 3) := by decide +kernel
theorem d_W_init_16 : decode m_W_init.2.1 16 = .ok (.aload_n 0, 1) := by decide +kernel
theorem d_W_init_17 : decode m_W_init.2.1 17 = .ok (.getstatic 20, 3) := by decide +kernel
theorem d_W_init_20 : decode m_W_init.2.1 20 = .ok (.putfield 24, 3) := by decide +kernel
theorem d_W_init_23 : decode m_W_init.2.1 23 = .ok (.aload_n 0, 1) := by decide +kernel
theorem d_W_init_24 : decode m_W_init.2.1 24 = .ok (.invokevirtual 27, 3) := by decide +kernel
theorem d_W_init_27 : decode m_W_init.2.1 27 = .ok (.pop, 1) := by decide +kernel
theorem d_W_init_28 : decode m_W_init.2.1 28 = .ok (.aload_n 0, 1) := by decide +kernel
theorem d_W_init_29 : decode m_W_init.2.1 29 = .ok (.aload_n 1, 1) := by decide +kernel
theorem d_W_init_30 : decode m_W_init.2.1 30 = .ok (.putfield 31, 3) := by decide +kernel
theorem d_W_init_33 : decode m_W_init.2.1 33 = .ok (.return_, 1) := by decide +kernel
theorem d_Y_copyOf_0 : decode m_Y_copyOf.2.1 0 = .ok (.iload_n 1, 1) := by decide +kernel
theorem d_Y_copyOf_1 : decode m_Y_copyOf.2.1 1 = .ok (.aload_n 0, 1) := by decide +kernel
theorem d_Y_copyOf_2 : decode m_Y_copyOf.2.1 2 = .ok (.arraylength, 1) := by decide +kernel
theorem d_Y_copyOf_3 : decode m_Y_copyOf.2.1 3 = .ok (.if_icmp .ne 11, 3) := by decide +kernel
theorem d_Y_copyOf_6 : decode m_Y_copyOf.2.1 6 = .ok (.aload_n 0, 1) := by decide +kernel
theorem d_Y_copyOf_7 : decode m_Y_copyOf.2.1 7 = .ok (.invokevirtual 316, 3) := by decide +kernel
theorem d_Y_copyOf_10 : decode m_Y_copyOf.2.1 10 = .ok (.checkcast 317, 3) := by decide +kernel
theorem d_Y_copyOf_13 : decode m_Y_copyOf.2.1 13 = .ok (.areturn, 1) := by decide +kernel
theorem d_Y_copyOf_14 : decode m_Y_copyOf.2.1 14 = .ok (.iload_n 1, 1) := by decide +kernel
theorem d_Y_copyOf_15 : decode m_Y_copyOf.2.1 15 = .ok (.newarray .int, 2) := by decide +kernel
theorem d_Y_copyOf_17 : decode m_Y_copyOf.2.1 17 = .ok (.astore_n 2, 1) := by decide +kernel
theorem d_Y_copyOf_18 : decode m_Y_copyOf.2.1 18 = .ok (.aload_n 0, 1) := by decide +kernel
theorem d_Y_copyOf_19 : decode m_Y_copyOf.2.1 19 = .ok (.iconst 0, 1) := by decide +kernel
theorem d_Y_copyOf_20 : decode m_Y_copyOf.2.1 20 = .ok (.aload_n 2, 1) := by decide +kernel
theorem d_Y_copyOf_21 : decode m_Y_copyOf.2.1 21 = .ok (.iconst 0, 1) := by decide +kernel
theorem d_Y_copyOf_22 : decode m_Y_copyOf.2.1 22 = .ok (.aload_n 0, 1) := by decide +kernel
theorem d_Y_copyOf_23 : decode m_Y_copyOf.2.1 23 = .ok (.arraylength, 1) := by decide +kernel
theorem d_Y_copyOf_24 : decode m_Y_copyOf.2.1 24 = .ok (.iload_n 1, 1) := by decide +kernel
theorem d_Y_copyOf_25 : decode m_Y_copyOf.2.1 25 = .ok (.invokestatic 304, 3) := by decide +kernel
theorem d_Y_copyOf_28 : decode m_Y_copyOf.2.1 28 = .ok (.invokestatic 150, 3) := by decide +kernel
theorem d_Y_copyOf_31 : decode m_Y_copyOf.2.1 31 = .ok (.aload_n 2, 1) := by decide +kernel
theorem d_Y_copyOf_32 : decode m_Y_copyOf.2.1 32 = .ok (.areturn, 1) := by decide +kernel
