theorem dX0_init_0 : decode cX0_init 0 = .ok (.aload_n 0, 1) := by decide +kernel
theorem dX0_init_1 : decode cX0_init 1 = .ok (.invokespecial 3, 3) := by decide +kernel
theorem dX0_init_4 : decode cX0_init 4 = .ok (.aload_n 0, 1) := by decide +kernel
theorem dX0_init_5 : decode cX0_init 5 = .ok (.sipush 180, 3) := by decide +kernel
theorem dX0_init_8 : decode cX0_init 8 = .ok (.newarray .int, 2) := by decide +kernel
theorem dX0_init_10 : decode cX0_init 10 = .ok (.putfield 9, 3) := by decide +kernel
theorem dX0_init_13 : decode cX0_init 13 = .ok (.aload_n 0, 1) := by decide +kernel
theorem dX0_init_14 : decode cX0_init 14 = .ok (.sipush 180, 3) := by decide +kernel
theorem dX0_init_17 : decode cX0_init 17 = .ok (.newarray .int, 2) := by decide +kernel
theorem dX0_init_19 : decode cX0_init 19 = .ok (.putfield 15, 3) := by decide +kernel
theorem dX0_init_22 : decode cX0_init 22 = .ok (.aload_n 0, 1) := by decide +kernel
theorem dX0_init_23 : decode cX0_init 23 = .ok (.sipush 180, 3) := by decide +kernel
theorem dX0_init_26 : decode cX0_init 26 = .ok (.newarray .int, 2) := by decide +kernel
theorem dX0_init_28 : decode cX0_init 28 = .ok (.putfield 18, 3) := by decide +kernel
theorem dX0_init_31 : decode cX0_init 31 = .ok (.aload_n 0, 1) := by decide +kernel
theorem dX0_init_32 : decode cX0_init 32 = .ok (.sipush 180, 3) := by decide +kernel
theorem dX0_init_35 : decode cX0_init 35 = .ok (.newarray .int, 2) := by decide +kernel
theorem dX0_init_37 : decode cX0_init 37 = .ok (.putfield 21, 3) := by decide +kernel
theorem dX0_init_40 : decode cX0_init 40 = .ok (.aload_n 0, 1) := by decide +kernel
theorem dX0_init_41 : decode cX0_init 41 = .ok (.sipush 180, 3) := by decide +kernel
theorem dX0_init_44 : decode cX0_init 44 = .ok (.newarray .int, 2) := by decide +kernel
theorem dX0_init_46 : decode cX0_init 46 = .ok (.putfield 24, 3) := by decide +kernel
theorem dX0_init_49 : decode cX0_init 49 = .ok (.aload_n 0, 1) := by decide +kernel
theorem dX0_init_50 : decode cX0_init 50 = .ok (.sipush 180, 3) := by decide +kernel
theorem dX0_init_53 : decode cX0_init 53 = .ok (.newarray .int, 2) := by decide +kernel
theorem dX0_init_55 : decode cX0_init 55 = .ok (.putfield 27, 3) := by decide +kernel
theorem dX0_init_58 : decode cX0_init 58 = .ok (.aload_n 0, 1) := by decide +kernel
theorem dX0_init_59 : decode cX0_init 59 = .ok (.sipush 180, 3) := by decide +kernel
theorem dX0_init_62 : decode cX0_init 62 = .ok (.newarray .int, 2) := by decide +kernel
theorem dX0_init_64 : decode cX0_init 64 = .ok (.putfield 30, 3) := by decide +kernel
theorem dX0_init_67 : decode cX0_init 67 = .ok (.aload_n 0, 1) := by decide +kernel
theorem dX0_init_68 : decode cX0_init 68 = .ok (.sipush 180, 3) := by decide +kernel
theorem dX0_init_71 : decode cX0_init 71 = .ok (.newarray .int, 2) := by decide +kernel
theorem dX0_init_73 : decode cX0_init 73 = .ok (.putfield 33, 3) := by decide +kernel
theorem dX0_init_76 : decode cX0_init 76 = .ok (.aload_n 0, 1) := by decide +kernel
theorem dX0_init_77 : decode cX0_init 77 = .ok (.sipush 180, 3) := by decide +kernel
theorem dX0_init_80 : decode cX0_init 80 = .ok (.newarray .int, 2) := by decide +kernel
theorem dX0_init_82 : decode cX0_init 82 = .ok (.putfield 36, 3) := by decide +kernel
theorem dX0_init_85 : decode cX0_init 85 = .ok (.aload_n 0, 1) := by decide +kernel
theorem dX0_init_86 : decode cX0_init 86 = .ok (.sipush 180, 3) := by decide +kernel
theorem dX0_init_89 : decode cX0_init 89 = .ok (.newarray .int, 2) := by decide +kernel
theorem dX0_init_91 : decode cX0_init 91 = .ok (.putfield 39, 3) := by decide +kernel
theorem dX0_init_94 : decode cX0_init 94 = .ok (.return_, 1) := by decide +kernel
theorem dX0_tell_0 : decode cX0_tell 0 = .ok (.aload_n 0, 1) := by decide +kernel
theorem dX0_tell_1 : decode cX0_tell 1 = .ok (.getfield 42, 3) := by decide +kernel
theorem dX0_tell_4 : decode cX0_tell 4 = .ok (.sipush 180, 3) := by decide +kernel
theorem dX0_tell_7 : decode cX0_tell 7 = .ok (.if_icmp .lt 5, 3) := by decide +kernel
theorem dX0_tell_10 : decode cX0_tell 10 = .ok (.iconst (-1), 1) := by decide +kernel
theorem dX0_tell_11 : decode cX0_tell 11 = .ok (.ireturn, 1) := by decide +kernel
theorem dX0_tell_12 : decode cX0_tell 12 = .ok (.aload_n 0, 1) := by decide +kernel
theorem dX0_tell_13 : decode cX0_tell 13 = .ok (.getfield 9, 3) := by decide +kernel
theorem dX0_tell_16 : decode cX0_tell 16 = .ok (.aload_n 0, 1) := by decide +kernel
theorem dX0_tell_17 : decode cX0_tell 17 = .ok (.getfield 42, 3) := by decide +kernel
theorem dX0_tell_20 : decode cX0_tell 20 = .ok (.iload_n 1, 1) := by decide +kernel
theorem dX0_tell_21 : decode cX0_tell 21 = .ok (.iastore, 1) := by decide +kernel
theorem dX0_tell_22 : decode cX0_tell 22 = .ok (.aload_n 0, 1) := by decide +kernel
theorem dX0_tell_23 : decode cX0_tell 23 = .ok (.getfield 15, 3) := by decide +kernel
theorem dX0_tell_26 : decode cX0_tell 26 = .ok (.aload_n 0, 1) := by decide +kernel
theorem dX0_tell_27 : decode cX0_tell 27 = .ok (.getfield 42, 3) := by decide +kernel
theorem dX0_tell_30 : decode cX0_tell 30 = .ok (.iload_n 2, 1) := by decide +kernel
theorem dX0_tell_31 : decode cX0_tell 31 = .ok (.iastore, 1) := by decide +kernel
theorem dX0_tell_32 : decode cX0_tell 32 = .ok (.aload_n 0, 1) := by decide +kernel
theorem dX0_tell_33 : decode cX0_tell 33 = .ok (.getfield 24, 3) := by decide +kernel
theorem dX0_tell_36 : decode cX0_tell 36 = .ok (.aload_n 0, 1) := by decide +kernel
theorem dX0_tell_37 : decode cX0_tell 37 = .ok (.getfield 42, 3) := by decide +kernel
theorem dX0_tell_40 : decode cX0_tell 40 = .ok (.iload_n 3, 1) := by decide +kernel
theorem dX0_tell_41 : decode cX0_tell 41 = .ok (.iastore, 1) := by decide +kernel
theorem dX0_tell_42 : decode cX0_tell 42 = .ok (.aload_n 0, 1) := by decide +kernel
theorem dX0_tell_43 : decode cX0_tell 43 = .ok (.dup, 1) := by decide +kernel
theorem dX0_tell_44 : decode cX0_tell 44 = .ok (.getfield 42, 3) := by decide +kernel
theorem dX0_tell_47 : decode cX0_tell 47 = .ok (.iconst 1, 1) := by decide +kernel
theorem dX0_tell_48 : decode cX0_tell 48 = .ok (.iadd, 1) := by decide +kernel
theorem dX0_tell_49 : decode cX0_tell 49 = .ok (.putfield 42, 3) := by decide +kernel
theorem dX0_tell_52 : decode cX0_tell 52 = .ok (.aload_n 0, 1) := by decide +kernel
theorem dX0_tell_53 : decode cX0_tell 53 = .ok (.getfield 42, 3) := by decide +kernel
theorem dX0_tell_56 : decode cX0_tell 56 = .ok (.iconst 1, 1) := by decide +kernel
theorem dX0_tell_57 : decode cX0_tell 57 = .ok (.isub, 1) := by decide +kernel
theorem dX0_tell_58 : decode cX0_tell 58 = .ok (.ireturn, 1) := by decide +kernel
theorem dX0_setPaper_0 : decode cX0_setPaper 0 = .ok (.iload_n 1, 1) := by decide +kernel
theorem dX0_setPaper_1 : decode cX0_setPaper 1 = .ok (.ifCond .lt 25, 3) := by decide +kernel
theorem dX0_setPaper_4 : decode cX0_setPaper 4 = .ok (.iload_n 1, 1) := by decide +kernel
theorem dX0_setPaper_5 : decode cX0_setPaper 5 = .ok (.aload_n 0, 1) := by decide +kernel
theorem dX0_setPaper_6 : decode cX0_setPaper 6 = .ok (.getfield 42, 3) := by decide +kernel
theorem dX0_setPaper_9 : decode cX0_setPaper 9 = .ok (.if_icmp .ge 17, 3) := by decide +kernel
theorem dX0_setPaper_12 : decode cX0_setPaper 12 = .ok (.aload_n 0, 1) := by decide +kernel
theorem dX0_setPaper_13 : decode cX0_setPaper 13 = .ok (.getfield 27, 3) := by decide +kernel
theorem dX0_setPaper_16 : decode cX0_setPaper 16 = .ok (.iload_n 1, 1) := by decide +kernel
theorem dX0_setPaper_17 : decode cX0_setPaper 17 = .ok (.iload_n 2, 1) := by decide +kernel
theorem dX0_setPaper_18 : decode cX0_setPaper 18 = .ok (.iastore, 1) := by decide +kernel
theorem dX0_setPaper_19 : decode cX0_setPaper 19 = .ok (.aload_n 0, 1) := by decide +kernel
theorem dX0_setPaper_20 : decode cX0_setPaper 20 = .ok (.getfield 30, 3) := by decide +kernel
theorem dX0_setPaper_23 : decode cX0_setPaper 23 = .ok (.iload_n 1, 1) := by decide +kernel
theorem dX0_setPaper_24 : decode cX0_setPaper 24 = .ok (.iload_n 3, 1) := by decide +kernel
theorem dX0_setPaper_25 : decode cX0_setPaper 25 = .ok (.iastore, 1) := by decide +kernel
theorem dX0_setPaper_26 : decode cX0_setPaper 26 = .ok (.return_, 1) := by decide +kernel
theorem dX0_isOfKind_0 : decode cX0_isOfKind 0 = .ok (.iload_n 1, 1) := by decide +kernel
theorem dX0_isOfKind_1 : decode cX0_isOfKind 1 = .ok (.ifCond .lt 30, 3) := by decide +kernel
theorem dX0_isOfKind_4 : decode cX0_isOfKind 4 = .ok (.iload_n 1, 1) := by decide +kernel
theorem dX0_isOfKind_5 : decode cX0_isOfKind 5 = .ok (.iload_n 3, 1) := by decide +kernel
theorem dX0_isOfKind_6 : decode cX0_isOfKind 6 = .ok (.if_icmp .ge 25, 3) := by decide +kernel
theorem dX0_isOfKind_9 : decode cX0_isOfKind 9 = .ok (.iload_n 1, 1) := by decide +kernel
theorem dX0_isOfKind_10 : decode cX0_isOfKind 10 = .ok (.aload_n 0, 1) := by decide +kernel
theorem dX0_isOfKind_11 : decode cX0_isOfKind 11 = .ok (.getfield 42, 3) := by decide +kernel
theorem dX0_isOfKind_14 : decode cX0_isOfKind 14 = .ok (.if_icmp .ge 17, 3) := by decide +kernel
theorem dX0_isOfKind_17 : decode cX0_isOfKind 17 = .ok (.aload_n 0, 1) := by decide +kernel
theorem dX0_isOfKind_18 : decode cX0_isOfKind 18 = .ok (.getfield 9, 3) := by decide +kernel
theorem dX0_isOfKind_21 : decode cX0_isOfKind 21 = .ok (.iload_n 1, 1) := by decide +kernel
theorem dX0_isOfKind_22 : decode cX0_isOfKind 22 = .ok (.iaload, 1) := by decide +kernel
theorem dX0_isOfKind_23 : decode cX0_isOfKind 23 = .ok (.iload_n 2, 1) := by decide +kernel
theorem dX0_isOfKind_24 : decode cX0_isOfKind 24 = .ok (.if_icmp .ne 7, 3) := by decide +kernel
theorem dX0_isOfKind_27 : decode cX0_isOfKind 27 = .ok (.iconst 1, 1) := by decide +kernel
theorem dX0_isOfKind_28 : decode cX0_isOfKind 28 = .ok (.goto 4, 3) := by decide +kernel
theorem dX0_isOfKind_31 : decode cX0_isOfKind 31 = .ok (.iconst 0, 1) := by decide +kernel
theorem dX0_isOfKind_32 : decode cX0_isOfKind 32 = .ok (.ireturn, 1) := by decide +kernel
theorem dX0_isAbout_0 : decode cX0_isAbout 0 = .ok (.aload_n 0, 1) := by decide +kernel
theorem dX0_isAbout_1 : decode cX0_isAbout 1 = .ok (.getfield 9, 3) := by decide +kernel
theorem dX0_isAbout_4 : decode cX0_isAbout 4 = .ok (.iload_n 1, 1) := by decide +kernel
theorem dX0_isAbout_5 : decode cX0_isAbout 5 = .ok (.iaload, 1) := by decide +kernel
theorem dX0_isAbout_6 : decode cX0_isAbout 6 = .ok (.iload_n 2, 1) := by decide +kernel
theorem dX0_isAbout_7 : decode cX0_isAbout 7 = .ok (.if_icmp .ne 17, 3) := by decide +kernel
theorem dX0_isAbout_10 : decode cX0_isAbout 10 = .ok (.aload_n 0, 1) := by decide +kernel
theorem dX0_isAbout_11 : decode cX0_isAbout 11 = .ok (.getfield 36, 3) := by decide +kernel
theorem dX0_isAbout_14 : decode cX0_isAbout 14 = .ok (.iload_n 1, 1) := by decide +kernel
theorem dX0_isAbout_15 : decode cX0_isAbout 15 = .ok (.iaload, 1) := by decide +kernel
theorem dX0_isAbout_16 : decode cX0_isAbout 16 = .ok (.iload_n 3, 1) := by decide +kernel
theorem dX0_isAbout_17 : decode cX0_isAbout 17 = .ok (.if_icmp .ne 7, 3) := by decide +kernel
theorem dX0_isAbout_20 : decode cX0_isAbout 20 = .ok (.iconst 1, 1) := by decide +kernel
theorem dX0_isAbout_21 : decode cX0_isAbout 21 = .ok (.goto 4, 3) := by decide +kernel
theorem dX0_isAbout_24 : decode cX0_isAbout 24 = .ok (.iconst 0, 1) := by decide +kernel
theorem dX0_isAbout_25 : decode cX0_isAbout 25 = .ok (.ireturn, 1) := by decide +kernel
theorem dX0_sitter_0 : decode cX0_sitter 0 = .ok (.iconst (-1), 1) := by decide +kernel
theorem dX0_sitter_1 : decode cX0_sitter 1 = .ok (.istore 4, 2) := by decide +kernel
theorem dX0_sitter_3 : decode cX0_sitter 3 = .ok (.iconst 0, 1) := by decide +kernel
theorem dX0_sitter_4 : decode cX0_sitter 4 = .ok (.istore 5, 2) := by decide +kernel
theorem dX0_sitter_6 : decode cX0_sitter 6 = .ok (.iload 5, 2) := by decide +kernel
theorem dX0_sitter_8 : decode cX0_sitter 8 = .ok (.iload_n 3, 1) := by decide +kernel
theorem dX0_sitter_9 : decode cX0_sitter 9 = .ok (.if_icmp .ge 42, 3) := by decide +kernel
theorem dX0_sitter_12 : decode cX0_sitter 12 = .ok (.aload_n 0, 1) := by decide +kernel
theorem dX0_sitter_13 : decode cX0_sitter 13 = .ok (.getfield 9, 3) := by decide +kernel
theorem dX0_sitter_16 : decode cX0_sitter 16 = .ok (.iload 5, 2) := by decide +kernel
theorem dX0_sitter_18 : decode cX0_sitter 18 = .ok (.iaload, 1) := by decide +kernel
theorem dX0_sitter_19 : decode cX0_sitter 19 = .ok (.iconst 5, 1) := by decide +kernel
theorem dX0_sitter_20 : decode cX0_sitter 20 = .ok (.if_icmp .ne 25, 3) := by decide +kernel
theorem dX0_sitter_23 : decode cX0_sitter 23 = .ok (.aload_n 0, 1) := by decide +kernel
theorem dX0_sitter_24 : decode cX0_sitter 24 = .ok (.getfield 21, 3) := by decide +kernel
theorem dX0_sitter_27 : decode cX0_sitter 27 = .ok (.iload 5, 2) := by decide +kernel
theorem dX0_sitter_29 : decode cX0_sitter 29 = .ok (.iaload, 1) := by decide +kernel
theorem dX0_sitter_30 : decode cX0_sitter 30 = .ok (.iload_n 1, 1) := by decide +kernel
theorem dX0_sitter_31 : decode cX0_sitter 31 = .ok (.if_icmp .ne 14, 3) := by decide +kernel
theorem dX0_sitter_34 : decode cX0_sitter 34 = .ok (.aload_n 0, 1) := by decide +kernel
theorem dX0_sitter_35 : decode cX0_sitter 35 = .ok (.iload 4, 2) := by decide +kernel
theorem dX0_sitter_37 : decode cX0_sitter 37 = .ok (.iload 5, 2) := by decide +kernel
theorem dX0_sitter_39 : decode cX0_sitter 39 = .ok (.iload_n 2, 1) := by decide +kernel
theorem dX0_sitter_40 : decode cX0_sitter 40 = .ok (.invokevirtual 46, 3) := by decide +kernel
theorem dX0_sitter_43 : decode cX0_sitter 43 = .ok (.istore 4, 2) := by decide +kernel
theorem dX0_sitter_45 : decode cX0_sitter 45 = .ok (.iinc 5 1, 3) := by decide +kernel
theorem dX0_sitter_48 : decode cX0_sitter 48 = .ok (.goto (-42), 3) := by decide +kernel
theorem dX0_sitter_51 : decode cX0_sitter 51 = .ok (.iload 4, 2) := by decide +kernel
theorem dX0_sitter_53 : decode cX0_sitter 53 = .ok (.iconst (-1), 1) := by decide +kernel
theorem dX0_sitter_54 : decode cX0_sitter 54 = .ok (.if_icmp .ne 6, 3) := by decide +kernel
theorem dX0_sitter_57 : decode cX0_sitter 57 = .ok (.bipush (-2), 2) := by decide +kernel
theorem dX0_sitter_59 : decode cX0_sitter 59 = .ok (.ireturn, 1) := by decide +kernel
theorem dX0_sitter_60 : decode cX0_sitter 60 = .ok (.aload_n 0, 1) := by decide +kernel
theorem dX0_sitter_61 : decode cX0_sitter 61 = .ok (.getfield 33, 3) := by decide +kernel
theorem dX0_sitter_64 : decode cX0_sitter 64 = .ok (.iload 4, 2) := by decide +kernel
theorem dX0_sitter_66 : decode cX0_sitter 66 = .ok (.iaload, 1) := by decide +kernel
theorem dX0_sitter_67 : decode cX0_sitter 67 = .ok (.istore 5, 2) := by decide +kernel
theorem dX0_sitter_69 : decode cX0_sitter 69 = .ok (.iconst (-1), 1) := by decide +kernel
theorem dX0_sitter_70 : decode cX0_sitter 70 = .ok (.istore 6, 2) := by decide +kernel
theorem dX0_sitter_72 : decode cX0_sitter 72 = .ok (.iconst 0, 1) := by decide +kernel
theorem dX0_sitter_73 : decode cX0_sitter 73 = .ok (.istore 7, 2) := by decide +kernel
theorem dX0_sitter_75 : decode cX0_sitter 75 = .ok (.iload 7, 2) := by decide +kernel
theorem dX0_sitter_77 : decode cX0_sitter 77 = .ok (.iload_n 3, 1) := by decide +kernel
theorem dX0_sitter_78 : decode cX0_sitter 78 = .ok (.if_icmp .ge 43, 3) := by decide +kernel
theorem dX0_sitter_81 : decode cX0_sitter 81 = .ok (.aload_n 0, 1) := by decide +kernel
theorem dX0_sitter_82 : decode cX0_sitter 82 = .ok (.getfield 9, 3) := by decide +kernel
theorem dX0_sitter_85 : decode cX0_sitter 85 = .ok (.iload 7, 2) := by decide +kernel
theorem dX0_sitter_87 : decode cX0_sitter 87 = .ok (.iaload, 1) := by decide +kernel
theorem dX0_sitter_88 : decode cX0_sitter 88 = .ok (.iconst 5, 1) := by decide +kernel
theorem dX0_sitter_89 : decode cX0_sitter 89 = .ok (.if_icmp .ne 26, 3) := by decide +kernel
theorem dX0_sitter_92 : decode cX0_sitter 92 = .ok (.aload_n 0, 1) := by decide +kernel
theorem dX0_sitter_93 : decode cX0_sitter 93 = .ok (.getfield 33, 3) := by decide +kernel
theorem dX0_sitter_96 : decode cX0_sitter 96 = .ok (.iload 7, 2) := by decide +kernel
theorem dX0_sitter_98 : decode cX0_sitter 98 = .ok (.iaload, 1) := by decide +kernel
theorem dX0_sitter_99 : decode cX0_sitter 99 = .ok (.iload 5, 2) := by decide +kernel
theorem dX0_sitter_101 : decode cX0_sitter 101 = .ok (.if_icmp .ne 14, 3) := by decide +kernel
theorem dX0_sitter_104 : decode cX0_sitter 104 = .ok (.aload_n 0, 1) := by decide +kernel
theorem dX0_sitter_105 : decode cX0_sitter 105 = .ok (.iload 6, 2) := by decide +kernel
theorem dX0_sitter_107 : decode cX0_sitter 107 = .ok (.iload 7, 2) := by decide +kernel
theorem dX0_sitter_109 : decode cX0_sitter 109 = .ok (.iload_n 2, 1) := by decide +kernel
theorem dX0_sitter_110 : decode cX0_sitter 110 = .ok (.invokevirtual 46, 3) := by decide +kernel
theorem dX0_sitter_113 : decode cX0_sitter 113 = .ok (.istore 6, 2) := by decide +kernel
theorem dX0_sitter_115 : decode cX0_sitter 115 = .ok (.iinc 7 1, 3) := by decide +kernel
theorem dX0_sitter_118 : decode cX0_sitter 118 = .ok (.goto (-43), 3) := by decide +kernel
theorem dX0_sitter_121 : decode cX0_sitter 121 = .ok (.iload 6, 2) := by decide +kernel
theorem dX0_sitter_123 : decode cX0_sitter 123 = .ok (.iconst (-1), 1) := by decide +kernel
theorem dX0_sitter_124 : decode cX0_sitter 124 = .ok (.if_icmp .eq 19, 3) := by decide +kernel
theorem dX0_sitter_127 : decode cX0_sitter 127 = .ok (.aload_n 0, 1) := by decide +kernel
theorem dX0_sitter_128 : decode cX0_sitter 128 = .ok (.getfield 21, 3) := by decide +kernel
theorem dX0_sitter_131 : decode cX0_sitter 131 = .ok (.iload 6, 2) := by decide +kernel
theorem dX0_sitter_133 : decode cX0_sitter 133 = .ok (.iaload, 1) := by decide +kernel
theorem dX0_sitter_134 : decode cX0_sitter 134 = .ok (.iload_n 1, 1) := by decide +kernel
theorem dX0_sitter_135 : decode cX0_sitter 135 = .ok (.if_icmp .ne 8, 3) := by decide +kernel
theorem dX0_sitter_138 : decode cX0_sitter 138 = .ok (.iload 5, 2) := by decide +kernel
theorem dX0_sitter_140 : decode cX0_sitter 140 = .ok (.goto 5, 3) := by decide +kernel
theorem dX0_sitter_143 : decode cX0_sitter 143 = .ok (.bipush (-2), 2) := by decide +kernel
theorem dX0_sitter_145 : decode cX0_sitter 145 = .ok (.ireturn, 1) := by decide +kernel
theorem dX0_laterOf_0 : decode cX0_laterOf 0 = .ok (.aload_n 0, 1) := by decide +kernel
theorem dX0_laterOf_1 : decode cX0_laterOf 1 = .ok (.getfield 15, 3) := by decide +kernel
theorem dX0_laterOf_4 : decode cX0_laterOf 4 = .ok (.iload_n 2, 1) := by decide +kernel
theorem dX0_laterOf_5 : decode cX0_laterOf 5 = .ok (.iaload, 1) := by decide +kernel
theorem dX0_laterOf_6 : decode cX0_laterOf 6 = .ok (.iload_n 3, 1) := by decide +kernel
theorem dX0_laterOf_7 : decode cX0_laterOf 7 = .ok (.if_icmp .le 5, 3) := by decide +kernel
theorem dX0_laterOf_10 : decode cX0_laterOf 10 = .ok (.iload_n 1, 1) := by decide +kernel
theorem dX0_laterOf_11 : decode cX0_laterOf 11 = .ok (.ireturn, 1) := by decide +kernel
theorem dX0_laterOf_12 : decode cX0_laterOf 12 = .ok (.iload_n 1, 1) := by decide +kernel
theorem dX0_laterOf_13 : decode cX0_laterOf 13 = .ok (.iconst (-1), 1) := by decide +kernel
theorem dX0_laterOf_14 : decode cX0_laterOf 14 = .ok (.if_icmp .eq 18, 3) := by decide +kernel
theorem dX0_laterOf_17 : decode cX0_laterOf 17 = .ok (.aload_n 0, 1) := by decide +kernel
theorem dX0_laterOf_18 : decode cX0_laterOf 18 = .ok (.getfield 15, 3) := by decide +kernel
theorem dX0_laterOf_21 : decode cX0_laterOf 21 = .ok (.iload_n 2, 1) := by decide +kernel
theorem dX0_laterOf_22 : decode cX0_laterOf 22 = .ok (.iaload, 1) := by decide +kernel
theorem dX0_laterOf_23 : decode cX0_laterOf 23 = .ok (.aload_n 0, 1) := by decide +kernel
theorem dX0_laterOf_24 : decode cX0_laterOf 24 = .ok (.getfield 15, 3) := by decide +kernel
theorem dX0_laterOf_27 : decode cX0_laterOf 27 = .ok (.iload_n 1, 1) := by decide +kernel
theorem dX0_laterOf_28 : decode cX0_laterOf 28 = .ok (.iaload, 1) := by decide +kernel
theorem dX0_laterOf_29 : decode cX0_laterOf 29 = .ok (.if_icmp .lt 7, 3) := by decide +kernel
theorem dX0_laterOf_32 : decode cX0_laterOf 32 = .ok (.iload_n 2, 1) := by decide +kernel
theorem dX0_laterOf_33 : decode cX0_laterOf 33 = .ok (.goto 4, 3) := by decide +kernel
theorem dX0_laterOf_36 : decode cX0_laterOf 36 = .ok (.iload_n 1, 1) := by decide +kernel
theorem dX0_laterOf_37 : decode cX0_laterOf 37 = .ok (.ireturn, 1) := by decide +kernel
theorem dX0_officeOf_0 : decode cX0_officeOf 0 = .ok (.iconst 0, 1) := by decide +kernel
theorem dX0_officeOf_1 : decode cX0_officeOf 1 = .ok (.istore_n 3, 1) := by decide +kernel
theorem dX0_officeOf_2 : decode cX0_officeOf 2 = .ok (.iconst 0, 1) := by decide +kernel
theorem dX0_officeOf_3 : decode cX0_officeOf 3 = .ok (.istore 4, 2) := by decide +kernel
theorem dX0_officeOf_5 : decode cX0_officeOf 5 = .ok (.iload 4, 2) := by decide +kernel
theorem dX0_officeOf_7 : decode cX0_officeOf 7 = .ok (.iload_n 2, 1) := by decide +kernel
theorem dX0_officeOf_8 : decode cX0_officeOf 8 = .ok (.if_icmp .ge 40, 3) := by decide +kernel
theorem dX0_officeOf_11 : decode cX0_officeOf 11 = .ok (.aload_n 0, 1) := by decide +kernel
theorem dX0_officeOf_12 : decode cX0_officeOf 12 = .ok (.getfield 9, 3) := by decide +kernel
theorem dX0_officeOf_15 : decode cX0_officeOf 15 = .ok (.iload 4, 2) := by decide +kernel
theorem dX0_officeOf_17 : decode cX0_officeOf 17 = .ok (.iaload, 1) := by decide +kernel
theorem dX0_officeOf_18 : decode cX0_officeOf 18 = .ok (.bipush 6, 2) := by decide +kernel
theorem dX0_officeOf_20 : decode cX0_officeOf 20 = .ok (.if_icmp .ne 22, 3) := by decide +kernel
theorem dX0_officeOf_23 : decode cX0_officeOf 23 = .ok (.aload_n 0, 1) := by decide +kernel
theorem dX0_officeOf_24 : decode cX0_officeOf 24 = .ok (.getfield 33, 3) := by decide +kernel
theorem dX0_officeOf_27 : decode cX0_officeOf 27 = .ok (.iload 4, 2) := by decide +kernel
theorem dX0_officeOf_29 : decode cX0_officeOf 29 = .ok (.iaload, 1) := by decide +kernel
theorem dX0_officeOf_30 : decode cX0_officeOf 30 = .ok (.iload_n 1, 1) := by decide +kernel
theorem dX0_officeOf_31 : decode cX0_officeOf 31 = .ok (.if_icmp .ne 11, 3) := by decide +kernel
theorem dX0_officeOf_34 : decode cX0_officeOf 34 = .ok (.aload_n 0, 1) := by decide +kernel
theorem dX0_officeOf_35 : decode cX0_officeOf 35 = .ok (.getfield 39, 3) := by decide +kernel
theorem dX0_officeOf_38 : decode cX0_officeOf 38 = .ok (.iload 4, 2) := by decide +kernel
theorem dX0_officeOf_40 : decode cX0_officeOf 40 = .ok (.iaload, 1) := by decide +kernel
theorem dX0_officeOf_41 : decode cX0_officeOf 41 = .ok (.istore_n 3, 1) := by decide +kernel
theorem dX0_officeOf_42 : decode cX0_officeOf 42 = .ok (.iinc 4 1, 3) := by decide +kernel
theorem dX0_officeOf_45 : decode cX0_officeOf 45 = .ok (.goto (-40), 3) := by decide +kernel
theorem dX0_officeOf_48 : decode cX0_officeOf 48 = .ok (.iload_n 3, 1) := by decide +kernel
theorem dX0_officeOf_49 : decode cX0_officeOf 49 = .ok (.ireturn, 1) := by decide +kernel
theorem dX0_paperWord_0 : decode cX0_paperWord 0 = .ok (.iconst 0, 1) := by decide +kernel
theorem dX0_paperWord_1 : decode cX0_paperWord 1 = .ok (.istore_n 3, 1) := by decide +kernel
theorem dX0_paperWord_2 : decode cX0_paperWord 2 = .ok (.iconst 0, 1) := by decide +kernel
theorem dX0_paperWord_3 : decode cX0_paperWord 3 = .ok (.istore 4, 2) := by decide +kernel
theorem dX0_paperWord_5 : decode cX0_paperWord 5 = .ok (.aload_n 0, 1) := by decide +kernel
theorem dX0_paperWord_6 : decode cX0_paperWord 6 = .ok (.getfield 39, 3) := by decide +kernel
theorem dX0_paperWord_9 : decode cX0_paperWord 9 = .ok (.iload_n 1, 1) := by decide +kernel
theorem dX0_paperWord_10 : decode cX0_paperWord 10 = .ok (.iaload, 1) := by decide +kernel
theorem dX0_paperWord_11 : decode cX0_paperWord 11 = .ok (.iconst 1, 1) := by decide +kernel
theorem dX0_paperWord_12 : decode cX0_paperWord 12 = .ok (.if_icmp .ne 67, 3) := by decide +kernel
theorem dX0_paperWord_15 : decode cX0_paperWord 15 = .ok (.iload 4, 2) := by decide +kernel
theorem dX0_paperWord_17 : decode cX0_paperWord 17 = .ok (.iload_n 2, 1) := by decide +kernel
theorem dX0_paperWord_18 : decode cX0_paperWord 18 = .ok (.if_icmp .ge 61, 3) := by decide +kernel
theorem dX0_paperWord_21 : decode cX0_paperWord 21 = .ok (.aload_n 0, 1) := by decide +kernel
theorem dX0_paperWord_22 : decode cX0_paperWord 22 = .ok (.getfield 9, 3) := by decide +kernel
theorem dX0_paperWord_25 : decode cX0_paperWord 25 = .ok (.iload 4, 2) := by decide +kernel
theorem dX0_paperWord_27 : decode cX0_paperWord 27 = .ok (.iaload, 1) := by decide +kernel
theorem dX0_paperWord_28 : decode cX0_paperWord 28 = .ok (.bipush 7, 2) := by decide +kernel
theorem dX0_paperWord_30 : decode cX0_paperWord 30 = .ok (.if_icmp .ne 43, 3) := by decide +kernel
theorem dX0_paperWord_33 : decode cX0_paperWord 33 = .ok (.aload_n 0, 1) := by decide +kernel
theorem dX0_paperWord_34 : decode cX0_paperWord 34 = .ok (.getfield 27, 3) := by decide +kernel
theorem dX0_paperWord_37 : decode cX0_paperWord 37 = .ok (.iload 4, 2) := by decide +kernel
theorem dX0_paperWord_39 : decode cX0_paperWord 39 = .ok (.iaload, 1) := by decide +kernel
theorem dX0_paperWord_40 : decode cX0_paperWord 40 = .ok (.aload_n 0, 1) := by decide +kernel
theorem dX0_paperWord_41 : decode cX0_paperWord 41 = .ok (.getfield 27, 3) := by decide +kernel
theorem dX0_paperWord_44 : decode cX0_paperWord 44 = .ok (.iload_n 1, 1) := by decide +kernel
theorem dX0_paperWord_45 : decode cX0_paperWord 45 = .ok (.iaload, 1) := by decide +kernel
theorem dX0_paperWord_46 : decode cX0_paperWord 46 = .ok (.if_icmp .ne 27, 3) := by decide +kernel
theorem dX0_paperWord_49 : decode cX0_paperWord 49 = .ok (.aload_n 0, 1) := by decide +kernel
theorem dX0_paperWord_50 : decode cX0_paperWord 50 = .ok (.getfield 30, 3) := by decide +kernel
theorem dX0_paperWord_53 : decode cX0_paperWord 53 = .ok (.iload 4, 2) := by decide +kernel
theorem dX0_paperWord_55 : decode cX0_paperWord 55 = .ok (.iaload, 1) := by decide +kernel
theorem dX0_paperWord_56 : decode cX0_paperWord 56 = .ok (.aload_n 0, 1) := by decide +kernel
theorem dX0_paperWord_57 : decode cX0_paperWord 57 = .ok (.getfield 30, 3) := by decide +kernel
theorem dX0_paperWord_60 : decode cX0_paperWord 60 = .ok (.iload_n 1, 1) := by decide +kernel
theorem dX0_paperWord_61 : decode cX0_paperWord 61 = .ok (.iaload, 1) := by decide +kernel
theorem dX0_paperWord_62 : decode cX0_paperWord 62 = .ok (.if_icmp .ne 11, 3) := by decide +kernel
theorem dX0_paperWord_65 : decode cX0_paperWord 65 = .ok (.aload_n 0, 1) := by decide +kernel
theorem dX0_paperWord_66 : decode cX0_paperWord 66 = .ok (.getfield 24, 3) := by decide +kernel
theorem dX0_paperWord_69 : decode cX0_paperWord 69 = .ok (.iload 4, 2) := by decide +kernel
theorem dX0_paperWord_71 : decode cX0_paperWord 71 = .ok (.iaload, 1) := by decide +kernel
theorem dX0_paperWord_72 : decode cX0_paperWord 72 = .ok (.istore_n 3, 1) := by decide +kernel
theorem dX0_paperWord_73 : decode cX0_paperWord 73 = .ok (.iinc 4 1, 3) := by decide +kernel
theorem dX0_paperWord_76 : decode cX0_paperWord 76 = .ok (.goto (-71), 3) := by decide +kernel
theorem dX0_paperWord_79 : decode cX0_paperWord 79 = .ok (.iload_n 3, 1) := by decide +kernel
theorem dX0_paperWord_80 : decode cX0_paperWord 80 = .ok (.ireturn, 1) := by decide +kernel
theorem dX0_heardWord_0 : decode cX0_heardWord 0 = .ok (.iconst 0, 1) := by decide +kernel
theorem dX0_heardWord_1 : decode cX0_heardWord 1 = .ok (.istore_n 3, 1) := by decide +kernel
theorem dX0_heardWord_2 : decode cX0_heardWord 2 = .ok (.iload_n 1, 1) := by decide +kernel
theorem dX0_heardWord_3 : decode cX0_heardWord 3 = .ok (.iconst 1, 1) := by decide +kernel
theorem dX0_heardWord_4 : decode cX0_heardWord 4 = .ok (.iadd, 1) := by decide +kernel
theorem dX0_heardWord_5 : decode cX0_heardWord 5 = .ok (.istore 4, 2) := by decide +kernel
theorem dX0_heardWord_7 : decode cX0_heardWord 7 = .ok (.iload 4, 2) := by decide +kernel
theorem dX0_heardWord_9 : decode cX0_heardWord 9 = .ok (.iload_n 2, 1) := by decide +kernel
theorem dX0_heardWord_10 : decode cX0_heardWord 10 = .ok (.if_icmp .ge 28, 3) := by decide +kernel
theorem dX0_heardWord_13 : decode cX0_heardWord 13 = .ok (.aload_n 0, 1) := by decide +kernel
theorem dX0_heardWord_14 : decode cX0_heardWord 14 = .ok (.iload 4, 2) := by decide +kernel
theorem dX0_heardWord_16 : decode cX0_heardWord 16 = .ok (.iconst 1, 1) := by decide +kernel
theorem dX0_heardWord_17 : decode cX0_heardWord 17 = .ok (.iload_n 1, 1) := by decide +kernel
theorem dX0_heardWord_18 : decode cX0_heardWord 18 = .ok (.invokevirtual 50, 3) := by decide +kernel
theorem dX0_heardWord_21 : decode cX0_heardWord 21 = .ok (.ifCond .eq 11, 3) := by decide +kernel
theorem dX0_heardWord_24 : decode cX0_heardWord 24 = .ok (.aload_n 0, 1) := by decide +kernel
theorem dX0_heardWord_25 : decode cX0_heardWord 25 = .ok (.getfield 24, 3) := by decide +kernel
theorem dX0_heardWord_28 : decode cX0_heardWord 28 = .ok (.iload 4, 2) := by decide +kernel
theorem dX0_heardWord_30 : decode cX0_heardWord 30 = .ok (.iaload, 1) := by decide +kernel
theorem dX0_heardWord_31 : decode cX0_heardWord 31 = .ok (.istore_n 3, 1) := by decide +kernel
theorem dX0_heardWord_32 : decode cX0_heardWord 32 = .ok (.iinc 4 1, 3) := by decide +kernel
theorem dX0_heardWord_35 : decode cX0_heardWord 35 = .ok (.goto (-28), 3) := by decide +kernel
theorem dX0_heardWord_38 : decode cX0_heardWord 38 = .ok (.iload_n 3, 1) := by decide +kernel
theorem dX0_heardWord_39 : decode cX0_heardWord 39 = .ok (.ireturn, 1) := by decide +kernel
theorem dX0_linesBeside_0 : decode cX0_linesBeside 0 = .ok (.iconst 0, 1) := by decide +kernel
theorem dX0_linesBeside_1 : decode cX0_linesBeside 1 = .ok (.istore_n 3, 1) := by decide +kernel
theorem dX0_linesBeside_2 : decode cX0_linesBeside 2 = .ok (.iconst 0, 1) := by decide +kernel
theorem dX0_linesBeside_3 : decode cX0_linesBeside 3 = .ok (.istore 4, 2) := by decide +kernel
theorem dX0_linesBeside_5 : decode cX0_linesBeside 5 = .ok (.iload 4, 2) := by decide +kernel
theorem dX0_linesBeside_7 : decode cX0_linesBeside 7 = .ok (.iload_n 2, 1) := by decide +kernel
theorem dX0_linesBeside_8 : decode cX0_linesBeside 8 = .ok (.if_icmp .ge 55, 3) := by decide +kernel
theorem dX0_linesBeside_11 : decode cX0_linesBeside 11 = .ok (.aload_n 0, 1) := by decide +kernel
theorem dX0_linesBeside_12 : decode cX0_linesBeside 12 = .ok (.getfield 9, 3) := by decide +kernel
theorem dX0_linesBeside_15 : decode cX0_linesBeside 15 = .ok (.iload 4, 2) := by decide +kernel
theorem dX0_linesBeside_17 : decode cX0_linesBeside 17 = .ok (.iaload, 1) := by decide +kernel
theorem dX0_linesBeside_18 : decode cX0_linesBeside 18 = .ok (.iconst 4, 1) := by decide +kernel
theorem dX0_linesBeside_19 : decode cX0_linesBeside 19 = .ok (.if_icmp .ne 38, 3) := by decide +kernel
theorem dX0_linesBeside_22 : decode cX0_linesBeside 22 = .ok (.aload_n 0, 1) := by decide +kernel
theorem dX0_linesBeside_23 : decode cX0_linesBeside 23 = .ok (.getfield 15, 3) := by decide +kernel
theorem dX0_linesBeside_26 : decode cX0_linesBeside 26 = .ok (.iload 4, 2) := by decide +kernel
theorem dX0_linesBeside_28 : decode cX0_linesBeside 28 = .ok (.iaload, 1) := by decide +kernel
theorem dX0_linesBeside_29 : decode cX0_linesBeside 29 = .ok (.aload_n 0, 1) := by decide +kernel
theorem dX0_linesBeside_30 : decode cX0_linesBeside 30 = .ok (.getfield 15, 3) := by decide +kernel
theorem dX0_linesBeside_33 : decode cX0_linesBeside 33 = .ok (.iload_n 1, 1) := by decide +kernel
theorem dX0_linesBeside_34 : decode cX0_linesBeside 34 = .ok (.iaload, 1) := by decide +kernel
theorem dX0_linesBeside_35 : decode cX0_linesBeside 35 = .ok (.if_icmp .ne 22, 3) := by decide +kernel
theorem dX0_linesBeside_38 : decode cX0_linesBeside 38 = .ok (.aload_n 0, 1) := by decide +kernel
theorem dX0_linesBeside_39 : decode cX0_linesBeside 39 = .ok (.getfield 21, 3) := by decide +kernel
theorem dX0_linesBeside_42 : decode cX0_linesBeside 42 = .ok (.iload 4, 2) := by decide +kernel
theorem dX0_linesBeside_44 : decode cX0_linesBeside 44 = .ok (.iaload, 1) := by decide +kernel
theorem dX0_linesBeside_45 : decode cX0_linesBeside 45 = .ok (.aload_n 0, 1) := by decide +kernel
theorem dX0_linesBeside_46 : decode cX0_linesBeside 46 = .ok (.getfield 21, 3) := by decide +kernel
theorem dX0_linesBeside_49 : decode cX0_linesBeside 49 = .ok (.iload_n 1, 1) := by decide +kernel
theorem dX0_linesBeside_50 : decode cX0_linesBeside 50 = .ok (.iaload, 1) := by decide +kernel
theorem dX0_linesBeside_51 : decode cX0_linesBeside 51 = .ok (.if_icmp .ne 6, 3) := by decide +kernel
theorem dX0_linesBeside_54 : decode cX0_linesBeside 54 = .ok (.iinc 3 1, 3) := by decide +kernel
theorem dX0_linesBeside_57 : decode cX0_linesBeside 57 = .ok (.iinc 4 1, 3) := by decide +kernel
theorem dX0_linesBeside_60 : decode cX0_linesBeside 60 = .ok (.goto (-55), 3) := by decide +kernel
theorem dX0_linesBeside_63 : decode cX0_linesBeside 63 = .ok (.iload_n 3, 1) := by decide +kernel
theorem dX0_linesBeside_64 : decode cX0_linesBeside 64 = .ok (.ireturn, 1) := by decide +kernel
theorem dX0_isStruckBy_0 : decode cX0_isStruckBy 0 = .ok (.iload_n 1, 1) := by decide +kernel
theorem dX0_isStruckBy_1 : decode cX0_isStruckBy 1 = .ok (.iconst 1, 1) := by decide +kernel
theorem dX0_isStruckBy_2 : decode cX0_isStruckBy 2 = .ok (.iadd, 1) := by decide +kernel
theorem dX0_isStruckBy_3 : decode cX0_isStruckBy 3 = .ok (.istore 4, 2) := by decide +kernel
theorem dX0_isStruckBy_5 : decode cX0_isStruckBy 5 = .ok (.iload 4, 2) := by decide +kernel
theorem dX0_isStruckBy_7 : decode cX0_isStruckBy 7 = .ok (.iload_n 3, 1) := by decide +kernel
theorem dX0_isStruckBy_8 : decode cX0_isStruckBy 8 = .ok (.if_icmp .ge 33, 3) := by decide +kernel
theorem dX0_isStruckBy_11 : decode cX0_isStruckBy 11 = .ok (.aload_n 0, 1) := by decide +kernel
theorem dX0_isStruckBy_12 : decode cX0_isStruckBy 12 = .ok (.iload 4, 2) := by decide +kernel
theorem dX0_isStruckBy_14 : decode cX0_isStruckBy 14 = .ok (.iconst 2, 1) := by decide +kernel
theorem dX0_isStruckBy_15 : decode cX0_isStruckBy 15 = .ok (.iload_n 1, 1) := by decide +kernel
theorem dX0_isStruckBy_16 : decode cX0_isStruckBy 16 = .ok (.invokevirtual 50, 3) := by decide +kernel
theorem dX0_isStruckBy_19 : decode cX0_isStruckBy 19 = .ok (.ifCond .eq 16, 3) := by decide +kernel
theorem dX0_isStruckBy_22 : decode cX0_isStruckBy 22 = .ok (.aload_n 0, 1) := by decide +kernel
theorem dX0_isStruckBy_23 : decode cX0_isStruckBy 23 = .ok (.getfield 15, 3) := by decide +kernel
theorem dX0_isStruckBy_26 : decode cX0_isStruckBy 26 = .ok (.iload 4, 2) := by decide +kernel
theorem dX0_isStruckBy_28 : decode cX0_isStruckBy 28 = .ok (.iaload, 1) := by decide +kernel
theorem dX0_isStruckBy_29 : decode cX0_isStruckBy 29 = .ok (.iload_n 2, 1) := by decide +kernel
theorem dX0_isStruckBy_30 : decode cX0_isStruckBy 30 = .ok (.if_icmp .gt 5, 3) := by decide +kernel
theorem dX0_isStruckBy_33 : decode cX0_isStruckBy 33 = .ok (.iconst 1, 1) := by decide +kernel
theorem dX0_isStruckBy_34 : decode cX0_isStruckBy 34 = .ok (.ireturn, 1) := by decide +kernel
theorem dX0_isStruckBy_35 : decode cX0_isStruckBy 35 = .ok (.iinc 4 1, 3) := by decide +kernel
theorem dX0_isStruckBy_38 : decode cX0_isStruckBy 38 = .ok (.goto (-33), 3) := by decide +kernel
theorem dX0_isStruckBy_41 : decode cX0_isStruckBy 41 = .ok (.iconst 0, 1) := by decide +kernel
theorem dX0_isStruckBy_42 : decode cX0_isStruckBy 42 = .ok (.ireturn, 1) := by decide +kernel
theorem dX0_isMendBy_0 : decode cX0_isMendBy 0 = .ok (.aload_n 0, 1) := by decide +kernel
theorem dX0_isMendBy_1 : decode cX0_isMendBy 1 = .ok (.iload_n 1, 1) := by decide +kernel
theorem dX0_isMendBy_2 : decode cX0_isMendBy 2 = .ok (.iconst 0, 1) := by decide +kernel
theorem dX0_isMendBy_3 : decode cX0_isMendBy 3 = .ok (.iload_n 2, 1) := by decide +kernel
theorem dX0_isMendBy_4 : decode cX0_isMendBy 4 = .ok (.invokevirtual 50, 3) := by decide +kernel
theorem dX0_isMendBy_7 : decode cX0_isMendBy 7 = .ok (.ifCond .eq 17, 3) := by decide +kernel
theorem dX0_isMendBy_10 : decode cX0_isMendBy 10 = .ok (.aload_n 0, 1) := by decide +kernel
theorem dX0_isMendBy_11 : decode cX0_isMendBy 11 = .ok (.getfield 15, 3) := by decide +kernel
theorem dX0_isMendBy_14 : decode cX0_isMendBy 14 = .ok (.iload_n 1, 1) := by decide +kernel
theorem dX0_isMendBy_15 : decode cX0_isMendBy 15 = .ok (.iaload, 1) := by decide +kernel
theorem dX0_isMendBy_16 : decode cX0_isMendBy 16 = .ok (.iload_n 3, 1) := by decide +kernel
theorem dX0_isMendBy_17 : decode cX0_isMendBy 17 = .ok (.if_icmp .gt 7, 3) := by decide +kernel
theorem dX0_isMendBy_20 : decode cX0_isMendBy 20 = .ok (.iconst 1, 1) := by decide +kernel
theorem dX0_isMendBy_21 : decode cX0_isMendBy 21 = .ok (.goto 4, 3) := by decide +kernel
theorem dX0_isMendBy_24 : decode cX0_isMendBy 24 = .ok (.iconst 0, 1) := by decide +kernel
theorem dX0_isMendBy_25 : decode cX0_isMendBy 25 = .ok (.ireturn, 1) := by decide +kernel
theorem dX0_standsBehind_0 : decode cX0_standsBehind 0 = .ok (.aload_n 0, 1) := by decide +kernel
theorem dX0_standsBehind_1 : decode cX0_standsBehind 1 = .ok (.getfield 15, 3) := by decide +kernel
theorem dX0_standsBehind_4 : decode cX0_standsBehind 4 = .ok (.iload_n 1, 1) := by decide +kernel
theorem dX0_standsBehind_5 : decode cX0_standsBehind 5 = .ok (.iaload, 1) := by decide +kernel
theorem dX0_standsBehind_6 : decode cX0_standsBehind 6 = .ok (.aload_n 0, 1) := by decide +kernel
theorem dX0_standsBehind_7 : decode cX0_standsBehind 7 = .ok (.getfield 15, 3) := by decide +kernel
theorem dX0_standsBehind_10 : decode cX0_standsBehind 10 = .ok (.iload_n 2, 1) := by decide +kernel
theorem dX0_standsBehind_11 : decode cX0_standsBehind 11 = .ok (.iaload, 1) := by decide +kernel
theorem dX0_standsBehind_12 : decode cX0_standsBehind 12 = .ok (.if_icmp .eq 24, 3) := by decide +kernel
theorem dX0_standsBehind_15 : decode cX0_standsBehind 15 = .ok (.aload_n 0, 1) := by decide +kernel
theorem dX0_standsBehind_16 : decode cX0_standsBehind 16 = .ok (.getfield 15, 3) := by decide +kernel
theorem dX0_standsBehind_19 : decode cX0_standsBehind 19 = .ok (.iload_n 1, 1) := by decide +kernel
theorem dX0_standsBehind_20 : decode cX0_standsBehind 20 = .ok (.iaload, 1) := by decide +kernel
theorem dX0_standsBehind_21 : decode cX0_standsBehind 21 = .ok (.aload_n 0, 1) := by decide +kernel
theorem dX0_standsBehind_22 : decode cX0_standsBehind 22 = .ok (.getfield 15, 3) := by decide +kernel
theorem dX0_standsBehind_25 : decode cX0_standsBehind 25 = .ok (.iload_n 2, 1) := by decide +kernel
theorem dX0_standsBehind_26 : decode cX0_standsBehind 26 = .ok (.iaload, 1) := by decide +kernel
theorem dX0_standsBehind_27 : decode cX0_standsBehind 27 = .ok (.if_icmp .le 7, 3) := by decide +kernel
theorem dX0_standsBehind_30 : decode cX0_standsBehind 30 = .ok (.iconst 1, 1) := by decide +kernel
theorem dX0_standsBehind_31 : decode cX0_standsBehind 31 = .ok (.goto 4, 3) := by decide +kernel
theorem dX0_standsBehind_34 : decode cX0_standsBehind 34 = .ok (.iconst 0, 1) := by decide +kernel
theorem dX0_standsBehind_35 : decode cX0_standsBehind 35 = .ok (.ireturn, 1) := by decide +kernel
theorem dX0_standsBehind_36 : decode cX0_standsBehind 36 = .ok (.aload_n 0, 1) := by decide +kernel
theorem dX0_standsBehind_37 : decode cX0_standsBehind 37 = .ok (.getfield 18, 3) := by decide +kernel
theorem dX0_standsBehind_40 : decode cX0_standsBehind 40 = .ok (.iload_n 1, 1) := by decide +kernel
theorem dX0_standsBehind_41 : decode cX0_standsBehind 41 = .ok (.iaload, 1) := by decide +kernel
theorem dX0_standsBehind_42 : decode cX0_standsBehind 42 = .ok (.aload_n 0, 1) := by decide +kernel
theorem dX0_standsBehind_43 : decode cX0_standsBehind 43 = .ok (.getfield 18, 3) := by decide +kernel
theorem dX0_standsBehind_46 : decode cX0_standsBehind 46 = .ok (.iload_n 2, 1) := by decide +kernel
theorem dX0_standsBehind_47 : decode cX0_standsBehind 47 = .ok (.iaload, 1) := by decide +kernel
theorem dX0_standsBehind_48 : decode cX0_standsBehind 48 = .ok (.if_icmp .le 7, 3) := by decide +kernel
theorem dX0_standsBehind_51 : decode cX0_standsBehind 51 = .ok (.iconst 1, 1) := by decide +kernel
theorem dX0_standsBehind_52 : decode cX0_standsBehind 52 = .ok (.goto 4, 3) := by decide +kernel
theorem dX0_standsBehind_55 : decode cX0_standsBehind 55 = .ok (.iconst 0, 1) := by decide +kernel
theorem dX0_standsBehind_56 : decode cX0_standsBehind 56 = .ok (.ireturn, 1) := by decide +kernel
theorem dX0_voters_0 : decode cX0_voters 0 = .ok (.iconst 0, 1) := by decide +kernel
theorem dX0_voters_1 : decode cX0_voters 1 = .ok (.istore 4, 2) := by decide +kernel
theorem dX0_voters_3 : decode cX0_voters 3 = .ok (.iconst 0, 1) := by decide +kernel
theorem dX0_voters_4 : decode cX0_voters 4 = .ok (.istore 5, 2) := by decide +kernel
theorem dX0_voters_6 : decode cX0_voters 6 = .ok (.iload 5, 2) := by decide +kernel
theorem dX0_voters_8 : decode cX0_voters 8 = .ok (.iload_n 3, 1) := by decide +kernel
theorem dX0_voters_9 : decode cX0_voters 9 = .ok (.if_icmp .ge 46, 3) := by decide +kernel
theorem dX0_voters_12 : decode cX0_voters 12 = .ok (.aload_n 0, 1) := by decide +kernel
theorem dX0_voters_13 : decode cX0_voters 13 = .ok (.iload 5, 2) := by decide +kernel
theorem dX0_voters_15 : decode cX0_voters 15 = .ok (.bipush 9, 2) := by decide +kernel
theorem dX0_voters_17 : decode cX0_voters 17 = .ok (.iload_n 1, 1) := by decide +kernel
theorem dX0_voters_18 : decode cX0_voters 18 = .ok (.invokevirtual 50, 3) := by decide +kernel
theorem dX0_voters_21 : decode cX0_voters 21 = .ok (.ifCond .eq 28, 3) := by decide +kernel
theorem dX0_voters_24 : decode cX0_voters 24 = .ok (.aload_n 0, 1) := by decide +kernel
theorem dX0_voters_25 : decode cX0_voters 25 = .ok (.getfield 39, 3) := by decide +kernel
theorem dX0_voters_28 : decode cX0_voters 28 = .ok (.iload 5, 2) := by decide +kernel
theorem dX0_voters_30 : decode cX0_voters 30 = .ok (.iaload, 1) := by decide +kernel
theorem dX0_voters_31 : decode cX0_voters 31 = .ok (.iload_n 2, 1) := by decide +kernel
theorem dX0_voters_32 : decode cX0_voters 32 = .ok (.if_icmp .ne 17, 3) := by decide +kernel
theorem dX0_voters_35 : decode cX0_voters 35 = .ok (.iload 4, 2) := by decide +kernel
theorem dX0_voters_37 : decode cX0_voters 37 = .ok (.iconst 1, 1) := by decide +kernel
theorem dX0_voters_38 : decode cX0_voters 38 = .ok (.aload_n 0, 1) := by decide +kernel
theorem dX0_voters_39 : decode cX0_voters 39 = .ok (.getfield 33, 3) := by decide +kernel
theorem dX0_voters_42 : decode cX0_voters 42 = .ok (.iload 5, 2) := by decide +kernel
theorem dX0_voters_44 : decode cX0_voters 44 = .ok (.iaload, 1) := by decide +kernel
theorem dX0_voters_45 : decode cX0_voters 45 = .ok (.ishl, 1) := by decide +kernel
theorem dX0_voters_46 : decode cX0_voters 46 = .ok (.ior, 1) := by decide +kernel
theorem dX0_voters_47 : decode cX0_voters 47 = .ok (.istore 4, 2) := by decide +kernel
theorem dX0_voters_49 : decode cX0_voters 49 = .ok (.iinc 5 1, 3) := by decide +kernel
theorem dX0_voters_52 : decode cX0_voters 52 = .ok (.goto (-46), 3) := by decide +kernel
theorem dX0_voters_55 : decode cX0_voters 55 = .ok (.iload 4, 2) := by decide +kernel
theorem dX0_voters_57 : decode cX0_voters 57 = .ok (.ireturn, 1) := by decide +kernel
theorem dX0_lastTurnOfDivision_0 : decode cX0_lastTurnOfDivision 0 = .ok (.iconst 0, 1) := by decide +kernel
theorem dX0_lastTurnOfDivision_1 : decode cX0_lastTurnOfDivision 1 = .ok (.istore_n 3, 1) := by decide +kernel
theorem dX0_lastTurnOfDivision_2 : decode cX0_lastTurnOfDivision 2 = .ok (.iconst 0, 1) := by decide +kernel
theorem dX0_lastTurnOfDivision_3 : decode cX0_lastTurnOfDivision 3 = .ok (.istore 4, 2) := by decide +kernel
theorem dX0_lastTurnOfDivision_5 : decode cX0_lastTurnOfDivision 5 = .ok (.bipush (-2), 2) := by decide +kernel
theorem dX0_lastTurnOfDivision_7 : decode cX0_lastTurnOfDivision 7 = .ok (.istore 5, 2) := by decide +kernel
theorem dX0_lastTurnOfDivision_9 : decode cX0_lastTurnOfDivision 9 = .ok (.iconst 0, 1) := by decide +kernel
theorem dX0_lastTurnOfDivision_10 : decode cX0_lastTurnOfDivision 10 = .ok (.istore 6, 2) := by decide +kernel
theorem dX0_lastTurnOfDivision_12 : decode cX0_lastTurnOfDivision 12 = .ok (.iconst 0, 1) := by decide +kernel
theorem dX0_lastTurnOfDivision_13 : decode cX0_lastTurnOfDivision 13 = .ok (.istore 7, 2) := by decide +kernel
theorem dX0_lastTurnOfDivision_15 : decode cX0_lastTurnOfDivision 15 = .ok (.iload 7, 2) := by decide +kernel
theorem dX0_lastTurnOfDivision_17 : decode cX0_lastTurnOfDivision 17 = .ok (.iload_n 2, 1) := by decide +kernel
theorem dX0_lastTurnOfDivision_18 : decode cX0_lastTurnOfDivision 18 = .ok (.if_icmp .ge 121, 3) := by decide +kernel
theorem dX0_lastTurnOfDivision_21 : decode cX0_lastTurnOfDivision 21 = .ok (.aload_n 0, 1) := by decide +kernel
theorem dX0_lastTurnOfDivision_22 : decode cX0_lastTurnOfDivision 22 = .ok (.iload 7, 2) := by decide +kernel
theorem dX0_lastTurnOfDivision_24 : decode cX0_lastTurnOfDivision 24 = .ok (.bipush 9, 2) := by decide +kernel
theorem dX0_lastTurnOfDivision_26 : decode cX0_lastTurnOfDivision 26 = .ok (.iload_n 1, 1) := by decide +kernel
theorem dX0_lastTurnOfDivision_27 : decode cX0_lastTurnOfDivision 27 = .ok (.invokevirtual 50, 3) := by decide +kernel
theorem dX0_lastTurnOfDivision_30 : decode cX0_lastTurnOfDivision 30 = .ok (.ifCond .eq 103, 3) := by decide +kernel
theorem dX0_lastTurnOfDivision_33 : decode cX0_lastTurnOfDivision 33 = .ok (.iconst 1, 1) := by decide +kernel
theorem dX0_lastTurnOfDivision_34 : decode cX0_lastTurnOfDivision 34 = .ok (.aload_n 0, 1) := by decide +kernel
theorem dX0_lastTurnOfDivision_35 : decode cX0_lastTurnOfDivision 35 = .ok (.getfield 33, 3) := by decide +kernel
theorem dX0_lastTurnOfDivision_38 : decode cX0_lastTurnOfDivision 38 = .ok (.iload 7, 2) := by decide +kernel
theorem dX0_lastTurnOfDivision_40 : decode cX0_lastTurnOfDivision 40 = .ok (.iaload, 1) := by decide +kernel
theorem dX0_lastTurnOfDivision_41 : decode cX0_lastTurnOfDivision 41 = .ok (.ishl, 1) := by decide +kernel
theorem dX0_lastTurnOfDivision_42 : decode cX0_lastTurnOfDivision 42 = .ok (.istore 8, 2) := by decide +kernel
theorem dX0_lastTurnOfDivision_44 : decode cX0_lastTurnOfDivision 44 = .ok (.iload_n 3, 1) := by decide +kernel
theorem dX0_lastTurnOfDivision_45 : decode cX0_lastTurnOfDivision 45 = .ok (.aload_n 0, 1) := by decide +kernel
theorem dX0_lastTurnOfDivision_46 : decode cX0_lastTurnOfDivision 46 = .ok (.getfield 39, 3) := by decide +kernel
theorem dX0_lastTurnOfDivision_49 : decode cX0_lastTurnOfDivision 49 = .ok (.iload 7, 2) := by decide +kernel
theorem dX0_lastTurnOfDivision_51 : decode cX0_lastTurnOfDivision 51 = .ok (.iaload, 1) := by decide +kernel
theorem dX0_lastTurnOfDivision_52 : decode cX0_lastTurnOfDivision 52 = .ok (.ifCond .ne 8, 3) := by decide +kernel
theorem dX0_lastTurnOfDivision_55 : decode cX0_lastTurnOfDivision 55 = .ok (.iload 8, 2) := by decide +kernel
theorem dX0_lastTurnOfDivision_57 : decode cX0_lastTurnOfDivision 57 = .ok (.goto 4, 3) := by decide +kernel
theorem dX0_lastTurnOfDivision_60 : decode cX0_lastTurnOfDivision 60 = .ok (.iconst 0, 1) := by decide +kernel
theorem dX0_lastTurnOfDivision_61 : decode cX0_lastTurnOfDivision 61 = .ok (.ior, 1) := by decide +kernel
theorem dX0_lastTurnOfDivision_62 : decode cX0_lastTurnOfDivision 62 = .ok (.istore_n 3, 1) := by decide +kernel
theorem dX0_lastTurnOfDivision_63 : decode cX0_lastTurnOfDivision 63 = .ok (.iload 4, 2) := by decide +kernel
theorem dX0_lastTurnOfDivision_65 : decode cX0_lastTurnOfDivision 65 = .ok (.aload_n 0, 1) := by decide +kernel
theorem dX0_lastTurnOfDivision_66 : decode cX0_lastTurnOfDivision 66 = .ok (.getfield 39, 3) := by decide +kernel
theorem dX0_lastTurnOfDivision_69 : decode cX0_lastTurnOfDivision 69 = .ok (.iload 7, 2) := by decide +kernel
theorem dX0_lastTurnOfDivision_71 : decode cX0_lastTurnOfDivision 71 = .ok (.iaload, 1) := by decide +kernel
theorem dX0_lastTurnOfDivision_72 : decode cX0_lastTurnOfDivision 72 = .ok (.iconst 1, 1) := by decide +kernel
theorem dX0_lastTurnOfDivision_73 : decode cX0_lastTurnOfDivision 73 = .ok (.if_icmp .ne 8, 3) := by decide +kernel
theorem dX0_lastTurnOfDivision_76 : decode cX0_lastTurnOfDivision 76 = .ok (.iload 8, 2) := by decide +kernel
theorem dX0_lastTurnOfDivision_78 : decode cX0_lastTurnOfDivision 78 = .ok (.goto 4, 3) := by decide +kernel
theorem dX0_lastTurnOfDivision_81 : decode cX0_lastTurnOfDivision 81 = .ok (.iconst 0, 1) := by decide +kernel
theorem dX0_lastTurnOfDivision_82 : decode cX0_lastTurnOfDivision 82 = .ok (.ior, 1) := by decide +kernel
theorem dX0_lastTurnOfDivision_83 : decode cX0_lastTurnOfDivision 83 = .ok (.istore 4, 2) := by decide +kernel
theorem dX0_lastTurnOfDivision_85 : decode cX0_lastTurnOfDivision 85 = .ok (.iload_n 3, 1) := by decide +kernel
theorem dX0_lastTurnOfDivision_86 : decode cX0_lastTurnOfDivision 86 = .ok (.iload 4, 2) := by decide +kernel
theorem dX0_lastTurnOfDivision_88 : decode cX0_lastTurnOfDivision 88 = .ok (.iconst (-1), 1) := by decide +kernel
theorem dX0_lastTurnOfDivision_89 : decode cX0_lastTurnOfDivision 89 = .ok (.ixor, 1) := by decide +kernel
theorem dX0_lastTurnOfDivision_90 : decode cX0_lastTurnOfDivision 90 = .ok (.iand, 1) := by decide +kernel
theorem dX0_lastTurnOfDivision_91 : decode cX0_lastTurnOfDivision 91 = .ok (.invokestatic 54, 3) := by decide +kernel
theorem dX0_lastTurnOfDivision_94 : decode cX0_lastTurnOfDivision 94 = .ok (.iload 4, 2) := by decide +kernel
theorem dX0_lastTurnOfDivision_96 : decode cX0_lastTurnOfDivision 96 = .ok (.iload_n 3, 1) := by decide +kernel
theorem dX0_lastTurnOfDivision_97 : decode cX0_lastTurnOfDivision 97 = .ok (.iconst (-1), 1) := by decide +kernel
theorem dX0_lastTurnOfDivision_98 : decode cX0_lastTurnOfDivision 98 = .ok (.ixor, 1) := by decide +kernel
theorem dX0_lastTurnOfDivision_99 : decode cX0_lastTurnOfDivision 99 = .ok (.iand, 1) := by decide +kernel
theorem dX0_lastTurnOfDivision_100 : decode cX0_lastTurnOfDivision 100 = .ok (.invokestatic 54, 3) := by decide +kernel
theorem dX0_lastTurnOfDivision_103 : decode cX0_lastTurnOfDivision 103 = .ok (.if_icmp .le 7, 3) := by decide +kernel
theorem dX0_lastTurnOfDivision_106 : decode cX0_lastTurnOfDivision 106 = .ok (.iconst 1, 1) := by decide +kernel
theorem dX0_lastTurnOfDivision_107 : decode cX0_lastTurnOfDivision 107 = .ok (.goto 4, 3) := by decide +kernel
theorem dX0_lastTurnOfDivision_110 : decode cX0_lastTurnOfDivision 110 = .ok (.iconst 0, 1) := by decide +kernel
theorem dX0_lastTurnOfDivision_111 : decode cX0_lastTurnOfDivision 111 = .ok (.istore 9, 2) := by decide +kernel
theorem dX0_lastTurnOfDivision_113 : decode cX0_lastTurnOfDivision 113 = .ok (.iload 9, 2) := by decide +kernel
theorem dX0_lastTurnOfDivision_115 : decode cX0_lastTurnOfDivision 115 = .ok (.iload 6, 2) := by decide +kernel
theorem dX0_lastTurnOfDivision_117 : decode cX0_lastTurnOfDivision 117 = .ok (.if_icmp .ne 8, 3) := by decide +kernel
theorem dX0_lastTurnOfDivision_120 : decode cX0_lastTurnOfDivision 120 = .ok (.iload 5, 2) := by decide +kernel
theorem dX0_lastTurnOfDivision_122 : decode cX0_lastTurnOfDivision 122 = .ok (.goto 5, 3) := by decide +kernel
theorem dX0_lastTurnOfDivision_125 : decode cX0_lastTurnOfDivision 125 = .ok (.iload 7, 2) := by decide +kernel
theorem dX0_lastTurnOfDivision_127 : decode cX0_lastTurnOfDivision 127 = .ok (.istore 5, 2) := by decide +kernel
theorem dX0_lastTurnOfDivision_129 : decode cX0_lastTurnOfDivision 129 = .ok (.iload 9, 2) := by decide +kernel
theorem dX0_lastTurnOfDivision_131 : decode cX0_lastTurnOfDivision 131 = .ok (.istore 6, 2) := by decide +kernel
theorem dX0_lastTurnOfDivision_133 : decode cX0_lastTurnOfDivision 133 = .ok (.iinc 7 1, 3) := by decide +kernel
theorem dX0_lastTurnOfDivision_136 : decode cX0_lastTurnOfDivision 136 = .ok (.goto (-121), 3) := by decide +kernel
theorem dX0_lastTurnOfDivision_139 : decode cX0_lastTurnOfDivision 139 = .ok (.iload 5, 2) := by decide +kernel
theorem dX0_lastTurnOfDivision_141 : decode cX0_lastTurnOfDivision 141 = .ok (.ireturn, 1) := by decide +kernel
theorem dX1_init_0 : decode cX1_init 0 = .ok (.aload_n 0, 1) := by decide +kernel
theorem dX1_init_1 : decode cX1_init 1 = .ok (.invokespecial 3, 3) := by decide +kernel
theorem dX1_init_4 : decode cX1_init 4 = .ok (.aload_n 0, 1) := by decide +kernel
theorem dX1_init_5 : decode cX1_init 5 = .ok (.sipush 180, 3) := by decide +kernel
theorem dX1_init_8 : decode cX1_init 8 = .ok (.newarray .int, 2) := by decide +kernel
theorem dX1_init_10 : decode cX1_init 10 = .ok (.putfield 9, 3) := by decide +kernel
theorem dX1_init_13 : decode cX1_init 13 = .ok (.aload_n 0, 1) := by decide +kernel
theorem dX1_init_14 : decode cX1_init 14 = .ok (.aload_n 1, 1) := by decide +kernel
theorem dX1_init_15 : decode cX1_init 15 = .ok (.putfield 15, 3) := by decide +kernel
theorem dX1_init_18 : decode cX1_init 18 = .ok (.aload_n 0, 1) := by decide +kernel
theorem dX1_init_19 : decode cX1_init 19 = .ok (.aload_n 2, 1) := by decide +kernel
theorem dX1_init_20 : decode cX1_init 20 = .ok (.putfield 19, 3) := by decide +kernel
theorem dX1_init_23 : decode cX1_init 23 = .ok (.aload_n 0, 1) := by decide +kernel
theorem dX1_init_24 : decode cX1_init 24 = .ok (.aload_n 3, 1) := by decide +kernel
theorem dX1_init_25 : decode cX1_init 25 = .ok (.putfield 23, 3) := by decide +kernel
theorem dX1_init_28 : decode cX1_init 28 = .ok (.return_, 1) := by decide +kernel
theorem dX1_listPrint_0 : decode cX1_listPrint 0 = .ok (.aload_n 0, 1) := by decide +kernel
theorem dX1_listPrint_1 : decode cX1_listPrint 1 = .ok (.iconst 0, 1) := by decide +kernel
theorem dX1_listPrint_2 : decode cX1_listPrint 2 = .ok (.putfield 27, 3) := by decide +kernel
theorem dX1_listPrint_5 : decode cX1_listPrint 5 = .ok (.iconst 0, 1) := by decide +kernel
theorem dX1_listPrint_6 : decode cX1_listPrint 6 = .ok (.istore 4, 2) := by decide +kernel
theorem dX1_listPrint_8 : decode cX1_listPrint 8 = .ok (.iload 4, 2) := by decide +kernel
theorem dX1_listPrint_10 : decode cX1_listPrint 10 = .ok (.iload_n 3, 1) := by decide +kernel
theorem dX1_listPrint_11 : decode cX1_listPrint 11 = .ok (.if_icmp .ge 66, 3) := by decide +kernel
theorem dX1_listPrint_14 : decode cX1_listPrint 14 = .ok (.aload_n 0, 1) := by decide +kernel
theorem dX1_listPrint_15 : decode cX1_listPrint 15 = .ok (.getfield 15, 3) := by decide +kernel
theorem dX1_listPrint_18 : decode cX1_listPrint 18 = .ok (.getfield 31, 3) := by decide +kernel
theorem dX1_listPrint_21 : decode cX1_listPrint 21 = .ok (.iload 4, 2) := by decide +kernel
theorem dX1_listPrint_23 : decode cX1_listPrint 23 = .ok (.iaload, 1) := by decide +kernel
theorem dX1_listPrint_24 : decode cX1_listPrint 24 = .ok (.iconst 4, 1) := by decide +kernel
theorem dX1_listPrint_25 : decode cX1_listPrint 25 = .ok (.if_icmp .ne 46, 3) := by decide +kernel
theorem dX1_listPrint_28 : decode cX1_listPrint 28 = .ok (.aload_n 0, 1) := by decide +kernel
theorem dX1_listPrint_29 : decode cX1_listPrint 29 = .ok (.getfield 15, 3) := by decide +kernel
theorem dX1_listPrint_32 : decode cX1_listPrint 32 = .ok (.getfield 36, 3) := by decide +kernel
theorem dX1_listPrint_35 : decode cX1_listPrint 35 = .ok (.iload 4, 2) := by decide +kernel
theorem dX1_listPrint_37 : decode cX1_listPrint 37 = .ok (.iaload, 1) := by decide +kernel
theorem dX1_listPrint_38 : decode cX1_listPrint 38 = .ok (.iload_n 1, 1) := by decide +kernel
theorem dX1_listPrint_39 : decode cX1_listPrint 39 = .ok (.if_icmp .ne 32, 3) := by decide +kernel
theorem dX1_listPrint_42 : decode cX1_listPrint 42 = .ok (.aload_n 0, 1) := by decide +kernel
theorem dX1_listPrint_43 : decode cX1_listPrint 43 = .ok (.getfield 19, 3) := by decide +kernel
theorem dX1_listPrint_46 : decode cX1_listPrint 46 = .ok (.iload 4, 2) := by decide +kernel
theorem dX1_listPrint_48 : decode cX1_listPrint 48 = .ok (.iload_n 2, 1) := by decide +kernel
theorem dX1_listPrint_49 : decode cX1_listPrint 49 = .ok (.iload_n 3, 1) := by decide +kernel
theorem dX1_listPrint_50 : decode cX1_listPrint 50 = .ok (.invokevirtual 39, 3) := by decide +kernel
theorem dX1_listPrint_53 : decode cX1_listPrint 53 = .ok (.aload_n 0, 1) := by decide +kernel
theorem dX1_listPrint_54 : decode cX1_listPrint 54 = .ok (.getfield 19, 3) := by decide +kernel
theorem dX1_listPrint_57 : decode cX1_listPrint 57 = .ok (.getfield 45, 3) := by decide +kernel
theorem dX1_listPrint_60 : decode cX1_listPrint 60 = .ok (.bipush (-2), 2) := by decide +kernel
theorem dX1_listPrint_62 : decode cX1_listPrint 62 = .ok (.if_icmp .ne 9, 3) := by decide +kernel
theorem dX1_listPrint_65 : decode cX1_listPrint 65 = .ok (.aload_n 0, 1) := by decide +kernel
theorem dX1_listPrint_66 : decode cX1_listPrint 66 = .ok (.iload 4, 2) := by decide +kernel
theorem dX1_listPrint_68 : decode cX1_listPrint 68 = .ok (.invokevirtual 48, 3) := by decide +kernel
theorem dX1_listPrint_71 : decode cX1_listPrint 71 = .ok (.iinc 4 1, 3) := by decide +kernel
theorem dX1_listPrint_74 : decode cX1_listPrint 74 = .ok (.goto (-66), 3) := by decide +kernel
theorem dX1_listPrint_77 : decode cX1_listPrint 77 = .ok (.return_, 1) := by decide +kernel
theorem dX1_listNaming_0 : decode cX1_listNaming 0 = .ok (.aload_n 0, 1) := by decide +kernel
theorem dX1_listNaming_1 : decode cX1_listNaming 1 = .ok (.getfield 23, 3) := by decide +kernel
theorem dX1_listNaming_4 : decode cX1_listNaming 4 = .ok (.iload_n 1, 1) := by decide +kernel
theorem dX1_listNaming_5 : decode cX1_listNaming 5 = .ok (.iload_n 2, 1) := by decide +kernel
theorem dX1_listNaming_6 : decode cX1_listNaming 6 = .ok (.iload_n 3, 1) := by decide +kernel
theorem dX1_listNaming_7 : decode cX1_listNaming 7 = .ok (.invokevirtual 52, 3) := by decide +kernel
theorem dX1_listNaming_10 : decode cX1_listNaming 10 = .ok (.aload_n 0, 1) := by decide +kernel
theorem dX1_listNaming_11 : decode cX1_listNaming 11 = .ok (.iconst 0, 1) := by decide +kernel
theorem dX1_listNaming_12 : decode cX1_listNaming 12 = .ok (.putfield 27, 3) := by decide +kernel
theorem dX1_listNaming_15 : decode cX1_listNaming 15 = .ok (.iconst 0, 1) := by decide +kernel
theorem dX1_listNaming_16 : decode cX1_listNaming 16 = .ok (.istore 4, 2) := by decide +kernel
theorem dX1_listNaming_18 : decode cX1_listNaming 18 = .ok (.iload 4, 2) := by decide +kernel
theorem dX1_listNaming_20 : decode cX1_listNaming 20 = .ok (.iload_n 3, 1) := by decide +kernel
theorem dX1_listNaming_21 : decode cX1_listNaming 21 = .ok (.if_icmp .ge 93, 3) := by decide +kernel
theorem dX1_listNaming_24 : decode cX1_listNaming 24 = .ok (.aload_n 0, 1) := by decide +kernel
theorem dX1_listNaming_25 : decode cX1_listNaming 25 = .ok (.getfield 15, 3) := by decide +kernel
theorem dX1_listNaming_28 : decode cX1_listNaming 28 = .ok (.getfield 31, 3) := by decide +kernel
theorem dX1_listNaming_31 : decode cX1_listNaming 31 = .ok (.iload 4, 2) := by decide +kernel
theorem dX1_listNaming_33 : decode cX1_listNaming 33 = .ok (.iaload, 1) := by decide +kernel
theorem dX1_listNaming_34 : decode cX1_listNaming 34 = .ok (.iconst 4, 1) := by decide +kernel
theorem dX1_listNaming_35 : decode cX1_listNaming 35 = .ok (.if_icmp .ne 73, 3) := by decide +kernel
theorem dX1_listNaming_38 : decode cX1_listNaming 38 = .ok (.aload_n 0, 1) := by decide +kernel
theorem dX1_listNaming_39 : decode cX1_listNaming 39 = .ok (.getfield 15, 3) := by decide +kernel
theorem dX1_listNaming_42 : decode cX1_listNaming 42 = .ok (.getfield 36, 3) := by decide +kernel
theorem dX1_listNaming_45 : decode cX1_listNaming 45 = .ok (.iload 4, 2) := by decide +kernel
theorem dX1_listNaming_47 : decode cX1_listNaming 47 = .ok (.iaload, 1) := by decide +kernel
theorem dX1_listNaming_48 : decode cX1_listNaming 48 = .ok (.iload_n 2, 1) := by decide +kernel
theorem dX1_listNaming_49 : decode cX1_listNaming 49 = .ok (.if_icmp .gt 59, 3) := by decide +kernel
theorem dX1_listNaming_52 : decode cX1_listNaming 52 = .ok (.aload_n 0, 1) := by decide +kernel
theorem dX1_listNaming_53 : decode cX1_listNaming 53 = .ok (.getfield 19, 3) := by decide +kernel
theorem dX1_listNaming_56 : decode cX1_listNaming 56 = .ok (.iload 4, 2) := by decide +kernel
theorem dX1_listNaming_58 : decode cX1_listNaming 58 = .ok (.iload_n 2, 1) := by decide +kernel
theorem dX1_listNaming_59 : decode cX1_listNaming 59 = .ok (.iload_n 3, 1) := by decide +kernel
theorem dX1_listNaming_60 : decode cX1_listNaming 60 = .ok (.invokevirtual 39, 3) := by decide +kernel
theorem dX1_listNaming_63 : decode cX1_listNaming 63 = .ok (.aload_n 0, 1) := by decide +kernel
theorem dX1_listNaming_64 : decode cX1_listNaming 64 = .ok (.getfield 19, 3) := by decide +kernel
theorem dX1_listNaming_67 : decode cX1_listNaming 67 = .ok (.getfield 45, 3) := by decide +kernel
theorem dX1_listNaming_70 : decode cX1_listNaming 70 = .ok (.bipush (-2), 2) := by decide +kernel
theorem dX1_listNaming_72 : decode cX1_listNaming 72 = .ok (.if_icmp .ne 36, 3) := by decide +kernel
theorem dX1_listNaming_75 : decode cX1_listNaming 75 = .ok (.aload_n 0, 1) := by decide +kernel
theorem dX1_listNaming_76 : decode cX1_listNaming 76 = .ok (.getfield 19, 3) := by decide +kernel
theorem dX1_listNaming_79 : decode cX1_listNaming 79 = .ok (.getfield 57, 3) := by decide +kernel
theorem dX1_listNaming_82 : decode cX1_listNaming 82 = .ok (.ifCond .ne 26, 3) := by decide +kernel
theorem dX1_listNaming_85 : decode cX1_listNaming 85 = .ok (.aload_n 0, 1) := by decide +kernel
theorem dX1_listNaming_86 : decode cX1_listNaming 86 = .ok (.getfield 23, 3) := by decide +kernel
theorem dX1_listNaming_89 : decode cX1_listNaming 89 = .ok (.aload_n 0, 1) := by decide +kernel
theorem dX1_listNaming_90 : decode cX1_listNaming 90 = .ok (.getfield 19, 3) := by decide +kernel
theorem dX1_listNaming_93 : decode cX1_listNaming 93 = .ok (.getfield 61, 3) := by decide +kernel
theorem dX1_listNaming_96 : decode cX1_listNaming 96 = .ok (.invokevirtual 64, 3) := by decide +kernel
theorem dX1_listNaming_99 : decode cX1_listNaming 99 = .ok (.ifCond .eq 9, 3) := by decide +kernel
theorem dX1_listNaming_102 : decode cX1_listNaming 102 = .ok (.aload_n 0, 1) := by decide +kernel
theorem dX1_listNaming_103 : decode cX1_listNaming 103 = .ok (.iload 4, 2) := by decide +kernel
theorem dX1_listNaming_105 : decode cX1_listNaming 105 = .ok (.invokevirtual 48, 3) := by decide +kernel
theorem dX1_listNaming_108 : decode cX1_listNaming 108 = .ok (.iinc 4 1, 3) := by decide +kernel
theorem dX1_listNaming_111 : decode cX1_listNaming 111 = .ok (.goto (-93), 3) := by decide +kernel
theorem dX1_listNaming_114 : decode cX1_listNaming 114 = .ok (.return_, 1) := by decide +kernel
theorem dX1_entry_0 : decode cX1_entry 0 = .ok (.iload_n 1, 1) := by decide +kernel
theorem dX1_entry_1 : decode cX1_entry 1 = .ok (.ifCond .lt 29, 3) := by decide +kernel
theorem dX1_entry_4 : decode cX1_entry 4 = .ok (.iload_n 1, 1) := by decide +kernel
theorem dX1_entry_5 : decode cX1_entry 5 = .ok (.aload_n 0, 1) := by decide +kernel
theorem dX1_entry_6 : decode cX1_entry 6 = .ok (.getfield 27, 3) := by decide +kernel
theorem dX1_entry_9 : decode cX1_entry 9 = .ok (.if_icmp .ge 21, 3) := by decide +kernel
theorem dX1_entry_12 : decode cX1_entry 12 = .ok (.iload_n 1, 1) := by decide +kernel
theorem dX1_entry_13 : decode cX1_entry 13 = .ok (.aload_n 0, 1) := by decide +kernel
theorem dX1_entry_14 : decode cX1_entry 14 = .ok (.getfield 9, 3) := by decide +kernel
theorem dX1_entry_17 : decode cX1_entry 17 = .ok (.arraylength, 1) := by decide +kernel
theorem dX1_entry_18 : decode cX1_entry 18 = .ok (.if_icmp .ge 12, 3) := by decide +kernel
theorem dX1_entry_21 : decode cX1_entry 21 = .ok (.aload_n 0, 1) := by decide +kernel
theorem dX1_entry_22 : decode cX1_entry 22 = .ok (.getfield 9, 3) := by decide +kernel
theorem dX1_entry_25 : decode cX1_entry 25 = .ok (.iload_n 1, 1) := by decide +kernel
theorem dX1_entry_26 : decode cX1_entry 26 = .ok (.iaload, 1) := by decide +kernel
theorem dX1_entry_27 : decode cX1_entry 27 = .ok (.goto 4, 3) := by decide +kernel
theorem dX1_entry_30 : decode cX1_entry 30 = .ok (.iconst (-1), 1) := by decide +kernel
theorem dX1_entry_31 : decode cX1_entry 31 = .ok (.ireturn, 1) := by decide +kernel
theorem dX1_insert_0 : decode cX1_insert 0 = .ok (.aload_n 0, 1) := by decide +kernel
theorem dX1_insert_1 : decode cX1_insert 1 = .ok (.getfield 27, 3) := by decide +kernel
theorem dX1_insert_4 : decode cX1_insert 4 = .ok (.ifCond .lt 15, 3) := by decide +kernel
theorem dX1_insert_7 : decode cX1_insert 7 = .ok (.aload_n 0, 1) := by decide +kernel
theorem dX1_insert_8 : decode cX1_insert 8 = .ok (.getfield 27, 3) := by decide +kernel
theorem dX1_insert_11 : decode cX1_insert 11 = .ok (.aload_n 0, 1) := by decide +kernel
theorem dX1_insert_12 : decode cX1_insert 12 = .ok (.getfield 9, 3) := by decide +kernel
theorem dX1_insert_15 : decode cX1_insert 15 = .ok (.arraylength, 1) := by decide +kernel
theorem dX1_insert_16 : decode cX1_insert 16 = .ok (.if_icmp .lt 4, 3) := by decide +kernel
theorem dX1_insert_19 : decode cX1_insert 19 = .ok (.return_, 1) := by decide +kernel
theorem dX1_insert_20 : decode cX1_insert 20 = .ok (.aload_n 0, 1) := by decide +kernel
theorem dX1_insert_21 : decode cX1_insert 21 = .ok (.getfield 27, 3) := by decide +kernel
theorem dX1_insert_24 : decode cX1_insert 24 = .ok (.istore_n 2, 1) := by decide +kernel
theorem dX1_insert_25 : decode cX1_insert 25 = .ok (.iload_n 2, 1) := by decide +kernel
theorem dX1_insert_26 : decode cX1_insert 26 = .ok (.ifCond .le 42, 3) := by decide +kernel
theorem dX1_insert_29 : decode cX1_insert 29 = .ok (.aload_n 0, 1) := by decide +kernel
theorem dX1_insert_30 : decode cX1_insert 30 = .ok (.getfield 15, 3) := by decide +kernel
theorem dX1_insert_33 : decode cX1_insert 33 = .ok (.aload_n 0, 1) := by decide +kernel
theorem dX1_insert_34 : decode cX1_insert 34 = .ok (.getfield 9, 3) := by decide +kernel
theorem dX1_insert_37 : decode cX1_insert 37 = .ok (.iload_n 2, 1) := by decide +kernel
theorem dX1_insert_38 : decode cX1_insert 38 = .ok (.iconst 1, 1) := by decide +kernel
theorem dX1_insert_39 : decode cX1_insert 39 = .ok (.isub, 1) := by decide +kernel
theorem dX1_insert_40 : decode cX1_insert 40 = .ok (.iaload, 1) := by decide +kernel
theorem dX1_insert_41 : decode cX1_insert 41 = .ok (.iload_n 1, 1) := by decide +kernel
theorem dX1_insert_42 : decode cX1_insert 42 = .ok (.invokevirtual 68, 3) := by decide +kernel
theorem dX1_insert_45 : decode cX1_insert 45 = .ok (.ifCond .eq 23, 3) := by decide +kernel
theorem dX1_insert_48 : decode cX1_insert 48 = .ok (.aload_n 0, 1) := by decide +kernel
theorem dX1_insert_49 : decode cX1_insert 49 = .ok (.getfield 9, 3) := by decide +kernel
theorem dX1_insert_52 : decode cX1_insert 52 = .ok (.iload_n 2, 1) := by decide +kernel
theorem dX1_insert_53 : decode cX1_insert 53 = .ok (.aload_n 0, 1) := by decide +kernel
theorem dX1_insert_54 : decode cX1_insert 54 = .ok (.getfield 9, 3) := by decide +kernel
theorem dX1_insert_57 : decode cX1_insert 57 = .ok (.iload_n 2, 1) := by decide +kernel
theorem dX1_insert_58 : decode cX1_insert 58 = .ok (.iconst 1, 1) := by decide +kernel
theorem dX1_insert_59 : decode cX1_insert 59 = .ok (.isub, 1) := by decide +kernel
theorem dX1_insert_60 : decode cX1_insert 60 = .ok (.iaload, 1) := by decide +kernel
theorem dX1_insert_61 : decode cX1_insert 61 = .ok (.iastore, 1) := by decide +kernel
theorem dX1_insert_62 : decode cX1_insert 62 = .ok (.iinc 2 (-1), 3) := by decide +kernel
theorem dX1_insert_65 : decode cX1_insert 65 = .ok (.goto (-40), 3) := by decide +kernel
theorem dX1_insert_68 : decode cX1_insert 68 = .ok (.aload_n 0, 1) := by decide +kernel
theorem dX1_insert_69 : decode cX1_insert 69 = .ok (.getfield 9, 3) := by decide +kernel
theorem dX1_insert_72 : decode cX1_insert 72 = .ok (.iload_n 2, 1) := by decide +kernel
theorem dX1_insert_73 : decode cX1_insert 73 = .ok (.iload_n 1, 1) := by decide +kernel
theorem dX1_insert_74 : decode cX1_insert 74 = .ok (.iastore, 1) := by decide +kernel
theorem dX1_insert_75 : decode cX1_insert 75 = .ok (.aload_n 0, 1) := by decide +kernel
theorem dX1_insert_76 : decode cX1_insert 76 = .ok (.dup, 1) := by decide +kernel
theorem dX1_insert_77 : decode cX1_insert 77 = .ok (.getfield 27, 3) := by decide +kernel
theorem dX1_insert_80 : decode cX1_insert 80 = .ok (.iconst 1, 1) := by decide +kernel
theorem dX1_insert_81 : decode cX1_insert 81 = .ok (.iadd, 1) := by decide +kernel
theorem dX1_insert_82 : decode cX1_insert 82 = .ok (.putfield 27, 3) := by decide +kernel
theorem dX1_insert_85 : decode cX1_insert 85 = .ok (.return_, 1) := by decide +kernel
theorem dX2_init_0 : decode cX2_init 0 = .ok (.aload_n 0, 1) := by decide +kernel
theorem dX2_init_1 : decode cX2_init 1 = .ok (.invokespecial 3, 3) := by decide +kernel
theorem dX2_init_4 : decode cX2_init 4 = .ok (.aload_n 0, 1) := by decide +kernel
theorem dX2_init_5 : decode cX2_init 5 = .ok (.new 9, 3) := by decide +kernel
theorem dX2_init_8 : decode cX2_init 8 = .ok (.dup, 1) := by decide +kernel
theorem dX2_init_9 : decode cX2_init 9 = .ok (.invokespecial 11, 3) := by decide +kernel
theorem dX2_init_12 : decode cX2_init 12 = .ok (.putfield 12, 3) := by decide +kernel
theorem dX2_init_15 : decode cX2_init 15 = .ok (.aload_n 0, 1) := by decide +kernel
theorem dX2_init_16 : decode cX2_init 16 = .ok (.bipush 32, 2) := by decide +kernel
theorem dX2_init_18 : decode cX2_init 18 = .ok (.newarray .int, 2) := by decide +kernel
theorem dX2_init_20 : decode cX2_init 20 = .ok (.putfield 18, 3) := by decide +kernel
theorem dX2_init_23 : decode cX2_init 23 = .ok (.aload_n 0, 1) := by decide +kernel
theorem dX2_init_24 : decode cX2_init 24 = .ok (.iconst (-1), 1) := by decide +kernel
theorem dX2_init_25 : decode cX2_init 25 = .ok (.putfield 22, 3) := by decide +kernel
theorem dX2_init_28 : decode cX2_init 28 = .ok (.aload_n 0, 1) := by decide +kernel
theorem dX2_init_29 : decode cX2_init 29 = .ok (.aload_n 1, 1) := by decide +kernel
theorem dX2_init_30 : decode cX2_init 30 = .ok (.putfield 26, 3) := by decide +kernel
theorem dX2_init_33 : decode cX2_init 33 = .ok (.return_, 1) := by decide +kernel
theorem dX2_parse_0 : decode cX2_parse 0 = .ok (.iconst 0, 1) := by decide +kernel
theorem dX2_parse_1 : decode cX2_parse 1 = .ok (.istore_n 2, 1) := by decide +kernel
theorem dX2_parse_2 : decode cX2_parse 2 = .ok (.iconst (-1), 1) := by decide +kernel
theorem dX2_parse_3 : decode cX2_parse 3 = .ok (.istore_n 3, 1) := by decide +kernel
theorem dX2_parse_4 : decode cX2_parse 4 = .ok (.aload_n 0, 1) := by decide +kernel
theorem dX2_parse_5 : decode cX2_parse 5 = .ok (.getfield 12, 3) := by decide +kernel
theorem dX2_parse_8 : decode cX2_parse 8 = .ok (.aload_n 1, 1) := by decide +kernel
theorem dX2_parse_9 : decode cX2_parse 9 = .ok (.invokevirtual 30, 3) := by decide +kernel
theorem dX2_parse_12 : decode cX2_parse 12 = .ok (.aload_n 0, 1) := by decide +kernel
theorem dX2_parse_13 : decode cX2_parse 13 = .ok (.getfield 26, 3) := by decide +kernel
theorem dX2_parse_16 : decode cX2_parse 16 = .ok (.invokevirtual 34, 3) := by decide +kernel
theorem dX2_parse_19 : decode cX2_parse 19 = .ok (.aload_n 0, 1) := by decide +kernel
theorem dX2_parse_20 : decode cX2_parse 20 = .ok (.iconst 0, 1) := by decide +kernel
theorem dX2_parse_21 : decode cX2_parse 21 = .ok (.putfield 39, 3) := by decide +kernel
theorem dX2_parse_24 : decode cX2_parse 24 = .ok (.aload_n 0, 1) := by decide +kernel
theorem dX2_parse_25 : decode cX2_parse 25 = .ok (.iconst (-1), 1) := by decide +kernel
theorem dX2_parse_26 : decode cX2_parse 26 = .ok (.putfield 22, 3) := by decide +kernel
theorem dX2_parse_29 : decode cX2_parse 29 = .ok (.aload_n 0, 1) := by decide +kernel
theorem dX2_parse_30 : decode cX2_parse 30 = .ok (.iconst 0, 1) := by decide +kernel
theorem dX2_parse_31 : decode cX2_parse 31 = .ok (.invokevirtual 42, 3) := by decide +kernel
theorem dX2_parse_34 : decode cX2_parse 34 = .ok (.aload_n 0, 1) := by decide +kernel
theorem dX2_parse_35 : decode cX2_parse 35 = .ok (.getfield 46, 3) := by decide +kernel
theorem dX2_parse_38 : decode cX2_parse 38 = .ok (.ifCond .ne 36, 3) := by decide +kernel
theorem dX2_parse_41 : decode cX2_parse 41 = .ok (.aload_n 0, 1) := by decide +kernel
theorem dX2_parse_42 : decode cX2_parse 42 = .ok (.iconst 0, 1) := by decide +kernel
theorem dX2_parse_43 : decode cX2_parse 43 = .ok (.invokevirtual 49, 3) := by decide +kernel
theorem dX2_parse_46 : decode cX2_parse 46 = .ok (.ifCond .eq 28, 3) := by decide +kernel
theorem dX2_parse_49 : decode cX2_parse 49 = .ok (.aload_n 0, 1) := by decide +kernel
theorem dX2_parse_50 : decode cX2_parse 50 = .ok (.getfield 53, 3) := by decide +kernel
theorem dX2_parse_53 : decode cX2_parse 53 = .ok (.l2i, 1) := by decide +kernel
theorem dX2_parse_54 : decode cX2_parse 54 = .ok (.istore_n 2, 1) := by decide +kernel
theorem dX2_parse_55 : decode cX2_parse 55 = .ok (.aload_n 0, 1) := by decide +kernel
theorem dX2_parse_56 : decode cX2_parse 56 = .ok (.getfield 57, 3) := by decide +kernel
theorem dX2_parse_59 : decode cX2_parse 59 = .ok (.istore_n 3, 1) := by decide +kernel
theorem dX2_parse_60 : decode cX2_parse 60 = .ok (.aload_n 0, 1) := by decide +kernel
theorem dX2_parse_61 : decode cX2_parse 61 = .ok (.bipush 25, 2) := by decide +kernel
theorem dX2_parse_63 : decode cX2_parse 63 = .ok (.invokevirtual 49, 3) := by decide +kernel
theorem dX2_parse_66 : decode cX2_parse 66 = .ok (.pop, 1) := by decide +kernel
theorem dX2_parse_67 : decode cX2_parse 67 = .ok (.aload_n 0, 1) := by decide +kernel
theorem dX2_parse_68 : decode cX2_parse 68 = .ok (.bipush 26, 2) := by decide +kernel
theorem dX2_parse_70 : decode cX2_parse 70 = .ok (.invokevirtual 49, 3) := by decide +kernel
theorem dX2_parse_73 : decode cX2_parse 73 = .ok (.pop, 1) := by decide +kernel
theorem dX2_parse_74 : decode cX2_parse 74 = .ok (.iconst 0, 1) := by decide +kernel
theorem dX2_parse_75 : decode cX2_parse 75 = .ok (.istore 4, 2) := by decide +kernel
theorem dX2_parse_77 : decode cX2_parse 77 = .ok (.iload 4, 2) := by decide +kernel
theorem dX2_parse_79 : decode cX2_parse 79 = .ok (.bipush 24, 2) := by decide +kernel
theorem dX2_parse_81 : decode cX2_parse 81 = .ok (.if_icmp .gt 31, 3) := by decide +kernel
theorem dX2_parse_84 : decode cX2_parse 84 = .ok (.aload_n 0, 1) := by decide +kernel
theorem dX2_parse_85 : decode cX2_parse 85 = .ok (.getfield 39, 3) := by decide +kernel
theorem dX2_parse_88 : decode cX2_parse 88 = .ok (.ifCond .ne 24, 3) := by decide +kernel
theorem dX2_parse_91 : decode cX2_parse 91 = .ok (.aload_n 0, 1) := by decide +kernel
theorem dX2_parse_92 : decode cX2_parse 92 = .ok (.getfield 46, 3) := by decide +kernel
theorem dX2_parse_95 : decode cX2_parse 95 = .ok (.bipush 37, 2) := by decide +kernel
theorem dX2_parse_97 : decode cX2_parse 97 = .ok (.if_icmp .eq 15, 3) := by decide +kernel
theorem dX2_parse_100 : decode cX2_parse 100 = .ok (.aload_n 0, 1) := by decide +kernel
theorem dX2_parse_101 : decode cX2_parse 101 = .ok (.iload 4, 2) := by decide +kernel
theorem dX2_parse_103 : decode cX2_parse 103 = .ok (.invokevirtual 60, 3) := by decide +kernel
theorem dX2_parse_106 : decode cX2_parse 106 = .ok (.iinc 4 1, 3) := by decide +kernel
theorem dX2_parse_109 : decode cX2_parse 109 = .ok (.goto (-32), 3) := by decide +kernel
theorem dX2_parse_112 : decode cX2_parse 112 = .ok (.aload_n 0, 1) := by decide +kernel
theorem dX2_parse_113 : decode cX2_parse 113 = .ok (.getfield 39, 3) := by decide +kernel
theorem dX2_parse_116 : decode cX2_parse 116 = .ok (.ifCond .ne 19, 3) := by decide +kernel
theorem dX2_parse_119 : decode cX2_parse 119 = .ok (.iload_n 2, 1) := by decide +kernel
theorem dX2_parse_120 : decode cX2_parse 120 = .ok (.bipush 100, 2) := by decide +kernel
theorem dX2_parse_122 : decode cX2_parse 122 = .ok (.if_icmp .lt 13, 3) := by decide +kernel
theorem dX2_parse_125 : decode cX2_parse 125 = .ok (.aload_n 0, 1) := by decide +kernel
theorem dX2_parse_126 : decode cX2_parse 126 = .ok (.iconst 5, 1) := by decide +kernel
theorem dX2_parse_127 : decode cX2_parse 127 = .ok (.putfield 39, 3) := by decide +kernel
theorem dX2_parse_130 : decode cX2_parse 130 = .ok (.aload_n 0, 1) := by decide +kernel
theorem dX2_parse_131 : decode cX2_parse 131 = .ok (.iload_n 3, 1) := by decide +kernel
theorem dX2_parse_132 : decode cX2_parse 132 = .ok (.putfield 22, 3) := by decide +kernel
theorem dX2_parse_135 : decode cX2_parse 135 = .ok (.aload_n 0, 1) := by decide +kernel
theorem dX2_parse_136 : decode cX2_parse 136 = .ok (.getfield 39, 3) := by decide +kernel
theorem dX2_parse_139 : decode cX2_parse 139 = .ok (.ifCond .ne 11, 3) := by decide +kernel
theorem dX2_parse_142 : decode cX2_parse 142 = .ok (.aload_n 0, 1) := by decide +kernel
theorem dX2_parse_143 : decode cX2_parse 143 = .ok (.getfield 26, 3) := by decide +kernel
theorem dX2_parse_146 : decode cX2_parse 146 = .ok (.iload_n 2, 1) := by decide +kernel
theorem dX2_parse_147 : decode cX2_parse 147 = .ok (.invokevirtual 63, 3) := by decide +kernel
theorem dX2_parse_150 : decode cX2_parse 150 = .ok (.aload_n 0, 1) := by decide +kernel
theorem dX2_parse_151 : decode cX2_parse 151 = .ok (.getfield 39, 3) := by decide +kernel
theorem dX2_parse_154 : decode cX2_parse 154 = .ok (.ireturn, 1) := by decide +kernel
theorem dX2_parseRule_0 : decode cX2_parseRule 0 = .ok (.aload_n 0, 1) := by decide +kernel
theorem dX2_parseRule_1 : decode cX2_parseRule 1 = .ok (.getfield 46, 3) := by decide +kernel
theorem dX2_parseRule_4 : decode cX2_parseRule 4 = .ok (.bipush 6, 2) := by decide +kernel
theorem dX2_parseRule_6 : decode cX2_parseRule 6 = .ok (.isub, 1) := by decide +kernel
theorem dX2_parseRule_7 : decode cX2_parseRule 7 = .ok (.istore_n 2, 1) := by decide +kernel
theorem dX2_parseRule_8 : decode cX2_parseRule 8 = .ok (.iload_n 2, 1) := by decide +kernel
theorem dX2_parseRule_9 : decode cX2_parseRule 9 = .ok (.ifCond .lt 8, 3) := by decide +kernel
theorem dX2_parseRule_12 : decode cX2_parseRule 12 = .ok (.iload_n 2, 1) := by decide +kernel
theorem dX2_parseRule_13 : decode cX2_parseRule 13 = .ok (.iconst 5, 1) := by decide +kernel
theorem dX2_parseRule_14 : decode cX2_parseRule 14 = .ok (.if_icmp .le 9, 3) := by decide +kernel
theorem dX2_parseRule_17 : decode cX2_parseRule 17 = .ok (.aload_n 0, 1) := by decide +kernel
theorem dX2_parseRule_18 : decode cX2_parseRule 18 = .ok (.iconst 1, 1) := by decide +kernel
theorem dX2_parseRule_19 : decode cX2_parseRule 19 = .ok (.invokevirtual 66, 3) := by decide +kernel
theorem dX2_parseRule_22 : decode cX2_parseRule 22 = .ok (.return_, 1) := by decide +kernel
theorem dX2_parseRule_23 : decode cX2_parseRule 23 = .ok (.iload_n 1, 1) := by decide +kernel
theorem dX2_parseRule_24 : decode cX2_parseRule 24 = .ok (.bipush 24, 2) := by decide +kernel
theorem dX2_parseRule_26 : decode cX2_parseRule 26 = .ok (.if_icmp .lt 9, 3) := by decide +kernel
theorem dX2_parseRule_29 : decode cX2_parseRule 29 = .ok (.aload_n 0, 1) := by decide +kernel
theorem dX2_parseRule_30 : decode cX2_parseRule 30 = .ok (.iconst 2, 1) := by decide +kernel
theorem dX2_parseRule_31 : decode cX2_parseRule 31 = .ok (.invokevirtual 66, 3) := by decide +kernel
theorem dX2_parseRule_34 : decode cX2_parseRule 34 = .ok (.return_, 1) := by decide +kernel
theorem dX2_parseRule_35 : decode cX2_parseRule 35 = .ok (.aload_n 0, 1) := by decide +kernel
theorem dX2_parseRule_36 : decode cX2_parseRule 36 = .ok (.aload_n 0, 1) := by decide +kernel
theorem dX2_parseRule_37 : decode cX2_parseRule 37 = .ok (.getfield 46, 3) := by decide +kernel
theorem dX2_parseRule_40 : decode cX2_parseRule 40 = .ok (.invokevirtual 49, 3) := by decide +kernel
theorem dX2_parseRule_43 : decode cX2_parseRule 43 = .ok (.pop, 1) := by decide +kernel
theorem dX2_parseRule_44 : decode cX2_parseRule 44 = .ok (.aload_n 0, 1) := by decide +kernel
theorem dX2_parseRule_45 : decode cX2_parseRule 45 = .ok (.getfield 26, 3) := by decide +kernel
theorem dX2_parseRule_48 : decode cX2_parseRule 48 = .ok (.iload_n 2, 1) := by decide +kernel
theorem dX2_parseRule_49 : decode cX2_parseRule 49 = .ok (.aload_n 0, 1) := by decide +kernel
theorem dX2_parseRule_50 : decode cX2_parseRule 50 = .ok (.getfield 53, 3) := by decide +kernel
theorem dX2_parseRule_53 : decode cX2_parseRule 53 = .ok (.iload_n 1, 1) := by decide +kernel
theorem dX2_parseRule_54 : decode cX2_parseRule 54 = .ok (.invokevirtual 69, 3) := by decide +kernel
theorem dX2_parseRule_57 : decode cX2_parseRule 57 = .ok (.aload_n 0, 1) := by decide +kernel
theorem dX2_parseRule_58 : decode cX2_parseRule 58 = .ok (.bipush 24, 2) := by decide +kernel
theorem dX2_parseRule_60 : decode cX2_parseRule 60 = .ok (.invokevirtual 49, 3) := by decide +kernel
theorem dX2_parseRule_63 : decode cX2_parseRule 63 = .ok (.pop, 1) := by decide +kernel
theorem dX2_parseRule_64 : decode cX2_parseRule 64 = .ok (.iload_n 2, 1) := by decide +kernel
theorem dX2_parseRule_65 : decode cX2_parseRule 65 = .ok (.ifCond .ne 20, 3) := by decide +kernel
theorem dX2_parseRule_68 : decode cX2_parseRule 68 = .ok (.aload_n 0, 1) := by decide +kernel
theorem dX2_parseRule_69 : decode cX2_parseRule 69 = .ok (.iconst 1, 1) := by decide +kernel
theorem dX2_parseRule_70 : decode cX2_parseRule 70 = .ok (.invokevirtual 49, 3) := by decide +kernel
theorem dX2_parseRule_73 : decode cX2_parseRule 73 = .ok (.pop, 1) := by decide +kernel
theorem dX2_parseRule_74 : decode cX2_parseRule 74 = .ok (.aload_n 0, 1) := by decide +kernel
theorem dX2_parseRule_75 : decode cX2_parseRule 75 = .ok (.invokevirtual 73, 3) := by decide +kernel
theorem dX2_parseRule_78 : decode cX2_parseRule 78 = .ok (.aload_n 0, 1) := by decide +kernel
theorem dX2_parseRule_79 : decode cX2_parseRule 79 = .ok (.getfield 26, 3) := by decide +kernel
theorem dX2_parseRule_82 : decode cX2_parseRule 82 = .ok (.invokevirtual 76, 3) := by decide +kernel
theorem dX2_parseRule_85 : decode cX2_parseRule 85 = .ok (.iload_n 2, 1) := by decide +kernel
theorem dX2_parseRule_86 : decode cX2_parseRule 86 = .ok (.iconst 5, 1) := by decide +kernel
theorem dX2_parseRule_87 : decode cX2_parseRule 87 = .ok (.if_icmp .eq 25, 3) := by decide +kernel
theorem dX2_parseRule_90 : decode cX2_parseRule 90 = .ok (.iload_n 2, 1) := by decide +kernel
theorem dX2_parseRule_91 : decode cX2_parseRule 91 = .ok (.ifCond .ne 11, 3) := by decide +kernel
theorem dX2_parseRule_94 : decode cX2_parseRule 94 = .ok (.aload_n 0, 1) := by decide +kernel
theorem dX2_parseRule_95 : decode cX2_parseRule 95 = .ok (.getfield 46, 3) := by decide +kernel
theorem dX2_parseRule_98 : decode cX2_parseRule 98 = .ok (.iconst 2, 1) := by decide +kernel
theorem dX2_parseRule_99 : decode cX2_parseRule 99 = .ok (.if_icmp .ne 13, 3) := by decide +kernel
theorem dX2_parseRule_102 : decode cX2_parseRule 102 = .ok (.aload_n 0, 1) := by decide +kernel
theorem dX2_parseRule_103 : decode cX2_parseRule 103 = .ok (.iconst 2, 1) := by decide +kernel
theorem dX2_parseRule_104 : decode cX2_parseRule 104 = .ok (.invokevirtual 49, 3) := by decide +kernel
theorem dX2_parseRule_107 : decode cX2_parseRule 107 = .ok (.pop, 1) := by decide +kernel
theorem dX2_parseRule_108 : decode cX2_parseRule 108 = .ok (.aload_n 0, 1) := by decide +kernel
theorem dX2_parseRule_109 : decode cX2_parseRule 109 = .ok (.invokevirtual 79, 3) := by decide +kernel
theorem dX2_parseRule_112 : decode cX2_parseRule 112 = .ok (.aload_n 0, 1) := by decide +kernel
theorem dX2_parseRule_113 : decode cX2_parseRule 113 = .ok (.bipush 26, 2) := by decide +kernel
theorem dX2_parseRule_115 : decode cX2_parseRule 115 = .ok (.invokevirtual 49, 3) := by decide +kernel
theorem dX2_parseRule_118 : decode cX2_parseRule 118 = .ok (.ifCond .eq 10, 3) := by decide +kernel
theorem dX2_parseRule_121 : decode cX2_parseRule 121 = .ok (.aload_n 0, 1) := by decide +kernel
theorem dX2_parseRule_122 : decode cX2_parseRule 122 = .ok (.getfield 26, 3) := by decide +kernel
theorem dX2_parseRule_125 : decode cX2_parseRule 125 = .ok (.invokevirtual 82, 3) := by decide +kernel
theorem dX2_parseRule_128 : decode cX2_parseRule 128 = .ok (.return_, 1) := by decide +kernel
theorem dX2_parseCondition_0 : decode cX2_parseCondition 0 = .ok (.iconst 1, 1) := by decide +kernel
theorem dX2_parseCondition_1 : decode cX2_parseCondition 1 = .ok (.istore_n 1, 1) := by decide +kernel
theorem dX2_parseCondition_2 : decode cX2_parseCondition 2 = .ok (.iconst 0, 1) := by decide +kernel
theorem dX2_parseCondition_3 : decode cX2_parseCondition 3 = .ok (.istore_n 2, 1) := by decide +kernel
theorem dX2_parseCondition_4 : decode cX2_parseCondition 4 = .ok (.iload_n 1, 1) := by decide +kernel
theorem dX2_parseCondition_5 : decode cX2_parseCondition 5 = .ok (.ifCond .eq 137, 3) := by decide +kernel
theorem dX2_parseCondition_8 : decode cX2_parseCondition 8 = .ok (.aload_n 0, 1) := by decide +kernel
theorem dX2_parseCondition_9 : decode cX2_parseCondition 9 = .ok (.getfield 39, 3) := by decide +kernel
theorem dX2_parseCondition_12 : decode cX2_parseCondition 12 = .ok (.ifCond .ne 130, 3) := by decide +kernel
theorem dX2_parseCondition_15 : decode cX2_parseCondition 15 = .ok (.iload_n 2, 1) := by decide +kernel
theorem dX2_parseCondition_16 : decode cX2_parseCondition 16 = .ok (.sipush 400, 3) := by decide +kernel
theorem dX2_parseCondition_19 : decode cX2_parseCondition 19 = .ok (.if_icmp .gt 123, 3) := by decide +kernel
theorem dX2_parseCondition_22 : decode cX2_parseCondition 22 = .ok (.aload_n 0, 1) := by decide +kernel
theorem dX2_parseCondition_23 : decode cX2_parseCondition 23 = .ok (.invokevirtual 85, 3) := by decide +kernel
theorem dX2_parseCondition_26 : decode cX2_parseCondition 26 = .ok (.iconst 2, 1) := by decide +kernel
theorem dX2_parseCondition_27 : decode cX2_parseCondition 27 = .ok (.irem, 1) := by decide +kernel
theorem dX2_parseCondition_28 : decode cX2_parseCondition 28 = .ok (.istore_n 3, 1) := by decide +kernel
theorem dX2_parseCondition_29 : decode cX2_parseCondition 29 = .ok (.aload_n 0, 1) := by decide +kernel
theorem dX2_parseCondition_30 : decode cX2_parseCondition 30 = .ok (.invokevirtual 73, 3) := by decide +kernel
theorem dX2_parseCondition_33 : decode cX2_parseCondition 33 = .ok (.aload_n 0, 1) := by decide +kernel
theorem dX2_parseCondition_34 : decode cX2_parseCondition 34 = .ok (.getfield 46, 3) := by decide +kernel
theorem dX2_parseCondition_37 : decode cX2_parseCondition 37 = .ok (.istore 4, 2) := by decide +kernel
theorem dX2_parseCondition_39 : decode cX2_parseCondition 39 = .ok (.iload 4, 2) := by decide +kernel
theorem dX2_parseCondition_41 : decode cX2_parseCondition 41 = .ok (.bipush 31, 2) := by decide +kernel
theorem dX2_parseCondition_43 : decode cX2_parseCondition 43 = .ok (.if_icmp .lt 10, 3) := by decide +kernel
theorem dX2_parseCondition_46 : decode cX2_parseCondition 46 = .ok (.iload 4, 2) := by decide +kernel
theorem dX2_parseCondition_48 : decode cX2_parseCondition 48 = .ok (.bipush 34, 2) := by decide +kernel
theorem dX2_parseCondition_50 : decode cX2_parseCondition 50 = .ok (.if_icmp .le 8, 3) := by decide +kernel
theorem dX2_parseCondition_53 : decode cX2_parseCondition 53 = .ok (.aload_n 0, 1) := by decide +kernel
theorem dX2_parseCondition_54 : decode cX2_parseCondition 54 = .ok (.iconst 1, 1) := by decide +kernel
theorem dX2_parseCondition_55 : decode cX2_parseCondition 55 = .ok (.invokevirtual 66, 3) := by decide +kernel
theorem dX2_parseCondition_58 : decode cX2_parseCondition 58 = .ok (.aload_n 0, 1) := by decide +kernel
theorem dX2_parseCondition_59 : decode cX2_parseCondition 59 = .ok (.iload 4, 2) := by decide +kernel
theorem dX2_parseCondition_61 : decode cX2_parseCondition 61 = .ok (.invokevirtual 49, 3) := by decide +kernel
theorem dX2_parseCondition_64 : decode cX2_parseCondition 64 = .ok (.pop, 1) := by decide +kernel
theorem dX2_parseCondition_65 : decode cX2_parseCondition 65 = .ok (.aload_n 0, 1) := by decide +kernel
theorem dX2_parseCondition_66 : decode cX2_parseCondition 66 = .ok (.invokevirtual 73, 3) := by decide +kernel
theorem dX2_parseCondition_69 : decode cX2_parseCondition 69 = .ok (.aload_n 0, 1) := by decide +kernel
theorem dX2_parseCondition_70 : decode cX2_parseCondition 70 = .ok (.getfield 26, 3) := by decide +kernel
theorem dX2_parseCondition_73 : decode cX2_parseCondition 73 = .ok (.sipush 30000, 3) := by decide +kernel
theorem dX2_parseCondition_76 : decode cX2_parseCondition 76 = .ok (.iconst 2, 1) := by decide +kernel
theorem dX2_parseCondition_77 : decode cX2_parseCondition 77 = .ok (.iload 4, 2) := by decide +kernel
theorem dX2_parseCondition_79 : decode cX2_parseCondition 79 = .ok (.imul, 1) := by decide +kernel
theorem dX2_parseCondition_80 : decode cX2_parseCondition 80 = .ok (.iadd, 1) := by decide +kernel
theorem dX2_parseCondition_81 : decode cX2_parseCondition 81 = .ok (.iload_n 3, 1) := by decide +kernel
theorem dX2_parseCondition_82 : decode cX2_parseCondition 82 = .ok (.iadd, 1) := by decide +kernel
theorem dX2_parseCondition_83 : decode cX2_parseCondition 83 = .ok (.invokevirtual 89, 3) := by decide +kernel
theorem dX2_parseCondition_86 : decode cX2_parseCondition 86 = .ok (.aload_n 0, 1) := by decide +kernel
theorem dX2_parseCondition_87 : decode cX2_parseCondition 87 = .ok (.getfield 46, 3) := by decide +kernel
theorem dX2_parseCondition_90 : decode cX2_parseCondition 90 = .ok (.iconst 3, 1) := by decide +kernel
theorem dX2_parseCondition_91 : decode cX2_parseCondition 91 = .ok (.if_icmp .ne 12, 3) := by decide +kernel
theorem dX2_parseCondition_94 : decode cX2_parseCondition 94 = .ok (.aload_n 0, 1) := by decide +kernel
theorem dX2_parseCondition_95 : decode cX2_parseCondition 95 = .ok (.getfield 26, 3) := by decide +kernel
theorem dX2_parseCondition_98 : decode cX2_parseCondition 98 = .ok (.ldc 92, 2) := by decide +kernel
theorem dX2_parseCondition_100 : decode cX2_parseCondition 100 = .ok (.invokevirtual 89, 3) := by decide +kernel
theorem dX2_parseCondition_103 : decode cX2_parseCondition 103 = .ok (.aload_n 0, 1) := by decide +kernel
theorem dX2_parseCondition_104 : decode cX2_parseCondition 104 = .ok (.getfield 46, 3) := by decide +kernel
theorem dX2_parseCondition_107 : decode cX2_parseCondition 107 = .ok (.iconst 4, 1) := by decide +kernel
theorem dX2_parseCondition_108 : decode cX2_parseCondition 108 = .ok (.if_icmp .eq 11, 3) := by decide +kernel
theorem dX2_parseCondition_111 : decode cX2_parseCondition 111 = .ok (.aload_n 0, 1) := by decide +kernel
theorem dX2_parseCondition_112 : decode cX2_parseCondition 112 = .ok (.getfield 46, 3) := by decide +kernel
theorem dX2_parseCondition_115 : decode cX2_parseCondition 115 = .ok (.iconst 3, 1) := by decide +kernel
theorem dX2_parseCondition_116 : decode cX2_parseCondition 116 = .ok (.if_icmp .ne 18, 3) := by decide +kernel
theorem dX2_parseCondition_119 : decode cX2_parseCondition 119 = .ok (.aload_n 0, 1) := by decide +kernel
theorem dX2_parseCondition_120 : decode cX2_parseCondition 120 = .ok (.aload_n 0, 1) := by decide +kernel
theorem dX2_parseCondition_121 : decode cX2_parseCondition 121 = .ok (.getfield 46, 3) := by decide +kernel
theorem dX2_parseCondition_124 : decode cX2_parseCondition 124 = .ok (.invokevirtual 49, 3) := by decide +kernel
theorem dX2_parseCondition_127 : decode cX2_parseCondition 127 = .ok (.ifCond .eq 7, 3) := by decide +kernel
theorem dX2_parseCondition_130 : decode cX2_parseCondition 130 = .ok (.iconst 1, 1) := by decide +kernel
theorem dX2_parseCondition_131 : decode cX2_parseCondition 131 = .ok (.goto 4, 3) := by decide +kernel
theorem dX2_parseCondition_134 : decode cX2_parseCondition 134 = .ok (.iconst 0, 1) := by decide +kernel
theorem dX2_parseCondition_135 : decode cX2_parseCondition 135 = .ok (.istore_n 1, 1) := by decide +kernel
theorem dX2_parseCondition_136 : decode cX2_parseCondition 136 = .ok (.iinc 2 1, 3) := by decide +kernel
theorem dX2_parseCondition_139 : decode cX2_parseCondition 139 = .ok (.goto (-135), 3) := by decide +kernel
theorem dX2_parseCondition_142 : decode cX2_parseCondition 142 = .ok (.return_, 1) := by decide +kernel
theorem dX2_parseNots_0 : decode cX2_parseNots 0 = .ok (.iconst 0, 1) := by decide +kernel
theorem dX2_parseNots_1 : decode cX2_parseNots 1 = .ok (.istore_n 1, 1) := by decide +kernel
theorem dX2_parseNots_2 : decode cX2_parseNots 2 = .ok (.iload_n 1, 1) := by decide +kernel
theorem dX2_parseNots_3 : decode cX2_parseNots 3 = .ok (.sipush 400, 3) := by decide +kernel
theorem dX2_parseNots_6 : decode cX2_parseNots 6 = .ok (.if_icmp .gt 25, 3) := by decide +kernel
theorem dX2_parseNots_9 : decode cX2_parseNots 9 = .ok (.aload_n 0, 1) := by decide +kernel
theorem dX2_parseNots_10 : decode cX2_parseNots 10 = .ok (.getfield 46, 3) := by decide +kernel
theorem dX2_parseNots_13 : decode cX2_parseNots 13 = .ok (.iconst 5, 1) := by decide +kernel
theorem dX2_parseNots_14 : decode cX2_parseNots 14 = .ok (.if_icmp .ne 17, 3) := by decide +kernel
theorem dX2_parseNots_17 : decode cX2_parseNots 17 = .ok (.aload_n 0, 1) := by decide +kernel
theorem dX2_parseNots_18 : decode cX2_parseNots 18 = .ok (.iconst 5, 1) := by decide +kernel
theorem dX2_parseNots_19 : decode cX2_parseNots 19 = .ok (.invokevirtual 49, 3) := by decide +kernel
theorem dX2_parseNots_22 : decode cX2_parseNots 22 = .ok (.ifCond .eq 9, 3) := by decide +kernel
theorem dX2_parseNots_25 : decode cX2_parseNots 25 = .ok (.iinc 1 1, 3) := by decide +kernel
theorem dX2_parseNots_28 : decode cX2_parseNots 28 = .ok (.goto (-26), 3) := by decide +kernel
theorem dX2_parseNots_31 : decode cX2_parseNots 31 = .ok (.iload_n 1, 1) := by decide +kernel
theorem dX2_parseNots_32 : decode cX2_parseNots 32 = .ok (.ireturn, 1) := by decide +kernel
theorem dX2_parseExpression_0 : decode cX2_parseExpression 0 = .ok (.iconst 0, 1) := by decide +kernel
theorem dX2_parseExpression_1 : decode cX2_parseExpression 1 = .ok (.istore_n 1, 1) := by decide +kernel
theorem dX2_parseExpression_2 : decode cX2_parseExpression 2 = .ok (.iconst 1, 1) := by decide +kernel
theorem dX2_parseExpression_3 : decode cX2_parseExpression 3 = .ok (.istore_n 2, 1) := by decide +kernel
theorem dX2_parseExpression_4 : decode cX2_parseExpression 4 = .ok (.aload_n 0, 1) := by decide +kernel
theorem dX2_parseExpression_5 : decode cX2_parseExpression 5 = .ok (.iconst 0, 1) := by decide +kernel
theorem dX2_parseExpression_6 : decode cX2_parseExpression 6 = .ok (.putfield 93, 3) := by decide +kernel
theorem dX2_parseExpression_9 : decode cX2_parseExpression 9 = .ok (.iconst 0, 1) := by decide +kernel
theorem dX2_parseExpression_10 : decode cX2_parseExpression 10 = .ok (.istore_n 3, 1) := by decide +kernel
theorem dX2_parseExpression_11 : decode cX2_parseExpression 11 = .ok (.iload_n 2, 1) := by decide +kernel
theorem dX2_parseExpression_12 : decode cX2_parseExpression 12 = .ok (.ifCond .eq 97, 3) := by decide +kernel
theorem dX2_parseExpression_15 : decode cX2_parseExpression 15 = .ok (.aload_n 0, 1) := by decide +kernel
theorem dX2_parseExpression_16 : decode cX2_parseExpression 16 = .ok (.getfield 39, 3) := by decide +kernel
theorem dX2_parseExpression_19 : decode cX2_parseExpression 19 = .ok (.ifCond .ne 90, 3) := by decide +kernel
theorem dX2_parseExpression_22 : decode cX2_parseExpression 22 = .ok (.iload_n 3, 1) := by decide +kernel
theorem dX2_parseExpression_23 : decode cX2_parseExpression 23 = .ok (.sipush 400, 3) := by decide +kernel
theorem dX2_parseExpression_26 : decode cX2_parseExpression 26 = .ok (.if_icmp .gt 83, 3) := by decide +kernel
theorem dX2_parseExpression_29 : decode cX2_parseExpression 29 = .ok (.aload_n 0, 1) := by decide +kernel
theorem dX2_parseExpression_30 : decode cX2_parseExpression 30 = .ok (.iload_n 1, 1) := by decide +kernel
theorem dX2_parseExpression_31 : decode cX2_parseExpression 31 = .ok (.invokevirtual 96, 3) := by decide +kernel
theorem dX2_parseExpression_34 : decode cX2_parseExpression 34 = .ok (.istore_n 1, 1) := by decide +kernel
theorem dX2_parseExpression_35 : decode cX2_parseExpression 35 = .ok (.aload_n 0, 1) := by decide +kernel
theorem dX2_parseExpression_36 : decode cX2_parseExpression 36 = .ok (.invokevirtual 100, 3) := by decide +kernel
theorem dX2_parseExpression_39 : decode cX2_parseExpression 39 = .ok (.aload_n 0, 1) := by decide +kernel
theorem dX2_parseExpression_40 : decode cX2_parseExpression 40 = .ok (.iload_n 1, 1) := by decide +kernel
theorem dX2_parseExpression_41 : decode cX2_parseExpression 41 = .ok (.invokevirtual 103, 3) := by decide +kernel
theorem dX2_parseExpression_44 : decode cX2_parseExpression 44 = .ok (.istore_n 1, 1) := by decide +kernel
theorem dX2_parseExpression_45 : decode cX2_parseExpression 45 = .ok (.aload_n 0, 1) := by decide +kernel
theorem dX2_parseExpression_46 : decode cX2_parseExpression 46 = .ok (.getfield 46, 3) := by decide +kernel
theorem dX2_parseExpression_49 : decode cX2_parseExpression 49 = .ok (.istore 4, 2) := by decide +kernel
theorem dX2_parseExpression_51 : decode cX2_parseExpression 51 = .ok (.iload 4, 2) := by decide +kernel
theorem dX2_parseExpression_53 : decode cX2_parseExpression 53 = .ok (.bipush 27, 2) := by decide +kernel
theorem dX2_parseExpression_55 : decode cX2_parseExpression 55 = .ok (.if_icmp .lt 14, 3) := by decide +kernel
theorem dX2_parseExpression_58 : decode cX2_parseExpression 58 = .ok (.iload 4, 2) := by decide +kernel
theorem dX2_parseExpression_60 : decode cX2_parseExpression 60 = .ok (.bipush 30, 2) := by decide +kernel
theorem dX2_parseExpression_62 : decode cX2_parseExpression 62 = .ok (.if_icmp .gt 7, 3) := by decide +kernel
theorem dX2_parseExpression_65 : decode cX2_parseExpression 65 = .ok (.iconst 1, 1) := by decide +kernel
theorem dX2_parseExpression_66 : decode cX2_parseExpression 66 = .ok (.goto 4, 3) := by decide +kernel
theorem dX2_parseExpression_69 : decode cX2_parseExpression 69 = .ok (.iconst 0, 1) := by decide +kernel
theorem dX2_parseExpression_70 : decode cX2_parseExpression 70 = .ok (.istore_n 2, 1) := by decide +kernel
theorem dX2_parseExpression_71 : decode cX2_parseExpression 71 = .ok (.aload_n 0, 1) := by decide +kernel
theorem dX2_parseExpression_72 : decode cX2_parseExpression 72 = .ok (.iload_n 2, 1) := by decide +kernel
theorem dX2_parseExpression_73 : decode cX2_parseExpression 73 = .ok (.ifCond .eq 8, 3) := by decide +kernel
theorem dX2_parseExpression_76 : decode cX2_parseExpression 76 = .ok (.iload 4, 2) := by decide +kernel
theorem dX2_parseExpression_78 : decode cX2_parseExpression 78 = .ok (.goto 5, 3) := by decide +kernel
theorem dX2_parseExpression_81 : decode cX2_parseExpression 81 = .ok (.bipush 27, 2) := by decide +kernel
theorem dX2_parseExpression_83 : decode cX2_parseExpression 83 = .ok (.invokevirtual 106, 3) := by decide +kernel
theorem dX2_parseExpression_86 : decode cX2_parseExpression 86 = .ok (.iload_n 2, 1) := by decide +kernel
theorem dX2_parseExpression_87 : decode cX2_parseExpression 87 = .ok (.ifCond .eq 16, 3) := by decide +kernel
theorem dX2_parseExpression_90 : decode cX2_parseExpression 90 = .ok (.aload_n 0, 1) := by decide +kernel
theorem dX2_parseExpression_91 : decode cX2_parseExpression 91 = .ok (.iload 4, 2) := by decide +kernel
theorem dX2_parseExpression_93 : decode cX2_parseExpression 93 = .ok (.invokevirtual 109, 3) := by decide +kernel
theorem dX2_parseExpression_96 : decode cX2_parseExpression 96 = .ok (.aload_n 0, 1) := by decide +kernel
theorem dX2_parseExpression_97 : decode cX2_parseExpression 97 = .ok (.iload 4, 2) := by decide +kernel
theorem dX2_parseExpression_99 : decode cX2_parseExpression 99 = .ok (.invokevirtual 49, 3) := by decide +kernel
theorem dX2_parseExpression_102 : decode cX2_parseExpression 102 = .ok (.pop, 1) := by decide +kernel
theorem dX2_parseExpression_103 : decode cX2_parseExpression 103 = .ok (.iinc 3 1, 3) := by decide +kernel
theorem dX2_parseExpression_106 : decode cX2_parseExpression 106 = .ok (.goto (-95), 3) := by decide +kernel
theorem dX2_parseExpression_109 : decode cX2_parseExpression 109 = .ok (.iload_n 1, 1) := by decide +kernel
theorem dX2_parseExpression_110 : decode cX2_parseExpression 110 = .ok (.ifCond .le 8, 3) := by decide +kernel
theorem dX2_parseExpression_113 : decode cX2_parseExpression 113 = .ok (.aload_n 0, 1) := by decide +kernel
theorem dX2_parseExpression_114 : decode cX2_parseExpression 114 = .ok (.iconst 1, 1) := by decide +kernel
theorem dX2_parseExpression_115 : decode cX2_parseExpression 115 = .ok (.invokevirtual 66, 3) := by decide +kernel
theorem dX2_parseExpression_118 : decode cX2_parseExpression 118 = .ok (.return_, 1) := by decide +kernel
theorem dX2_parseOpenings_0 : decode cX2_parseOpenings 0 = .ok (.iload_n 1, 1) := by decide +kernel
theorem dX2_parseOpenings_1 : decode cX2_parseOpenings 1 = .ok (.istore_n 2, 1) := by decide +kernel
theorem dX2_parseOpenings_2 : decode cX2_parseOpenings 2 = .ok (.iload_n 2, 1) := by decide +kernel
theorem dX2_parseOpenings_3 : decode cX2_parseOpenings 3 = .ok (.bipush 6, 2) := by decide +kernel
theorem dX2_parseOpenings_5 : decode cX2_parseOpenings 5 = .ok (.if_icmp .ge 33, 3) := by decide +kernel
theorem dX2_parseOpenings_8 : decode cX2_parseOpenings 8 = .ok (.aload_n 0, 1) := by decide +kernel
theorem dX2_parseOpenings_9 : decode cX2_parseOpenings 9 = .ok (.getfield 46, 3) := by decide +kernel
theorem dX2_parseOpenings_12 : decode cX2_parseOpenings 12 = .ok (.bipush 35, 2) := by decide +kernel
theorem dX2_parseOpenings_14 : decode cX2_parseOpenings 14 = .ok (.if_icmp .ne 24, 3) := by decide +kernel
theorem dX2_parseOpenings_17 : decode cX2_parseOpenings 17 = .ok (.aload_n 0, 1) := by decide +kernel
theorem dX2_parseOpenings_18 : decode cX2_parseOpenings 18 = .ok (.bipush 35, 2) := by decide +kernel
theorem dX2_parseOpenings_20 : decode cX2_parseOpenings 20 = .ok (.invokevirtual 49, 3) := by decide +kernel
theorem dX2_parseOpenings_23 : decode cX2_parseOpenings 23 = .ok (.ifCond .eq 15, 3) := by decide +kernel
theorem dX2_parseOpenings_26 : decode cX2_parseOpenings 26 = .ok (.aload_n 0, 1) := by decide +kernel
theorem dX2_parseOpenings_27 : decode cX2_parseOpenings 27 = .ok (.bipush 35, 2) := by decide +kernel
theorem dX2_parseOpenings_29 : decode cX2_parseOpenings 29 = .ok (.invokevirtual 109, 3) := by decide +kernel
theorem dX2_parseOpenings_32 : decode cX2_parseOpenings 32 = .ok (.iinc 2 1, 3) := by decide +kernel
theorem dX2_parseOpenings_35 : decode cX2_parseOpenings 35 = .ok (.goto (-33), 3) := by decide +kernel
theorem dX2_parseOpenings_38 : decode cX2_parseOpenings 38 = .ok (.aload_n 0, 1) := by decide +kernel
theorem dX2_parseOpenings_39 : decode cX2_parseOpenings 39 = .ok (.getfield 46, 3) := by decide +kernel
theorem dX2_parseOpenings_42 : decode cX2_parseOpenings 42 = .ok (.bipush 35, 2) := by decide +kernel
theorem dX2_parseOpenings_44 : decode cX2_parseOpenings 44 = .ok (.if_icmp .ne 8, 3) := by decide +kernel
theorem dX2_parseOpenings_47 : decode cX2_parseOpenings 47 = .ok (.aload_n 0, 1) := by decide +kernel
theorem dX2_parseOpenings_48 : decode cX2_parseOpenings 48 = .ok (.iconst 2, 1) := by decide +kernel
theorem dX2_parseOpenings_49 : decode cX2_parseOpenings 49 = .ok (.invokevirtual 66, 3) := by decide +kernel
theorem dX2_parseOpenings_52 : decode cX2_parseOpenings 52 = .ok (.iload_n 2, 1) := by decide +kernel
theorem dX2_parseOpenings_53 : decode cX2_parseOpenings 53 = .ok (.ireturn, 1) := by decide +kernel
theorem dX2_parseOperand_0 : decode cX2_parseOperand 0 = .ok (.aload_n 0, 1) := by decide +kernel
theorem dX2_parseOperand_1 : decode cX2_parseOperand 1 = .ok (.getfield 46, 3) := by decide +kernel
theorem dX2_parseOperand_4 : decode cX2_parseOperand 4 = .ok (.bipush 12, 2) := by decide +kernel
theorem dX2_parseOperand_6 : decode cX2_parseOperand 6 = .ok (.if_icmp .lt 16, 3) := by decide +kernel
theorem dX2_parseOperand_9 : decode cX2_parseOperand 9 = .ok (.aload_n 0, 1) := by decide +kernel
theorem dX2_parseOperand_10 : decode cX2_parseOperand 10 = .ok (.getfield 46, 3) := by decide +kernel
theorem dX2_parseOperand_13 : decode cX2_parseOperand 13 = .ok (.bipush 24, 2) := by decide +kernel
theorem dX2_parseOperand_15 : decode cX2_parseOperand 15 = .ok (.if_icmp .ge 7, 3) := by decide +kernel
theorem dX2_parseOperand_18 : decode cX2_parseOperand 18 = .ok (.iconst 1, 1) := by decide +kernel
theorem dX2_parseOperand_19 : decode cX2_parseOperand 19 = .ok (.goto 4, 3) := by decide +kernel
theorem dX2_parseOperand_22 : decode cX2_parseOperand 22 = .ok (.iconst 0, 1) := by decide +kernel
theorem dX2_parseOperand_23 : decode cX2_parseOperand 23 = .ok (.istore_n 1, 1) := by decide +kernel
theorem dX2_parseOperand_24 : decode cX2_parseOperand 24 = .ok (.iload_n 1, 1) := by decide +kernel
theorem dX2_parseOperand_25 : decode cX2_parseOperand 25 = .ok (.ifCond .eq 17, 3) := by decide +kernel
theorem dX2_parseOperand_28 : decode cX2_parseOperand 28 = .ok (.sipush 10000, 3) := by decide +kernel
theorem dX2_parseOperand_31 : decode cX2_parseOperand 31 = .ok (.aload_n 0, 1) := by decide +kernel
theorem dX2_parseOperand_32 : decode cX2_parseOperand 32 = .ok (.getfield 46, 3) := by decide +kernel
theorem dX2_parseOperand_35 : decode cX2_parseOperand 35 = .ok (.iadd, 1) := by decide +kernel
theorem dX2_parseOperand_36 : decode cX2_parseOperand 36 = .ok (.bipush 12, 2) := by decide +kernel
theorem dX2_parseOperand_38 : decode cX2_parseOperand 38 = .ok (.isub, 1) := by decide +kernel
theorem dX2_parseOperand_39 : decode cX2_parseOperand 39 = .ok (.goto 8, 3) := by decide +kernel
theorem dX2_parseOperand_42 : decode cX2_parseOperand 42 = .ok (.aload_n 0, 1) := by decide +kernel
theorem dX2_parseOperand_43 : decode cX2_parseOperand 43 = .ok (.getfield 53, 3) := by decide +kernel
theorem dX2_parseOperand_46 : decode cX2_parseOperand 46 = .ok (.l2i, 1) := by decide +kernel
theorem dX2_parseOperand_47 : decode cX2_parseOperand 47 = .ok (.istore_n 2, 1) := by decide +kernel
theorem dX2_parseOperand_48 : decode cX2_parseOperand 48 = .ok (.aload_n 0, 1) := by decide +kernel
theorem dX2_parseOperand_49 : decode cX2_parseOperand 49 = .ok (.iload_n 1, 1) := by decide +kernel
theorem dX2_parseOperand_50 : decode cX2_parseOperand 50 = .ok (.ifCond .eq 10, 3) := by decide +kernel
theorem dX2_parseOperand_53 : decode cX2_parseOperand 53 = .ok (.aload_n 0, 1) := by decide +kernel
theorem dX2_parseOperand_54 : decode cX2_parseOperand 54 = .ok (.getfield 46, 3) := by decide +kernel
theorem dX2_parseOperand_57 : decode cX2_parseOperand 57 = .ok (.goto 5, 3) := by decide +kernel
theorem dX2_parseOperand_60 : decode cX2_parseOperand 60 = .ok (.bipush 25, 2) := by decide +kernel
theorem dX2_parseOperand_62 : decode cX2_parseOperand 62 = .ok (.invokevirtual 49, 3) := by decide +kernel
theorem dX2_parseOperand_65 : decode cX2_parseOperand 65 = .ok (.ifCond .eq 11, 3) := by decide +kernel
theorem dX2_parseOperand_68 : decode cX2_parseOperand 68 = .ok (.aload_n 0, 1) := by decide +kernel
theorem dX2_parseOperand_69 : decode cX2_parseOperand 69 = .ok (.getfield 26, 3) := by decide +kernel
theorem dX2_parseOperand_72 : decode cX2_parseOperand 72 = .ok (.iload_n 2, 1) := by decide +kernel
theorem dX2_parseOperand_73 : decode cX2_parseOperand 73 = .ok (.invokevirtual 89, 3) := by decide +kernel
theorem dX2_parseOperand_76 : decode cX2_parseOperand 76 = .ok (.return_, 1) := by decide +kernel
theorem dX2_parseClosings_0 : decode cX2_parseClosings 0 = .ok (.iload_n 1, 1) := by decide +kernel
theorem dX2_parseClosings_1 : decode cX2_parseClosings 1 = .ok (.istore_n 2, 1) := by decide +kernel
theorem dX2_parseClosings_2 : decode cX2_parseClosings 2 = .ok (.iload_n 2, 1) := by decide +kernel
theorem dX2_parseClosings_3 : decode cX2_parseClosings 3 = .ok (.ifCond .le 43, 3) := by decide +kernel
theorem dX2_parseClosings_6 : decode cX2_parseClosings 6 = .ok (.aload_n 0, 1) := by decide +kernel
theorem dX2_parseClosings_7 : decode cX2_parseClosings 7 = .ok (.getfield 46, 3) := by decide +kernel
theorem dX2_parseClosings_10 : decode cX2_parseClosings 10 = .ok (.bipush 36, 2) := by decide +kernel
theorem dX2_parseClosings_12 : decode cX2_parseClosings 12 = .ok (.if_icmp .ne 34, 3) := by decide +kernel
theorem dX2_parseClosings_15 : decode cX2_parseClosings 15 = .ok (.aload_n 0, 1) := by decide +kernel
theorem dX2_parseClosings_16 : decode cX2_parseClosings 16 = .ok (.bipush 36, 2) := by decide +kernel
theorem dX2_parseClosings_18 : decode cX2_parseClosings 18 = .ok (.invokevirtual 49, 3) := by decide +kernel
theorem dX2_parseClosings_21 : decode cX2_parseClosings 21 = .ok (.ifCond .eq 25, 3) := by decide +kernel
theorem dX2_parseClosings_24 : decode cX2_parseClosings 24 = .ok (.aload_n 0, 1) := by decide +kernel
theorem dX2_parseClosings_25 : decode cX2_parseClosings 25 = .ok (.bipush 27, 2) := by decide +kernel
theorem dX2_parseClosings_27 : decode cX2_parseClosings 27 = .ok (.invokevirtual 106, 3) := by decide +kernel
theorem dX2_parseClosings_30 : decode cX2_parseClosings 30 = .ok (.aload_n 0, 1) := by decide +kernel
theorem dX2_parseClosings_31 : decode cX2_parseClosings 31 = .ok (.dup, 1) := by decide +kernel
theorem dX2_parseClosings_32 : decode cX2_parseClosings 32 = .ok (.getfield 93, 3) := by decide +kernel
theorem dX2_parseClosings_35 : decode cX2_parseClosings 35 = .ok (.iconst 1, 1) := by decide +kernel
theorem dX2_parseClosings_36 : decode cX2_parseClosings 36 = .ok (.isub, 1) := by decide +kernel
theorem dX2_parseClosings_37 : decode cX2_parseClosings 37 = .ok (.putfield 93, 3) := by decide +kernel
theorem dX2_parseClosings_40 : decode cX2_parseClosings 40 = .ok (.iinc 2 (-1), 3) := by decide +kernel
theorem dX2_parseClosings_43 : decode cX2_parseClosings 43 = .ok (.goto (-41), 3) := by decide +kernel
theorem dX2_parseClosings_46 : decode cX2_parseClosings 46 = .ok (.iload_n 2, 1) := by decide +kernel
theorem dX2_parseClosings_47 : decode cX2_parseClosings 47 = .ok (.ireturn, 1) := by decide +kernel
theorem dX2_hold_0 : decode cX2_hold 0 = .ok (.aload_n 0, 1) := by decide +kernel
theorem dX2_hold_1 : decode cX2_hold 1 = .ok (.getfield 93, 3) := by decide +kernel
theorem dX2_hold_4 : decode cX2_hold 4 = .ok (.ifCond .lt 35, 3) := by decide +kernel
theorem dX2_hold_7 : decode cX2_hold 7 = .ok (.aload_n 0, 1) := by decide +kernel
theorem dX2_hold_8 : decode cX2_hold 8 = .ok (.getfield 93, 3) := by decide +kernel
theorem dX2_hold_11 : decode cX2_hold 11 = .ok (.aload_n 0, 1) := by decide +kernel
theorem dX2_hold_12 : decode cX2_hold 12 = .ok (.getfield 18, 3) := by decide +kernel
theorem dX2_hold_15 : decode cX2_hold 15 = .ok (.arraylength, 1) := by decide +kernel
theorem dX2_hold_16 : decode cX2_hold 16 = .ok (.if_icmp .ge 23, 3) := by decide +kernel
theorem dX2_hold_19 : decode cX2_hold 19 = .ok (.aload_n 0, 1) := by decide +kernel
theorem dX2_hold_20 : decode cX2_hold 20 = .ok (.getfield 18, 3) := by decide +kernel
theorem dX2_hold_23 : decode cX2_hold 23 = .ok (.aload_n 0, 1) := by decide +kernel
theorem dX2_hold_24 : decode cX2_hold 24 = .ok (.getfield 93, 3) := by decide +kernel
theorem dX2_hold_27 : decode cX2_hold 27 = .ok (.iload_n 1, 1) := by decide +kernel
theorem dX2_hold_28 : decode cX2_hold 28 = .ok (.iastore, 1) := by decide +kernel
theorem dX2_hold_29 : decode cX2_hold 29 = .ok (.aload_n 0, 1) := by decide +kernel
theorem dX2_hold_30 : decode cX2_hold 30 = .ok (.dup, 1) := by decide +kernel
theorem dX2_hold_31 : decode cX2_hold 31 = .ok (.getfield 93, 3) := by decide +kernel
theorem dX2_hold_34 : decode cX2_hold 34 = .ok (.iconst 1, 1) := by decide +kernel
theorem dX2_hold_35 : decode cX2_hold 35 = .ok (.iadd, 1) := by decide +kernel
theorem dX2_hold_36 : decode cX2_hold 36 = .ok (.putfield 93, 3) := by decide +kernel
theorem dX2_hold_39 : decode cX2_hold 39 = .ok (.return_, 1) := by decide +kernel
theorem dX2_emitWaiting_0 : decode cX2_emitWaiting 0 = .ok (.aload_n 0, 1) := by decide +kernel
theorem dX2_emitWaiting_1 : decode cX2_emitWaiting 1 = .ok (.getfield 93, 3) := by decide +kernel
theorem dX2_emitWaiting_4 : decode cX2_emitWaiting 4 = .ok (.ifCond .le 54, 3) := by decide +kernel
theorem dX2_emitWaiting_7 : decode cX2_emitWaiting 7 = .ok (.aload_n 0, 1) := by decide +kernel
theorem dX2_emitWaiting_8 : decode cX2_emitWaiting 8 = .ok (.getfield 18, 3) := by decide +kernel
theorem dX2_emitWaiting_11 : decode cX2_emitWaiting 11 = .ok (.aload_n 0, 1) := by decide +kernel
theorem dX2_emitWaiting_12 : decode cX2_emitWaiting 12 = .ok (.getfield 93, 3) := by decide +kernel
theorem dX2_emitWaiting_15 : decode cX2_emitWaiting 15 = .ok (.iconst 1, 1) := by decide +kernel
theorem dX2_emitWaiting_16 : decode cX2_emitWaiting 16 = .ok (.isub, 1) := by decide +kernel
theorem dX2_emitWaiting_17 : decode cX2_emitWaiting 17 = .ok (.iaload, 1) := by decide +kernel
theorem dX2_emitWaiting_18 : decode cX2_emitWaiting 18 = .ok (.iload_n 1, 1) := by decide +kernel
theorem dX2_emitWaiting_19 : decode cX2_emitWaiting 19 = .ok (.invokestatic 112, 3) := by decide +kernel
theorem dX2_emitWaiting_22 : decode cX2_emitWaiting 22 = .ok (.ifCond .eq 36, 3) := by decide +kernel
theorem dX2_emitWaiting_25 : decode cX2_emitWaiting 25 = .ok (.aload_n 0, 1) := by decide +kernel
theorem dX2_emitWaiting_26 : decode cX2_emitWaiting 26 = .ok (.dup, 1) := by decide +kernel
theorem dX2_emitWaiting_27 : decode cX2_emitWaiting 27 = .ok (.getfield 93, 3) := by decide +kernel
theorem dX2_emitWaiting_30 : decode cX2_emitWaiting 30 = .ok (.iconst 1, 1) := by decide +kernel
theorem dX2_emitWaiting_31 : decode cX2_emitWaiting 31 = .ok (.isub, 1) := by decide +kernel
theorem dX2_emitWaiting_32 : decode cX2_emitWaiting 32 = .ok (.putfield 93, 3) := by decide +kernel
theorem dX2_emitWaiting_35 : decode cX2_emitWaiting 35 = .ok (.aload_n 0, 1) := by decide +kernel
theorem dX2_emitWaiting_36 : decode cX2_emitWaiting 36 = .ok (.getfield 26, 3) := by decide +kernel
theorem dX2_emitWaiting_39 : decode cX2_emitWaiting 39 = .ok (.sipush 20000, 3) := by decide +kernel
theorem dX2_emitWaiting_42 : decode cX2_emitWaiting 42 = .ok (.aload_n 0, 1) := by decide +kernel
theorem dX2_emitWaiting_43 : decode cX2_emitWaiting 43 = .ok (.getfield 18, 3) := by decide +kernel
theorem dX2_emitWaiting_46 : decode cX2_emitWaiting 46 = .ok (.aload_n 0, 1) := by decide +kernel
theorem dX2_emitWaiting_47 : decode cX2_emitWaiting 47 = .ok (.getfield 93, 3) := by decide +kernel
theorem dX2_emitWaiting_50 : decode cX2_emitWaiting 50 = .ok (.iaload, 1) := by decide +kernel
theorem dX2_emitWaiting_51 : decode cX2_emitWaiting 51 = .ok (.iadd, 1) := by decide +kernel
theorem dX2_emitWaiting_52 : decode cX2_emitWaiting 52 = .ok (.invokevirtual 89, 3) := by decide +kernel
theorem dX2_emitWaiting_55 : decode cX2_emitWaiting 55 = .ok (.goto (-55), 3) := by decide +kernel
theorem dX2_emitWaiting_58 : decode cX2_emitWaiting 58 = .ok (.return_, 1) := by decide +kernel
theorem dX2_bindsAsTight_0 : decode cX2_bindsAsTight 0 = .ok (.iload_n 1, 1) := by decide +kernel
theorem dX2_bindsAsTight_1 : decode cX2_bindsAsTight 1 = .ok (.bipush 27, 2) := by decide +kernel
theorem dX2_bindsAsTight_3 : decode cX2_bindsAsTight 3 = .ok (.if_icmp .eq 9, 3) := by decide +kernel
theorem dX2_bindsAsTight_6 : decode cX2_bindsAsTight 6 = .ok (.iload_n 1, 1) := by decide +kernel
theorem dX2_bindsAsTight_7 : decode cX2_bindsAsTight 7 = .ok (.bipush 28, 2) := by decide +kernel
theorem dX2_bindsAsTight_9 : decode cX2_bindsAsTight 9 = .ok (.if_icmp .ne 7, 3) := by decide +kernel
theorem dX2_bindsAsTight_12 : decode cX2_bindsAsTight 12 = .ok (.iconst 1, 1) := by decide +kernel
theorem dX2_bindsAsTight_13 : decode cX2_bindsAsTight 13 = .ok (.goto 4, 3) := by decide +kernel
theorem dX2_bindsAsTight_16 : decode cX2_bindsAsTight 16 = .ok (.iconst 0, 1) := by decide +kernel
theorem dX2_bindsAsTight_17 : decode cX2_bindsAsTight 17 = .ok (.istore_n 2, 1) := by decide +kernel
theorem dX2_bindsAsTight_18 : decode cX2_bindsAsTight 18 = .ok (.iload_n 0, 1) := by decide +kernel
theorem dX2_bindsAsTight_19 : decode cX2_bindsAsTight 19 = .ok (.bipush 29, 2) := by decide +kernel
theorem dX2_bindsAsTight_21 : decode cX2_bindsAsTight 21 = .ok (.if_icmp .eq 19, 3) := by decide +kernel
theorem dX2_bindsAsTight_24 : decode cX2_bindsAsTight 24 = .ok (.iload_n 0, 1) := by decide +kernel
theorem dX2_bindsAsTight_25 : decode cX2_bindsAsTight 25 = .ok (.bipush 30, 2) := by decide +kernel
theorem dX2_bindsAsTight_27 : decode cX2_bindsAsTight 27 = .ok (.if_icmp .eq 13, 3) := by decide +kernel
theorem dX2_bindsAsTight_30 : decode cX2_bindsAsTight 30 = .ok (.iload_n 0, 1) := by decide +kernel
theorem dX2_bindsAsTight_31 : decode cX2_bindsAsTight 31 = .ok (.bipush 35, 2) := by decide +kernel
theorem dX2_bindsAsTight_33 : decode cX2_bindsAsTight 33 = .ok (.if_icmp .eq 11, 3) := by decide +kernel
theorem dX2_bindsAsTight_36 : decode cX2_bindsAsTight 36 = .ok (.iload_n 2, 1) := by decide +kernel
theorem dX2_bindsAsTight_37 : decode cX2_bindsAsTight 37 = .ok (.ifCond .eq 7, 3) := by decide +kernel
theorem dX2_bindsAsTight_40 : decode cX2_bindsAsTight 40 = .ok (.iconst 1, 1) := by decide +kernel
theorem dX2_bindsAsTight_41 : decode cX2_bindsAsTight 41 = .ok (.goto 4, 3) := by decide +kernel
theorem dX2_bindsAsTight_44 : decode cX2_bindsAsTight 44 = .ok (.iconst 0, 1) := by decide +kernel
theorem dX2_bindsAsTight_45 : decode cX2_bindsAsTight 45 = .ok (.ireturn, 1) := by decide +kernel
theorem dX2_accept_0 : decode cX2_accept 0 = .ok (.aload_n 0, 1) := by decide +kernel
theorem dX2_accept_1 : decode cX2_accept 1 = .ok (.getfield 46, 3) := by decide +kernel
theorem dX2_accept_4 : decode cX2_accept 4 = .ok (.iload_n 1, 1) := by decide +kernel
theorem dX2_accept_5 : decode cX2_accept 5 = .ok (.if_icmp .eq 11, 3) := by decide +kernel
theorem dX2_accept_8 : decode cX2_accept 8 = .ok (.aload_n 0, 1) := by decide +kernel
theorem dX2_accept_9 : decode cX2_accept 9 = .ok (.iconst 1, 1) := by decide +kernel
theorem dX2_accept_10 : decode cX2_accept 10 = .ok (.invokevirtual 66, 3) := by decide +kernel
theorem dX2_accept_13 : decode cX2_accept 13 = .ok (.goto 18, 3) := by decide +kernel
theorem dX2_accept_16 : decode cX2_accept 16 = .ok (.aload_n 0, 1) := by decide +kernel
theorem dX2_accept_17 : decode cX2_accept 17 = .ok (.getfield 116, 3) := by decide +kernel
theorem dX2_accept_20 : decode cX2_accept 20 = .ok (.sipush 400, 3) := by decide +kernel
theorem dX2_accept_23 : decode cX2_accept 23 = .ok (.if_icmp .lt 8, 3) := by decide +kernel
theorem dX2_accept_26 : decode cX2_accept 26 = .ok (.aload_n 0, 1) := by decide +kernel
theorem dX2_accept_27 : decode cX2_accept 27 = .ok (.iconst 2, 1) := by decide +kernel
theorem dX2_accept_28 : decode cX2_accept 28 = .ok (.invokevirtual 66, 3) := by decide +kernel
theorem dX2_accept_31 : decode cX2_accept 31 = .ok (.aload_n 0, 1) := by decide +kernel
theorem dX2_accept_32 : decode cX2_accept 32 = .ok (.getfield 39, 3) := by decide +kernel
theorem dX2_accept_35 : decode cX2_accept 35 = .ok (.ifCond .ne 13, 3) := by decide +kernel
theorem dX2_accept_38 : decode cX2_accept 38 = .ok (.aload_n 0, 1) := by decide +kernel
theorem dX2_accept_39 : decode cX2_accept 39 = .ok (.aload_n 0, 1) := by decide +kernel
theorem dX2_accept_40 : decode cX2_accept 40 = .ok (.getfield 116, 3) := by decide +kernel
theorem dX2_accept_43 : decode cX2_accept 43 = .ok (.iconst 1, 1) := by decide +kernel
theorem dX2_accept_44 : decode cX2_accept 44 = .ok (.iadd, 1) := by decide +kernel
theorem dX2_accept_45 : decode cX2_accept 45 = .ok (.invokevirtual 42, 3) := by decide +kernel
theorem dX2_accept_48 : decode cX2_accept 48 = .ok (.aload_n 0, 1) := by decide +kernel
theorem dX2_accept_49 : decode cX2_accept 49 = .ok (.getfield 39, 3) := by decide +kernel
theorem dX2_accept_52 : decode cX2_accept 52 = .ok (.ifCond .ne 7, 3) := by decide +kernel
theorem dX2_accept_55 : decode cX2_accept 55 = .ok (.iconst 1, 1) := by decide +kernel
theorem dX2_accept_56 : decode cX2_accept 56 = .ok (.goto 4, 3) := by decide +kernel
theorem dX2_accept_59 : decode cX2_accept 59 = .ok (.iconst 0, 1) := by decide +kernel
theorem dX2_accept_60 : decode cX2_accept 60 = .ok (.ireturn, 1) := by decide +kernel
theorem dX2_refuse_0 : decode cX2_refuse 0 = .ok (.aload_n 0, 1) := by decide +kernel
theorem dX2_refuse_1 : decode cX2_refuse 1 = .ok (.getfield 39, 3) := by decide +kernel
theorem dX2_refuse_4 : decode cX2_refuse 4 = .ok (.ifCond .ne 16, 3) := by decide +kernel
theorem dX2_refuse_7 : decode cX2_refuse 7 = .ok (.aload_n 0, 1) := by decide +kernel
theorem dX2_refuse_8 : decode cX2_refuse 8 = .ok (.iload_n 1, 1) := by decide +kernel
theorem dX2_refuse_9 : decode cX2_refuse 9 = .ok (.putfield 39, 3) := by decide +kernel
theorem dX2_refuse_12 : decode cX2_refuse 12 = .ok (.aload_n 0, 1) := by decide +kernel
theorem dX2_refuse_13 : decode cX2_refuse 13 = .ok (.aload_n 0, 1) := by decide +kernel
theorem dX2_refuse_14 : decode cX2_refuse 14 = .ok (.getfield 57, 3) := by decide +kernel
theorem dX2_refuse_17 : decode cX2_refuse 17 = .ok (.putfield 22, 3) := by decide +kernel
theorem dX2_refuse_20 : decode cX2_refuse 20 = .ok (.return_, 1) := by decide +kernel
theorem dX2_moveTo_0 : decode cX2_moveTo 0 = .ok (.aload_n 0, 1) := by decide +kernel
theorem dX2_moveTo_1 : decode cX2_moveTo 1 = .ok (.iload_n 1, 1) := by decide +kernel
theorem dX2_moveTo_2 : decode cX2_moveTo 2 = .ok (.putfield 116, 3) := by decide +kernel
theorem dX2_moveTo_5 : decode cX2_moveTo 5 = .ok (.iload_n 1, 1) := by decide +kernel
theorem dX2_moveTo_6 : decode cX2_moveTo 6 = .ok (.ifCond .lt 53, 3) := by decide +kernel
theorem dX2_moveTo_9 : decode cX2_moveTo 9 = .ok (.iload_n 1, 1) := by decide +kernel
theorem dX2_moveTo_10 : decode cX2_moveTo 10 = .ok (.aload_n 0, 1) := by decide +kernel
theorem dX2_moveTo_11 : decode cX2_moveTo 11 = .ok (.getfield 12, 3) := by decide +kernel
theorem dX2_moveTo_14 : decode cX2_moveTo 14 = .ok (.getfield 119, 3) := by decide +kernel
theorem dX2_moveTo_17 : decode cX2_moveTo 17 = .ok (.if_icmp .ge 42, 3) := by decide +kernel
theorem dX2_moveTo_20 : decode cX2_moveTo 20 = .ok (.aload_n 0, 1) := by decide +kernel
theorem dX2_moveTo_21 : decode cX2_moveTo 21 = .ok (.aload_n 0, 1) := by decide +kernel
theorem dX2_moveTo_22 : decode cX2_moveTo 22 = .ok (.getfield 12, 3) := by decide +kernel
theorem dX2_moveTo_25 : decode cX2_moveTo 25 = .ok (.getfield 122, 3) := by decide +kernel
theorem dX2_moveTo_28 : decode cX2_moveTo 28 = .ok (.iload_n 1, 1) := by decide +kernel
theorem dX2_moveTo_29 : decode cX2_moveTo 29 = .ok (.iaload, 1) := by decide +kernel
theorem dX2_moveTo_30 : decode cX2_moveTo 30 = .ok (.putfield 46, 3) := by decide +kernel
theorem dX2_moveTo_33 : decode cX2_moveTo 33 = .ok (.aload_n 0, 1) := by decide +kernel
theorem dX2_moveTo_34 : decode cX2_moveTo 34 = .ok (.aload_n 0, 1) := by decide +kernel
theorem dX2_moveTo_35 : decode cX2_moveTo 35 = .ok (.getfield 12, 3) := by decide +kernel
theorem dX2_moveTo_38 : decode cX2_moveTo 38 = .ok (.getfield 125, 3) := by decide +kernel
theorem dX2_moveTo_41 : decode cX2_moveTo 41 = .ok (.iload_n 1, 1) := by decide +kernel
theorem dX2_moveTo_42 : decode cX2_moveTo 42 = .ok (.iaload, 1) := by decide +kernel
theorem dX2_moveTo_43 : decode cX2_moveTo 43 = .ok (.putfield 57, 3) := by decide +kernel
theorem dX2_moveTo_46 : decode cX2_moveTo 46 = .ok (.aload_n 0, 1) := by decide +kernel
theorem dX2_moveTo_47 : decode cX2_moveTo 47 = .ok (.aload_n 0, 1) := by decide +kernel
theorem dX2_moveTo_48 : decode cX2_moveTo 48 = .ok (.getfield 12, 3) := by decide +kernel
theorem dX2_moveTo_51 : decode cX2_moveTo 51 = .ok (.getfield 128, 3) := by decide +kernel
theorem dX2_moveTo_54 : decode cX2_moveTo 54 = .ok (.iload_n 1, 1) := by decide +kernel
theorem dX2_moveTo_55 : decode cX2_moveTo 55 = .ok (.laload, 1) := by decide +kernel
theorem dX2_moveTo_56 : decode cX2_moveTo 56 = .ok (.putfield 53, 3) := by decide +kernel
theorem dX2_moveTo_59 : decode cX2_moveTo 59 = .ok (.return_, 1) := by decide +kernel
theorem dX3_init_0 : decode cX3_init 0 = .ok (.aload_n 0, 1) := by decide +kernel
theorem dX3_init_1 : decode cX3_init 1 = .ok (.invokespecial 3, 3) := by decide +kernel
theorem dX3_init_4 : decode cX3_init 4 = .ok (.aload_n 0, 1) := by decide +kernel
theorem dX3_init_5 : decode cX3_init 5 = .ok (.bipush 12, 2) := by decide +kernel
theorem dX3_init_7 : decode cX3_init 7 = .ok (.newarray .int, 2) := by decide +kernel
theorem dX3_init_9 : decode cX3_init 9 = .ok (.putfield 9, 3) := by decide +kernel
theorem dX3_init_12 : decode cX3_init 12 = .ok (.aload_n 0, 1) := by decide +kernel
theorem dX3_init_13 : decode cX3_init 13 = .ok (.aload_n 1, 1) := by decide +kernel
theorem dX3_init_14 : decode cX3_init 14 = .ok (.putfield 15, 3) := by decide +kernel
theorem dX3_init_17 : decode cX3_init 17 = .ok (.aload_n 0, 1) := by decide +kernel
theorem dX3_init_18 : decode cX3_init 18 = .ok (.aload_n 2, 1) := by decide +kernel
theorem dX3_init_19 : decode cX3_init 19 = .ok (.putfield 19, 3) := by decide +kernel
theorem dX3_init_22 : decode cX3_init 22 = .ok (.return_, 1) := by decide +kernel
theorem dX3_print_0 : decode cX3_print 0 = .ok (.aload_n 0, 1) := by decide +kernel
theorem dX3_print_1 : decode cX3_print 1 = .ok (.iload_n 1, 1) := by decide +kernel
theorem dX3_print_2 : decode cX3_print 2 = .ok (.iload_n 2, 1) := by decide +kernel
theorem dX3_print_3 : decode cX3_print 3 = .ok (.iload_n 3, 1) := by decide +kernel
theorem dX3_print_4 : decode cX3_print 4 = .ok (.iload_n 3, 1) := by decide +kernel
theorem dX3_print_5 : decode cX3_print 5 = .ok (.invokevirtual 23, 3) := by decide +kernel
theorem dX3_print_8 : decode cX3_print 8 = .ok (.aload_n 0, 1) := by decide +kernel
theorem dX3_print_9 : decode cX3_print 9 = .ok (.aload_n 0, 1) := by decide +kernel
theorem dX3_print_10 : decode cX3_print 10 = .ok (.getfield 15, 3) := by decide +kernel
theorem dX3_print_13 : decode cX3_print 13 = .ok (.iload_n 1, 1) := by decide +kernel
theorem dX3_print_14 : decode cX3_print 14 = .ok (.iload_n 2, 1) := by decide +kernel
theorem dX3_print_15 : decode cX3_print 15 = .ok (.iload_n 3, 1) := by decide +kernel
theorem dX3_print_16 : decode cX3_print 16 = .ok (.invokevirtual 27, 3) := by decide +kernel
theorem dX3_print_19 : decode cX3_print 19 = .ok (.putfield 33, 3) := by decide +kernel
theorem dX3_print_22 : decode cX3_print 22 = .ok (.aload_n 0, 1) := by decide +kernel
theorem dX3_print_23 : decode cX3_print 23 = .ok (.iload_n 2, 1) := by decide +kernel
theorem dX3_print_24 : decode cX3_print 24 = .ok (.aload_n 0, 1) := by decide +kernel
theorem dX3_print_25 : decode cX3_print 25 = .ok (.getfield 15, 3) := by decide +kernel
theorem dX3_print_28 : decode cX3_print 28 = .ok (.getfield 37, 3) := by decide +kernel
theorem dX3_print_31 : decode cX3_print 31 = .ok (.iload_n 1, 1) := by decide +kernel
theorem dX3_print_32 : decode cX3_print 32 = .ok (.iaload, 1) := by decide +kernel
theorem dX3_print_33 : decode cX3_print 33 = .ok (.isub, 1) := by decide +kernel
theorem dX3_print_34 : decode cX3_print 34 = .ok (.iconst 0, 1) := by decide +kernel
theorem dX3_print_35 : decode cX3_print 35 = .ok (.invokevirtual 40, 3) := by decide +kernel
theorem dX3_print_38 : decode cX3_print 38 = .ok (.aload_n 0, 1) := by decide +kernel
theorem dX3_print_39 : decode cX3_print 39 = .ok (.aload_n 0, 1) := by decide +kernel
theorem dX3_print_40 : decode cX3_print 40 = .ok (.getfield 19, 3) := by decide +kernel
theorem dX3_print_43 : decode cX3_print 43 = .ok (.iconst 3, 1) := by decide +kernel
theorem dX3_print_44 : decode cX3_print 44 = .ok (.iload_n 2, 1) := by decide +kernel
theorem dX3_print_45 : decode cX3_print 45 = .ok (.aload_n 0, 1) := by decide +kernel
theorem dX3_print_46 : decode cX3_print 46 = .ok (.getfield 9, 3) := by decide +kernel
theorem dX3_print_49 : decode cX3_print 49 = .ok (.invokevirtual 44, 3) := by decide +kernel
theorem dX3_print_52 : decode cX3_print 52 = .ok (.putfield 50, 3) := by decide +kernel
theorem dX3_print_55 : decode cX3_print 55 = .ok (.return_, 1) := by decide +kernel
theorem dX3_fateOnItsDay_0 : decode cX3_fateOnItsDay 0 = .ok (.aload_n 0, 1) := by decide +kernel
theorem dX3_fateOnItsDay_1 : decode cX3_fateOnItsDay 1 = .ok (.aload_n 0, 1) := by decide +kernel
theorem dX3_fateOnItsDay_2 : decode cX3_fateOnItsDay 2 = .ok (.getfield 15, 3) := by decide +kernel
theorem dX3_fateOnItsDay_5 : decode cX3_fateOnItsDay 5 = .ok (.getfield 54, 3) := by decide +kernel
theorem dX3_fateOnItsDay_8 : decode cX3_fateOnItsDay 8 = .ok (.iload_n 1, 1) := by decide +kernel
theorem dX3_fateOnItsDay_9 : decode cX3_fateOnItsDay 9 = .ok (.iaload, 1) := by decide +kernel
theorem dX3_fateOnItsDay_10 : decode cX3_fateOnItsDay 10 = .ok (.aload_n 0, 1) := by decide +kernel
theorem dX3_fateOnItsDay_11 : decode cX3_fateOnItsDay 11 = .ok (.getfield 15, 3) := by decide +kernel
theorem dX3_fateOnItsDay_14 : decode cX3_fateOnItsDay 14 = .ok (.getfield 37, 3) := by decide +kernel
theorem dX3_fateOnItsDay_17 : decode cX3_fateOnItsDay 17 = .ok (.iload_n 1, 1) := by decide +kernel
theorem dX3_fateOnItsDay_18 : decode cX3_fateOnItsDay 18 = .ok (.iaload, 1) := by decide +kernel
theorem dX3_fateOnItsDay_19 : decode cX3_fateOnItsDay 19 = .ok (.iload_n 2, 1) := by decide +kernel
theorem dX3_fateOnItsDay_20 : decode cX3_fateOnItsDay 20 = .ok (.iload_n 1, 1) := by decide +kernel
theorem dX3_fateOnItsDay_21 : decode cX3_fateOnItsDay 21 = .ok (.invokevirtual 23, 3) := by decide +kernel
theorem dX3_fateOnItsDay_24 : decode cX3_fateOnItsDay 24 = .ok (.aload_n 0, 1) := by decide +kernel
theorem dX3_fateOnItsDay_25 : decode cX3_fateOnItsDay 25 = .ok (.iload_n 1, 1) := by decide +kernel
theorem dX3_fateOnItsDay_26 : decode cX3_fateOnItsDay 26 = .ok (.iload_n 2, 1) := by decide +kernel
theorem dX3_fateOnItsDay_27 : decode cX3_fateOnItsDay 27 = .ok (.invokevirtual 57, 3) := by decide +kernel
theorem dX3_fateOnItsDay_30 : decode cX3_fateOnItsDay 30 = .ok (.ireturn, 1) := by decide +kernel
theorem dX3_keptFromCourt_0 : decode cX3_keptFromCourt 0 = .ok (.aload_n 0, 1) := by decide +kernel
theorem dX3_keptFromCourt_1 : decode cX3_keptFromCourt 1 = .ok (.getfield 19, 3) := by decide +kernel
theorem dX3_keptFromCourt_4 : decode cX3_keptFromCourt 4 = .ok (.iconst 4, 1) := by decide +kernel
theorem dX3_keptFromCourt_5 : decode cX3_keptFromCourt 5 = .ok (.iload_n 1, 1) := by decide +kernel
theorem dX3_keptFromCourt_6 : decode cX3_keptFromCourt 6 = .ok (.aload_n 0, 1) := by decide +kernel
theorem dX3_keptFromCourt_7 : decode cX3_keptFromCourt 7 = .ok (.getfield 9, 3) := by decide +kernel
theorem dX3_keptFromCourt_10 : decode cX3_keptFromCourt 10 = .ok (.invokevirtual 44, 3) := by decide +kernel
theorem dX3_keptFromCourt_13 : decode cX3_keptFromCourt 13 = .ok (.ireturn, 1) := by decide +kernel
theorem dX3_mendAll_0 : decode cX3_mendAll 0 = .ok (.aload_n 0, 1) := by decide +kernel
theorem dX3_mendAll_1 : decode cX3_mendAll 1 = .ok (.iload_n 1, 1) := by decide +kernel
theorem dX3_mendAll_2 : decode cX3_mendAll 2 = .ok (.iload_n 3, 1) := by decide +kernel
theorem dX3_mendAll_3 : decode cX3_mendAll 3 = .ok (.invokevirtual 61, 3) := by decide +kernel
theorem dX3_mendAll_6 : decode cX3_mendAll 6 = .ok (.iload_n 1, 1) := by decide +kernel
theorem dX3_mendAll_7 : decode cX3_mendAll 7 = .ok (.iconst 1, 1) := by decide +kernel
theorem dX3_mendAll_8 : decode cX3_mendAll 8 = .ok (.iadd, 1) := by decide +kernel
theorem dX3_mendAll_9 : decode cX3_mendAll 9 = .ok (.istore 5, 2) := by decide +kernel
theorem dX3_mendAll_11 : decode cX3_mendAll 11 = .ok (.iload 5, 2) := by decide +kernel
theorem dX3_mendAll_13 : decode cX3_mendAll 13 = .ok (.iload 4, 2) := by decide +kernel
theorem dX3_mendAll_15 : decode cX3_mendAll 15 = .ok (.if_icmp .ge 57, 3) := by decide +kernel
theorem dX3_mendAll_18 : decode cX3_mendAll 18 = .ok (.aload_n 0, 1) := by decide +kernel
theorem dX3_mendAll_19 : decode cX3_mendAll 19 = .ok (.getfield 15, 3) := by decide +kernel
theorem dX3_mendAll_22 : decode cX3_mendAll 22 = .ok (.iload 5, 2) := by decide +kernel
theorem dX3_mendAll_24 : decode cX3_mendAll 24 = .ok (.iload_n 1, 1) := by decide +kernel
theorem dX3_mendAll_25 : decode cX3_mendAll 25 = .ok (.iload_n 2, 1) := by decide +kernel
theorem dX3_mendAll_26 : decode cX3_mendAll 26 = .ok (.invokevirtual 64, 3) := by decide +kernel
theorem dX3_mendAll_29 : decode cX3_mendAll 29 = .ok (.ifCond .eq 37, 3) := by decide +kernel
theorem dX3_mendAll_32 : decode cX3_mendAll 32 = .ok (.aload_n 0, 1) := by decide +kernel
theorem dX3_mendAll_33 : decode cX3_mendAll 33 = .ok (.iload 5, 2) := by decide +kernel
theorem dX3_mendAll_35 : decode cX3_mendAll 35 = .ok (.iload_n 3, 1) := by decide +kernel
theorem dX3_mendAll_36 : decode cX3_mendAll 36 = .ok (.invokevirtual 57, 3) := by decide +kernel
theorem dX3_mendAll_39 : decode cX3_mendAll 39 = .ok (.ifCond .ne 27, 3) := by decide +kernel
theorem dX3_mendAll_42 : decode cX3_mendAll 42 = .ok (.aload_n 0, 1) := by decide +kernel
theorem dX3_mendAll_43 : decode cX3_mendAll 43 = .ok (.aload_n 0, 1) := by decide +kernel
theorem dX3_mendAll_44 : decode cX3_mendAll 44 = .ok (.getfield 15, 3) := by decide +kernel
theorem dX3_mendAll_47 : decode cX3_mendAll 47 = .ok (.getfield 67, 3) := by decide +kernel
theorem dX3_mendAll_50 : decode cX3_mendAll 50 = .ok (.iload 5, 2) := by decide +kernel
theorem dX3_mendAll_52 : decode cX3_mendAll 52 = .ok (.iaload, 1) := by decide +kernel
theorem dX3_mendAll_53 : decode cX3_mendAll 53 = .ok (.putfield 70, 3) := by decide +kernel
theorem dX3_mendAll_56 : decode cX3_mendAll 56 = .ok (.aload_n 0, 1) := by decide +kernel
theorem dX3_mendAll_57 : decode cX3_mendAll 57 = .ok (.dup, 1) := by decide +kernel
theorem dX3_mendAll_58 : decode cX3_mendAll 58 = .ok (.getfield 72, 3) := by decide +kernel
theorem dX3_mendAll_61 : decode cX3_mendAll 61 = .ok (.iconst 1, 1) := by decide +kernel
theorem dX3_mendAll_62 : decode cX3_mendAll 62 = .ok (.iadd, 1) := by decide +kernel
theorem dX3_mendAll_63 : decode cX3_mendAll 63 = .ok (.putfield 72, 3) := by decide +kernel
theorem dX3_mendAll_66 : decode cX3_mendAll 66 = .ok (.iinc 5 1, 3) := by decide +kernel
theorem dX3_mendAll_69 : decode cX3_mendAll 69 = .ok (.goto (-58), 3) := by decide +kernel
theorem dX3_mendAll_72 : decode cX3_mendAll 72 = .ok (.return_, 1) := by decide +kernel
theorem dX3_putRight_0 : decode cX3_putRight 0 = .ok (.aload_n 0, 1) := by decide +kernel
theorem dX3_putRight_1 : decode cX3_putRight 1 = .ok (.getfield 15, 3) := by decide +kernel
theorem dX3_putRight_4 : decode cX3_putRight 4 = .ok (.getfield 37, 3) := by decide +kernel
theorem dX3_putRight_7 : decode cX3_putRight 7 = .ok (.iload_n 1, 1) := by decide +kernel
theorem dX3_putRight_8 : decode cX3_putRight 8 = .ok (.iaload, 1) := by decide +kernel
theorem dX3_putRight_9 : decode cX3_putRight 9 = .ok (.istore_n 3, 1) := by decide +kernel
theorem dX3_putRight_10 : decode cX3_putRight 10 = .ok (.aload_n 0, 1) := by decide +kernel
theorem dX3_putRight_11 : decode cX3_putRight 11 = .ok (.aload_n 0, 1) := by decide +kernel
theorem dX3_putRight_12 : decode cX3_putRight 12 = .ok (.getfield 15, 3) := by decide +kernel
theorem dX3_putRight_15 : decode cX3_putRight 15 = .ok (.aload_n 0, 1) := by decide +kernel
theorem dX3_putRight_16 : decode cX3_putRight 16 = .ok (.getfield 15, 3) := by decide +kernel
theorem dX3_putRight_19 : decode cX3_putRight 19 = .ok (.getfield 75, 3) := by decide +kernel
theorem dX3_putRight_22 : decode cX3_putRight 22 = .ok (.iload_n 1, 1) := by decide +kernel
theorem dX3_putRight_23 : decode cX3_putRight 23 = .ok (.iaload, 1) := by decide +kernel
theorem dX3_putRight_24 : decode cX3_putRight 24 = .ok (.iload_n 3, 1) := by decide +kernel
theorem dX3_putRight_25 : decode cX3_putRight 25 = .ok (.iload_n 2, 1) := by decide +kernel
theorem dX3_putRight_26 : decode cX3_putRight 26 = .ok (.invokevirtual 78, 3) := by decide +kernel
theorem dX3_putRight_29 : decode cX3_putRight 29 = .ok (.putfield 82, 3) := by decide +kernel
theorem dX3_putRight_32 : decode cX3_putRight 32 = .ok (.aload_n 0, 1) := by decide +kernel
theorem dX3_putRight_33 : decode cX3_putRight 33 = .ok (.aload_n 0, 1) := by decide +kernel
theorem dX3_putRight_34 : decode cX3_putRight 34 = .ok (.getfield 15, 3) := by decide +kernel
theorem dX3_putRight_37 : decode cX3_putRight 37 = .ok (.getfield 67, 3) := by decide +kernel
theorem dX3_putRight_40 : decode cX3_putRight 40 = .ok (.iload_n 1, 1) := by decide +kernel
theorem dX3_putRight_41 : decode cX3_putRight 41 = .ok (.iaload, 1) := by decide +kernel
theorem dX3_putRight_42 : decode cX3_putRight 42 = .ok (.putfield 70, 3) := by decide +kernel
theorem dX3_putRight_45 : decode cX3_putRight 45 = .ok (.aload_n 0, 1) := by decide +kernel
theorem dX3_putRight_46 : decode cX3_putRight 46 = .ok (.iconst 0, 1) := by decide +kernel
theorem dX3_putRight_47 : decode cX3_putRight 47 = .ok (.putfield 72, 3) := by decide +kernel
theorem dX3_putRight_50 : decode cX3_putRight 50 = .ok (.aload_n 0, 1) := by decide +kernel
theorem dX3_putRight_51 : decode cX3_putRight 51 = .ok (.getfield 9, 3) := by decide +kernel
theorem dX3_putRight_54 : decode cX3_putRight 54 = .ok (.iconst 1, 1) := by decide +kernel
theorem dX3_putRight_55 : decode cX3_putRight 55 = .ok (.aload_n 0, 1) := by decide +kernel
theorem dX3_putRight_56 : decode cX3_putRight 56 = .ok (.getfield 70, 3) := by decide +kernel
theorem dX3_putRight_59 : decode cX3_putRight 59 = .ok (.iastore, 1) := by decide +kernel
theorem dX3_putRight_60 : decode cX3_putRight 60 = .ok (.aload_n 0, 1) := by decide +kernel
theorem dX3_putRight_61 : decode cX3_putRight 61 = .ok (.getfield 9, 3) := by decide +kernel
theorem dX3_putRight_64 : decode cX3_putRight 64 = .ok (.iconst 2, 1) := by decide +kernel
theorem dX3_putRight_65 : decode cX3_putRight 65 = .ok (.aload_n 0, 1) := by decide +kernel
theorem dX3_putRight_66 : decode cX3_putRight 66 = .ok (.getfield 15, 3) := by decide +kernel
theorem dX3_putRight_69 : decode cX3_putRight 69 = .ok (.iload_n 1, 1) := by decide +kernel
theorem dX3_putRight_70 : decode cX3_putRight 70 = .ok (.iload_n 2, 1) := by decide +kernel
theorem dX3_putRight_71 : decode cX3_putRight 71 = .ok (.invokevirtual 84, 3) := by decide +kernel
theorem dX3_putRight_74 : decode cX3_putRight 74 = .ok (.iastore, 1) := by decide +kernel
theorem dX3_putRight_75 : decode cX3_putRight 75 = .ok (.aload_n 0, 1) := by decide +kernel
theorem dX3_putRight_76 : decode cX3_putRight 76 = .ok (.getfield 9, 3) := by decide +kernel
theorem dX3_putRight_79 : decode cX3_putRight 79 = .ok (.iconst 3, 1) := by decide +kernel
theorem dX3_putRight_80 : decode cX3_putRight 80 = .ok (.aload_n 0, 1) := by decide +kernel
theorem dX3_putRight_81 : decode cX3_putRight 81 = .ok (.getfield 15, 3) := by decide +kernel
theorem dX3_putRight_84 : decode cX3_putRight 84 = .ok (.getfield 87, 3) := by decide +kernel
theorem dX3_putRight_87 : decode cX3_putRight 87 = .ok (.iload_n 1, 1) := by decide +kernel
theorem dX3_putRight_88 : decode cX3_putRight 88 = .ok (.iaload, 1) := by decide +kernel
theorem dX3_putRight_89 : decode cX3_putRight 89 = .ok (.iastore, 1) := by decide +kernel
theorem dX3_putRight_90 : decode cX3_putRight 90 = .ok (.aload_n 0, 1) := by decide +kernel
theorem dX3_putRight_91 : decode cX3_putRight 91 = .ok (.getfield 9, 3) := by decide +kernel
theorem dX3_putRight_94 : decode cX3_putRight 94 = .ok (.iconst 4, 1) := by decide +kernel
theorem dX3_putRight_95 : decode cX3_putRight 95 = .ok (.aload_n 0, 1) := by decide +kernel
theorem dX3_putRight_96 : decode cX3_putRight 96 = .ok (.getfield 15, 3) := by decide +kernel
theorem dX3_putRight_99 : decode cX3_putRight 99 = .ok (.getfield 90, 3) := by decide +kernel
theorem dX3_putRight_102 : decode cX3_putRight 102 = .ok (.iload_n 1, 1) := by decide +kernel
theorem dX3_putRight_103 : decode cX3_putRight 103 = .ok (.iaload, 1) := by decide +kernel
theorem dX3_putRight_104 : decode cX3_putRight 104 = .ok (.iastore, 1) := by decide +kernel
theorem dX3_putRight_105 : decode cX3_putRight 105 = .ok (.aload_n 0, 1) := by decide +kernel
theorem dX3_putRight_106 : decode cX3_putRight 106 = .ok (.getfield 9, 3) := by decide +kernel
theorem dX3_putRight_109 : decode cX3_putRight 109 = .ok (.iconst 5, 1) := by decide +kernel
theorem dX3_putRight_110 : decode cX3_putRight 110 = .ok (.aload_n 0, 1) := by decide +kernel
theorem dX3_putRight_111 : decode cX3_putRight 111 = .ok (.getfield 82, 3) := by decide +kernel
theorem dX3_putRight_114 : decode cX3_putRight 114 = .ok (.bipush (-2), 2) := by decide +kernel
theorem dX3_putRight_116 : decode cX3_putRight 116 = .ok (.if_icmp .ne 7, 3) := by decide +kernel
theorem dX3_putRight_119 : decode cX3_putRight 119 = .ok (.iconst 0, 1) := by decide +kernel
theorem dX3_putRight_120 : decode cX3_putRight 120 = .ok (.goto 9, 3) := by decide +kernel
theorem dX3_putRight_123 : decode cX3_putRight 123 = .ok (.aload_n 0, 1) := by decide +kernel
theorem dX3_putRight_124 : decode cX3_putRight 124 = .ok (.getfield 82, 3) := by decide +kernel
theorem dX3_putRight_127 : decode cX3_putRight 127 = .ok (.iconst 1, 1) := by decide +kernel
theorem dX3_putRight_128 : decode cX3_putRight 128 = .ok (.iadd, 1) := by decide +kernel
theorem dX3_putRight_129 : decode cX3_putRight 129 = .ok (.iastore, 1) := by decide +kernel
theorem dX3_putRight_130 : decode cX3_putRight 130 = .ok (.aload_n 0, 1) := by decide +kernel
theorem dX3_putRight_131 : decode cX3_putRight 131 = .ok (.getfield 9, 3) := by decide +kernel
theorem dX3_putRight_134 : decode cX3_putRight 134 = .ok (.bipush 6, 2) := by decide +kernel
theorem dX3_putRight_136 : decode cX3_putRight 136 = .ok (.aload_n 0, 1) := by decide +kernel
theorem dX3_putRight_137 : decode cX3_putRight 137 = .ok (.getfield 82, 3) := by decide +kernel
theorem dX3_putRight_140 : decode cX3_putRight 140 = .ok (.bipush (-2), 2) := by decide +kernel
theorem dX3_putRight_142 : decode cX3_putRight 142 = .ok (.if_icmp .ne 7, 3) := by decide +kernel
theorem dX3_putRight_145 : decode cX3_putRight 145 = .ok (.iconst 0, 1) := by decide +kernel
theorem dX3_putRight_146 : decode cX3_putRight 146 = .ok (.goto 15, 3) := by decide +kernel
theorem dX3_putRight_149 : decode cX3_putRight 149 = .ok (.aload_n 0, 1) := by decide +kernel
theorem dX3_putRight_150 : decode cX3_putRight 150 = .ok (.getfield 15, 3) := by decide +kernel
theorem dX3_putRight_153 : decode cX3_putRight 153 = .ok (.aload_n 0, 1) := by decide +kernel
theorem dX3_putRight_154 : decode cX3_putRight 154 = .ok (.getfield 82, 3) := by decide +kernel
theorem dX3_putRight_157 : decode cX3_putRight 157 = .ok (.iload_n 2, 1) := by decide +kernel
theorem dX3_putRight_158 : decode cX3_putRight 158 = .ok (.invokevirtual 93, 3) := by decide +kernel
theorem dX3_putRight_161 : decode cX3_putRight 161 = .ok (.iastore, 1) := by decide +kernel
theorem dX3_putRight_162 : decode cX3_putRight 162 = .ok (.aload_n 0, 1) := by decide +kernel
theorem dX3_putRight_163 : decode cX3_putRight 163 = .ok (.getfield 9, 3) := by decide +kernel
theorem dX3_putRight_166 : decode cX3_putRight 166 = .ok (.bipush 9, 2) := by decide +kernel
theorem dX3_putRight_168 : decode cX3_putRight 168 = .ok (.aload_n 0, 1) := by decide +kernel
theorem dX3_putRight_169 : decode cX3_putRight 169 = .ok (.getfield 15, 3) := by decide +kernel
theorem dX3_putRight_172 : decode cX3_putRight 172 = .ok (.iload_n 1, 1) := by decide +kernel
theorem dX3_putRight_173 : decode cX3_putRight 173 = .ok (.iload_n 2, 1) := by decide +kernel
theorem dX3_putRight_174 : decode cX3_putRight 174 = .ok (.invokevirtual 96, 3) := by decide +kernel
theorem dX3_putRight_177 : decode cX3_putRight 177 = .ok (.iastore, 1) := by decide +kernel
theorem dX3_putRight_178 : decode cX3_putRight 178 = .ok (.aload_n 0, 1) := by decide +kernel
theorem dX3_putRight_179 : decode cX3_putRight 179 = .ok (.getfield 9, 3) := by decide +kernel
theorem dX3_putRight_182 : decode cX3_putRight 182 = .ok (.bipush 11, 2) := by decide +kernel
theorem dX3_putRight_184 : decode cX3_putRight 184 = .ok (.aload_n 0, 1) := by decide +kernel
theorem dX3_putRight_185 : decode cX3_putRight 185 = .ok (.getfield 15, 3) := by decide +kernel
theorem dX3_putRight_188 : decode cX3_putRight 188 = .ok (.iload_n 1, 1) := by decide +kernel
theorem dX3_putRight_189 : decode cX3_putRight 189 = .ok (.iload_n 2, 1) := by decide +kernel
theorem dX3_putRight_190 : decode cX3_putRight 190 = .ok (.invokevirtual 99, 3) := by decide +kernel
theorem dX3_putRight_193 : decode cX3_putRight 193 = .ok (.iastore, 1) := by decide +kernel
theorem dX3_putRight_194 : decode cX3_putRight 194 = .ok (.aload_n 0, 1) := by decide +kernel
theorem dX3_putRight_195 : decode cX3_putRight 195 = .ok (.iconst 0, 1) := by decide +kernel
theorem dX3_putRight_196 : decode cX3_putRight 196 = .ok (.iconst 0, 1) := by decide +kernel
theorem dX3_putRight_197 : decode cX3_putRight 197 = .ok (.invokevirtual 40, 3) := by decide +kernel
theorem dX3_putRight_200 : decode cX3_putRight 200 = .ok (.aload_n 0, 1) := by decide +kernel
theorem dX3_putRight_201 : decode cX3_putRight 201 = .ok (.aload_n 0, 1) := by decide +kernel
theorem dX3_putRight_202 : decode cX3_putRight 202 = .ok (.getfield 19, 3) := by decide +kernel
theorem dX3_putRight_205 : decode cX3_putRight 205 = .ok (.iconst 0, 1) := by decide +kernel
theorem dX3_putRight_206 : decode cX3_putRight 206 = .ok (.iload_n 3, 1) := by decide +kernel
theorem dX3_putRight_207 : decode cX3_putRight 207 = .ok (.aload_n 0, 1) := by decide +kernel
theorem dX3_putRight_208 : decode cX3_putRight 208 = .ok (.getfield 9, 3) := by decide +kernel
theorem dX3_putRight_211 : decode cX3_putRight 211 = .ok (.invokevirtual 44, 3) := by decide +kernel
theorem dX3_putRight_214 : decode cX3_putRight 214 = .ok (.putfield 102, 3) := by decide +kernel
theorem dX3_putRight_217 : decode cX3_putRight 217 = .ok (.aload_n 0, 1) := by decide +kernel
theorem dX3_putRight_218 : decode cX3_putRight 218 = .ok (.getfield 102, 3) := by decide +kernel
theorem dX3_putRight_221 : decode cX3_putRight 221 = .ok (.bipush (-2), 2) := by decide +kernel
theorem dX3_putRight_223 : decode cX3_putRight 223 = .ok (.if_icmp .eq 37, 3) := by decide +kernel
theorem dX3_putRight_226 : decode cX3_putRight 226 = .ok (.aload_n 0, 1) := by decide +kernel
theorem dX3_putRight_227 : decode cX3_putRight 227 = .ok (.getfield 19, 3) := by decide +kernel
theorem dX3_putRight_230 : decode cX3_putRight 230 = .ok (.iload_n 3, 1) := by decide +kernel
theorem dX3_putRight_231 : decode cX3_putRight 231 = .ok (.aload_n 0, 1) := by decide +kernel
theorem dX3_putRight_232 : decode cX3_putRight 232 = .ok (.getfield 102, 3) := by decide +kernel
theorem dX3_putRight_235 : decode cX3_putRight 235 = .ok (.aload_n 0, 1) := by decide +kernel
theorem dX3_putRight_236 : decode cX3_putRight 236 = .ok (.getfield 9, 3) := by decide +kernel
theorem dX3_putRight_239 : decode cX3_putRight 239 = .ok (.invokevirtual 105, 3) := by decide +kernel
theorem dX3_putRight_242 : decode cX3_putRight 242 = .ok (.istore 4, 2) := by decide +kernel
theorem dX3_putRight_244 : decode cX3_putRight 244 = .ok (.aload_n 0, 1) := by decide +kernel
theorem dX3_putRight_245 : decode cX3_putRight 245 = .ok (.iconst 0, 1) := by decide +kernel
theorem dX3_putRight_246 : decode cX3_putRight 246 = .ok (.sipush 999, 3) := by decide +kernel
theorem dX3_putRight_249 : decode cX3_putRight 249 = .ok (.iload 4, 2) := by decide +kernel
theorem dX3_putRight_251 : decode cX3_putRight 251 = .ok (.invokestatic 108, 3) := by decide +kernel
theorem dX3_putRight_254 : decode cX3_putRight 254 = .ok (.invokestatic 113, 3) := by decide +kernel
theorem dX3_putRight_257 : decode cX3_putRight 257 = .ok (.putfield 70, 3) := by decide +kernel
theorem dX3_putRight_260 : decode cX3_putRight 260 = .ok (.return_, 1) := by decide +kernel
theorem dX3_fate_0 : decode cX3_fate 0 = .ok (.aload_n 0, 1) := by decide +kernel
theorem dX3_fate_1 : decode cX3_fate 1 = .ok (.getfield 15, 3) := by decide +kernel
theorem dX3_fate_4 : decode cX3_fate 4 = .ok (.getfield 54, 3) := by decide +kernel
theorem dX3_fate_7 : decode cX3_fate 7 = .ok (.iload_n 1, 1) := by decide +kernel
theorem dX3_fate_8 : decode cX3_fate 8 = .ok (.iaload, 1) := by decide +kernel
theorem dX3_fate_9 : decode cX3_fate 9 = .ok (.istore_n 3, 1) := by decide +kernel
theorem dX3_fate_10 : decode cX3_fate 10 = .ok (.aload_n 0, 1) := by decide +kernel
theorem dX3_fate_11 : decode cX3_fate 11 = .ok (.getfield 15, 3) := by decide +kernel
theorem dX3_fate_14 : decode cX3_fate 14 = .ok (.getfield 37, 3) := by decide +kernel
theorem dX3_fate_17 : decode cX3_fate 17 = .ok (.iload_n 1, 1) := by decide +kernel
theorem dX3_fate_18 : decode cX3_fate 18 = .ok (.iaload, 1) := by decide +kernel
theorem dX3_fate_19 : decode cX3_fate 19 = .ok (.istore 4, 2) := by decide +kernel
theorem dX3_fate_21 : decode cX3_fate 21 = .ok (.iload 4, 2) := by decide +kernel
theorem dX3_fate_23 : decode cX3_fate 23 = .ok (.aload_n 0, 1) := by decide +kernel
theorem dX3_fate_24 : decode cX3_fate 24 = .ok (.getfield 15, 3) := by decide +kernel
theorem dX3_fate_27 : decode cX3_fate 27 = .ok (.getfield 37, 3) := by decide +kernel
theorem dX3_fate_30 : decode cX3_fate 30 = .ok (.iload_n 3, 1) := by decide +kernel
theorem dX3_fate_31 : decode cX3_fate 31 = .ok (.iaload, 1) := by decide +kernel
theorem dX3_fate_32 : decode cX3_fate 32 = .ok (.if_icmp .ge 5, 3) := by decide +kernel
theorem dX3_fate_35 : decode cX3_fate 35 = .ok (.iconst 1, 1) := by decide +kernel
theorem dX3_fate_36 : decode cX3_fate 36 = .ok (.ireturn, 1) := by decide +kernel
theorem dX3_fate_37 : decode cX3_fate 37 = .ok (.aload_n 0, 1) := by decide +kernel
theorem dX3_fate_38 : decode cX3_fate 38 = .ok (.getfield 15, 3) := by decide +kernel
theorem dX3_fate_41 : decode cX3_fate 41 = .ok (.iload_n 3, 1) := by decide +kernel
theorem dX3_fate_42 : decode cX3_fate 42 = .ok (.iload 4, 2) := by decide +kernel
theorem dX3_fate_44 : decode cX3_fate 44 = .ok (.iload_n 2, 1) := by decide +kernel
theorem dX3_fate_45 : decode cX3_fate 45 = .ok (.invokevirtual 27, 3) := by decide +kernel
theorem dX3_fate_48 : decode cX3_fate 48 = .ok (.ifCond .eq 5, 3) := by decide +kernel
theorem dX3_fate_51 : decode cX3_fate 51 = .ok (.iconst 2, 1) := by decide +kernel
theorem dX3_fate_52 : decode cX3_fate 52 = .ok (.ireturn, 1) := by decide +kernel
theorem dX3_fate_53 : decode cX3_fate 53 = .ok (.aload_n 0, 1) := by decide +kernel
theorem dX3_fate_54 : decode cX3_fate 54 = .ok (.iload 4, 2) := by decide +kernel
theorem dX3_fate_56 : decode cX3_fate 56 = .ok (.aload_n 0, 1) := by decide +kernel
theorem dX3_fate_57 : decode cX3_fate 57 = .ok (.getfield 15, 3) := by decide +kernel
theorem dX3_fate_60 : decode cX3_fate 60 = .ok (.getfield 37, 3) := by decide +kernel
theorem dX3_fate_63 : decode cX3_fate 63 = .ok (.iload_n 3, 1) := by decide +kernel
theorem dX3_fate_64 : decode cX3_fate 64 = .ok (.iaload, 1) := by decide +kernel
theorem dX3_fate_65 : decode cX3_fate 65 = .ok (.isub, 1) := by decide +kernel
theorem dX3_fate_66 : decode cX3_fate 66 = .ok (.aload_n 0, 1) := by decide +kernel
theorem dX3_fate_67 : decode cX3_fate 67 = .ok (.getfield 15, 3) := by decide +kernel
theorem dX3_fate_70 : decode cX3_fate 70 = .ok (.getfield 67, 3) := by decide +kernel
theorem dX3_fate_73 : decode cX3_fate 73 = .ok (.iload_n 1, 1) := by decide +kernel
theorem dX3_fate_74 : decode cX3_fate 74 = .ok (.iaload, 1) := by decide +kernel
theorem dX3_fate_75 : decode cX3_fate 75 = .ok (.invokevirtual 40, 3) := by decide +kernel
theorem dX3_fate_78 : decode cX3_fate 78 = .ok (.aload_n 0, 1) := by decide +kernel
theorem dX3_fate_79 : decode cX3_fate 79 = .ok (.getfield 19, 3) := by decide +kernel
theorem dX3_fate_82 : decode cX3_fate 82 = .ok (.iconst 1, 1) := by decide +kernel
theorem dX3_fate_83 : decode cX3_fate 83 = .ok (.iload 4, 2) := by decide +kernel
theorem dX3_fate_85 : decode cX3_fate 85 = .ok (.aload_n 0, 1) := by decide +kernel
theorem dX3_fate_86 : decode cX3_fate 86 = .ok (.getfield 9, 3) := by decide +kernel
theorem dX3_fate_89 : decode cX3_fate 89 = .ok (.invokevirtual 44, 3) := by decide +kernel
theorem dX3_fate_92 : decode cX3_fate 92 = .ok (.bipush (-2), 2) := by decide +kernel
theorem dX3_fate_94 : decode cX3_fate 94 = .ok (.if_icmp .ne 5, 3) := by decide +kernel
theorem dX3_fate_97 : decode cX3_fate 97 = .ok (.iconst 3, 1) := by decide +kernel
theorem dX3_fate_98 : decode cX3_fate 98 = .ok (.ireturn, 1) := by decide +kernel
theorem dX3_fate_99 : decode cX3_fate 99 = .ok (.aload_n 0, 1) := by decide +kernel
theorem dX3_fate_100 : decode cX3_fate 100 = .ok (.aload_n 0, 1) := by decide +kernel
theorem dX3_fate_101 : decode cX3_fate 101 = .ok (.getfield 19, 3) := by decide +kernel
theorem dX3_fate_104 : decode cX3_fate 104 = .ok (.iconst 2, 1) := by decide +kernel
theorem dX3_fate_105 : decode cX3_fate 105 = .ok (.iload 4, 2) := by decide +kernel
theorem dX3_fate_107 : decode cX3_fate 107 = .ok (.aload_n 0, 1) := by decide +kernel
theorem dX3_fate_108 : decode cX3_fate 108 = .ok (.getfield 9, 3) := by decide +kernel
theorem dX3_fate_111 : decode cX3_fate 111 = .ok (.invokevirtual 44, 3) := by decide +kernel
theorem dX3_fate_114 : decode cX3_fate 114 = .ok (.putfield 116, 3) := by decide +kernel
theorem dX3_fate_117 : decode cX3_fate 117 = .ok (.aload_n 0, 1) := by decide +kernel
theorem dX3_fate_118 : decode cX3_fate 118 = .ok (.getfield 116, 3) := by decide +kernel
theorem dX3_fate_121 : decode cX3_fate 121 = .ok (.bipush (-2), 2) := by decide +kernel
theorem dX3_fate_123 : decode cX3_fate 123 = .ok (.if_icmp .ne 7, 3) := by decide +kernel
theorem dX3_fate_126 : decode cX3_fate 126 = .ok (.iconst 0, 1) := by decide +kernel
theorem dX3_fate_127 : decode cX3_fate 127 = .ok (.goto 4, 3) := by decide +kernel
theorem dX3_fate_130 : decode cX3_fate 130 = .ok (.iconst 4, 1) := by decide +kernel
theorem dX3_fate_131 : decode cX3_fate 131 = .ok (.ireturn, 1) := by decide +kernel
theorem dX3_setVariables_0 : decode cX3_setVariables 0 = .ok (.aload_n 0, 1) := by decide +kernel
theorem dX3_setVariables_1 : decode cX3_setVariables 1 = .ok (.getfield 9, 3) := by decide +kernel
theorem dX3_setVariables_4 : decode cX3_setVariables 4 = .ok (.iconst 0, 1) := by decide +kernel
theorem dX3_setVariables_5 : decode cX3_setVariables 5 = .ok (.aload_n 0, 1) := by decide +kernel
theorem dX3_setVariables_6 : decode cX3_setVariables 6 = .ok (.getfield 70, 3) := by decide +kernel
theorem dX3_setVariables_9 : decode cX3_setVariables 9 = .ok (.iastore, 1) := by decide +kernel
theorem dX3_setVariables_10 : decode cX3_setVariables 10 = .ok (.aload_n 0, 1) := by decide +kernel
theorem dX3_setVariables_11 : decode cX3_setVariables 11 = .ok (.getfield 9, 3) := by decide +kernel
theorem dX3_setVariables_14 : decode cX3_setVariables 14 = .ok (.bipush 7, 2) := by decide +kernel
theorem dX3_setVariables_16 : decode cX3_setVariables 16 = .ok (.iload_n 1, 1) := by decide +kernel
theorem dX3_setVariables_17 : decode cX3_setVariables 17 = .ok (.iastore, 1) := by decide +kernel
theorem dX3_setVariables_18 : decode cX3_setVariables 18 = .ok (.aload_n 0, 1) := by decide +kernel
theorem dX3_setVariables_19 : decode cX3_setVariables 19 = .ok (.getfield 9, 3) := by decide +kernel
theorem dX3_setVariables_22 : decode cX3_setVariables 22 = .ok (.bipush 8, 2) := by decide +kernel
theorem dX3_setVariables_24 : decode cX3_setVariables 24 = .ok (.aload_n 0, 1) := by decide +kernel
theorem dX3_setVariables_25 : decode cX3_setVariables 25 = .ok (.getfield 72, 3) := by decide +kernel
theorem dX3_setVariables_28 : decode cX3_setVariables 28 = .ok (.iastore, 1) := by decide +kernel
theorem dX3_setVariables_29 : decode cX3_setVariables 29 = .ok (.aload_n 0, 1) := by decide +kernel
theorem dX3_setVariables_30 : decode cX3_setVariables 30 = .ok (.getfield 9, 3) := by decide +kernel
theorem dX3_setVariables_33 : decode cX3_setVariables 33 = .ok (.bipush 10, 2) := by decide +kernel
theorem dX3_setVariables_35 : decode cX3_setVariables 35 = .ok (.iload_n 2, 1) := by decide +kernel
theorem dX3_setVariables_36 : decode cX3_setVariables 36 = .ok (.iastore, 1) := by decide +kernel
theorem dX3_setVariables_37 : decode cX3_setVariables 37 = .ok (.return_, 1) := by decide +kernel
theorem dX4_init_0 : decode cX4_init 0 = .ok (.aload_n 0, 1) := by decide +kernel
theorem dX4_init_1 : decode cX4_init 1 = .ok (.invokespecial 3, 3) := by decide +kernel
theorem dX4_init_4 : decode cX4_init 4 = .ok (.aload_n 0, 1) := by decide +kernel
theorem dX4_init_5 : decode cX4_init 5 = .ok (.bipush 32, 2) := by decide +kernel
theorem dX4_init_7 : decode cX4_init 7 = .ok (.newarray .int, 2) := by decide +kernel
theorem dX4_init_9 : decode cX4_init 9 = .ok (.putfield 9, 3) := by decide +kernel
theorem dX4_init_12 : decode cX4_init 12 = .ok (.return_, 1) := by decide +kernel
theorem dX4_work_0 : decode cX4_work 0 = .ok (.iconst 1, 1) := by decide +kernel
theorem dX4_work_1 : decode cX4_work 1 = .ok (.istore 5, 2) := by decide +kernel
theorem dX4_work_3 : decode cX4_work 3 = .ok (.aload_n 0, 1) := by decide +kernel
theorem dX4_work_4 : decode cX4_work 4 = .ok (.iconst 0, 1) := by decide +kernel
theorem dX4_work_5 : decode cX4_work 5 = .ok (.putfield 15, 3) := by decide +kernel
theorem dX4_work_8 : decode cX4_work 8 = .ok (.aload_n 0, 1) := by decide +kernel
theorem dX4_work_9 : decode cX4_work 9 = .ok (.iconst 0, 1) := by decide +kernel
theorem dX4_work_10 : decode cX4_work 10 = .ok (.putfield 19, 3) := by decide +kernel
theorem dX4_work_13 : decode cX4_work 13 = .ok (.iconst 0, 1) := by decide +kernel
theorem dX4_work_14 : decode cX4_work 14 = .ok (.iload_n 2, 1) := by decide +kernel
theorem dX4_work_15 : decode cX4_work 15 = .ok (.invokestatic 23, 3) := by decide +kernel
theorem dX4_work_18 : decode cX4_work 18 = .ok (.istore 6, 2) := by decide +kernel
theorem dX4_work_20 : decode cX4_work 20 = .ok (.iload 6, 2) := by decide +kernel
theorem dX4_work_22 : decode cX4_work 22 = .ok (.iload_n 3, 1) := by decide +kernel
theorem dX4_work_23 : decode cX4_work 23 = .ok (.if_icmp .ge 145, 3) := by decide +kernel
theorem dX4_work_26 : decode cX4_work 26 = .ok (.iload 6, 2) := by decide +kernel
theorem dX4_work_28 : decode cX4_work 28 = .ok (.aload_n 1, 1) := by decide +kernel
theorem dX4_work_29 : decode cX4_work 29 = .ok (.arraylength, 1) := by decide +kernel
theorem dX4_work_30 : decode cX4_work 30 = .ok (.if_icmp .ge 138, 3) := by decide +kernel
theorem dX4_work_33 : decode cX4_work 33 = .ok (.aload_n 1, 1) := by decide +kernel
theorem dX4_work_34 : decode cX4_work 34 = .ok (.iload 6, 2) := by decide +kernel
theorem dX4_work_36 : decode cX4_work 36 = .ok (.iaload, 1) := by decide +kernel
theorem dX4_work_37 : decode cX4_work 37 = .ok (.istore 7, 2) := by decide +kernel
theorem dX4_work_39 : decode cX4_work 39 = .ok (.iload 7, 2) := by decide +kernel
theorem dX4_work_41 : decode cX4_work 41 = .ok (.sipush 10000, 3) := by decide +kernel
theorem dX4_work_44 : decode cX4_work 44 = .ok (.if_icmp .ge 12, 3) := by decide +kernel
theorem dX4_work_47 : decode cX4_work 47 = .ok (.aload_n 0, 1) := by decide +kernel
theorem dX4_work_48 : decode cX4_work 48 = .ok (.iload 7, 2) := by decide +kernel
theorem dX4_work_50 : decode cX4_work 50 = .ok (.invokevirtual 29, 3) := by decide +kernel
theorem dX4_work_53 : decode cX4_work 53 = .ok (.goto 109, 3) := by decide +kernel
theorem dX4_work_56 : decode cX4_work 56 = .ok (.iload 7, 2) := by decide +kernel
theorem dX4_work_58 : decode cX4_work 58 = .ok (.sipush 20000, 3) := by decide +kernel
theorem dX4_work_61 : decode cX4_work 61 = .ok (.if_icmp .ge 35, 3) := by decide +kernel
theorem dX4_work_64 : decode cX4_work 64 = .ok (.aload_n 0, 1) := by decide +kernel
theorem dX4_work_65 : decode cX4_work 65 = .ok (.iload 7, 2) := by decide +kernel
theorem dX4_work_67 : decode cX4_work 67 = .ok (.sipush 10000, 3) := by decide +kernel
theorem dX4_work_70 : decode cX4_work 70 = .ok (.isub, 1) := by decide +kernel
theorem dX4_work_71 : decode cX4_work 71 = .ok (.aload 4, 2) := by decide +kernel
theorem dX4_work_73 : decode cX4_work 73 = .ok (.arraylength, 1) := by decide +kernel
theorem dX4_work_74 : decode cX4_work 74 = .ok (.if_icmp .ge 15, 3) := by decide +kernel
theorem dX4_work_77 : decode cX4_work 77 = .ok (.aload 4, 2) := by decide +kernel
theorem dX4_work_79 : decode cX4_work 79 = .ok (.iload 7, 2) := by decide +kernel
theorem dX4_work_81 : decode cX4_work 81 = .ok (.sipush 10000, 3) := by decide +kernel
theorem dX4_work_84 : decode cX4_work 84 = .ok (.isub, 1) := by decide +kernel
theorem dX4_work_85 : decode cX4_work 85 = .ok (.iaload, 1) := by decide +kernel
theorem dX4_work_86 : decode cX4_work 86 = .ok (.goto 4, 3) := by decide +kernel
theorem dX4_work_89 : decode cX4_work 89 = .ok (.iconst 0, 1) := by decide +kernel
theorem dX4_work_90 : decode cX4_work 90 = .ok (.invokevirtual 29, 3) := by decide +kernel
theorem dX4_work_93 : decode cX4_work 93 = .ok (.goto 69, 3) := by decide +kernel
theorem dX4_work_96 : decode cX4_work 96 = .ok (.iload 7, 2) := by decide +kernel
theorem dX4_work_98 : decode cX4_work 98 = .ok (.sipush 30000, 3) := by decide +kernel
theorem dX4_work_101 : decode cX4_work 101 = .ok (.if_icmp .ge 16, 3) := by decide +kernel
theorem dX4_work_104 : decode cX4_work 104 = .ok (.aload_n 0, 1) := by decide +kernel
theorem dX4_work_105 : decode cX4_work 105 = .ok (.iload 7, 2) := by decide +kernel
theorem dX4_work_107 : decode cX4_work 107 = .ok (.sipush 20000, 3) := by decide +kernel
theorem dX4_work_110 : decode cX4_work 110 = .ok (.isub, 1) := by decide +kernel
theorem dX4_work_111 : decode cX4_work 111 = .ok (.invokevirtual 33, 3) := by decide +kernel
theorem dX4_work_114 : decode cX4_work 114 = .ok (.goto 48, 3) := by decide +kernel
theorem dX4_work_117 : decode cX4_work 117 = .ok (.iload 7, 2) := by decide +kernel
theorem dX4_work_119 : decode cX4_work 119 = .ok (.ldc 36, 2) := by decide +kernel
theorem dX4_work_121 : decode cX4_work 121 = .ok (.if_icmp .ge 31, 3) := by decide +kernel
theorem dX4_work_124 : decode cX4_work 124 = .ok (.aload_n 0, 1) := by decide +kernel
theorem dX4_work_125 : decode cX4_work 125 = .ok (.iload 7, 2) := by decide +kernel
theorem dX4_work_127 : decode cX4_work 127 = .ok (.sipush 30000, 3) := by decide +kernel
theorem dX4_work_130 : decode cX4_work 130 = .ok (.isub, 1) := by decide +kernel
theorem dX4_work_131 : decode cX4_work 131 = .ok (.invokevirtual 37, 3) := by decide +kernel
theorem dX4_work_134 : decode cX4_work 134 = .ok (.ifCond .eq 12, 3) := by decide +kernel
theorem dX4_work_137 : decode cX4_work 137 = .ok (.iload 5, 2) := by decide +kernel
theorem dX4_work_139 : decode cX4_work 139 = .ok (.ifCond .eq 7, 3) := by decide +kernel
theorem dX4_work_142 : decode cX4_work 142 = .ok (.iconst 1, 1) := by decide +kernel
theorem dX4_work_143 : decode cX4_work 143 = .ok (.goto 4, 3) := by decide +kernel
theorem dX4_work_146 : decode cX4_work 146 = .ok (.iconst 0, 1) := by decide +kernel
theorem dX4_work_147 : decode cX4_work 147 = .ok (.istore 5, 2) := by decide +kernel
theorem dX4_work_149 : decode cX4_work 149 = .ok (.goto 13, 3) := by decide +kernel
theorem dX4_work_152 : decode cX4_work 152 = .ok (.iload 5, 2) := by decide +kernel
theorem dX4_work_154 : decode cX4_work 154 = .ok (.ifCond .eq 5, 3) := by decide +kernel
theorem dX4_work_157 : decode cX4_work 157 = .ok (.iconst 1, 1) := by decide +kernel
theorem dX4_work_158 : decode cX4_work 158 = .ok (.ireturn, 1) := by decide +kernel
theorem dX4_work_159 : decode cX4_work 159 = .ok (.iconst 1, 1) := by decide +kernel
theorem dX4_work_160 : decode cX4_work 160 = .ok (.istore 5, 2) := by decide +kernel
theorem dX4_work_162 : decode cX4_work 162 = .ok (.iinc 6 1, 3) := by decide +kernel
theorem dX4_work_165 : decode cX4_work 165 = .ok (.goto (-145), 3) := by decide +kernel
theorem dX4_work_168 : decode cX4_work 168 = .ok (.iload 5, 2) := by decide +kernel
theorem dX4_work_170 : decode cX4_work 170 = .ok (.ireturn, 1) := by decide +kernel
theorem dX4_result_0 : decode cX4_result 0 = .ok (.aload_n 0, 1) := by decide +kernel
theorem dX4_result_1 : decode cX4_result 1 = .ok (.getfield 15, 3) := by decide +kernel
theorem dX4_result_4 : decode cX4_result 4 = .ok (.iconst 1, 1) := by decide +kernel
theorem dX4_result_5 : decode cX4_result 5 = .ok (.if_icmp .ne 19, 3) := by decide +kernel
theorem dX4_result_8 : decode cX4_result 8 = .ok (.aload_n 0, 1) := by decide +kernel
theorem dX4_result_9 : decode cX4_result 9 = .ok (.getfield 19, 3) := by decide +kernel
theorem dX4_result_12 : decode cX4_result 12 = .ok (.ifCond .ne 12, 3) := by decide +kernel
theorem dX4_result_15 : decode cX4_result 15 = .ok (.aload_n 0, 1) := by decide +kernel
theorem dX4_result_16 : decode cX4_result 16 = .ok (.getfield 9, 3) := by decide +kernel
theorem dX4_result_19 : decode cX4_result 19 = .ok (.iconst 0, 1) := by decide +kernel
theorem dX4_result_20 : decode cX4_result 20 = .ok (.iaload, 1) := by decide +kernel
theorem dX4_result_21 : decode cX4_result 21 = .ok (.goto 4, 3) := by decide +kernel
theorem dX4_result_24 : decode cX4_result 24 = .ok (.iconst 0, 1) := by decide +kernel
theorem dX4_result_25 : decode cX4_result 25 = .ok (.ireturn, 1) := by decide +kernel
theorem dX4_push_0 : decode cX4_push 0 = .ok (.aload_n 0, 1) := by decide +kernel
theorem dX4_push_1 : decode cX4_push 1 = .ok (.getfield 15, 3) := by decide +kernel
theorem dX4_push_4 : decode cX4_push 4 = .ok (.ifCond .lt 35, 3) := by decide +kernel
theorem dX4_push_7 : decode cX4_push 7 = .ok (.aload_n 0, 1) := by decide +kernel
theorem dX4_push_8 : decode cX4_push 8 = .ok (.getfield 15, 3) := by decide +kernel
theorem dX4_push_11 : decode cX4_push 11 = .ok (.aload_n 0, 1) := by decide +kernel
theorem dX4_push_12 : decode cX4_push 12 = .ok (.getfield 9, 3) := by decide +kernel
theorem dX4_push_15 : decode cX4_push 15 = .ok (.arraylength, 1) := by decide +kernel
theorem dX4_push_16 : decode cX4_push 16 = .ok (.if_icmp .ge 23, 3) := by decide +kernel
theorem dX4_push_19 : decode cX4_push 19 = .ok (.aload_n 0, 1) := by decide +kernel
theorem dX4_push_20 : decode cX4_push 20 = .ok (.getfield 9, 3) := by decide +kernel
theorem dX4_push_23 : decode cX4_push 23 = .ok (.aload_n 0, 1) := by decide +kernel
theorem dX4_push_24 : decode cX4_push 24 = .ok (.getfield 15, 3) := by decide +kernel
theorem dX4_push_27 : decode cX4_push 27 = .ok (.iload_n 1, 1) := by decide +kernel
theorem dX4_push_28 : decode cX4_push 28 = .ok (.iastore, 1) := by decide +kernel
theorem dX4_push_29 : decode cX4_push 29 = .ok (.aload_n 0, 1) := by decide +kernel
theorem dX4_push_30 : decode cX4_push 30 = .ok (.dup, 1) := by decide +kernel
theorem dX4_push_31 : decode cX4_push 31 = .ok (.getfield 15, 3) := by decide +kernel
theorem dX4_push_34 : decode cX4_push 34 = .ok (.iconst 1, 1) := by decide +kernel
theorem dX4_push_35 : decode cX4_push 35 = .ok (.iadd, 1) := by decide +kernel
theorem dX4_push_36 : decode cX4_push 36 = .ok (.putfield 15, 3) := by decide +kernel
theorem dX4_push_39 : decode cX4_push 39 = .ok (.return_, 1) := by decide +kernel
theorem dX4_calculate_0 : decode cX4_calculate 0 = .ok (.aload_n 0, 1) := by decide +kernel
theorem dX4_calculate_1 : decode cX4_calculate 1 = .ok (.getfield 15, 3) := by decide +kernel
theorem dX4_calculate_4 : decode cX4_calculate 4 = .ok (.iconst 2, 1) := by decide +kernel
theorem dX4_calculate_5 : decode cX4_calculate 5 = .ok (.if_icmp .lt 15, 3) := by decide +kernel
theorem dX4_calculate_8 : decode cX4_calculate 8 = .ok (.aload_n 0, 1) := by decide +kernel
theorem dX4_calculate_9 : decode cX4_calculate 9 = .ok (.getfield 15, 3) := by decide +kernel
theorem dX4_calculate_12 : decode cX4_calculate 12 = .ok (.aload_n 0, 1) := by decide +kernel
theorem dX4_calculate_13 : decode cX4_calculate 13 = .ok (.getfield 9, 3) := by decide +kernel
theorem dX4_calculate_16 : decode cX4_calculate 16 = .ok (.arraylength, 1) := by decide +kernel
theorem dX4_calculate_17 : decode cX4_calculate 17 = .ok (.if_icmp .le 4, 3) := by decide +kernel
theorem dX4_calculate_20 : decode cX4_calculate 20 = .ok (.return_, 1) := by decide +kernel
theorem dX4_calculate_21 : decode cX4_calculate 21 = .ok (.aload_n 0, 1) := by decide +kernel
theorem dX4_calculate_22 : decode cX4_calculate 22 = .ok (.dup, 1) := by decide +kernel
theorem dX4_calculate_23 : decode cX4_calculate 23 = .ok (.getfield 15, 3) := by decide +kernel
theorem dX4_calculate_26 : decode cX4_calculate 26 = .ok (.iconst 1, 1) := by decide +kernel
theorem dX4_calculate_27 : decode cX4_calculate 27 = .ok (.isub, 1) := by decide +kernel
theorem dX4_calculate_28 : decode cX4_calculate 28 = .ok (.putfield 15, 3) := by decide +kernel
theorem dX4_calculate_31 : decode cX4_calculate 31 = .ok (.aload_n 0, 1) := by decide +kernel
theorem dX4_calculate_32 : decode cX4_calculate 32 = .ok (.getfield 9, 3) := by decide +kernel
theorem dX4_calculate_35 : decode cX4_calculate 35 = .ok (.aload_n 0, 1) := by decide +kernel
theorem dX4_calculate_36 : decode cX4_calculate 36 = .ok (.getfield 15, 3) := by decide +kernel
theorem dX4_calculate_39 : decode cX4_calculate 39 = .ok (.iconst 1, 1) := by decide +kernel
theorem dX4_calculate_40 : decode cX4_calculate 40 = .ok (.isub, 1) := by decide +kernel
theorem dX4_calculate_41 : decode cX4_calculate 41 = .ok (.iaload, 1) := by decide +kernel
theorem dX4_calculate_42 : decode cX4_calculate 42 = .ok (.istore_n 2, 1) := by decide +kernel
theorem dX4_calculate_43 : decode cX4_calculate 43 = .ok (.aload_n 0, 1) := by decide +kernel
theorem dX4_calculate_44 : decode cX4_calculate 44 = .ok (.getfield 9, 3) := by decide +kernel
theorem dX4_calculate_47 : decode cX4_calculate 47 = .ok (.aload_n 0, 1) := by decide +kernel
theorem dX4_calculate_48 : decode cX4_calculate 48 = .ok (.getfield 15, 3) := by decide +kernel
theorem dX4_calculate_51 : decode cX4_calculate 51 = .ok (.iaload, 1) := by decide +kernel
theorem dX4_calculate_52 : decode cX4_calculate 52 = .ok (.istore_n 3, 1) := by decide +kernel
theorem dX4_calculate_53 : decode cX4_calculate 53 = .ok (.iconst 0, 1) := by decide +kernel
theorem dX4_calculate_54 : decode cX4_calculate 54 = .ok (.istore 4, 2) := by decide +kernel
theorem dX4_calculate_56 : decode cX4_calculate 56 = .ok (.iload_n 1, 1) := by decide +kernel
theorem dX4_calculate_57 : decode cX4_calculate 57 = .ok (.bipush 27, 2) := by decide +kernel
theorem dX4_calculate_59 : decode cX4_calculate 59 = .ok (.if_icmp .ne 11, 3) := by decide +kernel
theorem dX4_calculate_62 : decode cX4_calculate 62 = .ok (.iload_n 2, 1) := by decide +kernel
theorem dX4_calculate_63 : decode cX4_calculate 63 = .ok (.iload_n 3, 1) := by decide +kernel
theorem dX4_calculate_64 : decode cX4_calculate 64 = .ok (.iadd, 1) := by decide +kernel
theorem dX4_calculate_65 : decode cX4_calculate 65 = .ok (.istore 4, 2) := by decide +kernel
theorem dX4_calculate_67 : decode cX4_calculate 67 = .ok (.goto 48, 3) := by decide +kernel
theorem dX4_calculate_70 : decode cX4_calculate 70 = .ok (.iload_n 1, 1) := by decide +kernel
theorem dX4_calculate_71 : decode cX4_calculate 71 = .ok (.bipush 28, 2) := by decide +kernel
theorem dX4_calculate_73 : decode cX4_calculate 73 = .ok (.if_icmp .ne 11, 3) := by decide +kernel
theorem dX4_calculate_76 : decode cX4_calculate 76 = .ok (.iload_n 2, 1) := by decide +kernel
theorem dX4_calculate_77 : decode cX4_calculate 77 = .ok (.iload_n 3, 1) := by decide +kernel
theorem dX4_calculate_78 : decode cX4_calculate 78 = .ok (.isub, 1) := by decide +kernel
theorem dX4_calculate_79 : decode cX4_calculate 79 = .ok (.istore 4, 2) := by decide +kernel
theorem dX4_calculate_81 : decode cX4_calculate 81 = .ok (.goto 34, 3) := by decide +kernel
theorem dX4_calculate_84 : decode cX4_calculate 84 = .ok (.iload_n 1, 1) := by decide +kernel
theorem dX4_calculate_85 : decode cX4_calculate 85 = .ok (.bipush 29, 2) := by decide +kernel
theorem dX4_calculate_87 : decode cX4_calculate 87 = .ok (.if_icmp .ne 11, 3) := by decide +kernel
theorem dX4_calculate_90 : decode cX4_calculate 90 = .ok (.iload_n 2, 1) := by decide +kernel
theorem dX4_calculate_91 : decode cX4_calculate 91 = .ok (.iload_n 3, 1) := by decide +kernel
theorem dX4_calculate_92 : decode cX4_calculate 92 = .ok (.imul, 1) := by decide +kernel
theorem dX4_calculate_93 : decode cX4_calculate 93 = .ok (.istore 4, 2) := by decide +kernel
theorem dX4_calculate_95 : decode cX4_calculate 95 = .ok (.goto 20, 3) := by decide +kernel
theorem dX4_calculate_98 : decode cX4_calculate 98 = .ok (.iload_n 3, 1) := by decide +kernel
theorem dX4_calculate_99 : decode cX4_calculate 99 = .ok (.ifCond .eq 11, 3) := by decide +kernel
theorem dX4_calculate_102 : decode cX4_calculate 102 = .ok (.iload_n 2, 1) := by decide +kernel
theorem dX4_calculate_103 : decode cX4_calculate 103 = .ok (.iload_n 3, 1) := by decide +kernel
theorem dX4_calculate_104 : decode cX4_calculate 104 = .ok (.idiv, 1) := by decide +kernel
theorem dX4_calculate_105 : decode cX4_calculate 105 = .ok (.istore 4, 2) := by decide +kernel
theorem dX4_calculate_107 : decode cX4_calculate 107 = .ok (.goto 8, 3) := by decide +kernel
theorem dX4_calculate_110 : decode cX4_calculate 110 = .ok (.aload_n 0, 1) := by decide +kernel
theorem dX4_calculate_111 : decode cX4_calculate 111 = .ok (.iconst 1, 1) := by decide +kernel
theorem dX4_calculate_112 : decode cX4_calculate 112 = .ok (.putfield 19, 3) := by decide +kernel
theorem dX4_calculate_115 : decode cX4_calculate 115 = .ok (.aload_n 0, 1) := by decide +kernel
theorem dX4_calculate_116 : decode cX4_calculate 116 = .ok (.getfield 9, 3) := by decide +kernel
theorem dX4_calculate_119 : decode cX4_calculate 119 = .ok (.aload_n 0, 1) := by decide +kernel
theorem dX4_calculate_120 : decode cX4_calculate 120 = .ok (.getfield 15, 3) := by decide +kernel
theorem dX4_calculate_123 : decode cX4_calculate 123 = .ok (.iconst 1, 1) := by decide +kernel
theorem dX4_calculate_124 : decode cX4_calculate 124 = .ok (.isub, 1) := by decide +kernel
theorem dX4_calculate_125 : decode cX4_calculate 125 = .ok (.iload 4, 2) := by decide +kernel
theorem dX4_calculate_127 : decode cX4_calculate 127 = .ok (.iastore, 1) := by decide +kernel
theorem dX4_calculate_128 : decode cX4_calculate 128 = .ok (.return_, 1) := by decide +kernel
theorem dX4_compare_0 : decode cX4_compare 0 = .ok (.aload_n 0, 1) := by decide +kernel
theorem dX4_compare_1 : decode cX4_compare 1 = .ok (.getfield 15, 3) := by decide +kernel
theorem dX4_compare_4 : decode cX4_compare 4 = .ok (.iconst 2, 1) := by decide +kernel
theorem dX4_compare_5 : decode cX4_compare 5 = .ok (.if_icmp .ne 21, 3) := by decide +kernel
theorem dX4_compare_8 : decode cX4_compare 8 = .ok (.aload_n 0, 1) := by decide +kernel
theorem dX4_compare_9 : decode cX4_compare 9 = .ok (.getfield 9, 3) := by decide +kernel
theorem dX4_compare_12 : decode cX4_compare 12 = .ok (.iconst 0, 1) := by decide +kernel
theorem dX4_compare_13 : decode cX4_compare 13 = .ok (.iaload, 1) := by decide +kernel
theorem dX4_compare_14 : decode cX4_compare 14 = .ok (.aload_n 0, 1) := by decide +kernel
theorem dX4_compare_15 : decode cX4_compare 15 = .ok (.getfield 9, 3) := by decide +kernel
theorem dX4_compare_18 : decode cX4_compare 18 = .ok (.iconst 1, 1) := by decide +kernel
theorem dX4_compare_19 : decode cX4_compare 19 = .ok (.iaload, 1) := by decide +kernel
theorem dX4_compare_20 : decode cX4_compare 20 = .ok (.invokestatic 41, 3) := by decide +kernel
theorem dX4_compare_23 : decode cX4_compare 23 = .ok (.goto 4, 3) := by decide +kernel
theorem dX4_compare_26 : decode cX4_compare 26 = .ok (.iconst 0, 1) := by decide +kernel
theorem dX4_compare_27 : decode cX4_compare 27 = .ok (.istore_n 2, 1) := by decide +kernel
theorem dX4_compare_28 : decode cX4_compare 28 = .ok (.iload_n 1, 1) := by decide +kernel
theorem dX4_compare_29 : decode cX4_compare 29 = .ok (.iconst 2, 1) := by decide +kernel
theorem dX4_compare_30 : decode cX4_compare 30 = .ok (.idiv, 1) := by decide +kernel
theorem dX4_compare_31 : decode cX4_compare 31 = .ok (.istore_n 3, 1) := by decide +kernel
theorem dX4_compare_32 : decode cX4_compare 32 = .ok (.iload_n 3, 1) := by decide +kernel
theorem dX4_compare_33 : decode cX4_compare 33 = .ok (.bipush 31, 2) := by decide +kernel
theorem dX4_compare_35 : decode cX4_compare 35 = .ok (.if_icmp .ne 7, 3) := by decide +kernel
theorem dX4_compare_38 : decode cX4_compare 38 = .ok (.iload_n 2, 1) := by decide +kernel
theorem dX4_compare_39 : decode cX4_compare 39 = .ok (.ifCond .eq 33, 3) := by decide +kernel
theorem dX4_compare_42 : decode cX4_compare 42 = .ok (.iload_n 3, 1) := by decide +kernel
theorem dX4_compare_43 : decode cX4_compare 43 = .ok (.bipush 32, 2) := by decide +kernel
theorem dX4_compare_45 : decode cX4_compare 45 = .ok (.if_icmp .ne 7, 3) := by decide +kernel
theorem dX4_compare_48 : decode cX4_compare 48 = .ok (.iload_n 2, 1) := by decide +kernel
theorem dX4_compare_49 : decode cX4_compare 49 = .ok (.ifCond .ne 23, 3) := by decide +kernel
theorem dX4_compare_52 : decode cX4_compare 52 = .ok (.iload_n 3, 1) := by decide +kernel
theorem dX4_compare_53 : decode cX4_compare 53 = .ok (.bipush 33, 2) := by decide +kernel
theorem dX4_compare_55 : decode cX4_compare 55 = .ok (.if_icmp .ne 7, 3) := by decide +kernel
theorem dX4_compare_58 : decode cX4_compare 58 = .ok (.iload_n 2, 1) := by decide +kernel
theorem dX4_compare_59 : decode cX4_compare 59 = .ok (.ifCond .lt 13, 3) := by decide +kernel
theorem dX4_compare_62 : decode cX4_compare 62 = .ok (.iload_n 3, 1) := by decide +kernel
theorem dX4_compare_63 : decode cX4_compare 63 = .ok (.bipush 34, 2) := by decide +kernel
theorem dX4_compare_65 : decode cX4_compare 65 = .ok (.if_icmp .ne 11, 3) := by decide +kernel
theorem dX4_compare_68 : decode cX4_compare 68 = .ok (.iload_n 2, 1) := by decide +kernel
theorem dX4_compare_69 : decode cX4_compare 69 = .ok (.ifCond .gt 7, 3) := by decide +kernel
theorem dX4_compare_72 : decode cX4_compare 72 = .ok (.iconst 1, 1) := by decide +kernel
theorem dX4_compare_73 : decode cX4_compare 73 = .ok (.goto 4, 3) := by decide +kernel
theorem dX4_compare_76 : decode cX4_compare 76 = .ok (.iconst 0, 1) := by decide +kernel
theorem dX4_compare_77 : decode cX4_compare 77 = .ok (.istore 4, 2) := by decide +kernel
theorem dX4_compare_79 : decode cX4_compare 79 = .ok (.iload 4, 2) := by decide +kernel
theorem dX4_compare_81 : decode cX4_compare 81 = .ok (.ifCond .eq 14, 3) := by decide +kernel
theorem dX4_compare_84 : decode cX4_compare 84 = .ok (.aload_n 0, 1) := by decide +kernel
theorem dX4_compare_85 : decode cX4_compare 85 = .ok (.getfield 19, 3) := by decide +kernel
theorem dX4_compare_88 : decode cX4_compare 88 = .ok (.ifCond .ne 7, 3) := by decide +kernel
theorem dX4_compare_91 : decode cX4_compare 91 = .ok (.iconst 1, 1) := by decide +kernel
theorem dX4_compare_92 : decode cX4_compare 92 = .ok (.goto 4, 3) := by decide +kernel
theorem dX4_compare_95 : decode cX4_compare 95 = .ok (.iconst 0, 1) := by decide +kernel
theorem dX4_compare_96 : decode cX4_compare 96 = .ok (.istore 5, 2) := by decide +kernel
theorem dX4_compare_98 : decode cX4_compare 98 = .ok (.iload_n 1, 1) := by decide +kernel
theorem dX4_compare_99 : decode cX4_compare 99 = .ok (.iconst 2, 1) := by decide +kernel
theorem dX4_compare_100 : decode cX4_compare 100 = .ok (.irem, 1) := by decide +kernel
theorem dX4_compare_101 : decode cX4_compare 101 = .ok (.iconst 1, 1) := by decide +kernel
theorem dX4_compare_102 : decode cX4_compare 102 = .ok (.if_icmp .ne 7, 3) := by decide +kernel
theorem dX4_compare_105 : decode cX4_compare 105 = .ok (.iconst 1, 1) := by decide +kernel
theorem dX4_compare_106 : decode cX4_compare 106 = .ok (.goto 4, 3) := by decide +kernel
theorem dX4_compare_109 : decode cX4_compare 109 = .ok (.iconst 0, 1) := by decide +kernel
theorem dX4_compare_110 : decode cX4_compare 110 = .ok (.istore 6, 2) := by decide +kernel
theorem dX4_compare_112 : decode cX4_compare 112 = .ok (.aload_n 0, 1) := by decide +kernel
theorem dX4_compare_113 : decode cX4_compare 113 = .ok (.iconst 0, 1) := by decide +kernel
theorem dX4_compare_114 : decode cX4_compare 114 = .ok (.putfield 15, 3) := by decide +kernel
theorem dX4_compare_117 : decode cX4_compare 117 = .ok (.aload_n 0, 1) := by decide +kernel
theorem dX4_compare_118 : decode cX4_compare 118 = .ok (.iconst 0, 1) := by decide +kernel
theorem dX4_compare_119 : decode cX4_compare 119 = .ok (.putfield 19, 3) := by decide +kernel
theorem dX4_compare_122 : decode cX4_compare 122 = .ok (.iload 5, 2) := by decide +kernel
theorem dX4_compare_124 : decode cX4_compare 124 = .ok (.iload 6, 2) := by decide +kernel
theorem dX4_compare_126 : decode cX4_compare 126 = .ok (.if_icmp .eq 7, 3) := by decide +kernel
theorem dX4_compare_129 : decode cX4_compare 129 = .ok (.iconst 1, 1) := by decide +kernel
theorem dX4_compare_130 : decode cX4_compare 130 = .ok (.goto 4, 3) := by decide +kernel
theorem dX4_compare_133 : decode cX4_compare 133 = .ok (.iconst 0, 1) := by decide +kernel
theorem dX4_compare_134 : decode cX4_compare 134 = .ok (.ireturn, 1) := by decide +kernel
theorem dX5_init_0 : decode cX5_init 0 = .ok (.aload_n 0, 1) := by decide +kernel
theorem dX5_init_1 : decode cX5_init 1 = .ok (.invokespecial 3, 3) := by decide +kernel
theorem dX5_init_4 : decode cX5_init 4 = .ok (.aload_n 0, 1) := by decide +kernel
theorem dX5_init_5 : decode cX5_init 5 = .ok (.sipush 1000, 3) := by decide +kernel
theorem dX5_init_8 : decode cX5_init 8 = .ok (.newarray .boolean, 2) := by decide +kernel
theorem dX5_init_10 : decode cX5_init 10 = .ok (.putfield 9, 3) := by decide +kernel
theorem dX5_init_13 : decode cX5_init 13 = .ok (.aload_n 0, 1) := by decide +kernel
theorem dX5_init_14 : decode cX5_init 14 = .ok (.aload_n 1, 1) := by decide +kernel
theorem dX5_init_15 : decode cX5_init 15 = .ok (.putfield 15, 3) := by decide +kernel
theorem dX5_init_18 : decode cX5_init 18 = .ok (.return_, 1) := by decide +kernel
theorem dX5_gather_0 : decode cX5_gather 0 = .ok (.iconst 0, 1) := by decide +kernel
theorem dX5_gather_1 : decode cX5_gather 1 = .ok (.istore 4, 2) := by decide +kernel
theorem dX5_gather_3 : decode cX5_gather 3 = .ok (.iload 4, 2) := by decide +kernel
theorem dX5_gather_5 : decode cX5_gather 5 = .ok (.sipush 1000, 3) := by decide +kernel
theorem dX5_gather_8 : decode cX5_gather 8 = .ok (.if_icmp .ge 27, 3) := by decide +kernel
theorem dX5_gather_11 : decode cX5_gather 11 = .ok (.aload_n 0, 1) := by decide +kernel
theorem dX5_gather_12 : decode cX5_gather 12 = .ok (.getfield 9, 3) := by decide +kernel
theorem dX5_gather_15 : decode cX5_gather 15 = .ok (.iload 4, 2) := by decide +kernel
theorem dX5_gather_17 : decode cX5_gather 17 = .ok (.iload 4, 2) := by decide +kernel
theorem dX5_gather_19 : decode cX5_gather 19 = .ok (.iload_n 1, 1) := by decide +kernel
theorem dX5_gather_20 : decode cX5_gather 20 = .ok (.if_icmp .ne 7, 3) := by decide +kernel
theorem dX5_gather_23 : decode cX5_gather 23 = .ok (.iconst 1, 1) := by decide +kernel
theorem dX5_gather_24 : decode cX5_gather 24 = .ok (.goto 4, 3) := by decide +kernel
theorem dX5_gather_27 : decode cX5_gather 27 = .ok (.iconst 0, 1) := by decide +kernel
theorem dX5_gather_28 : decode cX5_gather 28 = .ok (.bastore, 1) := by decide +kernel
theorem dX5_gather_29 : decode cX5_gather 29 = .ok (.iinc 4 1, 3) := by decide +kernel
theorem dX5_gather_32 : decode cX5_gather 32 = .ok (.goto (-29), 3) := by decide +kernel
theorem dX5_gather_35 : decode cX5_gather 35 = .ok (.iconst 1, 1) := by decide +kernel
theorem dX5_gather_36 : decode cX5_gather 36 = .ok (.istore 4, 2) := by decide +kernel
theorem dX5_gather_38 : decode cX5_gather 38 = .ok (.iconst 0, 1) := by decide +kernel
theorem dX5_gather_39 : decode cX5_gather 39 = .ok (.istore 5, 2) := by decide +kernel
theorem dX5_gather_41 : decode cX5_gather 41 = .ok (.iload 4, 2) := by decide +kernel
theorem dX5_gather_43 : decode cX5_gather 43 = .ok (.ifCond .eq 23, 3) := by decide +kernel
theorem dX5_gather_46 : decode cX5_gather 46 = .ok (.iload 5, 2) := by decide +kernel
theorem dX5_gather_48 : decode cX5_gather 48 = .ok (.iload_n 3, 1) := by decide +kernel
theorem dX5_gather_49 : decode cX5_gather 49 = .ok (.if_icmp .gt 17, 3) := by decide +kernel
theorem dX5_gather_52 : decode cX5_gather 52 = .ok (.aload_n 0, 1) := by decide +kernel
theorem dX5_gather_53 : decode cX5_gather 53 = .ok (.iload_n 2, 1) := by decide +kernel
theorem dX5_gather_54 : decode cX5_gather 54 = .ok (.iload_n 3, 1) := by decide +kernel
theorem dX5_gather_55 : decode cX5_gather 55 = .ok (.invokevirtual 19, 3) := by decide +kernel
theorem dX5_gather_58 : decode cX5_gather 58 = .ok (.istore 4, 2) := by decide +kernel
theorem dX5_gather_60 : decode cX5_gather 60 = .ok (.iinc 5 1, 3) := by decide +kernel
theorem dX5_gather_63 : decode cX5_gather 63 = .ok (.goto (-22), 3) := by decide +kernel
theorem dX5_gather_66 : decode cX5_gather 66 = .ok (.return_, 1) := by decide +kernel
theorem dX5_joinOnce_0 : decode cX5_joinOnce 0 = .ok (.iconst 0, 1) := by decide +kernel
theorem dX5_joinOnce_1 : decode cX5_joinOnce 1 = .ok (.istore_n 3, 1) := by decide +kernel
theorem dX5_joinOnce_2 : decode cX5_joinOnce 2 = .ok (.iconst 0, 1) := by decide +kernel
theorem dX5_joinOnce_3 : decode cX5_joinOnce 3 = .ok (.istore 4, 2) := by decide +kernel
theorem dX5_joinOnce_5 : decode cX5_joinOnce 5 = .ok (.iload 4, 2) := by decide +kernel
theorem dX5_joinOnce_7 : decode cX5_joinOnce 7 = .ok (.iload_n 2, 1) := by decide +kernel
theorem dX5_joinOnce_8 : decode cX5_joinOnce 8 = .ok (.if_icmp .ge 99, 3) := by decide +kernel
theorem dX5_joinOnce_11 : decode cX5_joinOnce 11 = .ok (.aload_n 0, 1) := by decide +kernel
theorem dX5_joinOnce_12 : decode cX5_joinOnce 12 = .ok (.getfield 15, 3) := by decide +kernel
theorem dX5_joinOnce_15 : decode cX5_joinOnce 15 = .ok (.getfield 23, 3) := by decide +kernel
theorem dX5_joinOnce_18 : decode cX5_joinOnce 18 = .ok (.iload 4, 2) := by decide +kernel
theorem dX5_joinOnce_20 : decode cX5_joinOnce 20 = .ok (.iaload, 1) := by decide +kernel
theorem dX5_joinOnce_21 : decode cX5_joinOnce 21 = .ok (.bipush 8, 2) := by decide +kernel
theorem dX5_joinOnce_23 : decode cX5_joinOnce 23 = .ok (.if_icmp .ne 78, 3) := by decide +kernel
theorem dX5_joinOnce_26 : decode cX5_joinOnce 26 = .ok (.aload_n 0, 1) := by decide +kernel
theorem dX5_joinOnce_27 : decode cX5_joinOnce 27 = .ok (.getfield 15, 3) := by decide +kernel
theorem dX5_joinOnce_30 : decode cX5_joinOnce 30 = .ok (.getfield 29, 3) := by decide +kernel
theorem dX5_joinOnce_33 : decode cX5_joinOnce 33 = .ok (.iload 4, 2) := by decide +kernel
theorem dX5_joinOnce_35 : decode cX5_joinOnce 35 = .ok (.iaload, 1) := by decide +kernel
theorem dX5_joinOnce_36 : decode cX5_joinOnce 36 = .ok (.iload_n 1, 1) := by decide +kernel
theorem dX5_joinOnce_37 : decode cX5_joinOnce 37 = .ok (.if_icmp .gt 64, 3) := by decide +kernel
theorem dX5_joinOnce_40 : decode cX5_joinOnce 40 = .ok (.aload_n 0, 1) := by decide +kernel
theorem dX5_joinOnce_41 : decode cX5_joinOnce 41 = .ok (.aload_n 0, 1) := by decide +kernel
theorem dX5_joinOnce_42 : decode cX5_joinOnce 42 = .ok (.getfield 15, 3) := by decide +kernel
theorem dX5_joinOnce_45 : decode cX5_joinOnce 45 = .ok (.getfield 32, 3) := by decide +kernel
theorem dX5_joinOnce_48 : decode cX5_joinOnce 48 = .ok (.iload 4, 2) := by decide +kernel
theorem dX5_joinOnce_50 : decode cX5_joinOnce 50 = .ok (.iaload, 1) := by decide +kernel
theorem dX5_joinOnce_51 : decode cX5_joinOnce 51 = .ok (.invokevirtual 35, 3) := by decide +kernel
theorem dX5_joinOnce_54 : decode cX5_joinOnce 54 = .ok (.aload_n 0, 1) := by decide +kernel
theorem dX5_joinOnce_55 : decode cX5_joinOnce 55 = .ok (.aload_n 0, 1) := by decide +kernel
theorem dX5_joinOnce_56 : decode cX5_joinOnce 56 = .ok (.getfield 15, 3) := by decide +kernel
theorem dX5_joinOnce_59 : decode cX5_joinOnce 59 = .ok (.getfield 39, 3) := by decide +kernel
theorem dX5_joinOnce_62 : decode cX5_joinOnce 62 = .ok (.iload 4, 2) := by decide +kernel
theorem dX5_joinOnce_64 : decode cX5_joinOnce 64 = .ok (.iaload, 1) := by decide +kernel
theorem dX5_joinOnce_65 : decode cX5_joinOnce 65 = .ok (.invokevirtual 35, 3) := by decide +kernel
theorem dX5_joinOnce_68 : decode cX5_joinOnce 68 = .ok (.if_icmp .eq 33, 3) := by decide +kernel
theorem dX5_joinOnce_71 : decode cX5_joinOnce 71 = .ok (.aload_n 0, 1) := by decide +kernel
theorem dX5_joinOnce_72 : decode cX5_joinOnce 72 = .ok (.aload_n 0, 1) := by decide +kernel
theorem dX5_joinOnce_73 : decode cX5_joinOnce 73 = .ok (.getfield 15, 3) := by decide +kernel
theorem dX5_joinOnce_76 : decode cX5_joinOnce 76 = .ok (.getfield 32, 3) := by decide +kernel
theorem dX5_joinOnce_79 : decode cX5_joinOnce 79 = .ok (.iload 4, 2) := by decide +kernel
theorem dX5_joinOnce_81 : decode cX5_joinOnce 81 = .ok (.iaload, 1) := by decide +kernel
theorem dX5_joinOnce_82 : decode cX5_joinOnce 82 = .ok (.invokevirtual 42, 3) := by decide +kernel
theorem dX5_joinOnce_85 : decode cX5_joinOnce 85 = .ok (.aload_n 0, 1) := by decide +kernel
theorem dX5_joinOnce_86 : decode cX5_joinOnce 86 = .ok (.aload_n 0, 1) := by decide +kernel
theorem dX5_joinOnce_87 : decode cX5_joinOnce 87 = .ok (.getfield 15, 3) := by decide +kernel
theorem dX5_joinOnce_90 : decode cX5_joinOnce 90 = .ok (.getfield 39, 3) := by decide +kernel
theorem dX5_joinOnce_93 : decode cX5_joinOnce 93 = .ok (.iload 4, 2) := by decide +kernel
theorem dX5_joinOnce_95 : decode cX5_joinOnce 95 = .ok (.iaload, 1) := by decide +kernel
theorem dX5_joinOnce_96 : decode cX5_joinOnce 96 = .ok (.invokevirtual 42, 3) := by decide +kernel
theorem dX5_joinOnce_99 : decode cX5_joinOnce 99 = .ok (.iconst 1, 1) := by decide +kernel
theorem dX5_joinOnce_100 : decode cX5_joinOnce 100 = .ok (.istore_n 3, 1) := by decide +kernel
theorem dX5_joinOnce_101 : decode cX5_joinOnce 101 = .ok (.iinc 4 1, 3) := by decide +kernel
theorem dX5_joinOnce_104 : decode cX5_joinOnce 104 = .ok (.goto (-99), 3) := by decide +kernel
theorem dX5_joinOnce_107 : decode cX5_joinOnce 107 = .ok (.iload_n 3, 1) := by decide +kernel
theorem dX5_joinOnce_108 : decode cX5_joinOnce 108 = .ok (.ireturn, 1) := by decide +kernel
theorem dX5_mark_0 : decode cX5_mark 0 = .ok (.iload_n 1, 1) := by decide +kernel
theorem dX5_mark_1 : decode cX5_mark 1 = .ok (.invokestatic 46, 3) := by decide +kernel
theorem dX5_mark_4 : decode cX5_mark 4 = .ok (.ifCond .eq 10, 3) := by decide +kernel
theorem dX5_mark_7 : decode cX5_mark 7 = .ok (.aload_n 0, 1) := by decide +kernel
theorem dX5_mark_8 : decode cX5_mark 8 = .ok (.getfield 9, 3) := by decide +kernel
theorem dX5_mark_11 : decode cX5_mark 11 = .ok (.iload_n 1, 1) := by decide +kernel
theorem dX5_mark_12 : decode cX5_mark 12 = .ok (.iconst 1, 1) := by decide +kernel
theorem dX5_mark_13 : decode cX5_mark 13 = .ok (.bastore, 1) := by decide +kernel
theorem dX5_mark_14 : decode cX5_mark 14 = .ok (.return_, 1) := by decide +kernel
theorem dX5_gathered_0 : decode cX5_gathered 0 = .ok (.iload_n 1, 1) := by decide +kernel
theorem dX5_gathered_1 : decode cX5_gathered 1 = .ok (.invokestatic 46, 3) := by decide +kernel
theorem dX5_gathered_4 : decode cX5_gathered 4 = .ok (.ifCond .eq 16, 3) := by decide +kernel
theorem dX5_gathered_7 : decode cX5_gathered 7 = .ok (.aload_n 0, 1) := by decide +kernel
theorem dX5_gathered_8 : decode cX5_gathered 8 = .ok (.getfield 9, 3) := by decide +kernel
theorem dX5_gathered_11 : decode cX5_gathered 11 = .ok (.iload_n 1, 1) := by decide +kernel
theorem dX5_gathered_12 : decode cX5_gathered 12 = .ok (.baload, 1) := by decide +kernel
theorem dX5_gathered_13 : decode cX5_gathered 13 = .ok (.ifCond .eq 7, 3) := by decide +kernel
theorem dX5_gathered_16 : decode cX5_gathered 16 = .ok (.iconst 1, 1) := by decide +kernel
theorem dX5_gathered_17 : decode cX5_gathered 17 = .ok (.goto 4, 3) := by decide +kernel
theorem dX5_gathered_20 : decode cX5_gathered 20 = .ok (.iconst 0, 1) := by decide +kernel
theorem dX5_gathered_21 : decode cX5_gathered 21 = .ok (.ireturn, 1) := by decide +kernel
theorem dX6_init_0 : decode cX6_init 0 = .ok (.aload_n 0, 1) := by decide +kernel
theorem dX6_init_1 : decode cX6_init 1 = .ok (.invokespecial 3, 3) := by decide +kernel
theorem dX6_init_4 : decode cX6_init 4 = .ok (.aload_n 0, 1) := by decide +kernel
theorem dX6_init_5 : decode cX6_init 5 = .ok (.iconst 4, 1) := by decide +kernel
theorem dX6_init_6 : decode cX6_init 6 = .ok (.newarray .int, 2) := by decide +kernel
theorem dX6_init_8 : decode cX6_init 8 = .ok (.putfield 9, 3) := by decide +kernel
theorem dX6_init_11 : decode cX6_init 11 = .ok (.aload_n 0, 1) := by decide +kernel
theorem dX6_init_12 : decode cX6_init 12 = .ok (.iconst 4, 1) := by decide +kernel
theorem dX6_init_13 : decode cX6_init 13 = .ok (.newarray .int, 2) := by decide +kernel
theorem dX6_init_15 : decode cX6_init 15 = .ok (.putfield 15, 3) := by decide +kernel
theorem dX6_init_18 : decode cX6_init 18 = .ok (.aload_n 0, 1) := by decide +kernel
theorem dX6_init_19 : decode cX6_init 19 = .ok (.iconst 4, 1) := by decide +kernel
theorem dX6_init_20 : decode cX6_init 20 = .ok (.newarray .int, 2) := by decide +kernel
theorem dX6_init_22 : decode cX6_init 22 = .ok (.putfield 18, 3) := by decide +kernel
theorem dX6_init_25 : decode cX6_init 25 = .ok (.aload_n 0, 1) := by decide +kernel
theorem dX6_init_26 : decode cX6_init 26 = .ok (.bipush 8, 2) := by decide +kernel
theorem dX6_init_28 : decode cX6_init 28 = .ok (.newarray .int, 2) := by decide +kernel
theorem dX6_init_30 : decode cX6_init 30 = .ok (.putfield 21, 3) := by decide +kernel
theorem dX6_init_33 : decode cX6_init 33 = .ok (.aload_n 0, 1) := by decide +kernel
theorem dX6_init_34 : decode cX6_init 34 = .ok (.bipush 8, 2) := by decide +kernel
theorem dX6_init_36 : decode cX6_init 36 = .ok (.newarray .int, 2) := by decide +kernel
theorem dX6_init_38 : decode cX6_init 38 = .ok (.putfield 24, 3) := by decide +kernel
theorem dX6_init_41 : decode cX6_init 41 = .ok (.iconst 0, 1) := by decide +kernel
theorem dX6_init_42 : decode cX6_init 42 = .ok (.istore_n 1, 1) := by decide +kernel
theorem dX6_init_43 : decode cX6_init 43 = .ok (.iload_n 1, 1) := by decide +kernel
theorem dX6_init_44 : decode cX6_init 44 = .ok (.iconst 4, 1) := by decide +kernel
theorem dX6_init_45 : decode cX6_init 45 = .ok (.if_icmp .ge 16, 3) := by decide +kernel
theorem dX6_init_48 : decode cX6_init 48 = .ok (.aload_n 0, 1) := by decide +kernel
theorem dX6_init_49 : decode cX6_init 49 = .ok (.getfield 9, 3) := by decide +kernel
theorem dX6_init_52 : decode cX6_init 52 = .ok (.iload_n 1, 1) := by decide +kernel
theorem dX6_init_53 : decode cX6_init 53 = .ok (.iconst 1, 1) := by decide +kernel
theorem dX6_init_54 : decode cX6_init 54 = .ok (.iastore, 1) := by decide +kernel
theorem dX6_init_55 : decode cX6_init 55 = .ok (.iinc 1 1, 3) := by decide +kernel
theorem dX6_init_58 : decode cX6_init 58 = .ok (.goto (-15), 3) := by decide +kernel
theorem dX6_init_61 : decode cX6_init 61 = .ok (.return_, 1) := by decide +kernel
theorem dX6_setReporter_0 : decode cX6_setReporter 0 = .ok (.iload_n 1, 1) := by decide +kernel
theorem dX6_setReporter_1 : decode cX6_setReporter 1 = .ok (.ifCond .lt 22, 3) := by decide +kernel
theorem dX6_setReporter_4 : decode cX6_setReporter 4 = .ok (.iload_n 1, 1) := by decide +kernel
theorem dX6_setReporter_5 : decode cX6_setReporter 5 = .ok (.iconst 4, 1) := by decide +kernel
theorem dX6_setReporter_6 : decode cX6_setReporter 6 = .ok (.if_icmp .ge 17, 3) := by decide +kernel
theorem dX6_setReporter_9 : decode cX6_setReporter 9 = .ok (.aload_n 0, 1) := by decide +kernel
theorem dX6_setReporter_10 : decode cX6_setReporter 10 = .ok (.getfield 9, 3) := by decide +kernel
theorem dX6_setReporter_13 : decode cX6_setReporter 13 = .ok (.iload_n 1, 1) := by decide +kernel
theorem dX6_setReporter_14 : decode cX6_setReporter 14 = .ok (.iload_n 2, 1) := by decide +kernel
theorem dX6_setReporter_15 : decode cX6_setReporter 15 = .ok (.iastore, 1) := by decide +kernel
theorem dX6_setReporter_16 : decode cX6_setReporter 16 = .ok (.aload_n 0, 1) := by decide +kernel
theorem dX6_setReporter_17 : decode cX6_setReporter 17 = .ok (.getfield 15, 3) := by decide +kernel
theorem dX6_setReporter_20 : decode cX6_setReporter 20 = .ok (.iload_n 1, 1) := by decide +kernel
theorem dX6_setReporter_21 : decode cX6_setReporter 21 = .ok (.iload_n 3, 1) := by decide +kernel
theorem dX6_setReporter_22 : decode cX6_setReporter 22 = .ok (.iastore, 1) := by decide +kernel
theorem dX6_setReporter_23 : decode cX6_setReporter 23 = .ok (.return_, 1) := by decide +kernel
theorem dX6_arrange_0 : decode cX6_arrange 0 = .ok (.aload_n 0, 1) := by decide +kernel
theorem dX6_arrange_1 : decode cX6_arrange 1 = .ok (.iload_n 1, 1) := by decide +kernel
theorem dX6_arrange_2 : decode cX6_arrange 2 = .ok (.bipush 8, 2) := by decide +kernel
theorem dX6_arrange_4 : decode cX6_arrange 4 = .ok (.invokestatic 27, 3) := by decide +kernel
theorem dX6_arrange_7 : decode cX6_arrange 7 = .ok (.putfield 33, 3) := by decide +kernel
theorem dX6_arrange_10 : decode cX6_arrange 10 = .ok (.aload_n 0, 1) := by decide +kernel
theorem dX6_arrange_11 : decode cX6_arrange 11 = .ok (.iload_n 2, 1) := by decide +kernel
theorem dX6_arrange_12 : decode cX6_arrange 12 = .ok (.iconst 4, 1) := by decide +kernel
theorem dX6_arrange_13 : decode cX6_arrange 13 = .ok (.invokestatic 27, 3) := by decide +kernel
theorem dX6_arrange_16 : decode cX6_arrange 16 = .ok (.putfield 37, 3) := by decide +kernel
theorem dX6_arrange_19 : decode cX6_arrange 19 = .ok (.aload_n 0, 1) := by decide +kernel
theorem dX6_arrange_20 : decode cX6_arrange 20 = .ok (.bipush 100, 2) := by decide +kernel
theorem dX6_arrange_22 : decode cX6_arrange 22 = .ok (.putfield 40, 3) := by decide +kernel
theorem dX6_arrange_25 : decode cX6_arrange 25 = .ok (.aload_n 0, 1) := by decide +kernel
theorem dX6_arrange_26 : decode cX6_arrange 26 = .ok (.iconst 0, 1) := by decide +kernel
theorem dX6_arrange_27 : decode cX6_arrange 27 = .ok (.putfield 43, 3) := by decide +kernel
theorem dX6_arrange_30 : decode cX6_arrange 30 = .ok (.iconst 0, 1) := by decide +kernel
theorem dX6_arrange_31 : decode cX6_arrange 31 = .ok (.istore_n 3, 1) := by decide +kernel
theorem dX6_arrange_32 : decode cX6_arrange 32 = .ok (.iload_n 3, 1) := by decide +kernel
theorem dX6_arrange_33 : decode cX6_arrange 33 = .ok (.iconst 4, 1) := by decide +kernel
theorem dX6_arrange_34 : decode cX6_arrange 34 = .ok (.if_icmp .ge 16, 3) := by decide +kernel
theorem dX6_arrange_37 : decode cX6_arrange 37 = .ok (.aload_n 0, 1) := by decide +kernel
theorem dX6_arrange_38 : decode cX6_arrange 38 = .ok (.getfield 18, 3) := by decide +kernel
theorem dX6_arrange_41 : decode cX6_arrange 41 = .ok (.iload_n 3, 1) := by decide +kernel
theorem dX6_arrange_42 : decode cX6_arrange 42 = .ok (.iconst 0, 1) := by decide +kernel
theorem dX6_arrange_43 : decode cX6_arrange 43 = .ok (.iastore, 1) := by decide +kernel
theorem dX6_arrange_44 : decode cX6_arrange 44 = .ok (.iinc 3 1, 3) := by decide +kernel
theorem dX6_arrange_47 : decode cX6_arrange 47 = .ok (.goto (-15), 3) := by decide +kernel
theorem dX6_arrange_50 : decode cX6_arrange 50 = .ok (.aload_n 0, 1) := by decide +kernel
theorem dX6_arrange_51 : decode cX6_arrange 51 = .ok (.iconst 0, 1) := by decide +kernel
theorem dX6_arrange_52 : decode cX6_arrange 52 = .ok (.iconst 0, 1) := by decide +kernel
theorem dX6_arrange_53 : decode cX6_arrange 53 = .ok (.invokevirtual 46, 3) := by decide +kernel
theorem dX6_arrange_56 : decode cX6_arrange 56 = .ok (.aload_n 0, 1) := by decide +kernel
theorem dX6_arrange_57 : decode cX6_arrange 57 = .ok (.aload_n 0, 1) := by decide +kernel
theorem dX6_arrange_58 : decode cX6_arrange 58 = .ok (.getfield 40, 3) := by decide +kernel
theorem dX6_arrange_61 : decode cX6_arrange 61 = .ok (.bipush 100, 2) := by decide +kernel
theorem dX6_arrange_63 : decode cX6_arrange 63 = .ok (.if_icmp .ne 7, 3) := by decide +kernel
theorem dX6_arrange_66 : decode cX6_arrange 66 = .ok (.iconst 0, 1) := by decide +kernel
theorem dX6_arrange_67 : decode cX6_arrange 67 = .ok (.goto 7, 3) := by decide +kernel
theorem dX6_arrange_70 : decode cX6_arrange 70 = .ok (.aload_n 0, 1) := by decide +kernel
theorem dX6_arrange_71 : decode cX6_arrange 71 = .ok (.getfield 33, 3) := by decide +kernel
theorem dX6_arrange_74 : decode cX6_arrange 74 = .ok (.putfield 50, 3) := by decide +kernel
theorem dX6_arrange_77 : decode cX6_arrange 77 = .ok (.aload_n 0, 1) := by decide +kernel
theorem dX6_arrange_78 : decode cX6_arrange 78 = .ok (.getfield 40, 3) := by decide +kernel
theorem dX6_arrange_81 : decode cX6_arrange 81 = .ok (.bipush 100, 2) := by decide +kernel
theorem dX6_arrange_83 : decode cX6_arrange 83 = .ok (.if_icmp .ne 12, 3) := by decide +kernel
theorem dX6_arrange_86 : decode cX6_arrange 86 = .ok (.iconst (-1), 1) := by decide +kernel
theorem dX6_arrange_87 : decode cX6_arrange 87 = .ok (.aload_n 0, 1) := by decide +kernel
theorem dX6_arrange_88 : decode cX6_arrange 88 = .ok (.getfield 43, 3) := by decide +kernel
theorem dX6_arrange_91 : decode cX6_arrange 91 = .ok (.isub, 1) := by decide +kernel
theorem dX6_arrange_92 : decode cX6_arrange 92 = .ok (.goto 7, 3) := by decide +kernel
theorem dX6_arrange_95 : decode cX6_arrange 95 = .ok (.aload_n 0, 1) := by decide +kernel
theorem dX6_arrange_96 : decode cX6_arrange 96 = .ok (.getfield 40, 3) := by decide +kernel
theorem dX6_arrange_99 : decode cX6_arrange 99 = .ok (.ireturn, 1) := by decide +kernel
theorem dX6_search_0 : decode cX6_search 0 = .ok (.aload_n 0, 1) := by decide +kernel
theorem dX6_search_1 : decode cX6_search 1 = .ok (.aload_n 0, 1) := by decide +kernel
theorem dX6_search_2 : decode cX6_search 2 = .ok (.getfield 43, 3) := by decide +kernel
theorem dX6_search_5 : decode cX6_search 5 = .ok (.iload_n 1, 1) := by decide +kernel
theorem dX6_search_6 : decode cX6_search 6 = .ok (.invokestatic 53, 3) := by decide +kernel
theorem dX6_search_9 : decode cX6_search 9 = .ok (.putfield 43, 3) := by decide +kernel
theorem dX6_search_12 : decode cX6_search 12 = .ok (.iload_n 1, 1) := by decide +kernel
theorem dX6_search_13 : decode cX6_search 13 = .ok (.ifCond .lt 17, 3) := by decide +kernel
theorem dX6_search_16 : decode cX6_search 16 = .ok (.iload_n 1, 1) := by decide +kernel
theorem dX6_search_17 : decode cX6_search 17 = .ok (.aload_n 0, 1) := by decide +kernel
theorem dX6_search_18 : decode cX6_search 18 = .ok (.getfield 33, 3) := by decide +kernel
theorem dX6_search_21 : decode cX6_search 21 = .ok (.if_icmp .ge 9, 3) := by decide +kernel
theorem dX6_search_24 : decode cX6_search 24 = .ok (.iload_n 1, 1) := by decide +kernel
theorem dX6_search_25 : decode cX6_search 25 = .ok (.bipush 8, 2) := by decide +kernel
theorem dX6_search_27 : decode cX6_search 27 = .ok (.if_icmp .lt 24, 3) := by decide +kernel
theorem dX6_search_30 : decode cX6_search 30 = .ok (.aload_n 0, 1) := by decide +kernel
theorem dX6_search_31 : decode cX6_search 31 = .ok (.iload_n 2, 1) := by decide +kernel
theorem dX6_search_32 : decode cX6_search 32 = .ok (.putfield 40, 3) := by decide +kernel
theorem dX6_search_35 : decode cX6_search 35 = .ok (.aload_n 0, 1) := by decide +kernel
theorem dX6_search_36 : decode cX6_search 36 = .ok (.getfield 21, 3) := by decide +kernel
theorem dX6_search_39 : decode cX6_search 39 = .ok (.iconst 0, 1) := by decide +kernel
theorem dX6_search_40 : decode cX6_search 40 = .ok (.aload_n 0, 1) := by decide +kernel
theorem dX6_search_41 : decode cX6_search 41 = .ok (.getfield 24, 3) := by decide +kernel
theorem dX6_search_44 : decode cX6_search 44 = .ok (.iconst 0, 1) := by decide +kernel
theorem dX6_search_45 : decode cX6_search 45 = .ok (.bipush 8, 2) := by decide +kernel
theorem dX6_search_47 : decode cX6_search 47 = .ok (.invokestatic 56, 3) := by decide +kernel
theorem dX6_search_50 : decode cX6_search 50 = .ok (.return_, 1) := by decide +kernel
theorem dX6_search_51 : decode cX6_search 51 = .ok (.iconst 0, 1) := by decide +kernel
theorem dX6_search_52 : decode cX6_search 52 = .ok (.istore_n 3, 1) := by decide +kernel
theorem dX6_search_53 : decode cX6_search 53 = .ok (.iload_n 3, 1) := by decide +kernel
theorem dX6_search_54 : decode cX6_search 54 = .ok (.aload_n 0, 1) := by decide +kernel
theorem dX6_search_55 : decode cX6_search 55 = .ok (.getfield 37, 3) := by decide +kernel
theorem dX6_search_58 : decode cX6_search 58 = .ok (.if_icmp .ge 103, 3) := by decide +kernel
theorem dX6_search_61 : decode cX6_search 61 = .ok (.iload_n 2, 1) := by decide +kernel
theorem dX6_search_62 : decode cX6_search 62 = .ok (.iload_n 1, 1) := by decide +kernel
theorem dX6_search_63 : decode cX6_search 63 = .ok (.aload_n 0, 1) := by decide +kernel
theorem dX6_search_64 : decode cX6_search 64 = .ok (.getfield 9, 3) := by decide +kernel
theorem dX6_search_67 : decode cX6_search 67 = .ok (.iload_n 3, 1) := by decide +kernel
theorem dX6_search_68 : decode cX6_search 68 = .ok (.iaload, 1) := by decide +kernel
theorem dX6_search_69 : decode cX6_search 69 = .ok (.iadd, 1) := by decide +kernel
theorem dX6_search_70 : decode cX6_search 70 = .ok (.invokestatic 53, 3) := by decide +kernel
theorem dX6_search_73 : decode cX6_search 73 = .ok (.istore 4, 2) := by decide +kernel
theorem dX6_search_75 : decode cX6_search 75 = .ok (.aload_n 0, 1) := by decide +kernel
theorem dX6_search_76 : decode cX6_search 76 = .ok (.getfield 18, 3) := by decide +kernel
theorem dX6_search_79 : decode cX6_search 79 = .ok (.iload_n 3, 1) := by decide +kernel
theorem dX6_search_80 : decode cX6_search 80 = .ok (.iaload, 1) := by decide +kernel
theorem dX6_search_81 : decode cX6_search 81 = .ok (.iload_n 1, 1) := by decide +kernel
theorem dX6_search_82 : decode cX6_search 82 = .ok (.if_icmp .gt 73, 3) := by decide +kernel
theorem dX6_search_85 : decode cX6_search 85 = .ok (.aload_n 0, 1) := by decide +kernel
theorem dX6_search_86 : decode cX6_search 86 = .ok (.getfield 15, 3) := by decide +kernel
theorem dX6_search_89 : decode cX6_search 89 = .ok (.iload_n 3, 1) := by decide +kernel
theorem dX6_search_90 : decode cX6_search 90 = .ok (.iaload, 1) := by decide +kernel
theorem dX6_search_91 : decode cX6_search 91 = .ok (.iload_n 1, 1) := by decide +kernel
theorem dX6_search_92 : decode cX6_search 92 = .ok (.ishr, 1) := by decide +kernel
theorem dX6_search_93 : decode cX6_search 93 = .ok (.iconst 1, 1) := by decide +kernel
theorem dX6_search_94 : decode cX6_search 94 = .ok (.iand, 1) := by decide +kernel
theorem dX6_search_95 : decode cX6_search 95 = .ok (.ifCond .ne 60, 3) := by decide +kernel
theorem dX6_search_98 : decode cX6_search 98 = .ok (.iload 4, 2) := by decide +kernel
theorem dX6_search_100 : decode cX6_search 100 = .ok (.aload_n 0, 1) := by decide +kernel
theorem dX6_search_101 : decode cX6_search 101 = .ok (.getfield 40, 3) := by decide +kernel
theorem dX6_search_104 : decode cX6_search 104 = .ok (.if_icmp .ge 51, 3) := by decide +kernel
theorem dX6_search_107 : decode cX6_search 107 = .ok (.aload_n 0, 1) := by decide +kernel
theorem dX6_search_108 : decode cX6_search 108 = .ok (.getfield 18, 3) := by decide +kernel
theorem dX6_search_111 : decode cX6_search 111 = .ok (.iload_n 3, 1) := by decide +kernel
theorem dX6_search_112 : decode cX6_search 112 = .ok (.iaload, 1) := by decide +kernel
theorem dX6_search_113 : decode cX6_search 113 = .ok (.istore 5, 2) := by decide +kernel
theorem dX6_search_115 : decode cX6_search 115 = .ok (.aload_n 0, 1) := by decide +kernel
theorem dX6_search_116 : decode cX6_search 116 = .ok (.getfield 18, 3) := by decide +kernel
theorem dX6_search_119 : decode cX6_search 119 = .ok (.iload_n 3, 1) := by decide +kernel
theorem dX6_search_120 : decode cX6_search 120 = .ok (.iload_n 1, 1) := by decide +kernel
theorem dX6_search_121 : decode cX6_search 121 = .ok (.aload_n 0, 1) := by decide +kernel
theorem dX6_search_122 : decode cX6_search 122 = .ok (.getfield 9, 3) := by decide +kernel
theorem dX6_search_125 : decode cX6_search 125 = .ok (.iload_n 3, 1) := by decide +kernel
theorem dX6_search_126 : decode cX6_search 126 = .ok (.iaload, 1) := by decide +kernel
theorem dX6_search_127 : decode cX6_search 127 = .ok (.iadd, 1) := by decide +kernel
theorem dX6_search_128 : decode cX6_search 128 = .ok (.iconst 1, 1) := by decide +kernel
theorem dX6_search_129 : decode cX6_search 129 = .ok (.iadd, 1) := by decide +kernel
theorem dX6_search_130 : decode cX6_search 130 = .ok (.iastore, 1) := by decide +kernel
theorem dX6_search_131 : decode cX6_search 131 = .ok (.aload_n 0, 1) := by decide +kernel
theorem dX6_search_132 : decode cX6_search 132 = .ok (.getfield 21, 3) := by decide +kernel
theorem dX6_search_135 : decode cX6_search 135 = .ok (.iload_n 1, 1) := by decide +kernel
theorem dX6_search_136 : decode cX6_search 136 = .ok (.iload_n 3, 1) := by decide +kernel
theorem dX6_search_137 : decode cX6_search 137 = .ok (.iastore, 1) := by decide +kernel
theorem dX6_search_138 : decode cX6_search 138 = .ok (.aload_n 0, 1) := by decide +kernel
theorem dX6_search_139 : decode cX6_search 139 = .ok (.iload_n 1, 1) := by decide +kernel
theorem dX6_search_140 : decode cX6_search 140 = .ok (.iconst 1, 1) := by decide +kernel
theorem dX6_search_141 : decode cX6_search 141 = .ok (.iadd, 1) := by decide +kernel
theorem dX6_search_142 : decode cX6_search 142 = .ok (.iload 4, 2) := by decide +kernel
theorem dX6_search_144 : decode cX6_search 144 = .ok (.invokevirtual 46, 3) := by decide +kernel
theorem dX6_search_147 : decode cX6_search 147 = .ok (.aload_n 0, 1) := by decide +kernel
theorem dX6_search_148 : decode cX6_search 148 = .ok (.getfield 18, 3) := by decide +kernel
theorem dX6_search_151 : decode cX6_search 151 = .ok (.iload_n 3, 1) := by decide +kernel
theorem dX6_search_152 : decode cX6_search 152 = .ok (.iload 5, 2) := by decide +kernel
theorem dX6_search_154 : decode cX6_search 154 = .ok (.iastore, 1) := by decide +kernel
theorem dX6_search_155 : decode cX6_search 155 = .ok (.iinc 3 1, 3) := by decide +kernel
theorem dX6_search_158 : decode cX6_search 158 = .ok (.goto (-105), 3) := by decide +kernel
theorem dX6_search_161 : decode cX6_search 161 = .ok (.return_, 1) := by decide +kernel
theorem dX6_taker_0 : decode cX6_taker 0 = .ok (.iload_n 1, 1) := by decide +kernel
theorem dX6_taker_1 : decode cX6_taker 1 = .ok (.ifCond .lt 26, 3) := by decide +kernel
theorem dX6_taker_4 : decode cX6_taker 4 = .ok (.iload_n 1, 1) := by decide +kernel
theorem dX6_taker_5 : decode cX6_taker 5 = .ok (.aload_n 0, 1) := by decide +kernel
theorem dX6_taker_6 : decode cX6_taker 6 = .ok (.getfield 50, 3) := by decide +kernel
theorem dX6_taker_9 : decode cX6_taker 9 = .ok (.if_icmp .ge 18, 3) := by decide +kernel
theorem dX6_taker_12 : decode cX6_taker 12 = .ok (.iload_n 1, 1) := by decide +kernel
theorem dX6_taker_13 : decode cX6_taker 13 = .ok (.bipush 8, 2) := by decide +kernel
theorem dX6_taker_15 : decode cX6_taker 15 = .ok (.if_icmp .ge 12, 3) := by decide +kernel
theorem dX6_taker_18 : decode cX6_taker 18 = .ok (.aload_n 0, 1) := by decide +kernel
theorem dX6_taker_19 : decode cX6_taker 19 = .ok (.getfield 24, 3) := by decide +kernel
theorem dX6_taker_22 : decode cX6_taker 22 = .ok (.iload_n 1, 1) := by decide +kernel
theorem dX6_taker_23 : decode cX6_taker 23 = .ok (.iaload, 1) := by decide +kernel
theorem dX6_taker_24 : decode cX6_taker 24 = .ok (.goto 4, 3) := by decide +kernel
theorem dX6_taker_27 : decode cX6_taker 27 = .ok (.iconst (-1), 1) := by decide +kernel
theorem dX6_taker_28 : decode cX6_taker 28 = .ok (.ireturn, 1) := by decide +kernel
