theorem dX7_init_0 : decode cX7_init 0 = .ok (.aload_n 0, 1) := by decide +kernel
theorem dX7_init_1 : decode cX7_init 1 = .ok (.invokespecial 3, 3) := by decide +kernel
theorem dX7_init_4 : decode cX7_init 4 = .ok (.aload_n 0, 1) := by decide +kernel
theorem dX7_init_5 : decode cX7_init 5 = .ok (.sipush 2400, 3) := by decide +kernel
theorem dX7_init_8 : decode cX7_init 8 = .ok (.newarray .int, 2) := by decide +kernel
theorem dX7_init_10 : decode cX7_init 10 = .ok (.putfield 9, 3) := by decide +kernel
theorem dX7_init_13 : decode cX7_init 13 = .ok (.aload_n 0, 1) := by decide +kernel
theorem dX7_init_14 : decode cX7_init 14 = .ok (.sipush 144, 3) := by decide +kernel
theorem dX7_init_17 : decode cX7_init 17 = .ok (.newarray .int, 2) := by decide +kernel
theorem dX7_init_19 : decode cX7_init 19 = .ok (.putfield 15, 3) := by decide +kernel
theorem dX7_init_22 : decode cX7_init 22 = .ok (.aload_n 0, 1) := by decide +kernel
theorem dX7_init_23 : decode cX7_init 23 = .ok (.sipush 144, 3) := by decide +kernel
theorem dX7_init_26 : decode cX7_init 26 = .ok (.newarray .long, 2) := by decide +kernel
theorem dX7_init_28 : decode cX7_init 28 = .ok (.putfield 18, 3) := by decide +kernel
theorem dX7_init_31 : decode cX7_init 31 = .ok (.aload_n 0, 1) := by decide +kernel
theorem dX7_init_32 : decode cX7_init 32 = .ok (.sipush 144, 3) := by decide +kernel
theorem dX7_init_35 : decode cX7_init 35 = .ok (.newarray .int, 2) := by decide +kernel
theorem dX7_init_37 : decode cX7_init 37 = .ok (.putfield 22, 3) := by decide +kernel
theorem dX7_init_40 : decode cX7_init 40 = .ok (.aload_n 0, 1) := by decide +kernel
theorem dX7_init_41 : decode cX7_init 41 = .ok (.sipush 144, 3) := by decide +kernel
theorem dX7_init_44 : decode cX7_init 44 = .ok (.newarray .int, 2) := by decide +kernel
theorem dX7_init_46 : decode cX7_init 46 = .ok (.putfield 25, 3) := by decide +kernel
theorem dX7_init_49 : decode cX7_init 49 = .ok (.aload_n 0, 1) := by decide +kernel
theorem dX7_init_50 : decode cX7_init 50 = .ok (.sipush 144, 3) := by decide +kernel
theorem dX7_init_53 : decode cX7_init 53 = .ok (.newarray .int, 2) := by decide +kernel
theorem dX7_init_55 : decode cX7_init 55 = .ok (.putfield 28, 3) := by decide +kernel
theorem dX7_init_58 : decode cX7_init 58 = .ok (.aload_n 0, 1) := by decide +kernel
theorem dX7_init_59 : decode cX7_init 59 = .ok (.sipush 144, 3) := by decide +kernel
theorem dX7_init_62 : decode cX7_init 62 = .ok (.newarray .int, 2) := by decide +kernel
theorem dX7_init_64 : decode cX7_init 64 = .ok (.putfield 31, 3) := by decide +kernel
theorem dX7_init_67 : decode cX7_init 67 = .ok (.aload_n 0, 1) := by decide +kernel
theorem dX7_init_68 : decode cX7_init 68 = .ok (.sipush 144, 3) := by decide +kernel
theorem dX7_init_71 : decode cX7_init 71 = .ok (.newarray .int, 2) := by decide +kernel
theorem dX7_init_73 : decode cX7_init 73 = .ok (.putfield 34, 3) := by decide +kernel
theorem dX7_init_76 : decode cX7_init 76 = .ok (.aload_n 0, 1) := by decide +kernel
theorem dX7_init_77 : decode cX7_init 77 = .ok (.bipush 6, 2) := by decide +kernel
theorem dX7_init_79 : decode cX7_init 79 = .ok (.newarray .int, 2) := by decide +kernel
theorem dX7_init_81 : decode cX7_init 81 = .ok (.putfield 37, 3) := by decide +kernel
theorem dX7_init_84 : decode cX7_init 84 = .ok (.aload_n 0, 1) := by decide +kernel
theorem dX7_init_85 : decode cX7_init 85 = .ok (.bipush 6, 2) := by decide +kernel
theorem dX7_init_87 : decode cX7_init 87 = .ok (.newarray .int, 2) := by decide +kernel
theorem dX7_init_89 : decode cX7_init 89 = .ok (.putfield 40, 3) := by decide +kernel
theorem dX7_init_92 : decode cX7_init 92 = .ok (.aload_n 0, 1) := by decide +kernel
theorem dX7_init_93 : decode cX7_init 93 = .ok (.sipush 1008, 3) := by decide +kernel
theorem dX7_init_96 : decode cX7_init 96 = .ok (.newarray .int, 2) := by decide +kernel
theorem dX7_init_98 : decode cX7_init 98 = .ok (.putfield 43, 3) := by decide +kernel
theorem dX7_init_101 : decode cX7_init 101 = .ok (.aload_n 0, 1) := by decide +kernel
theorem dX7_init_102 : decode cX7_init 102 = .ok (.bipush 7, 2) := by decide +kernel
theorem dX7_init_104 : decode cX7_init 104 = .ok (.newarray .int, 2) := by decide +kernel
theorem dX7_init_106 : decode cX7_init 106 = .ok (.putfield 46, 3) := by decide +kernel
theorem dX7_init_109 : decode cX7_init 109 = .ok (.aload_n 0, 1) := by decide +kernel
theorem dX7_init_110 : decode cX7_init 110 = .ok (.new 49, 3) := by decide +kernel
theorem dX7_init_113 : decode cX7_init 113 = .ok (.dup, 1) := by decide +kernel
theorem dX7_init_114 : decode cX7_init 114 = .ok (.invokespecial 51, 3) := by decide +kernel
theorem dX7_init_117 : decode cX7_init 117 = .ok (.putfield 52, 3) := by decide +kernel
theorem dX7_init_120 : decode cX7_init 120 = .ok (.return_, 1) := by decide +kernel
theorem dX7_openText_0 : decode cX7_openText 0 = .ok (.aload_n 0, 1) := by decide +kernel
theorem dX7_openText_1 : decode cX7_openText 1 = .ok (.aload_n 0, 1) := by decide +kernel
theorem dX7_openText_2 : decode cX7_openText 2 = .ok (.getfield 56, 3) := by decide +kernel
theorem dX7_openText_5 : decode cX7_openText 5 = .ok (.ifCond .le 26, 3) := by decide +kernel
theorem dX7_openText_8 : decode cX7_openText 8 = .ok (.aload_n 0, 1) := by decide +kernel
theorem dX7_openText_9 : decode cX7_openText 9 = .ok (.getfield 56, 3) := by decide +kernel
theorem dX7_openText_12 : decode cX7_openText 12 = .ok (.bipush 6, 2) := by decide +kernel
theorem dX7_openText_14 : decode cX7_openText 14 = .ok (.if_icmp .gt 17, 3) := by decide +kernel
theorem dX7_openText_17 : decode cX7_openText 17 = .ok (.aload_n 0, 1) := by decide +kernel
theorem dX7_openText_18 : decode cX7_openText 18 = .ok (.getfield 40, 3) := by decide +kernel
theorem dX7_openText_21 : decode cX7_openText 21 = .ok (.aload_n 0, 1) := by decide +kernel
theorem dX7_openText_22 : decode cX7_openText 22 = .ok (.getfield 56, 3) := by decide +kernel
theorem dX7_openText_25 : decode cX7_openText 25 = .ok (.iconst 1, 1) := by decide +kernel
theorem dX7_openText_26 : decode cX7_openText 26 = .ok (.isub, 1) := by decide +kernel
theorem dX7_openText_27 : decode cX7_openText 27 = .ok (.iaload, 1) := by decide +kernel
theorem dX7_openText_28 : decode cX7_openText 28 = .ok (.goto 4, 3) := by decide +kernel
theorem dX7_openText_31 : decode cX7_openText 31 = .ok (.iconst 0, 1) := by decide +kernel
theorem dX7_openText_32 : decode cX7_openText 32 = .ok (.putfield 60, 3) := by decide +kernel
theorem dX7_openText_35 : decode cX7_openText 35 = .ok (.aload_n 0, 1) := by decide +kernel
theorem dX7_openText_36 : decode cX7_openText 36 = .ok (.aload_n 0, 1) := by decide +kernel
theorem dX7_openText_37 : decode cX7_openText 37 = .ok (.getfield 60, 3) := by decide +kernel
theorem dX7_openText_40 : decode cX7_openText 40 = .ok (.ifCond .le 27, 3) := by decide +kernel
theorem dX7_openText_43 : decode cX7_openText 43 = .ok (.aload_n 0, 1) := by decide +kernel
theorem dX7_openText_44 : decode cX7_openText 44 = .ok (.getfield 60, 3) := by decide +kernel
theorem dX7_openText_47 : decode cX7_openText 47 = .ok (.sipush 144, 3) := by decide +kernel
theorem dX7_openText_50 : decode cX7_openText 50 = .ok (.if_icmp .gt 17, 3) := by decide +kernel
theorem dX7_openText_53 : decode cX7_openText 53 = .ok (.aload_n 0, 1) := by decide +kernel
theorem dX7_openText_54 : decode cX7_openText 54 = .ok (.getfield 34, 3) := by decide +kernel
theorem dX7_openText_57 : decode cX7_openText 57 = .ok (.aload_n 0, 1) := by decide +kernel
theorem dX7_openText_58 : decode cX7_openText 58 = .ok (.getfield 60, 3) := by decide +kernel
theorem dX7_openText_61 : decode cX7_openText 61 = .ok (.iconst 1, 1) := by decide +kernel
theorem dX7_openText_62 : decode cX7_openText 62 = .ok (.isub, 1) := by decide +kernel
theorem dX7_openText_63 : decode cX7_openText 63 = .ok (.iaload, 1) := by decide +kernel
theorem dX7_openText_64 : decode cX7_openText 64 = .ok (.goto 4, 3) := by decide +kernel
theorem dX7_openText_67 : decode cX7_openText 67 = .ok (.iconst 0, 1) := by decide +kernel
theorem dX7_openText_68 : decode cX7_openText 68 = .ok (.putfield 63, 3) := by decide +kernel
theorem dX7_openText_71 : decode cX7_openText 71 = .ok (.return_, 1) := by decide +kernel
theorem dX7_openRule_0 : decode cX7_openRule 0 = .ok (.aload_n 0, 1) := by decide +kernel
theorem dX7_openRule_1 : decode cX7_openRule 1 = .ok (.getfield 60, 3) := by decide +kernel
theorem dX7_openRule_4 : decode cX7_openRule 4 = .ok (.ifCond .lt 13, 3) := by decide +kernel
theorem dX7_openRule_7 : decode cX7_openRule 7 = .ok (.aload_n 0, 1) := by decide +kernel
theorem dX7_openRule_8 : decode cX7_openRule 8 = .ok (.getfield 60, 3) := by decide +kernel
theorem dX7_openRule_11 : decode cX7_openRule 11 = .ok (.sipush 144, 3) := by decide +kernel
theorem dX7_openRule_14 : decode cX7_openRule 14 = .ok (.if_icmp .lt 4, 3) := by decide +kernel
theorem dX7_openRule_17 : decode cX7_openRule 17 = .ok (.return_, 1) := by decide +kernel
theorem dX7_openRule_18 : decode cX7_openRule 18 = .ok (.aload_n 0, 1) := by decide +kernel
theorem dX7_openRule_19 : decode cX7_openRule 19 = .ok (.getfield 15, 3) := by decide +kernel
theorem dX7_openRule_22 : decode cX7_openRule 22 = .ok (.aload_n 0, 1) := by decide +kernel
theorem dX7_openRule_23 : decode cX7_openRule 23 = .ok (.getfield 60, 3) := by decide +kernel
theorem dX7_openRule_26 : decode cX7_openRule 26 = .ok (.iload_n 1, 1) := by decide +kernel
theorem dX7_openRule_27 : decode cX7_openRule 27 = .ok (.iastore, 1) := by decide +kernel
theorem dX7_openRule_28 : decode cX7_openRule 28 = .ok (.aload_n 0, 1) := by decide +kernel
theorem dX7_openRule_29 : decode cX7_openRule 29 = .ok (.getfield 18, 3) := by decide +kernel
theorem dX7_openRule_32 : decode cX7_openRule 32 = .ok (.aload_n 0, 1) := by decide +kernel
theorem dX7_openRule_33 : decode cX7_openRule 33 = .ok (.getfield 60, 3) := by decide +kernel
theorem dX7_openRule_36 : decode cX7_openRule 36 = .ok (.lload_n 2, 1) := by decide +kernel
theorem dX7_openRule_37 : decode cX7_openRule 37 = .ok (.lastore, 1) := by decide +kernel
theorem dX7_openRule_38 : decode cX7_openRule 38 = .ok (.aload_n 0, 1) := by decide +kernel
theorem dX7_openRule_39 : decode cX7_openRule 39 = .ok (.getfield 22, 3) := by decide +kernel
theorem dX7_openRule_42 : decode cX7_openRule 42 = .ok (.aload_n 0, 1) := by decide +kernel
theorem dX7_openRule_43 : decode cX7_openRule 43 = .ok (.getfield 60, 3) := by decide +kernel
theorem dX7_openRule_46 : decode cX7_openRule 46 = .ok (.aload_n 0, 1) := by decide +kernel
theorem dX7_openRule_47 : decode cX7_openRule 47 = .ok (.getfield 56, 3) := by decide +kernel
theorem dX7_openRule_50 : decode cX7_openRule 50 = .ok (.iastore, 1) := by decide +kernel
theorem dX7_openRule_51 : decode cX7_openRule 51 = .ok (.aload_n 0, 1) := by decide +kernel
theorem dX7_openRule_52 : decode cX7_openRule 52 = .ok (.getfield 25, 3) := by decide +kernel
theorem dX7_openRule_55 : decode cX7_openRule 55 = .ok (.aload_n 0, 1) := by decide +kernel
theorem dX7_openRule_56 : decode cX7_openRule 56 = .ok (.getfield 60, 3) := by decide +kernel
theorem dX7_openRule_59 : decode cX7_openRule 59 = .ok (.iload 4, 2) := by decide +kernel
theorem dX7_openRule_61 : decode cX7_openRule 61 = .ok (.iastore, 1) := by decide +kernel
theorem dX7_openRule_62 : decode cX7_openRule 62 = .ok (.aload_n 0, 1) := by decide +kernel
theorem dX7_openRule_63 : decode cX7_openRule 63 = .ok (.getfield 28, 3) := by decide +kernel
theorem dX7_openRule_66 : decode cX7_openRule 66 = .ok (.aload_n 0, 1) := by decide +kernel
theorem dX7_openRule_67 : decode cX7_openRule 67 = .ok (.getfield 60, 3) := by decide +kernel
theorem dX7_openRule_70 : decode cX7_openRule 70 = .ok (.aload_n 0, 1) := by decide +kernel
theorem dX7_openRule_71 : decode cX7_openRule 71 = .ok (.getfield 63, 3) := by decide +kernel
theorem dX7_openRule_74 : decode cX7_openRule 74 = .ok (.iastore, 1) := by decide +kernel
theorem dX7_openRule_75 : decode cX7_openRule 75 = .ok (.aload_n 0, 1) := by decide +kernel
theorem dX7_openRule_76 : decode cX7_openRule 76 = .ok (.getfield 31, 3) := by decide +kernel
theorem dX7_openRule_79 : decode cX7_openRule 79 = .ok (.aload_n 0, 1) := by decide +kernel
theorem dX7_openRule_80 : decode cX7_openRule 80 = .ok (.getfield 60, 3) := by decide +kernel
theorem dX7_openRule_83 : decode cX7_openRule 83 = .ok (.aload_n 0, 1) := by decide +kernel
theorem dX7_openRule_84 : decode cX7_openRule 84 = .ok (.getfield 63, 3) := by decide +kernel
theorem dX7_openRule_87 : decode cX7_openRule 87 = .ok (.iastore, 1) := by decide +kernel
theorem dX7_openRule_88 : decode cX7_openRule 88 = .ok (.return_, 1) := by decide +kernel
theorem dX7_beginCondition_0 : decode cX7_beginCondition 0 = .ok (.aload_n 0, 1) := by decide +kernel
theorem dX7_beginCondition_1 : decode cX7_beginCondition 1 = .ok (.getfield 60, 3) := by decide +kernel
theorem dX7_beginCondition_4 : decode cX7_beginCondition 4 = .ok (.ifCond .lt 26, 3) := by decide +kernel
theorem dX7_beginCondition_7 : decode cX7_beginCondition 7 = .ok (.aload_n 0, 1) := by decide +kernel
theorem dX7_beginCondition_8 : decode cX7_beginCondition 8 = .ok (.getfield 60, 3) := by decide +kernel
theorem dX7_beginCondition_11 : decode cX7_beginCondition 11 = .ok (.sipush 144, 3) := by decide +kernel
theorem dX7_beginCondition_14 : decode cX7_beginCondition 14 = .ok (.if_icmp .ge 16, 3) := by decide +kernel
theorem dX7_beginCondition_17 : decode cX7_beginCondition 17 = .ok (.aload_n 0, 1) := by decide +kernel
theorem dX7_beginCondition_18 : decode cX7_beginCondition 18 = .ok (.getfield 31, 3) := by decide +kernel
theorem dX7_beginCondition_21 : decode cX7_beginCondition 21 = .ok (.aload_n 0, 1) := by decide +kernel
theorem dX7_beginCondition_22 : decode cX7_beginCondition 22 = .ok (.getfield 60, 3) := by decide +kernel
theorem dX7_beginCondition_25 : decode cX7_beginCondition 25 = .ok (.aload_n 0, 1) := by decide +kernel
theorem dX7_beginCondition_26 : decode cX7_beginCondition 26 = .ok (.getfield 63, 3) := by decide +kernel
theorem dX7_beginCondition_29 : decode cX7_beginCondition 29 = .ok (.iastore, 1) := by decide +kernel
theorem dX7_beginCondition_30 : decode cX7_beginCondition 30 = .ok (.return_, 1) := by decide +kernel
theorem dX7_emit_0 : decode cX7_emit 0 = .ok (.aload_n 0, 1) := by decide +kernel
theorem dX7_emit_1 : decode cX7_emit 1 = .ok (.getfield 63, 3) := by decide +kernel
theorem dX7_emit_4 : decode cX7_emit 4 = .ok (.ifCond .lt 33, 3) := by decide +kernel
theorem dX7_emit_7 : decode cX7_emit 7 = .ok (.aload_n 0, 1) := by decide +kernel
theorem dX7_emit_8 : decode cX7_emit 8 = .ok (.getfield 63, 3) := by decide +kernel
theorem dX7_emit_11 : decode cX7_emit 11 = .ok (.sipush 2400, 3) := by decide +kernel
theorem dX7_emit_14 : decode cX7_emit 14 = .ok (.if_icmp .ge 23, 3) := by decide +kernel
theorem dX7_emit_17 : decode cX7_emit 17 = .ok (.aload_n 0, 1) := by decide +kernel
theorem dX7_emit_18 : decode cX7_emit 18 = .ok (.getfield 9, 3) := by decide +kernel
theorem dX7_emit_21 : decode cX7_emit 21 = .ok (.aload_n 0, 1) := by decide +kernel
theorem dX7_emit_22 : decode cX7_emit 22 = .ok (.getfield 63, 3) := by decide +kernel
theorem dX7_emit_25 : decode cX7_emit 25 = .ok (.iload_n 1, 1) := by decide +kernel
theorem dX7_emit_26 : decode cX7_emit 26 = .ok (.iastore, 1) := by decide +kernel
theorem dX7_emit_27 : decode cX7_emit 27 = .ok (.aload_n 0, 1) := by decide +kernel
theorem dX7_emit_28 : decode cX7_emit 28 = .ok (.dup, 1) := by decide +kernel
theorem dX7_emit_29 : decode cX7_emit 29 = .ok (.getfield 63, 3) := by decide +kernel
theorem dX7_emit_32 : decode cX7_emit 32 = .ok (.iconst 1, 1) := by decide +kernel
theorem dX7_emit_33 : decode cX7_emit 33 = .ok (.iadd, 1) := by decide +kernel
theorem dX7_emit_34 : decode cX7_emit 34 = .ok (.putfield 63, 3) := by decide +kernel
theorem dX7_emit_37 : decode cX7_emit 37 = .ok (.return_, 1) := by decide +kernel
theorem dX7_closeRule_0 : decode cX7_closeRule 0 = .ok (.aload_n 0, 1) := by decide +kernel
theorem dX7_closeRule_1 : decode cX7_closeRule 1 = .ok (.getfield 60, 3) := by decide +kernel
theorem dX7_closeRule_4 : decode cX7_closeRule 4 = .ok (.ifCond .lt 36, 3) := by decide +kernel
theorem dX7_closeRule_7 : decode cX7_closeRule 7 = .ok (.aload_n 0, 1) := by decide +kernel
theorem dX7_closeRule_8 : decode cX7_closeRule 8 = .ok (.getfield 60, 3) := by decide +kernel
theorem dX7_closeRule_11 : decode cX7_closeRule 11 = .ok (.sipush 144, 3) := by decide +kernel
theorem dX7_closeRule_14 : decode cX7_closeRule 14 = .ok (.if_icmp .ge 26, 3) := by decide +kernel
theorem dX7_closeRule_17 : decode cX7_closeRule 17 = .ok (.aload_n 0, 1) := by decide +kernel
theorem dX7_closeRule_18 : decode cX7_closeRule 18 = .ok (.getfield 34, 3) := by decide +kernel
theorem dX7_closeRule_21 : decode cX7_closeRule 21 = .ok (.aload_n 0, 1) := by decide +kernel
theorem dX7_closeRule_22 : decode cX7_closeRule 22 = .ok (.getfield 60, 3) := by decide +kernel
theorem dX7_closeRule_25 : decode cX7_closeRule 25 = .ok (.aload_n 0, 1) := by decide +kernel
theorem dX7_closeRule_26 : decode cX7_closeRule 26 = .ok (.getfield 63, 3) := by decide +kernel
theorem dX7_closeRule_29 : decode cX7_closeRule 29 = .ok (.iastore, 1) := by decide +kernel
theorem dX7_closeRule_30 : decode cX7_closeRule 30 = .ok (.aload_n 0, 1) := by decide +kernel
theorem dX7_closeRule_31 : decode cX7_closeRule 31 = .ok (.dup, 1) := by decide +kernel
theorem dX7_closeRule_32 : decode cX7_closeRule 32 = .ok (.getfield 60, 3) := by decide +kernel
theorem dX7_closeRule_35 : decode cX7_closeRule 35 = .ok (.iconst 1, 1) := by decide +kernel
theorem dX7_closeRule_36 : decode cX7_closeRule 36 = .ok (.iadd, 1) := by decide +kernel
theorem dX7_closeRule_37 : decode cX7_closeRule 37 = .ok (.putfield 60, 3) := by decide +kernel
theorem dX7_closeRule_40 : decode cX7_closeRule 40 = .ok (.return_, 1) := by decide +kernel
theorem dX7_closeText_0 : decode cX7_closeText 0 = .ok (.aload_n 0, 1) := by decide +kernel
theorem dX7_closeText_1 : decode cX7_closeText 1 = .ok (.getfield 56, 3) := by decide +kernel
theorem dX7_closeText_4 : decode cX7_closeText 4 = .ok (.ifCond .lt 12, 3) := by decide +kernel
theorem dX7_closeText_7 : decode cX7_closeText 7 = .ok (.aload_n 0, 1) := by decide +kernel
theorem dX7_closeText_8 : decode cX7_closeText 8 = .ok (.getfield 56, 3) := by decide +kernel
theorem dX7_closeText_11 : decode cX7_closeText 11 = .ok (.bipush 6, 2) := by decide +kernel
theorem dX7_closeText_13 : decode cX7_closeText 13 = .ok (.if_icmp .lt 4, 3) := by decide +kernel
theorem dX7_closeText_16 : decode cX7_closeText 16 = .ok (.return_, 1) := by decide +kernel
theorem dX7_closeText_17 : decode cX7_closeText 17 = .ok (.aload_n 0, 1) := by decide +kernel
theorem dX7_closeText_18 : decode cX7_closeText 18 = .ok (.getfield 37, 3) := by decide +kernel
theorem dX7_closeText_21 : decode cX7_closeText 21 = .ok (.aload_n 0, 1) := by decide +kernel
theorem dX7_closeText_22 : decode cX7_closeText 22 = .ok (.getfield 56, 3) := by decide +kernel
theorem dX7_closeText_25 : decode cX7_closeText 25 = .ok (.iload_n 1, 1) := by decide +kernel
theorem dX7_closeText_26 : decode cX7_closeText 26 = .ok (.iastore, 1) := by decide +kernel
theorem dX7_closeText_27 : decode cX7_closeText 27 = .ok (.aload_n 0, 1) := by decide +kernel
theorem dX7_closeText_28 : decode cX7_closeText 28 = .ok (.getfield 40, 3) := by decide +kernel
theorem dX7_closeText_31 : decode cX7_closeText 31 = .ok (.aload_n 0, 1) := by decide +kernel
theorem dX7_closeText_32 : decode cX7_closeText 32 = .ok (.getfield 56, 3) := by decide +kernel
theorem dX7_closeText_35 : decode cX7_closeText 35 = .ok (.aload_n 0, 1) := by decide +kernel
theorem dX7_closeText_36 : decode cX7_closeText 36 = .ok (.getfield 60, 3) := by decide +kernel
theorem dX7_closeText_39 : decode cX7_closeText 39 = .ok (.iastore, 1) := by decide +kernel
theorem dX7_closeText_40 : decode cX7_closeText 40 = .ok (.aload_n 0, 1) := by decide +kernel
theorem dX7_closeText_41 : decode cX7_closeText 41 = .ok (.dup, 1) := by decide +kernel
theorem dX7_closeText_42 : decode cX7_closeText 42 = .ok (.getfield 56, 3) := by decide +kernel
theorem dX7_closeText_45 : decode cX7_closeText 45 = .ok (.iconst 1, 1) := by decide +kernel
theorem dX7_closeText_46 : decode cX7_closeText 46 = .ok (.iadd, 1) := by decide +kernel
theorem dX7_closeText_47 : decode cX7_closeText 47 = .ok (.putfield 56, 3) := by decide +kernel
theorem dX7_closeText_50 : decode cX7_closeText 50 = .ok (.aload_n 0, 1) := by decide +kernel
theorem dX7_closeText_51 : decode cX7_closeText 51 = .ok (.invokevirtual 66, 3) := by decide +kernel
theorem dX7_closeText_54 : decode cX7_closeText 54 = .ok (.return_, 1) := by decide +kernel
theorem dX7_enforceAll_0 : decode cX7_enforceAll 0 = .ok (.iconst 0, 1) := by decide +kernel
theorem dX7_enforceAll_1 : decode cX7_enforceAll 1 = .ok (.istore_n 1, 1) := by decide +kernel
theorem dX7_enforceAll_2 : decode cX7_enforceAll 2 = .ok (.iconst 0, 1) := by decide +kernel
theorem dX7_enforceAll_3 : decode cX7_enforceAll 3 = .ok (.istore_n 2, 1) := by decide +kernel
theorem dX7_enforceAll_4 : decode cX7_enforceAll 4 = .ok (.iload_n 2, 1) := by decide +kernel
theorem dX7_enforceAll_5 : decode cX7_enforceAll 5 = .ok (.bipush 100, 2) := by decide +kernel
theorem dX7_enforceAll_7 : decode cX7_enforceAll 7 = .ok (.if_icmp .ge 50, 3) := by decide +kernel
theorem dX7_enforceAll_10 : decode cX7_enforceAll 10 = .ok (.iconst 0, 1) := by decide +kernel
theorem dX7_enforceAll_11 : decode cX7_enforceAll 11 = .ok (.istore_n 3, 1) := by decide +kernel
theorem dX7_enforceAll_12 : decode cX7_enforceAll 12 = .ok (.iload_n 3, 1) := by decide +kernel
theorem dX7_enforceAll_13 : decode cX7_enforceAll 13 = .ok (.aload_n 0, 1) := by decide +kernel
theorem dX7_enforceAll_14 : decode cX7_enforceAll 14 = .ok (.getfield 56, 3) := by decide +kernel
theorem dX7_enforceAll_17 : decode cX7_enforceAll 17 = .ok (.if_icmp .ge 34, 3) := by decide +kernel
theorem dX7_enforceAll_20 : decode cX7_enforceAll 20 = .ok (.iload_n 1, 1) := by decide +kernel
theorem dX7_enforceAll_21 : decode cX7_enforceAll 21 = .ok (.bipush 6, 2) := by decide +kernel
theorem dX7_enforceAll_23 : decode cX7_enforceAll 23 = .ok (.if_icmp .ge 28, 3) := by decide +kernel
theorem dX7_enforceAll_26 : decode cX7_enforceAll 26 = .ok (.aload_n 0, 1) := by decide +kernel
theorem dX7_enforceAll_27 : decode cX7_enforceAll 27 = .ok (.getfield 37, 3) := by decide +kernel
theorem dX7_enforceAll_30 : decode cX7_enforceAll 30 = .ok (.iload_n 3, 1) := by decide +kernel
theorem dX7_enforceAll_31 : decode cX7_enforceAll 31 = .ok (.iaload, 1) := by decide +kernel
theorem dX7_enforceAll_32 : decode cX7_enforceAll 32 = .ok (.iload_n 2, 1) := by decide +kernel
theorem dX7_enforceAll_33 : decode cX7_enforceAll 33 = .ok (.if_icmp .ne 12, 3) := by decide +kernel
theorem dX7_enforceAll_36 : decode cX7_enforceAll 36 = .ok (.aload_n 0, 1) := by decide +kernel
theorem dX7_enforceAll_37 : decode cX7_enforceAll 37 = .ok (.iload_n 3, 1) := by decide +kernel
theorem dX7_enforceAll_38 : decode cX7_enforceAll 38 = .ok (.iload_n 1, 1) := by decide +kernel
theorem dX7_enforceAll_39 : decode cX7_enforceAll 39 = .ok (.invokevirtual 69, 3) := by decide +kernel
theorem dX7_enforceAll_42 : decode cX7_enforceAll 42 = .ok (.iinc 1 1, 3) := by decide +kernel
theorem dX7_enforceAll_45 : decode cX7_enforceAll 45 = .ok (.iinc 3 1, 3) := by decide +kernel
theorem dX7_enforceAll_48 : decode cX7_enforceAll 48 = .ok (.goto (-36), 3) := by decide +kernel
theorem dX7_enforceAll_51 : decode cX7_enforceAll 51 = .ok (.iinc 2 1, 3) := by decide +kernel
theorem dX7_enforceAll_54 : decode cX7_enforceAll 54 = .ok (.goto (-50), 3) := by decide +kernel
theorem dX7_enforceAll_57 : decode cX7_enforceAll 57 = .ok (.return_, 1) := by decide +kernel
theorem dX7_enforceText_0 : decode cX7_enforceText 0 = .ok (.iload_n 2, 1) := by decide +kernel
theorem dX7_enforceText_1 : decode cX7_enforceText 1 = .ok (.sipush 144, 3) := by decide +kernel
theorem dX7_enforceText_4 : decode cX7_enforceText 4 = .ok (.imul, 1) := by decide +kernel
theorem dX7_enforceText_5 : decode cX7_enforceText 5 = .ok (.istore_n 3, 1) := by decide +kernel
theorem dX7_enforceText_6 : decode cX7_enforceText 6 = .ok (.iload_n 3, 1) := by decide +kernel
theorem dX7_enforceText_7 : decode cX7_enforceText 7 = .ok (.sipush 144, 3) := by decide +kernel
theorem dX7_enforceText_10 : decode cX7_enforceText 10 = .ok (.iadd, 1) := by decide +kernel
theorem dX7_enforceText_11 : decode cX7_enforceText 11 = .ok (.istore 4, 2) := by decide +kernel
theorem dX7_enforceText_13 : decode cX7_enforceText 13 = .ok (.aload_n 0, 1) := by decide +kernel
theorem dX7_enforceText_14 : decode cX7_enforceText 14 = .ok (.getfield 43, 3) := by decide +kernel
theorem dX7_enforceText_17 : decode cX7_enforceText 17 = .ok (.iload_n 3, 1) := by decide +kernel
theorem dX7_enforceText_18 : decode cX7_enforceText 18 = .ok (.aload_n 0, 1) := by decide +kernel
theorem dX7_enforceText_19 : decode cX7_enforceText 19 = .ok (.getfield 43, 3) := by decide +kernel
theorem dX7_enforceText_22 : decode cX7_enforceText 22 = .ok (.iload 4, 2) := by decide +kernel
theorem dX7_enforceText_24 : decode cX7_enforceText 24 = .ok (.sipush 144, 3) := by decide +kernel
theorem dX7_enforceText_27 : decode cX7_enforceText 27 = .ok (.invokestatic 73, 3) := by decide +kernel
theorem dX7_enforceText_30 : decode cX7_enforceText 30 = .ok (.aload_n 0, 1) := by decide +kernel
theorem dX7_enforceText_31 : decode cX7_enforceText 31 = .ok (.getfield 46, 3) := by decide +kernel
theorem dX7_enforceText_34 : decode cX7_enforceText 34 = .ok (.iload_n 2, 1) := by decide +kernel
theorem dX7_enforceText_35 : decode cX7_enforceText 35 = .ok (.iconst 1, 1) := by decide +kernel
theorem dX7_enforceText_36 : decode cX7_enforceText 36 = .ok (.iadd, 1) := by decide +kernel
theorem dX7_enforceText_37 : decode cX7_enforceText 37 = .ok (.aload_n 0, 1) := by decide +kernel
theorem dX7_enforceText_38 : decode cX7_enforceText 38 = .ok (.getfield 46, 3) := by decide +kernel
theorem dX7_enforceText_41 : decode cX7_enforceText 41 = .ok (.iload_n 2, 1) := by decide +kernel
theorem dX7_enforceText_42 : decode cX7_enforceText 42 = .ok (.iaload, 1) := by decide +kernel
theorem dX7_enforceText_43 : decode cX7_enforceText 43 = .ok (.iastore, 1) := by decide +kernel
theorem dX7_enforceText_44 : decode cX7_enforceText 44 = .ok (.iload_n 1, 1) := by decide +kernel
theorem dX7_enforceText_45 : decode cX7_enforceText 45 = .ok (.ifCond .le 14, 3) := by decide +kernel
theorem dX7_enforceText_48 : decode cX7_enforceText 48 = .ok (.aload_n 0, 1) := by decide +kernel
theorem dX7_enforceText_49 : decode cX7_enforceText 49 = .ok (.getfield 40, 3) := by decide +kernel
theorem dX7_enforceText_52 : decode cX7_enforceText 52 = .ok (.iload_n 1, 1) := by decide +kernel
theorem dX7_enforceText_53 : decode cX7_enforceText 53 = .ok (.iconst 1, 1) := by decide +kernel
theorem dX7_enforceText_54 : decode cX7_enforceText 54 = .ok (.isub, 1) := by decide +kernel
theorem dX7_enforceText_55 : decode cX7_enforceText 55 = .ok (.iaload, 1) := by decide +kernel
theorem dX7_enforceText_56 : decode cX7_enforceText 56 = .ok (.goto 4, 3) := by decide +kernel
theorem dX7_enforceText_59 : decode cX7_enforceText 59 = .ok (.iconst 0, 1) := by decide +kernel
theorem dX7_enforceText_60 : decode cX7_enforceText 60 = .ok (.istore 5, 2) := by decide +kernel
theorem dX7_enforceText_62 : decode cX7_enforceText 62 = .ok (.iload 5, 2) := by decide +kernel
theorem dX7_enforceText_64 : decode cX7_enforceText 64 = .ok (.istore 6, 2) := by decide +kernel
theorem dX7_enforceText_66 : decode cX7_enforceText 66 = .ok (.iload 6, 2) := by decide +kernel
theorem dX7_enforceText_68 : decode cX7_enforceText 68 = .ok (.aload_n 0, 1) := by decide +kernel
theorem dX7_enforceText_69 : decode cX7_enforceText 69 = .ok (.getfield 40, 3) := by decide +kernel
theorem dX7_enforceText_72 : decode cX7_enforceText 72 = .ok (.iload_n 1, 1) := by decide +kernel
theorem dX7_enforceText_73 : decode cX7_enforceText 73 = .ok (.iaload, 1) := by decide +kernel
theorem dX7_enforceText_74 : decode cX7_enforceText 74 = .ok (.if_icmp .ge 113, 3) := by decide +kernel
theorem dX7_enforceText_77 : decode cX7_enforceText 77 = .ok (.aload_n 0, 1) := by decide +kernel
theorem dX7_enforceText_78 : decode cX7_enforceText 78 = .ok (.iload_n 2, 1) := by decide +kernel
theorem dX7_enforceText_79 : decode cX7_enforceText 79 = .ok (.iconst 1, 1) := by decide +kernel
theorem dX7_enforceText_80 : decode cX7_enforceText 80 = .ok (.iadd, 1) := by decide +kernel
theorem dX7_enforceText_81 : decode cX7_enforceText 81 = .ok (.aload_n 0, 1) := by decide +kernel
theorem dX7_enforceText_82 : decode cX7_enforceText 82 = .ok (.getfield 18, 3) := by decide +kernel
theorem dX7_enforceText_85 : decode cX7_enforceText 85 = .ok (.iload 6, 2) := by decide +kernel
theorem dX7_enforceText_87 : decode cX7_enforceText 87 = .ok (.laload, 1) := by decide +kernel
theorem dX7_enforceText_88 : decode cX7_enforceText 88 = .ok (.invokevirtual 79, 3) := by decide +kernel
theorem dX7_enforceText_91 : decode cX7_enforceText 91 = .ok (.istore 7, 2) := by decide +kernel
theorem dX7_enforceText_93 : decode cX7_enforceText 93 = .ok (.aload_n 0, 1) := by decide +kernel
theorem dX7_enforceText_94 : decode cX7_enforceText 94 = .ok (.getfield 15, 3) := by decide +kernel
theorem dX7_enforceText_97 : decode cX7_enforceText 97 = .ok (.iload 6, 2) := by decide +kernel
theorem dX7_enforceText_99 : decode cX7_enforceText 99 = .ok (.iaload, 1) := by decide +kernel
theorem dX7_enforceText_100 : decode cX7_enforceText 100 = .ok (.iconst 5, 1) := by decide +kernel
theorem dX7_enforceText_101 : decode cX7_enforceText 101 = .ok (.if_icmp .ne 15, 3) := by decide +kernel
theorem dX7_enforceText_104 : decode cX7_enforceText 104 = .ok (.aload_n 0, 1) := by decide +kernel
theorem dX7_enforceText_105 : decode cX7_enforceText 105 = .ok (.iload_n 2, 1) := by decide +kernel
theorem dX7_enforceText_106 : decode cX7_enforceText 106 = .ok (.iconst 1, 1) := by decide +kernel
theorem dX7_enforceText_107 : decode cX7_enforceText 107 = .ok (.iadd, 1) := by decide +kernel
theorem dX7_enforceText_108 : decode cX7_enforceText 108 = .ok (.iload 7, 2) := by decide +kernel
theorem dX7_enforceText_110 : decode cX7_enforceText 110 = .ok (.invokevirtual 83, 3) := by decide +kernel
theorem dX7_enforceText_113 : decode cX7_enforceText 113 = .ok (.goto 68, 3) := by decide +kernel
theorem dX7_enforceText_116 : decode cX7_enforceText 116 = .ok (.iload 7, 2) := by decide +kernel
theorem dX7_enforceText_118 : decode cX7_enforceText 118 = .ok (.iconst (-1), 1) := by decide +kernel
theorem dX7_enforceText_119 : decode cX7_enforceText 119 = .ok (.if_icmp .eq 18, 3) := by decide +kernel
theorem dX7_enforceText_122 : decode cX7_enforceText 122 = .ok (.aload_n 0, 1) := by decide +kernel
theorem dX7_enforceText_123 : decode cX7_enforceText 123 = .ok (.getfield 43, 3) := by decide +kernel
theorem dX7_enforceText_126 : decode cX7_enforceText 126 = .ok (.iload 4, 2) := by decide +kernel
theorem dX7_enforceText_128 : decode cX7_enforceText 128 = .ok (.iload 7, 2) := by decide +kernel
theorem dX7_enforceText_130 : decode cX7_enforceText 130 = .ok (.iadd, 1) := by decide +kernel
theorem dX7_enforceText_131 : decode cX7_enforceText 131 = .ok (.iload 6, 2) := by decide +kernel
theorem dX7_enforceText_133 : decode cX7_enforceText 133 = .ok (.iastore, 1) := by decide +kernel
theorem dX7_enforceText_134 : decode cX7_enforceText 134 = .ok (.goto 47, 3) := by decide +kernel
theorem dX7_enforceText_137 : decode cX7_enforceText 137 = .ok (.aload_n 0, 1) := by decide +kernel
theorem dX7_enforceText_138 : decode cX7_enforceText 138 = .ok (.getfield 46, 3) := by decide +kernel
theorem dX7_enforceText_141 : decode cX7_enforceText 141 = .ok (.iload_n 2, 1) := by decide +kernel
theorem dX7_enforceText_142 : decode cX7_enforceText 142 = .ok (.iconst 1, 1) := by decide +kernel
theorem dX7_enforceText_143 : decode cX7_enforceText 143 = .ok (.iadd, 1) := by decide +kernel
theorem dX7_enforceText_144 : decode cX7_enforceText 144 = .ok (.iaload, 1) := by decide +kernel
theorem dX7_enforceText_145 : decode cX7_enforceText 145 = .ok (.sipush 144, 3) := by decide +kernel
theorem dX7_enforceText_148 : decode cX7_enforceText 148 = .ok (.if_icmp .ge 33, 3) := by decide +kernel
theorem dX7_enforceText_151 : decode cX7_enforceText 151 = .ok (.aload_n 0, 1) := by decide +kernel
theorem dX7_enforceText_152 : decode cX7_enforceText 152 = .ok (.getfield 43, 3) := by decide +kernel
theorem dX7_enforceText_155 : decode cX7_enforceText 155 = .ok (.iload 4, 2) := by decide +kernel
theorem dX7_enforceText_157 : decode cX7_enforceText 157 = .ok (.aload_n 0, 1) := by decide +kernel
theorem dX7_enforceText_158 : decode cX7_enforceText 158 = .ok (.getfield 46, 3) := by decide +kernel
theorem dX7_enforceText_161 : decode cX7_enforceText 161 = .ok (.iload_n 2, 1) := by decide +kernel
theorem dX7_enforceText_162 : decode cX7_enforceText 162 = .ok (.iconst 1, 1) := by decide +kernel
theorem dX7_enforceText_163 : decode cX7_enforceText 163 = .ok (.iadd, 1) := by decide +kernel
theorem dX7_enforceText_164 : decode cX7_enforceText 164 = .ok (.iaload, 1) := by decide +kernel
theorem dX7_enforceText_165 : decode cX7_enforceText 165 = .ok (.iadd, 1) := by decide +kernel
theorem dX7_enforceText_166 : decode cX7_enforceText 166 = .ok (.iload 6, 2) := by decide +kernel
theorem dX7_enforceText_168 : decode cX7_enforceText 168 = .ok (.iastore, 1) := by decide +kernel
theorem dX7_enforceText_169 : decode cX7_enforceText 169 = .ok (.aload_n 0, 1) := by decide +kernel
theorem dX7_enforceText_170 : decode cX7_enforceText 170 = .ok (.getfield 46, 3) := by decide +kernel
theorem dX7_enforceText_173 : decode cX7_enforceText 173 = .ok (.iload_n 2, 1) := by decide +kernel
theorem dX7_enforceText_174 : decode cX7_enforceText 174 = .ok (.iconst 1, 1) := by decide +kernel
theorem dX7_enforceText_175 : decode cX7_enforceText 175 = .ok (.iadd, 1) := by decide +kernel
theorem dX7_enforceText_176 : decode cX7_enforceText 176 = .ok (.dup2, 1) := by decide +kernel
theorem dX7_enforceText_177 : decode cX7_enforceText 177 = .ok (.iaload, 1) := by decide +kernel
theorem dX7_enforceText_178 : decode cX7_enforceText 178 = .ok (.iconst 1, 1) := by decide +kernel
theorem dX7_enforceText_179 : decode cX7_enforceText 179 = .ok (.iadd, 1) := by decide +kernel
theorem dX7_enforceText_180 : decode cX7_enforceText 180 = .ok (.iastore, 1) := by decide +kernel
theorem dX7_enforceText_181 : decode cX7_enforceText 181 = .ok (.iinc 6 1, 3) := by decide +kernel
theorem dX7_enforceText_184 : decode cX7_enforceText 184 = .ok (.goto (-118), 3) := by decide +kernel
theorem dX7_enforceText_187 : decode cX7_enforceText 187 = .ok (.return_, 1) := by decide +kernel
theorem dX7_namedInForce_0 : decode cX7_namedInForce 0 = .ok (.iconst 0, 1) := by decide +kernel
theorem dX7_namedInForce_1 : decode cX7_namedInForce 1 = .ok (.istore 4, 2) := by decide +kernel
theorem dX7_namedInForce_3 : decode cX7_namedInForce 3 = .ok (.iload 4, 2) := by decide +kernel
theorem dX7_namedInForce_5 : decode cX7_namedInForce 5 = .ok (.aload_n 0, 1) := by decide +kernel
theorem dX7_namedInForce_6 : decode cX7_namedInForce 6 = .ok (.getfield 46, 3) := by decide +kernel
theorem dX7_namedInForce_9 : decode cX7_namedInForce 9 = .ok (.iload_n 1, 1) := by decide +kernel
theorem dX7_namedInForce_10 : decode cX7_namedInForce 10 = .ok (.iaload, 1) := by decide +kernel
theorem dX7_namedInForce_11 : decode cX7_namedInForce 11 = .ok (.if_icmp .ge 35, 3) := by decide +kernel
theorem dX7_namedInForce_14 : decode cX7_namedInForce 14 = .ok (.aload_n 0, 1) := by decide +kernel
theorem dX7_namedInForce_15 : decode cX7_namedInForce 15 = .ok (.getfield 18, 3) := by decide +kernel
theorem dX7_namedInForce_18 : decode cX7_namedInForce 18 = .ok (.aload_n 0, 1) := by decide +kernel
theorem dX7_namedInForce_19 : decode cX7_namedInForce 19 = .ok (.getfield 43, 3) := by decide +kernel
theorem dX7_namedInForce_22 : decode cX7_namedInForce 22 = .ok (.iload_n 1, 1) := by decide +kernel
theorem dX7_namedInForce_23 : decode cX7_namedInForce 23 = .ok (.sipush 144, 3) := by decide +kernel
theorem dX7_namedInForce_26 : decode cX7_namedInForce 26 = .ok (.imul, 1) := by decide +kernel
theorem dX7_namedInForce_27 : decode cX7_namedInForce 27 = .ok (.iload 4, 2) := by decide +kernel
theorem dX7_namedInForce_29 : decode cX7_namedInForce 29 = .ok (.iadd, 1) := by decide +kernel
theorem dX7_namedInForce_30 : decode cX7_namedInForce 30 = .ok (.iaload, 1) := by decide +kernel
theorem dX7_namedInForce_31 : decode cX7_namedInForce 31 = .ok (.laload, 1) := by decide +kernel
theorem dX7_namedInForce_32 : decode cX7_namedInForce 32 = .ok (.lload_n 2, 1) := by decide +kernel
theorem dX7_namedInForce_33 : decode cX7_namedInForce 33 = .ok (.lcmp, 1) := by decide +kernel
theorem dX7_namedInForce_34 : decode cX7_namedInForce 34 = .ok (.ifCond .ne 6, 3) := by decide +kernel
theorem dX7_namedInForce_37 : decode cX7_namedInForce 37 = .ok (.iload 4, 2) := by decide +kernel
theorem dX7_namedInForce_39 : decode cX7_namedInForce 39 = .ok (.ireturn, 1) := by decide +kernel
theorem dX7_namedInForce_40 : decode cX7_namedInForce 40 = .ok (.iinc 4 1, 3) := by decide +kernel
theorem dX7_namedInForce_43 : decode cX7_namedInForce 43 = .ok (.goto (-40), 3) := by decide +kernel
theorem dX7_namedInForce_46 : decode cX7_namedInForce 46 = .ok (.iconst (-1), 1) := by decide +kernel
theorem dX7_namedInForce_47 : decode cX7_namedInForce 47 = .ok (.ireturn, 1) := by decide +kernel
theorem dX7_takeAway_0 : decode cX7_takeAway 0 = .ok (.iload_n 2, 1) := by decide +kernel
theorem dX7_takeAway_1 : decode cX7_takeAway 1 = .ok (.iconst (-1), 1) := by decide +kernel
theorem dX7_takeAway_2 : decode cX7_takeAway 2 = .ok (.if_icmp .ne 4, 3) := by decide +kernel
theorem dX7_takeAway_5 : decode cX7_takeAway 5 = .ok (.return_, 1) := by decide +kernel
theorem dX7_takeAway_6 : decode cX7_takeAway 6 = .ok (.iload_n 1, 1) := by decide +kernel
theorem dX7_takeAway_7 : decode cX7_takeAway 7 = .ok (.sipush 144, 3) := by decide +kernel
theorem dX7_takeAway_10 : decode cX7_takeAway 10 = .ok (.imul, 1) := by decide +kernel
theorem dX7_takeAway_11 : decode cX7_takeAway 11 = .ok (.istore_n 3, 1) := by decide +kernel
theorem dX7_takeAway_12 : decode cX7_takeAway 12 = .ok (.aload_n 0, 1) := by decide +kernel
theorem dX7_takeAway_13 : decode cX7_takeAway 13 = .ok (.getfield 46, 3) := by decide +kernel
theorem dX7_takeAway_16 : decode cX7_takeAway 16 = .ok (.iload_n 1, 1) := by decide +kernel
theorem dX7_takeAway_17 : decode cX7_takeAway 17 = .ok (.dup2, 1) := by decide +kernel
theorem dX7_takeAway_18 : decode cX7_takeAway 18 = .ok (.iaload, 1) := by decide +kernel
theorem dX7_takeAway_19 : decode cX7_takeAway 19 = .ok (.iconst 1, 1) := by decide +kernel
theorem dX7_takeAway_20 : decode cX7_takeAway 20 = .ok (.isub, 1) := by decide +kernel
theorem dX7_takeAway_21 : decode cX7_takeAway 21 = .ok (.iastore, 1) := by decide +kernel
theorem dX7_takeAway_22 : decode cX7_takeAway 22 = .ok (.iload_n 2, 1) := by decide +kernel
theorem dX7_takeAway_23 : decode cX7_takeAway 23 = .ok (.istore 4, 2) := by decide +kernel
theorem dX7_takeAway_25 : decode cX7_takeAway 25 = .ok (.iload 4, 2) := by decide +kernel
theorem dX7_takeAway_27 : decode cX7_takeAway 27 = .ok (.aload_n 0, 1) := by decide +kernel
theorem dX7_takeAway_28 : decode cX7_takeAway 28 = .ok (.getfield 46, 3) := by decide +kernel
theorem dX7_takeAway_31 : decode cX7_takeAway 31 = .ok (.iload_n 1, 1) := by decide +kernel
theorem dX7_takeAway_32 : decode cX7_takeAway 32 = .ok (.iaload, 1) := by decide +kernel
theorem dX7_takeAway_33 : decode cX7_takeAway 33 = .ok (.if_icmp .ge 29, 3) := by decide +kernel
theorem dX7_takeAway_36 : decode cX7_takeAway 36 = .ok (.aload_n 0, 1) := by decide +kernel
theorem dX7_takeAway_37 : decode cX7_takeAway 37 = .ok (.getfield 43, 3) := by decide +kernel
theorem dX7_takeAway_40 : decode cX7_takeAway 40 = .ok (.iload_n 3, 1) := by decide +kernel
theorem dX7_takeAway_41 : decode cX7_takeAway 41 = .ok (.iload 4, 2) := by decide +kernel
theorem dX7_takeAway_43 : decode cX7_takeAway 43 = .ok (.iadd, 1) := by decide +kernel
theorem dX7_takeAway_44 : decode cX7_takeAway 44 = .ok (.aload_n 0, 1) := by decide +kernel
theorem dX7_takeAway_45 : decode cX7_takeAway 45 = .ok (.getfield 43, 3) := by decide +kernel
theorem dX7_takeAway_48 : decode cX7_takeAway 48 = .ok (.iload_n 3, 1) := by decide +kernel
theorem dX7_takeAway_49 : decode cX7_takeAway 49 = .ok (.iload 4, 2) := by decide +kernel
theorem dX7_takeAway_51 : decode cX7_takeAway 51 = .ok (.iadd, 1) := by decide +kernel
theorem dX7_takeAway_52 : decode cX7_takeAway 52 = .ok (.iconst 1, 1) := by decide +kernel
theorem dX7_takeAway_53 : decode cX7_takeAway 53 = .ok (.iadd, 1) := by decide +kernel
theorem dX7_takeAway_54 : decode cX7_takeAway 54 = .ok (.iaload, 1) := by decide +kernel
theorem dX7_takeAway_55 : decode cX7_takeAway 55 = .ok (.iastore, 1) := by decide +kernel
theorem dX7_takeAway_56 : decode cX7_takeAway 56 = .ok (.iinc 4 1, 3) := by decide +kernel
theorem dX7_takeAway_59 : decode cX7_takeAway 59 = .ok (.goto (-34), 3) := by decide +kernel
theorem dX7_takeAway_62 : decode cX7_takeAway 62 = .ok (.return_, 1) := by decide +kernel
theorem dX7_levelOn_0 : decode cX7_levelOn 0 = .ok (.iconst 0, 1) := by decide +kernel
theorem dX7_levelOn_1 : decode cX7_levelOn 1 = .ok (.istore_n 2, 1) := by decide +kernel
theorem dX7_levelOn_2 : decode cX7_levelOn 2 = .ok (.iconst 0, 1) := by decide +kernel
theorem dX7_levelOn_3 : decode cX7_levelOn 3 = .ok (.istore_n 3, 1) := by decide +kernel
theorem dX7_levelOn_4 : decode cX7_levelOn 4 = .ok (.iload_n 3, 1) := by decide +kernel
theorem dX7_levelOn_5 : decode cX7_levelOn 5 = .ok (.aload_n 0, 1) := by decide +kernel
theorem dX7_levelOn_6 : decode cX7_levelOn 6 = .ok (.getfield 56, 3) := by decide +kernel
theorem dX7_levelOn_9 : decode cX7_levelOn 9 = .ok (.if_icmp .ge 22, 3) := by decide +kernel
theorem dX7_levelOn_12 : decode cX7_levelOn 12 = .ok (.aload_n 0, 1) := by decide +kernel
theorem dX7_levelOn_13 : decode cX7_levelOn 13 = .ok (.getfield 37, 3) := by decide +kernel
theorem dX7_levelOn_16 : decode cX7_levelOn 16 = .ok (.iload_n 3, 1) := by decide +kernel
theorem dX7_levelOn_17 : decode cX7_levelOn 17 = .ok (.iaload, 1) := by decide +kernel
theorem dX7_levelOn_18 : decode cX7_levelOn 18 = .ok (.iload_n 1, 1) := by decide +kernel
theorem dX7_levelOn_19 : decode cX7_levelOn 19 = .ok (.if_icmp .gt 6, 3) := by decide +kernel
theorem dX7_levelOn_22 : decode cX7_levelOn 22 = .ok (.iinc 2 1, 3) := by decide +kernel
theorem dX7_levelOn_25 : decode cX7_levelOn 25 = .ok (.iinc 3 1, 3) := by decide +kernel
theorem dX7_levelOn_28 : decode cX7_levelOn 28 = .ok (.goto (-24), 3) := by decide +kernel
theorem dX7_levelOn_31 : decode cX7_levelOn 31 = .ok (.iload_n 2, 1) := by decide +kernel
theorem dX7_levelOn_32 : decode cX7_levelOn 32 = .ok (.ireturn, 1) := by decide +kernel
theorem dX7_howManyInForce_0 : decode cX7_howManyInForce 0 = .ok (.aload_n 0, 1) := by decide +kernel
theorem dX7_howManyInForce_1 : decode cX7_howManyInForce 1 = .ok (.getfield 46, 3) := by decide +kernel
theorem dX7_howManyInForce_4 : decode cX7_howManyInForce 4 = .ok (.aload_n 0, 1) := by decide +kernel
theorem dX7_howManyInForce_5 : decode cX7_howManyInForce 5 = .ok (.iload_n 1, 1) := by decide +kernel
theorem dX7_howManyInForce_6 : decode cX7_howManyInForce 6 = .ok (.invokevirtual 86, 3) := by decide +kernel
theorem dX7_howManyInForce_9 : decode cX7_howManyInForce 9 = .ok (.iaload, 1) := by decide +kernel
theorem dX7_howManyInForce_10 : decode cX7_howManyInForce 10 = .ok (.ireturn, 1) := by decide +kernel
theorem dX7_inForceAt_0 : decode cX7_inForceAt 0 = .ok (.aload_n 0, 1) := by decide +kernel
theorem dX7_inForceAt_1 : decode cX7_inForceAt 1 = .ok (.iload_n 1, 1) := by decide +kernel
theorem dX7_inForceAt_2 : decode cX7_inForceAt 2 = .ok (.invokevirtual 86, 3) := by decide +kernel
theorem dX7_inForceAt_5 : decode cX7_inForceAt 5 = .ok (.istore_n 3, 1) := by decide +kernel
theorem dX7_inForceAt_6 : decode cX7_inForceAt 6 = .ok (.iload_n 2, 1) := by decide +kernel
theorem dX7_inForceAt_7 : decode cX7_inForceAt 7 = .ok (.ifCond .lt 28, 3) := by decide +kernel
theorem dX7_inForceAt_10 : decode cX7_inForceAt 10 = .ok (.iload_n 2, 1) := by decide +kernel
theorem dX7_inForceAt_11 : decode cX7_inForceAt 11 = .ok (.aload_n 0, 1) := by decide +kernel
theorem dX7_inForceAt_12 : decode cX7_inForceAt 12 = .ok (.getfield 46, 3) := by decide +kernel
theorem dX7_inForceAt_15 : decode cX7_inForceAt 15 = .ok (.iload_n 3, 1) := by decide +kernel
theorem dX7_inForceAt_16 : decode cX7_inForceAt 16 = .ok (.iaload, 1) := by decide +kernel
theorem dX7_inForceAt_17 : decode cX7_inForceAt 17 = .ok (.if_icmp .ge 18, 3) := by decide +kernel
theorem dX7_inForceAt_20 : decode cX7_inForceAt 20 = .ok (.aload_n 0, 1) := by decide +kernel
theorem dX7_inForceAt_21 : decode cX7_inForceAt 21 = .ok (.getfield 43, 3) := by decide +kernel
theorem dX7_inForceAt_24 : decode cX7_inForceAt 24 = .ok (.iload_n 3, 1) := by decide +kernel
theorem dX7_inForceAt_25 : decode cX7_inForceAt 25 = .ok (.sipush 144, 3) := by decide +kernel
theorem dX7_inForceAt_28 : decode cX7_inForceAt 28 = .ok (.imul, 1) := by decide +kernel
theorem dX7_inForceAt_29 : decode cX7_inForceAt 29 = .ok (.iload_n 2, 1) := by decide +kernel
theorem dX7_inForceAt_30 : decode cX7_inForceAt 30 = .ok (.iadd, 1) := by decide +kernel
theorem dX7_inForceAt_31 : decode cX7_inForceAt 31 = .ok (.iaload, 1) := by decide +kernel
theorem dX7_inForceAt_32 : decode cX7_inForceAt 32 = .ok (.goto 4, 3) := by decide +kernel
theorem dX7_inForceAt_35 : decode cX7_inForceAt 35 = .ok (.iconst (-1), 1) := by decide +kernel
theorem dX7_inForceAt_36 : decode cX7_inForceAt 36 = .ok (.ireturn, 1) := by decide +kernel
theorem dX7_firstThatHolds_0 : decode cX7_firstThatHolds 0 = .ok (.aload_n 0, 1) := by decide +kernel
theorem dX7_firstThatHolds_1 : decode cX7_firstThatHolds 1 = .ok (.iload_n 2, 1) := by decide +kernel
theorem dX7_firstThatHolds_2 : decode cX7_firstThatHolds 2 = .ok (.invokevirtual 86, 3) := by decide +kernel
theorem dX7_firstThatHolds_5 : decode cX7_firstThatHolds 5 = .ok (.istore 4, 2) := by decide +kernel
theorem dX7_firstThatHolds_7 : decode cX7_firstThatHolds 7 = .ok (.iconst 0, 1) := by decide +kernel
theorem dX7_firstThatHolds_8 : decode cX7_firstThatHolds 8 = .ok (.istore 5, 2) := by decide +kernel
theorem dX7_firstThatHolds_10 : decode cX7_firstThatHolds 10 = .ok (.iload 5, 2) := by decide +kernel
theorem dX7_firstThatHolds_12 : decode cX7_firstThatHolds 12 = .ok (.aload_n 0, 1) := by decide +kernel
theorem dX7_firstThatHolds_13 : decode cX7_firstThatHolds 13 = .ok (.getfield 46, 3) := by decide +kernel
theorem dX7_firstThatHolds_16 : decode cX7_firstThatHolds 16 = .ok (.iload 4, 2) := by decide +kernel
theorem dX7_firstThatHolds_18 : decode cX7_firstThatHolds 18 = .ok (.iaload, 1) := by decide +kernel
theorem dX7_firstThatHolds_19 : decode cX7_firstThatHolds 19 = .ok (.if_icmp .ge 68, 3) := by decide +kernel
theorem dX7_firstThatHolds_22 : decode cX7_firstThatHolds 22 = .ok (.aload_n 0, 1) := by decide +kernel
theorem dX7_firstThatHolds_23 : decode cX7_firstThatHolds 23 = .ok (.getfield 43, 3) := by decide +kernel
theorem dX7_firstThatHolds_26 : decode cX7_firstThatHolds 26 = .ok (.iload 4, 2) := by decide +kernel
theorem dX7_firstThatHolds_28 : decode cX7_firstThatHolds 28 = .ok (.sipush 144, 3) := by decide +kernel
theorem dX7_firstThatHolds_31 : decode cX7_firstThatHolds 31 = .ok (.imul, 1) := by decide +kernel
theorem dX7_firstThatHolds_32 : decode cX7_firstThatHolds 32 = .ok (.iload 5, 2) := by decide +kernel
theorem dX7_firstThatHolds_34 : decode cX7_firstThatHolds 34 = .ok (.iadd, 1) := by decide +kernel
theorem dX7_firstThatHolds_35 : decode cX7_firstThatHolds 35 = .ok (.iaload, 1) := by decide +kernel
theorem dX7_firstThatHolds_36 : decode cX7_firstThatHolds 36 = .ok (.istore 6, 2) := by decide +kernel
theorem dX7_firstThatHolds_38 : decode cX7_firstThatHolds 38 = .ok (.aload_n 0, 1) := by decide +kernel
theorem dX7_firstThatHolds_39 : decode cX7_firstThatHolds 39 = .ok (.getfield 15, 3) := by decide +kernel
theorem dX7_firstThatHolds_42 : decode cX7_firstThatHolds 42 = .ok (.iload 6, 2) := by decide +kernel
theorem dX7_firstThatHolds_44 : decode cX7_firstThatHolds 44 = .ok (.iaload, 1) := by decide +kernel
theorem dX7_firstThatHolds_45 : decode cX7_firstThatHolds 45 = .ok (.iload_n 1, 1) := by decide +kernel
theorem dX7_firstThatHolds_46 : decode cX7_firstThatHolds 46 = .ok (.if_icmp .ne 35, 3) := by decide +kernel
theorem dX7_firstThatHolds_49 : decode cX7_firstThatHolds 49 = .ok (.aload_n 0, 1) := by decide +kernel
theorem dX7_firstThatHolds_50 : decode cX7_firstThatHolds 50 = .ok (.getfield 52, 3) := by decide +kernel
theorem dX7_firstThatHolds_53 : decode cX7_firstThatHolds 53 = .ok (.aload_n 0, 1) := by decide +kernel
theorem dX7_firstThatHolds_54 : decode cX7_firstThatHolds 54 = .ok (.getfield 9, 3) := by decide +kernel
theorem dX7_firstThatHolds_57 : decode cX7_firstThatHolds 57 = .ok (.aload_n 0, 1) := by decide +kernel
theorem dX7_firstThatHolds_58 : decode cX7_firstThatHolds 58 = .ok (.getfield 31, 3) := by decide +kernel
theorem dX7_firstThatHolds_61 : decode cX7_firstThatHolds 61 = .ok (.iload 6, 2) := by decide +kernel
theorem dX7_firstThatHolds_63 : decode cX7_firstThatHolds 63 = .ok (.iaload, 1) := by decide +kernel
theorem dX7_firstThatHolds_64 : decode cX7_firstThatHolds 64 = .ok (.aload_n 0, 1) := by decide +kernel
theorem dX7_firstThatHolds_65 : decode cX7_firstThatHolds 65 = .ok (.getfield 34, 3) := by decide +kernel
theorem dX7_firstThatHolds_68 : decode cX7_firstThatHolds 68 = .ok (.iload 6, 2) := by decide +kernel
theorem dX7_firstThatHolds_70 : decode cX7_firstThatHolds 70 = .ok (.iaload, 1) := by decide +kernel
theorem dX7_firstThatHolds_71 : decode cX7_firstThatHolds 71 = .ok (.aload_n 3, 1) := by decide +kernel
theorem dX7_firstThatHolds_72 : decode cX7_firstThatHolds 72 = .ok (.invokevirtual 90, 3) := by decide +kernel
theorem dX7_firstThatHolds_75 : decode cX7_firstThatHolds 75 = .ok (.ifCond .eq 6, 3) := by decide +kernel
theorem dX7_firstThatHolds_78 : decode cX7_firstThatHolds 78 = .ok (.iload 5, 2) := by decide +kernel
theorem dX7_firstThatHolds_80 : decode cX7_firstThatHolds 80 = .ok (.ireturn, 1) := by decide +kernel
theorem dX7_firstThatHolds_81 : decode cX7_firstThatHolds 81 = .ok (.iinc 5 1, 3) := by decide +kernel
theorem dX7_firstThatHolds_84 : decode cX7_firstThatHolds 84 = .ok (.goto (-74), 3) := by decide +kernel
theorem dX7_firstThatHolds_87 : decode cX7_firstThatHolds 87 = .ok (.bipush (-2), 2) := by decide +kernel
theorem dX7_firstThatHolds_89 : decode cX7_firstThatHolds 89 = .ok (.ireturn, 1) := by decide +kernel
theorem dX7_valueOf_0 : decode cX7_valueOf 0 = .ok (.aload_n 0, 1) := by decide +kernel
theorem dX7_valueOf_1 : decode cX7_valueOf 1 = .ok (.iload_n 1, 1) := by decide +kernel
theorem dX7_valueOf_2 : decode cX7_valueOf 2 = .ok (.iload_n 2, 1) := by decide +kernel
theorem dX7_valueOf_3 : decode cX7_valueOf 3 = .ok (.invokevirtual 94, 3) := by decide +kernel
theorem dX7_valueOf_6 : decode cX7_valueOf 6 = .ok (.istore 4, 2) := by decide +kernel
theorem dX7_valueOf_8 : decode cX7_valueOf 8 = .ok (.iload 4, 2) := by decide +kernel
theorem dX7_valueOf_10 : decode cX7_valueOf 10 = .ok (.iconst (-1), 1) := by decide +kernel
theorem dX7_valueOf_11 : decode cX7_valueOf 11 = .ok (.if_icmp .ne 5, 3) := by decide +kernel
theorem dX7_valueOf_14 : decode cX7_valueOf 14 = .ok (.iconst 0, 1) := by decide +kernel
theorem dX7_valueOf_15 : decode cX7_valueOf 15 = .ok (.ireturn, 1) := by decide +kernel
theorem dX7_valueOf_16 : decode cX7_valueOf 16 = .ok (.aload_n 0, 1) := by decide +kernel
theorem dX7_valueOf_17 : decode cX7_valueOf 17 = .ok (.getfield 52, 3) := by decide +kernel
theorem dX7_valueOf_20 : decode cX7_valueOf 20 = .ok (.aload_n 0, 1) := by decide +kernel
theorem dX7_valueOf_21 : decode cX7_valueOf 21 = .ok (.getfield 9, 3) := by decide +kernel
theorem dX7_valueOf_24 : decode cX7_valueOf 24 = .ok (.aload_n 0, 1) := by decide +kernel
theorem dX7_valueOf_25 : decode cX7_valueOf 25 = .ok (.getfield 28, 3) := by decide +kernel
theorem dX7_valueOf_28 : decode cX7_valueOf 28 = .ok (.iload 4, 2) := by decide +kernel
theorem dX7_valueOf_30 : decode cX7_valueOf 30 = .ok (.iaload, 1) := by decide +kernel
theorem dX7_valueOf_31 : decode cX7_valueOf 31 = .ok (.aload_n 0, 1) := by decide +kernel
theorem dX7_valueOf_32 : decode cX7_valueOf 32 = .ok (.getfield 31, 3) := by decide +kernel
theorem dX7_valueOf_35 : decode cX7_valueOf 35 = .ok (.iload 4, 2) := by decide +kernel
theorem dX7_valueOf_37 : decode cX7_valueOf 37 = .ok (.iaload, 1) := by decide +kernel
theorem dX7_valueOf_38 : decode cX7_valueOf 38 = .ok (.aload_n 3, 1) := by decide +kernel
theorem dX7_valueOf_39 : decode cX7_valueOf 39 = .ok (.invokevirtual 90, 3) := by decide +kernel
theorem dX7_valueOf_42 : decode cX7_valueOf 42 = .ok (.pop, 1) := by decide +kernel
theorem dX7_valueOf_43 : decode cX7_valueOf 43 = .ok (.aload_n 0, 1) := by decide +kernel
theorem dX7_valueOf_44 : decode cX7_valueOf 44 = .ok (.getfield 52, 3) := by decide +kernel
theorem dX7_valueOf_47 : decode cX7_valueOf 47 = .ok (.invokevirtual 98, 3) := by decide +kernel
theorem dX7_valueOf_50 : decode cX7_valueOf 50 = .ok (.ireturn, 1) := by decide +kernel
theorem dX8_init_0 : decode cX8_init 0 = .ok (.aload_n 0, 1) := by decide +kernel
theorem dX8_init_1 : decode cX8_init 1 = .ok (.invokespecial 3, 3) := by decide +kernel
theorem dX8_init_4 : decode cX8_init 4 = .ok (.aload_n 0, 1) := by decide +kernel
theorem dX8_init_5 : decode cX8_init 5 = .ok (.bipush 36, 2) := by decide +kernel
theorem dX8_init_7 : decode cX8_init 7 = .ok (.newarray .int, 2) := by decide +kernel
theorem dX8_init_9 : decode cX8_init 9 = .ok (.putfield 9, 3) := by decide +kernel
theorem dX8_init_12 : decode cX8_init 12 = .ok (.aload_n 0, 1) := by decide +kernel
theorem dX8_init_13 : decode cX8_init 13 = .ok (.iconst 3, 1) := by decide +kernel
theorem dX8_init_14 : decode cX8_init 14 = .ok (.newarray .int, 2) := by decide +kernel
theorem dX8_init_16 : decode cX8_init 16 = .ok (.putfield 15, 3) := by decide +kernel
theorem dX8_init_19 : decode cX8_init 19 = .ok (.aload_n 0, 1) := by decide +kernel
theorem dX8_init_20 : decode cX8_init 20 = .ok (.bipush 13, 2) := by decide +kernel
theorem dX8_init_22 : decode cX8_init 22 = .ok (.newarray .int, 2) := by decide +kernel
theorem dX8_init_24 : decode cX8_init 24 = .ok (.putfield 18, 3) := by decide +kernel
theorem dX8_init_27 : decode cX8_init 27 = .ok (.return_, 1) := by decide +kernel
theorem dX8_append_0 : decode cX8_append 0 = .ok (.aload_n 0, 1) := by decide +kernel
theorem dX8_append_1 : decode cX8_append 1 = .ok (.iload_n 1, 1) := by decide +kernel
theorem dX8_append_2 : decode cX8_append 2 = .ok (.invokevirtual 21, 3) := by decide +kernel
theorem dX8_append_5 : decode cX8_append 5 = .ok (.iconst (-1), 1) := by decide +kernel
theorem dX8_append_6 : decode cX8_append 6 = .ok (.if_icmp .eq 14, 3) := by decide +kernel
theorem dX8_append_9 : decode cX8_append 9 = .ok (.aload_n 0, 1) := by decide +kernel
theorem dX8_append_10 : decode cX8_append 10 = .ok (.getfield 15, 3) := by decide +kernel
theorem dX8_append_13 : decode cX8_append 13 = .ok (.iload_n 1, 1) := by decide +kernel
theorem dX8_append_14 : decode cX8_append 14 = .ok (.iaload, 1) := by decide +kernel
theorem dX8_append_15 : decode cX8_append 15 = .ok (.bipush 12, 2) := by decide +kernel
theorem dX8_append_17 : decode cX8_append 17 = .ok (.if_icmp .lt 5, 3) := by decide +kernel
theorem dX8_append_20 : decode cX8_append 20 = .ok (.iconst (-1), 1) := by decide +kernel
theorem dX8_append_21 : decode cX8_append 21 = .ok (.ireturn, 1) := by decide +kernel
theorem dX8_append_22 : decode cX8_append 22 = .ok (.aload_n 0, 1) := by decide +kernel
theorem dX8_append_23 : decode cX8_append 23 = .ok (.getfield 9, 3) := by decide +kernel
theorem dX8_append_26 : decode cX8_append 26 = .ok (.iload_n 1, 1) := by decide +kernel
theorem dX8_append_27 : decode cX8_append 27 = .ok (.bipush 12, 2) := by decide +kernel
theorem dX8_append_29 : decode cX8_append 29 = .ok (.imul, 1) := by decide +kernel
theorem dX8_append_30 : decode cX8_append 30 = .ok (.aload_n 0, 1) := by decide +kernel
theorem dX8_append_31 : decode cX8_append 31 = .ok (.getfield 15, 3) := by decide +kernel
theorem dX8_append_34 : decode cX8_append 34 = .ok (.iload_n 1, 1) := by decide +kernel
theorem dX8_append_35 : decode cX8_append 35 = .ok (.iaload, 1) := by decide +kernel
theorem dX8_append_36 : decode cX8_append 36 = .ok (.iadd, 1) := by decide +kernel
theorem dX8_append_37 : decode cX8_append 37 = .ok (.iload_n 2, 1) := by decide +kernel
theorem dX8_append_38 : decode cX8_append 38 = .ok (.iastore, 1) := by decide +kernel
theorem dX8_append_39 : decode cX8_append 39 = .ok (.aload_n 0, 1) := by decide +kernel
theorem dX8_append_40 : decode cX8_append 40 = .ok (.getfield 15, 3) := by decide +kernel
theorem dX8_append_43 : decode cX8_append 43 = .ok (.iload_n 1, 1) := by decide +kernel
theorem dX8_append_44 : decode cX8_append 44 = .ok (.dup2, 1) := by decide +kernel
theorem dX8_append_45 : decode cX8_append 45 = .ok (.iaload, 1) := by decide +kernel
theorem dX8_append_46 : decode cX8_append 46 = .ok (.iconst 1, 1) := by decide +kernel
theorem dX8_append_47 : decode cX8_append 47 = .ok (.iadd, 1) := by decide +kernel
theorem dX8_append_48 : decode cX8_append 48 = .ok (.iastore, 1) := by decide +kernel
theorem dX8_append_49 : decode cX8_append 49 = .ok (.aload_n 0, 1) := by decide +kernel
theorem dX8_append_50 : decode cX8_append 50 = .ok (.getfield 15, 3) := by decide +kernel
theorem dX8_append_53 : decode cX8_append 53 = .ok (.iload_n 1, 1) := by decide +kernel
theorem dX8_append_54 : decode cX8_append 54 = .ok (.iaload, 1) := by decide +kernel
theorem dX8_append_55 : decode cX8_append 55 = .ok (.ireturn, 1) := by decide +kernel
theorem dX8_empty_0 : decode cX8_empty 0 = .ok (.iconst 0, 1) := by decide +kernel
theorem dX8_empty_1 : decode cX8_empty 1 = .ok (.istore_n 1, 1) := by decide +kernel
theorem dX8_empty_2 : decode cX8_empty 2 = .ok (.iload_n 1, 1) := by decide +kernel
theorem dX8_empty_3 : decode cX8_empty 3 = .ok (.iconst 3, 1) := by decide +kernel
theorem dX8_empty_4 : decode cX8_empty 4 = .ok (.if_icmp .ge 16, 3) := by decide +kernel
theorem dX8_empty_7 : decode cX8_empty 7 = .ok (.aload_n 0, 1) := by decide +kernel
theorem dX8_empty_8 : decode cX8_empty 8 = .ok (.getfield 15, 3) := by decide +kernel
theorem dX8_empty_11 : decode cX8_empty 11 = .ok (.iload_n 1, 1) := by decide +kernel
theorem dX8_empty_12 : decode cX8_empty 12 = .ok (.iconst 0, 1) := by decide +kernel
theorem dX8_empty_13 : decode cX8_empty 13 = .ok (.iastore, 1) := by decide +kernel
theorem dX8_empty_14 : decode cX8_empty 14 = .ok (.iinc 1 1, 3) := by decide +kernel
theorem dX8_empty_17 : decode cX8_empty 17 = .ok (.goto (-15), 3) := by decide +kernel
theorem dX8_empty_20 : decode cX8_empty 20 = .ok (.return_, 1) := by decide +kernel
theorem dX8_lengthOf_0 : decode cX8_lengthOf 0 = .ok (.iload_n 1, 1) := by decide +kernel
theorem dX8_lengthOf_1 : decode cX8_lengthOf 1 = .ok (.ifCond .lt 17, 3) := by decide +kernel
theorem dX8_lengthOf_4 : decode cX8_lengthOf 4 = .ok (.iload_n 1, 1) := by decide +kernel
theorem dX8_lengthOf_5 : decode cX8_lengthOf 5 = .ok (.iconst 3, 1) := by decide +kernel
theorem dX8_lengthOf_6 : decode cX8_lengthOf 6 = .ok (.if_icmp .ge 12, 3) := by decide +kernel
theorem dX8_lengthOf_9 : decode cX8_lengthOf 9 = .ok (.aload_n 0, 1) := by decide +kernel
theorem dX8_lengthOf_10 : decode cX8_lengthOf 10 = .ok (.getfield 15, 3) := by decide +kernel
theorem dX8_lengthOf_13 : decode cX8_lengthOf 13 = .ok (.iload_n 1, 1) := by decide +kernel
theorem dX8_lengthOf_14 : decode cX8_lengthOf 14 = .ok (.iaload, 1) := by decide +kernel
theorem dX8_lengthOf_15 : decode cX8_lengthOf 15 = .ok (.goto 4, 3) := by decide +kernel
theorem dX8_lengthOf_18 : decode cX8_lengthOf 18 = .ok (.iconst (-1), 1) := by decide +kernel
theorem dX8_lengthOf_19 : decode cX8_lengthOf 19 = .ok (.ireturn, 1) := by decide +kernel
theorem dX8_wordAt_0 : decode cX8_wordAt 0 = .ok (.iload_n 2, 1) := by decide +kernel
theorem dX8_wordAt_1 : decode cX8_wordAt 1 = .ok (.ifCond .lt 26, 3) := by decide +kernel
theorem dX8_wordAt_4 : decode cX8_wordAt 4 = .ok (.iload_n 2, 1) := by decide +kernel
theorem dX8_wordAt_5 : decode cX8_wordAt 5 = .ok (.aload_n 0, 1) := by decide +kernel
theorem dX8_wordAt_6 : decode cX8_wordAt 6 = .ok (.iload_n 1, 1) := by decide +kernel
theorem dX8_wordAt_7 : decode cX8_wordAt 7 = .ok (.invokevirtual 21, 3) := by decide +kernel
theorem dX8_wordAt_10 : decode cX8_wordAt 10 = .ok (.if_icmp .ge 17, 3) := by decide +kernel
theorem dX8_wordAt_13 : decode cX8_wordAt 13 = .ok (.aload_n 0, 1) := by decide +kernel
theorem dX8_wordAt_14 : decode cX8_wordAt 14 = .ok (.getfield 9, 3) := by decide +kernel
theorem dX8_wordAt_17 : decode cX8_wordAt 17 = .ok (.iload_n 1, 1) := by decide +kernel
theorem dX8_wordAt_18 : decode cX8_wordAt 18 = .ok (.bipush 12, 2) := by decide +kernel
theorem dX8_wordAt_20 : decode cX8_wordAt 20 = .ok (.imul, 1) := by decide +kernel
theorem dX8_wordAt_21 : decode cX8_wordAt 21 = .ok (.iload_n 2, 1) := by decide +kernel
theorem dX8_wordAt_22 : decode cX8_wordAt 22 = .ok (.iadd, 1) := by decide +kernel
theorem dX8_wordAt_23 : decode cX8_wordAt 23 = .ok (.iaload, 1) := by decide +kernel
theorem dX8_wordAt_24 : decode cX8_wordAt 24 = .ok (.goto 4, 3) := by decide +kernel
theorem dX8_wordAt_27 : decode cX8_wordAt 27 = .ok (.iconst (-1), 1) := by decide +kernel
theorem dX8_wordAt_28 : decode cX8_wordAt 28 = .ok (.ireturn, 1) := by decide +kernel
theorem dX8_overlap_0 : decode cX8_overlap 0 = .ok (.aload_n 0, 1) := by decide +kernel
theorem dX8_overlap_1 : decode cX8_overlap 1 = .ok (.getfield 15, 3) := by decide +kernel
theorem dX8_overlap_4 : decode cX8_overlap 4 = .ok (.iconst 0, 1) := by decide +kernel
theorem dX8_overlap_5 : decode cX8_overlap 5 = .ok (.iaload, 1) := by decide +kernel
theorem dX8_overlap_6 : decode cX8_overlap 6 = .ok (.aload_n 0, 1) := by decide +kernel
theorem dX8_overlap_7 : decode cX8_overlap 7 = .ok (.getfield 15, 3) := by decide +kernel
theorem dX8_overlap_10 : decode cX8_overlap 10 = .ok (.iconst 1, 1) := by decide +kernel
theorem dX8_overlap_11 : decode cX8_overlap 11 = .ok (.iaload, 1) := by decide +kernel
theorem dX8_overlap_12 : decode cX8_overlap 12 = .ok (.invokestatic 25, 3) := by decide +kernel
theorem dX8_overlap_15 : decode cX8_overlap 15 = .ok (.istore_n 1, 1) := by decide +kernel
theorem dX8_overlap_16 : decode cX8_overlap 16 = .ok (.iload_n 1, 1) := by decide +kernel
theorem dX8_overlap_17 : decode cX8_overlap 17 = .ok (.ifCond .le 22, 3) := by decide +kernel
theorem dX8_overlap_20 : decode cX8_overlap 20 = .ok (.aload_n 0, 1) := by decide +kernel
theorem dX8_overlap_21 : decode cX8_overlap 21 = .ok (.iload_n 1, 1) := by decide +kernel
theorem dX8_overlap_22 : decode cX8_overlap 22 = .ok (.invokevirtual 31, 3) := by decide +kernel
theorem dX8_overlap_25 : decode cX8_overlap 25 = .ok (.iload_n 1, 1) := by decide +kernel
theorem dX8_overlap_26 : decode cX8_overlap 26 = .ok (.iconst 3, 1) := by decide +kernel
theorem dX8_overlap_27 : decode cX8_overlap 27 = .ok (.idiv, 1) := by decide +kernel
theorem dX8_overlap_28 : decode cX8_overlap 28 = .ok (.if_icmp .gt 5, 3) := by decide +kernel
theorem dX8_overlap_31 : decode cX8_overlap 31 = .ok (.iload_n 1, 1) := by decide +kernel
theorem dX8_overlap_32 : decode cX8_overlap 32 = .ok (.ireturn, 1) := by decide +kernel
theorem dX8_overlap_33 : decode cX8_overlap 33 = .ok (.iinc 1 (-1), 3) := by decide +kernel
theorem dX8_overlap_36 : decode cX8_overlap 36 = .ok (.goto (-20), 3) := by decide +kernel
theorem dX8_overlap_39 : decode cX8_overlap 39 = .ok (.iconst 0, 1) := by decide +kernel
theorem dX8_overlap_40 : decode cX8_overlap 40 = .ok (.ireturn, 1) := by decide +kernel
theorem dX8_differences_0 : decode cX8_differences 0 = .ok (.iconst 0, 1) := by decide +kernel
theorem dX8_differences_1 : decode cX8_differences 1 = .ok (.istore_n 2, 1) := by decide +kernel
theorem dX8_differences_2 : decode cX8_differences 2 = .ok (.aload_n 0, 1) := by decide +kernel
theorem dX8_differences_3 : decode cX8_differences 3 = .ok (.getfield 15, 3) := by decide +kernel
theorem dX8_differences_6 : decode cX8_differences 6 = .ok (.iconst 0, 1) := by decide +kernel
theorem dX8_differences_7 : decode cX8_differences 7 = .ok (.iaload, 1) := by decide +kernel
theorem dX8_differences_8 : decode cX8_differences 8 = .ok (.iload_n 1, 1) := by decide +kernel
theorem dX8_differences_9 : decode cX8_differences 9 = .ok (.isub, 1) := by decide +kernel
theorem dX8_differences_10 : decode cX8_differences 10 = .ok (.istore_n 3, 1) := by decide +kernel
theorem dX8_differences_11 : decode cX8_differences 11 = .ok (.iconst 0, 1) := by decide +kernel
theorem dX8_differences_12 : decode cX8_differences 12 = .ok (.istore 4, 2) := by decide +kernel
theorem dX8_differences_14 : decode cX8_differences 14 = .ok (.iload 4, 2) := by decide +kernel
theorem dX8_differences_16 : decode cX8_differences 16 = .ok (.iload_n 1, 1) := by decide +kernel
theorem dX8_differences_17 : decode cX8_differences 17 = .ok (.if_icmp .ge 31, 3) := by decide +kernel
theorem dX8_differences_20 : decode cX8_differences 20 = .ok (.aload_n 0, 1) := by decide +kernel
theorem dX8_differences_21 : decode cX8_differences 21 = .ok (.iconst 0, 1) := by decide +kernel
theorem dX8_differences_22 : decode cX8_differences 22 = .ok (.iload_n 3, 1) := by decide +kernel
theorem dX8_differences_23 : decode cX8_differences 23 = .ok (.iload 4, 2) := by decide +kernel
theorem dX8_differences_25 : decode cX8_differences 25 = .ok (.iadd, 1) := by decide +kernel
theorem dX8_differences_26 : decode cX8_differences 26 = .ok (.invokevirtual 34, 3) := by decide +kernel
theorem dX8_differences_29 : decode cX8_differences 29 = .ok (.aload_n 0, 1) := by decide +kernel
theorem dX8_differences_30 : decode cX8_differences 30 = .ok (.iconst 1, 1) := by decide +kernel
theorem dX8_differences_31 : decode cX8_differences 31 = .ok (.iload 4, 2) := by decide +kernel
theorem dX8_differences_33 : decode cX8_differences 33 = .ok (.invokevirtual 34, 3) := by decide +kernel
theorem dX8_differences_36 : decode cX8_differences 36 = .ok (.if_icmp .eq 6, 3) := by decide +kernel
theorem dX8_differences_39 : decode cX8_differences 39 = .ok (.iinc 2 1, 3) := by decide +kernel
theorem dX8_differences_42 : decode cX8_differences 42 = .ok (.iinc 4 1, 3) := by decide +kernel
theorem dX8_differences_45 : decode cX8_differences 45 = .ok (.goto (-31), 3) := by decide +kernel
theorem dX8_differences_48 : decode cX8_differences 48 = .ok (.iload_n 2, 1) := by decide +kernel
theorem dX8_differences_49 : decode cX8_differences 49 = .ok (.ireturn, 1) := by decide +kernel
theorem dX8_joinWord_0 : decode cX8_joinWord 0 = .ok (.aload_n 0, 1) := by decide +kernel
theorem dX8_joinWord_1 : decode cX8_joinWord 1 = .ok (.getfield 15, 3) := by decide +kernel
theorem dX8_joinWord_4 : decode cX8_joinWord 4 = .ok (.iconst 0, 1) := by decide +kernel
theorem dX8_joinWord_5 : decode cX8_joinWord 5 = .ok (.iaload, 1) := by decide +kernel
theorem dX8_joinWord_6 : decode cX8_joinWord 6 = .ok (.aload_n 0, 1) := by decide +kernel
theorem dX8_joinWord_7 : decode cX8_joinWord 7 = .ok (.invokevirtual 37, 3) := by decide +kernel
theorem dX8_joinWord_10 : decode cX8_joinWord 10 = .ok (.isub, 1) := by decide +kernel
theorem dX8_joinWord_11 : decode cX8_joinWord 11 = .ok (.istore_n 2, 1) := by decide +kernel
theorem dX8_joinWord_12 : decode cX8_joinWord 12 = .ok (.iload_n 1, 1) := by decide +kernel
theorem dX8_joinWord_13 : decode cX8_joinWord 13 = .ok (.ifCond .lt 15, 3) := by decide +kernel
theorem dX8_joinWord_16 : decode cX8_joinWord 16 = .ok (.iload_n 1, 1) := by decide +kernel
theorem dX8_joinWord_17 : decode cX8_joinWord 17 = .ok (.iload_n 2, 1) := by decide +kernel
theorem dX8_joinWord_18 : decode cX8_joinWord 18 = .ok (.aload_n 0, 1) := by decide +kernel
theorem dX8_joinWord_19 : decode cX8_joinWord 19 = .ok (.getfield 15, 3) := by decide +kernel
theorem dX8_joinWord_22 : decode cX8_joinWord 22 = .ok (.iconst 1, 1) := by decide +kernel
theorem dX8_joinWord_23 : decode cX8_joinWord 23 = .ok (.iaload, 1) := by decide +kernel
theorem dX8_joinWord_24 : decode cX8_joinWord 24 = .ok (.iadd, 1) := by decide +kernel
theorem dX8_joinWord_25 : decode cX8_joinWord 25 = .ok (.if_icmp .lt 5, 3) := by decide +kernel
theorem dX8_joinWord_28 : decode cX8_joinWord 28 = .ok (.iconst (-1), 1) := by decide +kernel
theorem dX8_joinWord_29 : decode cX8_joinWord 29 = .ok (.ireturn, 1) := by decide +kernel
theorem dX8_joinWord_30 : decode cX8_joinWord 30 = .ok (.iload_n 1, 1) := by decide +kernel
theorem dX8_joinWord_31 : decode cX8_joinWord 31 = .ok (.iload_n 2, 1) := by decide +kernel
theorem dX8_joinWord_32 : decode cX8_joinWord 32 = .ok (.if_icmp .ge 10, 3) := by decide +kernel
theorem dX8_joinWord_35 : decode cX8_joinWord 35 = .ok (.aload_n 0, 1) := by decide +kernel
theorem dX8_joinWord_36 : decode cX8_joinWord 36 = .ok (.iconst 0, 1) := by decide +kernel
theorem dX8_joinWord_37 : decode cX8_joinWord 37 = .ok (.iload_n 1, 1) := by decide +kernel
theorem dX8_joinWord_38 : decode cX8_joinWord 38 = .ok (.invokevirtual 34, 3) := by decide +kernel
theorem dX8_joinWord_41 : decode cX8_joinWord 41 = .ok (.ireturn, 1) := by decide +kernel
theorem dX8_joinWord_42 : decode cX8_joinWord 42 = .ok (.iload_n 1, 1) := by decide +kernel
theorem dX8_joinWord_43 : decode cX8_joinWord 43 = .ok (.aload_n 0, 1) := by decide +kernel
theorem dX8_joinWord_44 : decode cX8_joinWord 44 = .ok (.getfield 15, 3) := by decide +kernel
theorem dX8_joinWord_47 : decode cX8_joinWord 47 = .ok (.iconst 0, 1) := by decide +kernel
theorem dX8_joinWord_48 : decode cX8_joinWord 48 = .ok (.iaload, 1) := by decide +kernel
theorem dX8_joinWord_49 : decode cX8_joinWord 49 = .ok (.if_icmp .lt 12, 3) := by decide +kernel
theorem dX8_joinWord_52 : decode cX8_joinWord 52 = .ok (.aload_n 0, 1) := by decide +kernel
theorem dX8_joinWord_53 : decode cX8_joinWord 53 = .ok (.iconst 1, 1) := by decide +kernel
theorem dX8_joinWord_54 : decode cX8_joinWord 54 = .ok (.iload_n 1, 1) := by decide +kernel
theorem dX8_joinWord_55 : decode cX8_joinWord 55 = .ok (.iload_n 2, 1) := by decide +kernel
theorem dX8_joinWord_56 : decode cX8_joinWord 56 = .ok (.isub, 1) := by decide +kernel
theorem dX8_joinWord_57 : decode cX8_joinWord 57 = .ok (.invokevirtual 34, 3) := by decide +kernel
theorem dX8_joinWord_60 : decode cX8_joinWord 60 = .ok (.ireturn, 1) := by decide +kernel
theorem dX8_joinWord_61 : decode cX8_joinWord 61 = .ok (.aload_n 0, 1) := by decide +kernel
theorem dX8_joinWord_62 : decode cX8_joinWord 62 = .ok (.aload_n 0, 1) := by decide +kernel
theorem dX8_joinWord_63 : decode cX8_joinWord 63 = .ok (.iconst 0, 1) := by decide +kernel
theorem dX8_joinWord_64 : decode cX8_joinWord 64 = .ok (.iload_n 1, 1) := by decide +kernel
theorem dX8_joinWord_65 : decode cX8_joinWord 65 = .ok (.invokevirtual 34, 3) := by decide +kernel
theorem dX8_joinWord_68 : decode cX8_joinWord 68 = .ok (.aload_n 0, 1) := by decide +kernel
theorem dX8_joinWord_69 : decode cX8_joinWord 69 = .ok (.iconst 1, 1) := by decide +kernel
theorem dX8_joinWord_70 : decode cX8_joinWord 70 = .ok (.iload_n 1, 1) := by decide +kernel
theorem dX8_joinWord_71 : decode cX8_joinWord 71 = .ok (.iload_n 2, 1) := by decide +kernel
theorem dX8_joinWord_72 : decode cX8_joinWord 72 = .ok (.isub, 1) := by decide +kernel
theorem dX8_joinWord_73 : decode cX8_joinWord 73 = .ok (.invokevirtual 34, 3) := by decide +kernel
theorem dX8_joinWord_76 : decode cX8_joinWord 76 = .ok (.invokevirtual 41, 3) := by decide +kernel
theorem dX8_joinWord_79 : decode cX8_joinWord 79 = .ok (.ireturn, 1) := by decide +kernel
theorem dX8_moreHeard_0 : decode cX8_moreHeard 0 = .ok (.aload_n 0, 1) := by decide +kernel
theorem dX8_moreHeard_1 : decode cX8_moreHeard 1 = .ok (.iload_n 2, 1) := by decide +kernel
theorem dX8_moreHeard_2 : decode cX8_moreHeard 2 = .ok (.invokevirtual 44, 3) := by decide +kernel
theorem dX8_moreHeard_5 : decode cX8_moreHeard 5 = .ok (.aload_n 0, 1) := by decide +kernel
theorem dX8_moreHeard_6 : decode cX8_moreHeard 6 = .ok (.iload_n 1, 1) := by decide +kernel
theorem dX8_moreHeard_7 : decode cX8_moreHeard 7 = .ok (.invokevirtual 44, 3) := by decide +kernel
theorem dX8_moreHeard_10 : decode cX8_moreHeard 10 = .ok (.if_icmp .le 7, 3) := by decide +kernel
theorem dX8_moreHeard_13 : decode cX8_moreHeard 13 = .ok (.iload_n 2, 1) := by decide +kernel
theorem dX8_moreHeard_14 : decode cX8_moreHeard 14 = .ok (.goto 4, 3) := by decide +kernel
theorem dX8_moreHeard_17 : decode cX8_moreHeard 17 = .ok (.iload_n 1, 1) := by decide +kernel
theorem dX8_moreHeard_18 : decode cX8_moreHeard 18 = .ok (.ireturn, 1) := by decide +kernel
theorem dX8_timesOnTape_0 : decode cX8_timesOnTape 0 = .ok (.iconst 0, 1) := by decide +kernel
theorem dX8_timesOnTape_1 : decode cX8_timesOnTape 1 = .ok (.istore_n 2, 1) := by decide +kernel
theorem dX8_timesOnTape_2 : decode cX8_timesOnTape 2 = .ok (.iconst 0, 1) := by decide +kernel
theorem dX8_timesOnTape_3 : decode cX8_timesOnTape 3 = .ok (.istore_n 3, 1) := by decide +kernel
theorem dX8_timesOnTape_4 : decode cX8_timesOnTape 4 = .ok (.iload_n 3, 1) := by decide +kernel
theorem dX8_timesOnTape_5 : decode cX8_timesOnTape 5 = .ok (.aload_n 0, 1) := by decide +kernel
theorem dX8_timesOnTape_6 : decode cX8_timesOnTape 6 = .ok (.getfield 15, 3) := by decide +kernel
theorem dX8_timesOnTape_9 : decode cX8_timesOnTape 9 = .ok (.iconst 2, 1) := by decide +kernel
theorem dX8_timesOnTape_10 : decode cX8_timesOnTape 10 = .ok (.iaload, 1) := by decide +kernel
theorem dX8_timesOnTape_11 : decode cX8_timesOnTape 11 = .ok (.if_icmp .ge 22, 3) := by decide +kernel
theorem dX8_timesOnTape_14 : decode cX8_timesOnTape 14 = .ok (.aload_n 0, 1) := by decide +kernel
theorem dX8_timesOnTape_15 : decode cX8_timesOnTape 15 = .ok (.iconst 2, 1) := by decide +kernel
theorem dX8_timesOnTape_16 : decode cX8_timesOnTape 16 = .ok (.iload_n 3, 1) := by decide +kernel
theorem dX8_timesOnTape_17 : decode cX8_timesOnTape 17 = .ok (.invokevirtual 34, 3) := by decide +kernel
theorem dX8_timesOnTape_20 : decode cX8_timesOnTape 20 = .ok (.iload_n 1, 1) := by decide +kernel
theorem dX8_timesOnTape_21 : decode cX8_timesOnTape 21 = .ok (.if_icmp .ne 6, 3) := by decide +kernel
theorem dX8_timesOnTape_24 : decode cX8_timesOnTape 24 = .ok (.iinc 2 1, 3) := by decide +kernel
theorem dX8_timesOnTape_27 : decode cX8_timesOnTape 27 = .ok (.iinc 3 1, 3) := by decide +kernel
theorem dX8_timesOnTape_30 : decode cX8_timesOnTape 30 = .ok (.goto (-26), 3) := by decide +kernel
theorem dX8_timesOnTape_33 : decode cX8_timesOnTape 33 = .ok (.iload_n 2, 1) := by decide +kernel
theorem dX8_timesOnTape_34 : decode cX8_timesOnTape 34 = .ok (.ireturn, 1) := by decide +kernel
theorem dX8_distance_0 : decode cX8_distance 0 = .ok (.iconst 0, 1) := by decide +kernel
theorem dX8_distance_1 : decode cX8_distance 1 = .ok (.istore_n 3, 1) := by decide +kernel
theorem dX8_distance_2 : decode cX8_distance 2 = .ok (.iload_n 3, 1) := by decide +kernel
theorem dX8_distance_3 : decode cX8_distance 3 = .ok (.bipush 12, 2) := by decide +kernel
theorem dX8_distance_5 : decode cX8_distance 5 = .ok (.if_icmp .gt 16, 3) := by decide +kernel
theorem dX8_distance_8 : decode cX8_distance 8 = .ok (.aload_n 0, 1) := by decide +kernel
theorem dX8_distance_9 : decode cX8_distance 9 = .ok (.getfield 18, 3) := by decide +kernel
theorem dX8_distance_12 : decode cX8_distance 12 = .ok (.iload_n 3, 1) := by decide +kernel
theorem dX8_distance_13 : decode cX8_distance 13 = .ok (.iload_n 3, 1) := by decide +kernel
theorem dX8_distance_14 : decode cX8_distance 14 = .ok (.iastore, 1) := by decide +kernel
theorem dX8_distance_15 : decode cX8_distance 15 = .ok (.iinc 3 1, 3) := by decide +kernel
theorem dX8_distance_18 : decode cX8_distance 18 = .ok (.goto (-16), 3) := by decide +kernel
theorem dX8_distance_21 : decode cX8_distance 21 = .ok (.iconst 0, 1) := by decide +kernel
theorem dX8_distance_22 : decode cX8_distance 22 = .ok (.istore_n 3, 1) := by decide +kernel
theorem dX8_distance_23 : decode cX8_distance 23 = .ok (.iload_n 3, 1) := by decide +kernel
theorem dX8_distance_24 : decode cX8_distance 24 = .ok (.aload_n 0, 1) := by decide +kernel
theorem dX8_distance_25 : decode cX8_distance 25 = .ok (.iload_n 1, 1) := by decide +kernel
theorem dX8_distance_26 : decode cX8_distance 26 = .ok (.invokevirtual 21, 3) := by decide +kernel
theorem dX8_distance_29 : decode cX8_distance 29 = .ok (.if_icmp .ge 117, 3) := by decide +kernel
theorem dX8_distance_32 : decode cX8_distance 32 = .ok (.aload_n 0, 1) := by decide +kernel
theorem dX8_distance_33 : decode cX8_distance 33 = .ok (.getfield 18, 3) := by decide +kernel
theorem dX8_distance_36 : decode cX8_distance 36 = .ok (.iconst 0, 1) := by decide +kernel
theorem dX8_distance_37 : decode cX8_distance 37 = .ok (.iaload, 1) := by decide +kernel
theorem dX8_distance_38 : decode cX8_distance 38 = .ok (.istore 4, 2) := by decide +kernel
theorem dX8_distance_40 : decode cX8_distance 40 = .ok (.aload_n 0, 1) := by decide +kernel
theorem dX8_distance_41 : decode cX8_distance 41 = .ok (.getfield 18, 3) := by decide +kernel
theorem dX8_distance_44 : decode cX8_distance 44 = .ok (.iconst 0, 1) := by decide +kernel
theorem dX8_distance_45 : decode cX8_distance 45 = .ok (.iload_n 3, 1) := by decide +kernel
theorem dX8_distance_46 : decode cX8_distance 46 = .ok (.iconst 1, 1) := by decide +kernel
theorem dX8_distance_47 : decode cX8_distance 47 = .ok (.iadd, 1) := by decide +kernel
theorem dX8_distance_48 : decode cX8_distance 48 = .ok (.iastore, 1) := by decide +kernel
theorem dX8_distance_49 : decode cX8_distance 49 = .ok (.iconst 0, 1) := by decide +kernel
theorem dX8_distance_50 : decode cX8_distance 50 = .ok (.istore 5, 2) := by decide +kernel
theorem dX8_distance_52 : decode cX8_distance 52 = .ok (.iload 5, 2) := by decide +kernel
theorem dX8_distance_54 : decode cX8_distance 54 = .ok (.aload_n 0, 1) := by decide +kernel
theorem dX8_distance_55 : decode cX8_distance 55 = .ok (.iload_n 2, 1) := by decide +kernel
theorem dX8_distance_56 : decode cX8_distance 56 = .ok (.invokevirtual 21, 3) := by decide +kernel
theorem dX8_distance_59 : decode cX8_distance 59 = .ok (.if_icmp .ge 81, 3) := by decide +kernel
theorem dX8_distance_62 : decode cX8_distance 62 = .ok (.iload 5, 2) := by decide +kernel
theorem dX8_distance_64 : decode cX8_distance 64 = .ok (.bipush 12, 2) := by decide +kernel
theorem dX8_distance_66 : decode cX8_distance 66 = .ok (.if_icmp .ge 74, 3) := by decide +kernel
theorem dX8_distance_69 : decode cX8_distance 69 = .ok (.iload 4, 2) := by decide +kernel
theorem dX8_distance_71 : decode cX8_distance 71 = .ok (.aload_n 0, 1) := by decide +kernel
theorem dX8_distance_72 : decode cX8_distance 72 = .ok (.iload_n 1, 1) := by decide +kernel
theorem dX8_distance_73 : decode cX8_distance 73 = .ok (.iload_n 3, 1) := by decide +kernel
theorem dX8_distance_74 : decode cX8_distance 74 = .ok (.invokevirtual 34, 3) := by decide +kernel
theorem dX8_distance_77 : decode cX8_distance 77 = .ok (.aload_n 0, 1) := by decide +kernel
theorem dX8_distance_78 : decode cX8_distance 78 = .ok (.iload_n 2, 1) := by decide +kernel
theorem dX8_distance_79 : decode cX8_distance 79 = .ok (.iload 5, 2) := by decide +kernel
theorem dX8_distance_81 : decode cX8_distance 81 = .ok (.invokevirtual 34, 3) := by decide +kernel
theorem dX8_distance_84 : decode cX8_distance 84 = .ok (.if_icmp .ne 7, 3) := by decide +kernel
theorem dX8_distance_87 : decode cX8_distance 87 = .ok (.iconst 0, 1) := by decide +kernel
theorem dX8_distance_88 : decode cX8_distance 88 = .ok (.goto 4, 3) := by decide +kernel
theorem dX8_distance_91 : decode cX8_distance 91 = .ok (.iconst 1, 1) := by decide +kernel
theorem dX8_distance_92 : decode cX8_distance 92 = .ok (.iadd, 1) := by decide +kernel
theorem dX8_distance_93 : decode cX8_distance 93 = .ok (.istore 6, 2) := by decide +kernel
theorem dX8_distance_95 : decode cX8_distance 95 = .ok (.aload_n 0, 1) := by decide +kernel
theorem dX8_distance_96 : decode cX8_distance 96 = .ok (.getfield 18, 3) := by decide +kernel
theorem dX8_distance_99 : decode cX8_distance 99 = .ok (.iload 5, 2) := by decide +kernel
theorem dX8_distance_101 : decode cX8_distance 101 = .ok (.iconst 1, 1) := by decide +kernel
theorem dX8_distance_102 : decode cX8_distance 102 = .ok (.iadd, 1) := by decide +kernel
theorem dX8_distance_103 : decode cX8_distance 103 = .ok (.iaload, 1) := by decide +kernel
theorem dX8_distance_104 : decode cX8_distance 104 = .ok (.istore 4, 2) := by decide +kernel
theorem dX8_distance_106 : decode cX8_distance 106 = .ok (.aload_n 0, 1) := by decide +kernel
theorem dX8_distance_107 : decode cX8_distance 107 = .ok (.getfield 18, 3) := by decide +kernel
theorem dX8_distance_110 : decode cX8_distance 110 = .ok (.iload 5, 2) := by decide +kernel
theorem dX8_distance_112 : decode cX8_distance 112 = .ok (.iconst 1, 1) := by decide +kernel
theorem dX8_distance_113 : decode cX8_distance 113 = .ok (.iadd, 1) := by decide +kernel
theorem dX8_distance_114 : decode cX8_distance 114 = .ok (.iload 6, 2) := by decide +kernel
theorem dX8_distance_116 : decode cX8_distance 116 = .ok (.iconst 1, 1) := by decide +kernel
theorem dX8_distance_117 : decode cX8_distance 117 = .ok (.iload 4, 2) := by decide +kernel
theorem dX8_distance_119 : decode cX8_distance 119 = .ok (.aload_n 0, 1) := by decide +kernel
theorem dX8_distance_120 : decode cX8_distance 120 = .ok (.getfield 18, 3) := by decide +kernel
theorem dX8_distance_123 : decode cX8_distance 123 = .ok (.iload 5, 2) := by decide +kernel
theorem dX8_distance_125 : decode cX8_distance 125 = .ok (.iaload, 1) := by decide +kernel
theorem dX8_distance_126 : decode cX8_distance 126 = .ok (.invokestatic 25, 3) := by decide +kernel
theorem dX8_distance_129 : decode cX8_distance 129 = .ok (.iadd, 1) := by decide +kernel
theorem dX8_distance_130 : decode cX8_distance 130 = .ok (.invokestatic 25, 3) := by decide +kernel
theorem dX8_distance_133 : decode cX8_distance 133 = .ok (.iastore, 1) := by decide +kernel
theorem dX8_distance_134 : decode cX8_distance 134 = .ok (.iinc 5 1, 3) := by decide +kernel
theorem dX8_distance_137 : decode cX8_distance 137 = .ok (.goto (-85), 3) := by decide +kernel
theorem dX8_distance_140 : decode cX8_distance 140 = .ok (.iinc 3 1, 3) := by decide +kernel
theorem dX8_distance_143 : decode cX8_distance 143 = .ok (.goto (-120), 3) := by decide +kernel
theorem dX8_distance_146 : decode cX8_distance 146 = .ok (.aload_n 0, 1) := by decide +kernel
theorem dX8_distance_147 : decode cX8_distance 147 = .ok (.iload_n 2, 1) := by decide +kernel
theorem dX8_distance_148 : decode cX8_distance 148 = .ok (.invokevirtual 21, 3) := by decide +kernel
theorem dX8_distance_151 : decode cX8_distance 151 = .ok (.istore_n 3, 1) := by decide +kernel
theorem dX8_distance_152 : decode cX8_distance 152 = .ok (.iload_n 3, 1) := by decide +kernel
theorem dX8_distance_153 : decode cX8_distance 153 = .ok (.ifCond .lt 18, 3) := by decide +kernel
theorem dX8_distance_156 : decode cX8_distance 156 = .ok (.iload_n 3, 1) := by decide +kernel
theorem dX8_distance_157 : decode cX8_distance 157 = .ok (.bipush 12, 2) := by decide +kernel
theorem dX8_distance_159 : decode cX8_distance 159 = .ok (.if_icmp .gt 12, 3) := by decide +kernel
theorem dX8_distance_162 : decode cX8_distance 162 = .ok (.aload_n 0, 1) := by decide +kernel
theorem dX8_distance_163 : decode cX8_distance 163 = .ok (.getfield 18, 3) := by decide +kernel
theorem dX8_distance_166 : decode cX8_distance 166 = .ok (.iload_n 3, 1) := by decide +kernel
theorem dX8_distance_167 : decode cX8_distance 167 = .ok (.iaload, 1) := by decide +kernel
theorem dX8_distance_168 : decode cX8_distance 168 = .ok (.goto 4, 3) := by decide +kernel
theorem dX8_distance_171 : decode cX8_distance 171 = .ok (.iconst (-1), 1) := by decide +kernel
theorem dX8_distance_172 : decode cX8_distance 172 = .ok (.ireturn, 1) := by decide +kernel
theorem dX9_init_0 : decode cX9_init 0 = .ok (.aload_n 0, 1) := by decide +kernel
theorem dX9_init_1 : decode cX9_init 1 = .ok (.invokespecial 3, 3) := by decide +kernel
theorem dX9_init_4 : decode cX9_init 4 = .ok (.aload_n 0, 1) := by decide +kernel
theorem dX9_init_5 : decode cX9_init 5 = .ok (.sipush 2000, 3) := by decide +kernel
theorem dX9_init_8 : decode cX9_init 8 = .ok (.newarray .byte, 2) := by decide +kernel
theorem dX9_init_10 : decode cX9_init 10 = .ok (.putfield 9, 3) := by decide +kernel
theorem dX9_init_13 : decode cX9_init 13 = .ok (.return_, 1) := by decide +kernel
theorem dX9_hasRoom_0 : decode cX9_hasRoom 0 = .ok (.aload_n 0, 1) := by decide +kernel
theorem dX9_hasRoom_1 : decode cX9_hasRoom 1 = .ok (.getfield 15, 3) := by decide +kernel
theorem dX9_hasRoom_4 : decode cX9_hasRoom 4 = .ok (.sipush 1980, 3) := by decide +kernel
theorem dX9_hasRoom_7 : decode cX9_hasRoom 7 = .ok (.if_icmp .gt 7, 3) := by decide +kernel
theorem dX9_hasRoom_10 : decode cX9_hasRoom 10 = .ok (.iconst 1, 1) := by decide +kernel
theorem dX9_hasRoom_11 : decode cX9_hasRoom 11 = .ok (.goto 4, 3) := by decide +kernel
theorem dX9_hasRoom_14 : decode cX9_hasRoom 14 = .ok (.iconst 0, 1) := by decide +kernel
theorem dX9_hasRoom_15 : decode cX9_hasRoom 15 = .ok (.ireturn, 1) := by decide +kernel
theorem dX9_append_0 : decode cX9_append 0 = .ok (.bipush 24, 2) := by decide +kernel
theorem dX9_append_2 : decode cX9_append 2 = .ok (.istore_n 2, 1) := by decide +kernel
theorem dX9_append_3 : decode cX9_append 3 = .ok (.iload_n 2, 1) := by decide +kernel
theorem dX9_append_4 : decode cX9_append 4 = .ok (.ifCond .lt 42, 3) := by decide +kernel
theorem dX9_append_7 : decode cX9_append 7 = .ok (.aload_n 0, 1) := by decide +kernel
theorem dX9_append_8 : decode cX9_append 8 = .ok (.getfield 15, 3) := by decide +kernel
theorem dX9_append_11 : decode cX9_append 11 = .ok (.sipush 2000, 3) := by decide +kernel
theorem dX9_append_14 : decode cX9_append 14 = .ok (.if_icmp .ge 26, 3) := by decide +kernel
theorem dX9_append_17 : decode cX9_append 17 = .ok (.aload_n 0, 1) := by decide +kernel
theorem dX9_append_18 : decode cX9_append 18 = .ok (.getfield 9, 3) := by decide +kernel
theorem dX9_append_21 : decode cX9_append 21 = .ok (.aload_n 0, 1) := by decide +kernel
theorem dX9_append_22 : decode cX9_append 22 = .ok (.getfield 15, 3) := by decide +kernel
theorem dX9_append_25 : decode cX9_append 25 = .ok (.iload_n 1, 1) := by decide +kernel
theorem dX9_append_26 : decode cX9_append 26 = .ok (.iload_n 2, 1) := by decide +kernel
theorem dX9_append_27 : decode cX9_append 27 = .ok (.iushr, 1) := by decide +kernel
theorem dX9_append_28 : decode cX9_append 28 = .ok (.i2b, 1) := by decide +kernel
theorem dX9_append_29 : decode cX9_append 29 = .ok (.bastore, 1) := by decide +kernel
theorem dX9_append_30 : decode cX9_append 30 = .ok (.aload_n 0, 1) := by decide +kernel
theorem dX9_append_31 : decode cX9_append 31 = .ok (.dup, 1) := by decide +kernel
theorem dX9_append_32 : decode cX9_append 32 = .ok (.getfield 15, 3) := by decide +kernel
theorem dX9_append_35 : decode cX9_append 35 = .ok (.iconst 1, 1) := by decide +kernel
theorem dX9_append_36 : decode cX9_append 36 = .ok (.iadd, 1) := by decide +kernel
theorem dX9_append_37 : decode cX9_append 37 = .ok (.putfield 15, 3) := by decide +kernel
theorem dX9_append_40 : decode cX9_append 40 = .ok (.iinc 2 (-8), 3) := by decide +kernel
theorem dX9_append_43 : decode cX9_append 43 = .ok (.goto (-40), 3) := by decide +kernel
theorem dX9_append_46 : decode cX9_append 46 = .ok (.return_, 1) := by decide +kernel
theorem dX9_byteAt_0 : decode cX9_byteAt 0 = .ok (.iload_n 1, 1) := by decide +kernel
theorem dX9_byteAt_1 : decode cX9_byteAt 1 = .ok (.ifCond .lt 31, 3) := by decide +kernel
theorem dX9_byteAt_4 : decode cX9_byteAt 4 = .ok (.iload_n 1, 1) := by decide +kernel
theorem dX9_byteAt_5 : decode cX9_byteAt 5 = .ok (.aload_n 0, 1) := by decide +kernel
theorem dX9_byteAt_6 : decode cX9_byteAt 6 = .ok (.getfield 15, 3) := by decide +kernel
theorem dX9_byteAt_9 : decode cX9_byteAt 9 = .ok (.if_icmp .ge 23, 3) := by decide +kernel
theorem dX9_byteAt_12 : decode cX9_byteAt 12 = .ok (.iload_n 1, 1) := by decide +kernel
theorem dX9_byteAt_13 : decode cX9_byteAt 13 = .ok (.sipush 2000, 3) := by decide +kernel
theorem dX9_byteAt_16 : decode cX9_byteAt 16 = .ok (.if_icmp .ge 16, 3) := by decide +kernel
theorem dX9_byteAt_19 : decode cX9_byteAt 19 = .ok (.aload_n 0, 1) := by decide +kernel
theorem dX9_byteAt_20 : decode cX9_byteAt 20 = .ok (.getfield 9, 3) := by decide +kernel
theorem dX9_byteAt_23 : decode cX9_byteAt 23 = .ok (.iload_n 1, 1) := by decide +kernel
theorem dX9_byteAt_24 : decode cX9_byteAt 24 = .ok (.baload, 1) := by decide +kernel
theorem dX9_byteAt_25 : decode cX9_byteAt 25 = .ok (.sipush 255, 3) := by decide +kernel
theorem dX9_byteAt_28 : decode cX9_byteAt 28 = .ok (.iand, 1) := by decide +kernel
theorem dX9_byteAt_29 : decode cX9_byteAt 29 = .ok (.goto 4, 3) := by decide +kernel
theorem dX9_byteAt_32 : decode cX9_byteAt 32 = .ok (.iconst (-1), 1) := by decide +kernel
theorem dX9_byteAt_33 : decode cX9_byteAt 33 = .ok (.ireturn, 1) := by decide +kernel
theorem dX9_behindBlanks_0 : decode cX9_behindBlanks 0 = .ok (.iload_n 1, 1) := by decide +kernel
theorem dX9_behindBlanks_1 : decode cX9_behindBlanks 1 = .ok (.istore_n 2, 1) := by decide +kernel
theorem dX9_behindBlanks_2 : decode cX9_behindBlanks 2 = .ok (.iload_n 2, 1) := by decide +kernel
theorem dX9_behindBlanks_3 : decode cX9_behindBlanks 3 = .ok (.aload_n 0, 1) := by decide +kernel
theorem dX9_behindBlanks_4 : decode cX9_behindBlanks 4 = .ok (.getfield 15, 3) := by decide +kernel
theorem dX9_behindBlanks_7 : decode cX9_behindBlanks 7 = .ok (.if_icmp .ge 20, 3) := by decide +kernel
theorem dX9_behindBlanks_10 : decode cX9_behindBlanks 10 = .ok (.aload_n 0, 1) := by decide +kernel
theorem dX9_behindBlanks_11 : decode cX9_behindBlanks 11 = .ok (.iload_n 2, 1) := by decide +kernel
theorem dX9_behindBlanks_12 : decode cX9_behindBlanks 12 = .ok (.invokevirtual 19, 3) := by decide +kernel
theorem dX9_behindBlanks_15 : decode cX9_behindBlanks 15 = .ok (.invokestatic 23, 3) := by decide +kernel
theorem dX9_behindBlanks_18 : decode cX9_behindBlanks 18 = .ok (.ifCond .eq 9, 3) := by decide +kernel
theorem dX9_behindBlanks_21 : decode cX9_behindBlanks 21 = .ok (.iinc 2 1, 3) := by decide +kernel
theorem dX9_behindBlanks_24 : decode cX9_behindBlanks 24 = .ok (.goto (-22), 3) := by decide +kernel
theorem dX9_behindBlanks_27 : decode cX9_behindBlanks 27 = .ok (.iload_n 2, 1) := by decide +kernel
theorem dX9_behindBlanks_28 : decode cX9_behindBlanks 28 = .ok (.ireturn, 1) := by decide +kernel
theorem dX9_isBlank_0 : decode cX9_isBlank 0 = .ok (.iload_n 0, 1) := by decide +kernel
theorem dX9_isBlank_1 : decode cX9_isBlank 1 = .ok (.bipush 9, 2) := by decide +kernel
theorem dX9_isBlank_3 : decode cX9_isBlank 3 = .ok (.if_icmp .eq 21, 3) := by decide +kernel
theorem dX9_isBlank_6 : decode cX9_isBlank 6 = .ok (.iload_n 0, 1) := by decide +kernel
theorem dX9_isBlank_7 : decode cX9_isBlank 7 = .ok (.bipush 10, 2) := by decide +kernel
theorem dX9_isBlank_9 : decode cX9_isBlank 9 = .ok (.if_icmp .eq 15, 3) := by decide +kernel
theorem dX9_isBlank_12 : decode cX9_isBlank 12 = .ok (.iload_n 0, 1) := by decide +kernel
theorem dX9_isBlank_13 : decode cX9_isBlank 13 = .ok (.bipush 13, 2) := by decide +kernel
theorem dX9_isBlank_15 : decode cX9_isBlank 15 = .ok (.if_icmp .eq 9, 3) := by decide +kernel
theorem dX9_isBlank_18 : decode cX9_isBlank 18 = .ok (.iload_n 0, 1) := by decide +kernel
theorem dX9_isBlank_19 : decode cX9_isBlank 19 = .ok (.bipush 32, 2) := by decide +kernel
theorem dX9_isBlank_21 : decode cX9_isBlank 21 = .ok (.if_icmp .ne 7, 3) := by decide +kernel
theorem dX9_isBlank_24 : decode cX9_isBlank 24 = .ok (.iconst 1, 1) := by decide +kernel
theorem dX9_isBlank_25 : decode cX9_isBlank 25 = .ok (.goto 4, 3) := by decide +kernel
theorem dX9_isBlank_28 : decode cX9_isBlank 28 = .ok (.iconst 0, 1) := by decide +kernel
theorem dX9_isBlank_29 : decode cX9_isBlank 29 = .ok (.ireturn, 1) := by decide +kernel
theorem dX10_init_0 : decode cX10_init 0 = .ok (.aload_n 0, 1) := by decide +kernel
theorem dX10_init_1 : decode cX10_init 1 = .ok (.invokespecial 3, 3) := by decide +kernel
theorem dX10_init_4 : decode cX10_init 4 = .ok (.aload_n 0, 1) := by decide +kernel
theorem dX10_init_5 : decode cX10_init 5 = .ok (.sipush 401, 3) := by decide +kernel
theorem dX10_init_8 : decode cX10_init 8 = .ok (.newarray .int, 2) := by decide +kernel
theorem dX10_init_10 : decode cX10_init 10 = .ok (.putfield 9, 3) := by decide +kernel
theorem dX10_init_13 : decode cX10_init 13 = .ok (.aload_n 0, 1) := by decide +kernel
theorem dX10_init_14 : decode cX10_init 14 = .ok (.sipush 401, 3) := by decide +kernel
theorem dX10_init_17 : decode cX10_init 17 = .ok (.newarray .int, 2) := by decide +kernel
theorem dX10_init_19 : decode cX10_init 19 = .ok (.putfield 15, 3) := by decide +kernel
theorem dX10_init_22 : decode cX10_init 22 = .ok (.aload_n 0, 1) := by decide +kernel
theorem dX10_init_23 : decode cX10_init 23 = .ok (.sipush 401, 3) := by decide +kernel
theorem dX10_init_26 : decode cX10_init 26 = .ok (.newarray .long, 2) := by decide +kernel
theorem dX10_init_28 : decode cX10_init 28 = .ok (.putfield 18, 3) := by decide +kernel
theorem dX10_init_31 : decode cX10_init 31 = .ok (.return_, 1) := by decide +kernel
theorem dX10_cut_0 : decode cX10_cut 0 = .ok (.iconst 0, 1) := by decide +kernel
theorem dX10_cut_1 : decode cX10_cut 1 = .ok (.istore_n 2, 1) := by decide +kernel
theorem dX10_cut_2 : decode cX10_cut 2 = .ok (.iconst 1, 1) := by decide +kernel
theorem dX10_cut_3 : decode cX10_cut 3 = .ok (.istore_n 3, 1) := by decide +kernel
theorem dX10_cut_4 : decode cX10_cut 4 = .ok (.aload_n 0, 1) := by decide +kernel
theorem dX10_cut_5 : decode cX10_cut 5 = .ok (.iconst 0, 1) := by decide +kernel
theorem dX10_cut_6 : decode cX10_cut 6 = .ok (.putfield 22, 3) := by decide +kernel
theorem dX10_cut_9 : decode cX10_cut 9 = .ok (.iload_n 3, 1) := by decide +kernel
theorem dX10_cut_10 : decode cX10_cut 10 = .ok (.ifCond .eq 95, 3) := by decide +kernel
theorem dX10_cut_13 : decode cX10_cut 13 = .ok (.aload_n 0, 1) := by decide +kernel
theorem dX10_cut_14 : decode cX10_cut 14 = .ok (.getfield 22, 3) := by decide +kernel
theorem dX10_cut_17 : decode cX10_cut 17 = .ok (.aload_n 0, 1) := by decide +kernel
theorem dX10_cut_18 : decode cX10_cut 18 = .ok (.getfield 9, 3) := by decide +kernel
theorem dX10_cut_21 : decode cX10_cut 21 = .ok (.arraylength, 1) := by decide +kernel
theorem dX10_cut_22 : decode cX10_cut 22 = .ok (.if_icmp .ge 83, 3) := by decide +kernel
theorem dX10_cut_25 : decode cX10_cut 25 = .ok (.aload_n 1, 1) := by decide +kernel
theorem dX10_cut_26 : decode cX10_cut 26 = .ok (.iload_n 2, 1) := by decide +kernel
theorem dX10_cut_27 : decode cX10_cut 27 = .ok (.invokevirtual 26, 3) := by decide +kernel
theorem dX10_cut_30 : decode cX10_cut 30 = .ok (.istore_n 2, 1) := by decide +kernel
theorem dX10_cut_31 : decode cX10_cut 31 = .ok (.aload_n 0, 1) := by decide +kernel
theorem dX10_cut_32 : decode cX10_cut 32 = .ok (.getfield 15, 3) := by decide +kernel
theorem dX10_cut_35 : decode cX10_cut 35 = .ok (.aload_n 0, 1) := by decide +kernel
theorem dX10_cut_36 : decode cX10_cut 36 = .ok (.getfield 22, 3) := by decide +kernel
theorem dX10_cut_39 : decode cX10_cut 39 = .ok (.iload_n 2, 1) := by decide +kernel
theorem dX10_cut_40 : decode cX10_cut 40 = .ok (.iastore, 1) := by decide +kernel
theorem dX10_cut_41 : decode cX10_cut 41 = .ok (.aload_n 0, 1) := by decide +kernel
theorem dX10_cut_42 : decode cX10_cut 42 = .ok (.getfield 18, 3) := by decide +kernel
theorem dX10_cut_45 : decode cX10_cut 45 = .ok (.aload_n 0, 1) := by decide +kernel
theorem dX10_cut_46 : decode cX10_cut 46 = .ok (.getfield 22, 3) := by decide +kernel
theorem dX10_cut_49 : decode cX10_cut 49 = .ok (.lconst 0, 1) := by decide +kernel
theorem dX10_cut_50 : decode cX10_cut 50 = .ok (.lastore, 1) := by decide +kernel
theorem dX10_cut_51 : decode cX10_cut 51 = .ok (.aload_n 0, 1) := by decide +kernel
theorem dX10_cut_52 : decode cX10_cut 52 = .ok (.aload_n 1, 1) := by decide +kernel
theorem dX10_cut_53 : decode cX10_cut 53 = .ok (.iload_n 2, 1) := by decide +kernel
theorem dX10_cut_54 : decode cX10_cut 54 = .ok (.invokevirtual 32, 3) := by decide +kernel
theorem dX10_cut_57 : decode cX10_cut 57 = .ok (.istore_n 2, 1) := by decide +kernel
theorem dX10_cut_58 : decode cX10_cut 58 = .ok (.aload_n 0, 1) := by decide +kernel
theorem dX10_cut_59 : decode cX10_cut 59 = .ok (.getfield 9, 3) := by decide +kernel
theorem dX10_cut_62 : decode cX10_cut 62 = .ok (.aload_n 0, 1) := by decide +kernel
theorem dX10_cut_63 : decode cX10_cut 63 = .ok (.getfield 22, 3) := by decide +kernel
theorem dX10_cut_66 : decode cX10_cut 66 = .ok (.iaload, 1) := by decide +kernel
theorem dX10_cut_67 : decode cX10_cut 67 = .ok (.bipush 37, 2) := by decide +kernel
theorem dX10_cut_69 : decode cX10_cut 69 = .ok (.if_icmp .eq 21, 3) := by decide +kernel
theorem dX10_cut_72 : decode cX10_cut 72 = .ok (.aload_n 0, 1) := by decide +kernel
theorem dX10_cut_73 : decode cX10_cut 73 = .ok (.getfield 9, 3) := by decide +kernel
theorem dX10_cut_76 : decode cX10_cut 76 = .ok (.aload_n 0, 1) := by decide +kernel
theorem dX10_cut_77 : decode cX10_cut 77 = .ok (.getfield 22, 3) := by decide +kernel
theorem dX10_cut_80 : decode cX10_cut 80 = .ok (.iaload, 1) := by decide +kernel
theorem dX10_cut_81 : decode cX10_cut 81 = .ok (.bipush 38, 2) := by decide +kernel
theorem dX10_cut_83 : decode cX10_cut 83 = .ok (.if_icmp .eq 7, 3) := by decide +kernel
theorem dX10_cut_86 : decode cX10_cut 86 = .ok (.iconst 1, 1) := by decide +kernel
theorem dX10_cut_87 : decode cX10_cut 87 = .ok (.goto 4, 3) := by decide +kernel
theorem dX10_cut_90 : decode cX10_cut 90 = .ok (.iconst 0, 1) := by decide +kernel
theorem dX10_cut_91 : decode cX10_cut 91 = .ok (.istore_n 3, 1) := by decide +kernel
theorem dX10_cut_92 : decode cX10_cut 92 = .ok (.aload_n 0, 1) := by decide +kernel
theorem dX10_cut_93 : decode cX10_cut 93 = .ok (.dup, 1) := by decide +kernel
theorem dX10_cut_94 : decode cX10_cut 94 = .ok (.getfield 22, 3) := by decide +kernel
theorem dX10_cut_97 : decode cX10_cut 97 = .ok (.iconst 1, 1) := by decide +kernel
theorem dX10_cut_98 : decode cX10_cut 98 = .ok (.iadd, 1) := by decide +kernel
theorem dX10_cut_99 : decode cX10_cut 99 = .ok (.putfield 22, 3) := by decide +kernel
theorem dX10_cut_102 : decode cX10_cut 102 = .ok (.goto (-93), 3) := by decide +kernel
theorem dX10_cut_105 : decode cX10_cut 105 = .ok (.return_, 1) := by decide +kernel
theorem dX10_cutOne_0 : decode cX10_cutOne 0 = .ok (.aload_n 1, 1) := by decide +kernel
theorem dX10_cutOne_1 : decode cX10_cutOne 1 = .ok (.iload_n 2, 1) := by decide +kernel
theorem dX10_cutOne_2 : decode cX10_cutOne 2 = .ok (.invokevirtual 36, 3) := by decide +kernel
theorem dX10_cutOne_5 : decode cX10_cutOne 5 = .ok (.istore_n 3, 1) := by decide +kernel
theorem dX10_cutOne_6 : decode cX10_cutOne 6 = .ok (.iload_n 3, 1) := by decide +kernel
theorem dX10_cutOne_7 : decode cX10_cutOne 7 = .ok (.iconst (-1), 1) := by decide +kernel
theorem dX10_cutOne_8 : decode cX10_cutOne 8 = .ok (.if_icmp .ne 11, 3) := by decide +kernel
theorem dX10_cutOne_11 : decode cX10_cutOne 11 = .ok (.aload_n 0, 1) := by decide +kernel
theorem dX10_cutOne_12 : decode cX10_cutOne 12 = .ok (.bipush 37, 2) := by decide +kernel
theorem dX10_cutOne_14 : decode cX10_cutOne 14 = .ok (.iload_n 2, 1) := by decide +kernel
theorem dX10_cutOne_15 : decode cX10_cutOne 15 = .ok (.invokevirtual 39, 3) := by decide +kernel
theorem dX10_cutOne_18 : decode cX10_cutOne 18 = .ok (.ireturn, 1) := by decide +kernel
theorem dX10_cutOne_19 : decode cX10_cutOne 19 = .ok (.iload_n 3, 1) := by decide +kernel
theorem dX10_cutOne_20 : decode cX10_cutOne 20 = .ok (.invokestatic 43, 3) := by decide +kernel
theorem dX10_cutOne_23 : decode cX10_cutOne 23 = .ok (.ifCond .eq 10, 3) := by decide +kernel
theorem dX10_cutOne_26 : decode cX10_cutOne 26 = .ok (.aload_n 0, 1) := by decide +kernel
theorem dX10_cutOne_27 : decode cX10_cutOne 27 = .ok (.aload_n 1, 1) := by decide +kernel
theorem dX10_cutOne_28 : decode cX10_cutOne 28 = .ok (.iload_n 2, 1) := by decide +kernel
theorem dX10_cutOne_29 : decode cX10_cutOne 29 = .ok (.invokevirtual 47, 3) := by decide +kernel
theorem dX10_cutOne_32 : decode cX10_cutOne 32 = .ok (.ireturn, 1) := by decide +kernel
theorem dX10_cutOne_33 : decode cX10_cutOne 33 = .ok (.iload_n 3, 1) := by decide +kernel
theorem dX10_cutOne_34 : decode cX10_cutOne 34 = .ok (.invokestatic 50, 3) := by decide +kernel
theorem dX10_cutOne_37 : decode cX10_cutOne 37 = .ok (.ifCond .eq 10, 3) := by decide +kernel
theorem dX10_cutOne_40 : decode cX10_cutOne 40 = .ok (.aload_n 0, 1) := by decide +kernel
theorem dX10_cutOne_41 : decode cX10_cutOne 41 = .ok (.aload_n 1, 1) := by decide +kernel
theorem dX10_cutOne_42 : decode cX10_cutOne 42 = .ok (.iload_n 2, 1) := by decide +kernel
theorem dX10_cutOne_43 : decode cX10_cutOne 43 = .ok (.invokevirtual 53, 3) := by decide +kernel
theorem dX10_cutOne_46 : decode cX10_cutOne 46 = .ok (.ireturn, 1) := by decide +kernel
theorem dX10_cutOne_47 : decode cX10_cutOne 47 = .ok (.aload_n 0, 1) := by decide +kernel
theorem dX10_cutOne_48 : decode cX10_cutOne 48 = .ok (.iload_n 3, 1) := by decide +kernel
theorem dX10_cutOne_49 : decode cX10_cutOne 49 = .ok (.aload_n 1, 1) := by decide +kernel
theorem dX10_cutOne_50 : decode cX10_cutOne 50 = .ok (.iload_n 2, 1) := by decide +kernel
theorem dX10_cutOne_51 : decode cX10_cutOne 51 = .ok (.iconst 1, 1) := by decide +kernel
theorem dX10_cutOne_52 : decode cX10_cutOne 52 = .ok (.iadd, 1) := by decide +kernel
theorem dX10_cutOne_53 : decode cX10_cutOne 53 = .ok (.invokevirtual 36, 3) := by decide +kernel
theorem dX10_cutOne_56 : decode cX10_cutOne 56 = .ok (.bipush 61, 2) := by decide +kernel
theorem dX10_cutOne_58 : decode cX10_cutOne 58 = .ok (.if_icmp .ne 7, 3) := by decide +kernel
theorem dX10_cutOne_61 : decode cX10_cutOne 61 = .ok (.iconst 1, 1) := by decide +kernel
theorem dX10_cutOne_62 : decode cX10_cutOne 62 = .ok (.goto 4, 3) := by decide +kernel
theorem dX10_cutOne_65 : decode cX10_cutOne 65 = .ok (.iconst 0, 1) := by decide +kernel
theorem dX10_cutOne_66 : decode cX10_cutOne 66 = .ok (.iload_n 2, 1) := by decide +kernel
theorem dX10_cutOne_67 : decode cX10_cutOne 67 = .ok (.invokevirtual 56, 3) := by decide +kernel
theorem dX10_cutOne_70 : decode cX10_cutOne 70 = .ok (.ireturn, 1) := by decide +kernel
theorem dX10_cutLetters_0 : decode cX10_cutLetters 0 = .ok (.lconst 0, 1) := by decide +kernel
theorem dX10_cutLetters_1 : decode cX10_cutLetters 1 = .ok (.lstore_n 3, 1) := by decide +kernel
theorem dX10_cutLetters_2 : decode cX10_cutLetters 2 = .ok (.iload_n 2, 1) := by decide +kernel
theorem dX10_cutLetters_3 : decode cX10_cutLetters 3 = .ok (.istore 5, 2) := by decide +kernel
theorem dX10_cutLetters_5 : decode cX10_cutLetters 5 = .ok (.iload 5, 2) := by decide +kernel
theorem dX10_cutLetters_7 : decode cX10_cutLetters 7 = .ok (.aload_n 1, 1) := by decide +kernel
theorem dX10_cutLetters_8 : decode cX10_cutLetters 8 = .ok (.getfield 60, 3) := by decide +kernel
theorem dX10_cutLetters_11 : decode cX10_cutLetters 11 = .ok (.if_icmp .ge 41, 3) := by decide +kernel
theorem dX10_cutLetters_14 : decode cX10_cutLetters 14 = .ok (.aload_n 1, 1) := by decide +kernel
theorem dX10_cutLetters_15 : decode cX10_cutLetters 15 = .ok (.iload 5, 2) := by decide +kernel
theorem dX10_cutLetters_17 : decode cX10_cutLetters 17 = .ok (.invokevirtual 36, 3) := by decide +kernel
theorem dX10_cutLetters_20 : decode cX10_cutLetters 20 = .ok (.invokestatic 43, 3) := by decide +kernel
theorem dX10_cutLetters_23 : decode cX10_cutLetters 23 = .ok (.ifCond .eq 29, 3) := by decide +kernel
theorem dX10_cutLetters_26 : decode cX10_cutLetters 26 = .ok (.iload 5, 2) := by decide +kernel
theorem dX10_cutLetters_28 : decode cX10_cutLetters 28 = .ok (.iload_n 2, 1) := by decide +kernel
theorem dX10_cutLetters_29 : decode cX10_cutLetters 29 = .ok (.isub, 1) := by decide +kernel
theorem dX10_cutLetters_30 : decode cX10_cutLetters 30 = .ok (.bipush 8, 2) := by decide +kernel
theorem dX10_cutLetters_32 : decode cX10_cutLetters 32 = .ok (.if_icmp .ge 14, 3) := by decide +kernel
theorem dX10_cutLetters_35 : decode cX10_cutLetters 35 = .ok (.lload_n 3, 1) := by decide +kernel
theorem dX10_cutLetters_36 : decode cX10_cutLetters 36 = .ok (.aload_n 1, 1) := by decide +kernel
theorem dX10_cutLetters_37 : decode cX10_cutLetters 37 = .ok (.iload 5, 2) := by decide +kernel
theorem dX10_cutLetters_39 : decode cX10_cutLetters 39 = .ok (.invokevirtual 36, 3) := by decide +kernel
theorem dX10_cutLetters_42 : decode cX10_cutLetters 42 = .ok (.invokestatic 63, 3) := by decide +kernel
theorem dX10_cutLetters_45 : decode cX10_cutLetters 45 = .ok (.lstore_n 3, 1) := by decide +kernel
theorem dX10_cutLetters_46 : decode cX10_cutLetters 46 = .ok (.iinc 5 1, 3) := by decide +kernel
theorem dX10_cutLetters_49 : decode cX10_cutLetters 49 = .ok (.goto (-44), 3) := by decide +kernel
theorem dX10_cutLetters_52 : decode cX10_cutLetters 52 = .ok (.iload 5, 2) := by decide +kernel
theorem dX10_cutLetters_54 : decode cX10_cutLetters 54 = .ok (.iload_n 2, 1) := by decide +kernel
theorem dX10_cutLetters_55 : decode cX10_cutLetters 55 = .ok (.isub, 1) := by decide +kernel
theorem dX10_cutLetters_56 : decode cX10_cutLetters 56 = .ok (.bipush 8, 2) := by decide +kernel
theorem dX10_cutLetters_58 : decode cX10_cutLetters 58 = .ok (.if_icmp .le 12, 3) := by decide +kernel
theorem dX10_cutLetters_61 : decode cX10_cutLetters 61 = .ok (.aload_n 0, 1) := by decide +kernel
theorem dX10_cutLetters_62 : decode cX10_cutLetters 62 = .ok (.bipush 38, 2) := by decide +kernel
theorem dX10_cutLetters_64 : decode cX10_cutLetters 64 = .ok (.iload 5, 2) := by decide +kernel
theorem dX10_cutLetters_66 : decode cX10_cutLetters 66 = .ok (.invokevirtual 39, 3) := by decide +kernel
theorem dX10_cutLetters_69 : decode cX10_cutLetters 69 = .ok (.ireturn, 1) := by decide +kernel
theorem dX10_cutLetters_70 : decode cX10_cutLetters 70 = .ok (.aload_n 0, 1) := by decide +kernel
theorem dX10_cutLetters_71 : decode cX10_cutLetters 71 = .ok (.getfield 18, 3) := by decide +kernel
theorem dX10_cutLetters_74 : decode cX10_cutLetters 74 = .ok (.aload_n 0, 1) := by decide +kernel
theorem dX10_cutLetters_75 : decode cX10_cutLetters 75 = .ok (.getfield 22, 3) := by decide +kernel
theorem dX10_cutLetters_78 : decode cX10_cutLetters 78 = .ok (.lload_n 3, 1) := by decide +kernel
theorem dX10_cutLetters_79 : decode cX10_cutLetters 79 = .ok (.lastore, 1) := by decide +kernel
theorem dX10_cutLetters_80 : decode cX10_cutLetters 80 = .ok (.aload_n 0, 1) := by decide +kernel
theorem dX10_cutLetters_81 : decode cX10_cutLetters 81 = .ok (.lload_n 3, 1) := by decide +kernel
theorem dX10_cutLetters_82 : decode cX10_cutLetters 82 = .ok (.invokestatic 67, 3) := by decide +kernel
theorem dX10_cutLetters_85 : decode cX10_cutLetters 85 = .ok (.iload 5, 2) := by decide +kernel
theorem dX10_cutLetters_87 : decode cX10_cutLetters 87 = .ok (.invokevirtual 39, 3) := by decide +kernel
theorem dX10_cutLetters_90 : decode cX10_cutLetters 90 = .ok (.ireturn, 1) := by decide +kernel
theorem dX10_cutDigits_0 : decode cX10_cutDigits 0 = .ok (.iconst 0, 1) := by decide +kernel
theorem dX10_cutDigits_1 : decode cX10_cutDigits 1 = .ok (.istore_n 3, 1) := by decide +kernel
theorem dX10_cutDigits_2 : decode cX10_cutDigits 2 = .ok (.iload_n 2, 1) := by decide +kernel
theorem dX10_cutDigits_3 : decode cX10_cutDigits 3 = .ok (.istore 4, 2) := by decide +kernel
theorem dX10_cutDigits_5 : decode cX10_cutDigits 5 = .ok (.iload 4, 2) := by decide +kernel
theorem dX10_cutDigits_7 : decode cX10_cutDigits 7 = .ok (.aload_n 1, 1) := by decide +kernel
theorem dX10_cutDigits_8 : decode cX10_cutDigits 8 = .ok (.getfield 60, 3) := by decide +kernel
theorem dX10_cutDigits_11 : decode cX10_cutDigits 11 = .ok (.if_icmp .ge 44, 3) := by decide +kernel
theorem dX10_cutDigits_14 : decode cX10_cutDigits 14 = .ok (.aload_n 1, 1) := by decide +kernel
theorem dX10_cutDigits_15 : decode cX10_cutDigits 15 = .ok (.iload 4, 2) := by decide +kernel
theorem dX10_cutDigits_17 : decode cX10_cutDigits 17 = .ok (.invokevirtual 36, 3) := by decide +kernel
theorem dX10_cutDigits_20 : decode cX10_cutDigits 20 = .ok (.invokestatic 50, 3) := by decide +kernel
theorem dX10_cutDigits_23 : decode cX10_cutDigits 23 = .ok (.ifCond .eq 32, 3) := by decide +kernel
theorem dX10_cutDigits_26 : decode cX10_cutDigits 26 = .ok (.iload 4, 2) := by decide +kernel
theorem dX10_cutDigits_28 : decode cX10_cutDigits 28 = .ok (.iload_n 2, 1) := by decide +kernel
theorem dX10_cutDigits_29 : decode cX10_cutDigits 29 = .ok (.isub, 1) := by decide +kernel
theorem dX10_cutDigits_30 : decode cX10_cutDigits 30 = .ok (.iconst 4, 1) := by decide +kernel
theorem dX10_cutDigits_31 : decode cX10_cutDigits 31 = .ok (.if_icmp .ge 18, 3) := by decide +kernel
theorem dX10_cutDigits_34 : decode cX10_cutDigits 34 = .ok (.iload_n 3, 1) := by decide +kernel
theorem dX10_cutDigits_35 : decode cX10_cutDigits 35 = .ok (.bipush 10, 2) := by decide +kernel
theorem dX10_cutDigits_37 : decode cX10_cutDigits 37 = .ok (.imul, 1) := by decide +kernel
theorem dX10_cutDigits_38 : decode cX10_cutDigits 38 = .ok (.aload_n 1, 1) := by decide +kernel
theorem dX10_cutDigits_39 : decode cX10_cutDigits 39 = .ok (.iload 4, 2) := by decide +kernel
theorem dX10_cutDigits_41 : decode cX10_cutDigits 41 = .ok (.invokevirtual 36, 3) := by decide +kernel
theorem dX10_cutDigits_44 : decode cX10_cutDigits 44 = .ok (.iadd, 1) := by decide +kernel
theorem dX10_cutDigits_45 : decode cX10_cutDigits 45 = .ok (.bipush 48, 2) := by decide +kernel
theorem dX10_cutDigits_47 : decode cX10_cutDigits 47 = .ok (.isub, 1) := by decide +kernel
theorem dX10_cutDigits_48 : decode cX10_cutDigits 48 = .ok (.istore_n 3, 1) := by decide +kernel
theorem dX10_cutDigits_49 : decode cX10_cutDigits 49 = .ok (.iinc 4 1, 3) := by decide +kernel
theorem dX10_cutDigits_52 : decode cX10_cutDigits 52 = .ok (.goto (-47), 3) := by decide +kernel
theorem dX10_cutDigits_55 : decode cX10_cutDigits 55 = .ok (.iload 4, 2) := by decide +kernel
theorem dX10_cutDigits_57 : decode cX10_cutDigits 57 = .ok (.iload_n 2, 1) := by decide +kernel
theorem dX10_cutDigits_58 : decode cX10_cutDigits 58 = .ok (.isub, 1) := by decide +kernel
theorem dX10_cutDigits_59 : decode cX10_cutDigits 59 = .ok (.iconst 4, 1) := by decide +kernel
theorem dX10_cutDigits_60 : decode cX10_cutDigits 60 = .ok (.if_icmp .le 12, 3) := by decide +kernel
theorem dX10_cutDigits_63 : decode cX10_cutDigits 63 = .ok (.aload_n 0, 1) := by decide +kernel
theorem dX10_cutDigits_64 : decode cX10_cutDigits 64 = .ok (.bipush 38, 2) := by decide +kernel
theorem dX10_cutDigits_66 : decode cX10_cutDigits 66 = .ok (.iload 4, 2) := by decide +kernel
theorem dX10_cutDigits_68 : decode cX10_cutDigits 68 = .ok (.invokevirtual 39, 3) := by decide +kernel
theorem dX10_cutDigits_71 : decode cX10_cutDigits 71 = .ok (.ireturn, 1) := by decide +kernel
theorem dX10_cutDigits_72 : decode cX10_cutDigits 72 = .ok (.aload_n 0, 1) := by decide +kernel
theorem dX10_cutDigits_73 : decode cX10_cutDigits 73 = .ok (.getfield 18, 3) := by decide +kernel
theorem dX10_cutDigits_76 : decode cX10_cutDigits 76 = .ok (.aload_n 0, 1) := by decide +kernel
theorem dX10_cutDigits_77 : decode cX10_cutDigits 77 = .ok (.getfield 22, 3) := by decide +kernel
theorem dX10_cutDigits_80 : decode cX10_cutDigits 80 = .ok (.iload_n 3, 1) := by decide +kernel
theorem dX10_cutDigits_81 : decode cX10_cutDigits 81 = .ok (.i2l, 1) := by decide +kernel
theorem dX10_cutDigits_82 : decode cX10_cutDigits 82 = .ok (.lastore, 1) := by decide +kernel
theorem dX10_cutDigits_83 : decode cX10_cutDigits 83 = .ok (.aload_n 0, 1) := by decide +kernel
theorem dX10_cutDigits_84 : decode cX10_cutDigits 84 = .ok (.bipush 25, 2) := by decide +kernel
theorem dX10_cutDigits_86 : decode cX10_cutDigits 86 = .ok (.iload 4, 2) := by decide +kernel
theorem dX10_cutDigits_88 : decode cX10_cutDigits 88 = .ok (.invokevirtual 39, 3) := by decide +kernel
theorem dX10_cutDigits_91 : decode cX10_cutDigits 91 = .ok (.ireturn, 1) := by decide +kernel
theorem dX10_cutSign_0 : decode cX10_cutSign 0 = .ok (.iload_n 1, 1) := by decide +kernel
theorem dX10_cutSign_1 : decode cX10_cutSign 1 = .ok (.tableswitch 265 33 61 #[246, 265, 265, 265, 265, 265, 265, 181, 191, 161, 141, 265, 151, 265, 171, 265, 265, 265, 265, 265, 265, 265, 265, 265, 265, 265, 131, 201, 227], 131) := by decide +kernel
theorem dX10_cutSign_132 : decode cX10_cutSign 132 = .ok (.aload_n 0, 1) := by decide +kernel
theorem dX10_cutSign_133 : decode cX10_cutSign 133 = .ok (.bipush 26, 2) := by decide +kernel
theorem dX10_cutSign_135 : decode cX10_cutSign 135 = .ok (.iload_n 3, 1) := by decide +kernel
theorem dX10_cutSign_136 : decode cX10_cutSign 136 = .ok (.iconst 1, 1) := by decide +kernel
theorem dX10_cutSign_137 : decode cX10_cutSign 137 = .ok (.iadd, 1) := by decide +kernel
theorem dX10_cutSign_138 : decode cX10_cutSign 138 = .ok (.invokevirtual 39, 3) := by decide +kernel
theorem dX10_cutSign_141 : decode cX10_cutSign 141 = .ok (.ireturn, 1) := by decide +kernel
theorem dX10_cutSign_142 : decode cX10_cutSign 142 = .ok (.aload_n 0, 1) := by decide +kernel
theorem dX10_cutSign_143 : decode cX10_cutSign 143 = .ok (.bipush 27, 2) := by decide +kernel
theorem dX10_cutSign_145 : decode cX10_cutSign 145 = .ok (.iload_n 3, 1) := by decide +kernel
theorem dX10_cutSign_146 : decode cX10_cutSign 146 = .ok (.iconst 1, 1) := by decide +kernel
theorem dX10_cutSign_147 : decode cX10_cutSign 147 = .ok (.iadd, 1) := by decide +kernel
theorem dX10_cutSign_148 : decode cX10_cutSign 148 = .ok (.invokevirtual 39, 3) := by decide +kernel
theorem dX10_cutSign_151 : decode cX10_cutSign 151 = .ok (.ireturn, 1) := by decide +kernel
theorem dX10_cutSign_152 : decode cX10_cutSign 152 = .ok (.aload_n 0, 1) := by decide +kernel
theorem dX10_cutSign_153 : decode cX10_cutSign 153 = .ok (.bipush 28, 2) := by decide +kernel
theorem dX10_cutSign_155 : decode cX10_cutSign 155 = .ok (.iload_n 3, 1) := by decide +kernel
theorem dX10_cutSign_156 : decode cX10_cutSign 156 = .ok (.iconst 1, 1) := by decide +kernel
theorem dX10_cutSign_157 : decode cX10_cutSign 157 = .ok (.iadd, 1) := by decide +kernel
theorem dX10_cutSign_158 : decode cX10_cutSign 158 = .ok (.invokevirtual 39, 3) := by decide +kernel
theorem dX10_cutSign_161 : decode cX10_cutSign 161 = .ok (.ireturn, 1) := by decide +kernel
theorem dX10_cutSign_162 : decode cX10_cutSign 162 = .ok (.aload_n 0, 1) := by decide +kernel
theorem dX10_cutSign_163 : decode cX10_cutSign 163 = .ok (.bipush 29, 2) := by decide +kernel
theorem dX10_cutSign_165 : decode cX10_cutSign 165 = .ok (.iload_n 3, 1) := by decide +kernel
theorem dX10_cutSign_166 : decode cX10_cutSign 166 = .ok (.iconst 1, 1) := by decide +kernel
theorem dX10_cutSign_167 : decode cX10_cutSign 167 = .ok (.iadd, 1) := by decide +kernel
theorem dX10_cutSign_168 : decode cX10_cutSign 168 = .ok (.invokevirtual 39, 3) := by decide +kernel
theorem dX10_cutSign_171 : decode cX10_cutSign 171 = .ok (.ireturn, 1) := by decide +kernel
theorem dX10_cutSign_172 : decode cX10_cutSign 172 = .ok (.aload_n 0, 1) := by decide +kernel
theorem dX10_cutSign_173 : decode cX10_cutSign 173 = .ok (.bipush 30, 2) := by decide +kernel
theorem dX10_cutSign_175 : decode cX10_cutSign 175 = .ok (.iload_n 3, 1) := by decide +kernel
theorem dX10_cutSign_176 : decode cX10_cutSign 176 = .ok (.iconst 1, 1) := by decide +kernel
theorem dX10_cutSign_177 : decode cX10_cutSign 177 = .ok (.iadd, 1) := by decide +kernel
theorem dX10_cutSign_178 : decode cX10_cutSign 178 = .ok (.invokevirtual 39, 3) := by decide +kernel
theorem dX10_cutSign_181 : decode cX10_cutSign 181 = .ok (.ireturn, 1) := by decide +kernel
theorem dX10_cutSign_182 : decode cX10_cutSign 182 = .ok (.aload_n 0, 1) := by decide +kernel
theorem dX10_cutSign_183 : decode cX10_cutSign 183 = .ok (.bipush 35, 2) := by decide +kernel
theorem dX10_cutSign_185 : decode cX10_cutSign 185 = .ok (.iload_n 3, 1) := by decide +kernel
theorem dX10_cutSign_186 : decode cX10_cutSign 186 = .ok (.iconst 1, 1) := by decide +kernel
theorem dX10_cutSign_187 : decode cX10_cutSign 187 = .ok (.iadd, 1) := by decide +kernel
theorem dX10_cutSign_188 : decode cX10_cutSign 188 = .ok (.invokevirtual 39, 3) := by decide +kernel
theorem dX10_cutSign_191 : decode cX10_cutSign 191 = .ok (.ireturn, 1) := by decide +kernel
theorem dX10_cutSign_192 : decode cX10_cutSign 192 = .ok (.aload_n 0, 1) := by decide +kernel
theorem dX10_cutSign_193 : decode cX10_cutSign 193 = .ok (.bipush 36, 2) := by decide +kernel
theorem dX10_cutSign_195 : decode cX10_cutSign 195 = .ok (.iload_n 3, 1) := by decide +kernel
theorem dX10_cutSign_196 : decode cX10_cutSign 196 = .ok (.iconst 1, 1) := by decide +kernel
theorem dX10_cutSign_197 : decode cX10_cutSign 197 = .ok (.iadd, 1) := by decide +kernel
theorem dX10_cutSign_198 : decode cX10_cutSign 198 = .ok (.invokevirtual 39, 3) := by decide +kernel
theorem dX10_cutSign_201 : decode cX10_cutSign 201 = .ok (.ireturn, 1) := by decide +kernel
theorem dX10_cutSign_202 : decode cX10_cutSign 202 = .ok (.iload_n 2, 1) := by decide +kernel
theorem dX10_cutSign_203 : decode cX10_cutSign 203 = .ok (.ifCond .eq 15, 3) := by decide +kernel
theorem dX10_cutSign_206 : decode cX10_cutSign 206 = .ok (.aload_n 0, 1) := by decide +kernel
theorem dX10_cutSign_207 : decode cX10_cutSign 207 = .ok (.bipush 34, 2) := by decide +kernel
theorem dX10_cutSign_209 : decode cX10_cutSign 209 = .ok (.iload_n 3, 1) := by decide +kernel
theorem dX10_cutSign_210 : decode cX10_cutSign 210 = .ok (.iconst 2, 1) := by decide +kernel
theorem dX10_cutSign_211 : decode cX10_cutSign 211 = .ok (.iadd, 1) := by decide +kernel
theorem dX10_cutSign_212 : decode cX10_cutSign 212 = .ok (.invokevirtual 39, 3) := by decide +kernel
theorem dX10_cutSign_215 : decode cX10_cutSign 215 = .ok (.goto 12, 3) := by decide +kernel
theorem dX10_cutSign_218 : decode cX10_cutSign 218 = .ok (.aload_n 0, 1) := by decide +kernel
theorem dX10_cutSign_219 : decode cX10_cutSign 219 = .ok (.bipush 33, 2) := by decide +kernel
theorem dX10_cutSign_221 : decode cX10_cutSign 221 = .ok (.iload_n 3, 1) := by decide +kernel
theorem dX10_cutSign_222 : decode cX10_cutSign 222 = .ok (.iconst 1, 1) := by decide +kernel
theorem dX10_cutSign_223 : decode cX10_cutSign 223 = .ok (.iadd, 1) := by decide +kernel
theorem dX10_cutSign_224 : decode cX10_cutSign 224 = .ok (.invokevirtual 39, 3) := by decide +kernel
theorem dX10_cutSign_227 : decode cX10_cutSign 227 = .ok (.ireturn, 1) := by decide +kernel
theorem dX10_cutSign_228 : decode cX10_cutSign 228 = .ok (.aload_n 0, 1) := by decide +kernel
theorem dX10_cutSign_229 : decode cX10_cutSign 229 = .ok (.iload_n 2, 1) := by decide +kernel
theorem dX10_cutSign_230 : decode cX10_cutSign 230 = .ok (.ifCond .eq 8, 3) := by decide +kernel
theorem dX10_cutSign_233 : decode cX10_cutSign 233 = .ok (.bipush 31, 2) := by decide +kernel
theorem dX10_cutSign_235 : decode cX10_cutSign 235 = .ok (.goto 5, 3) := by decide +kernel
theorem dX10_cutSign_238 : decode cX10_cutSign 238 = .ok (.bipush 38, 2) := by decide +kernel
theorem dX10_cutSign_240 : decode cX10_cutSign 240 = .ok (.iload_n 3, 1) := by decide +kernel
theorem dX10_cutSign_241 : decode cX10_cutSign 241 = .ok (.iconst 2, 1) := by decide +kernel
theorem dX10_cutSign_242 : decode cX10_cutSign 242 = .ok (.iadd, 1) := by decide +kernel
theorem dX10_cutSign_243 : decode cX10_cutSign 243 = .ok (.invokevirtual 39, 3) := by decide +kernel
theorem dX10_cutSign_246 : decode cX10_cutSign 246 = .ok (.ireturn, 1) := by decide +kernel
theorem dX10_cutSign_247 : decode cX10_cutSign 247 = .ok (.aload_n 0, 1) := by decide +kernel
theorem dX10_cutSign_248 : decode cX10_cutSign 248 = .ok (.iload_n 2, 1) := by decide +kernel
theorem dX10_cutSign_249 : decode cX10_cutSign 249 = .ok (.ifCond .eq 8, 3) := by decide +kernel
theorem dX10_cutSign_252 : decode cX10_cutSign 252 = .ok (.bipush 32, 2) := by decide +kernel
theorem dX10_cutSign_254 : decode cX10_cutSign 254 = .ok (.goto 5, 3) := by decide +kernel
theorem dX10_cutSign_257 : decode cX10_cutSign 257 = .ok (.bipush 38, 2) := by decide +kernel
theorem dX10_cutSign_259 : decode cX10_cutSign 259 = .ok (.iload_n 3, 1) := by decide +kernel
theorem dX10_cutSign_260 : decode cX10_cutSign 260 = .ok (.iconst 2, 1) := by decide +kernel
theorem dX10_cutSign_261 : decode cX10_cutSign 261 = .ok (.iadd, 1) := by decide +kernel
theorem dX10_cutSign_262 : decode cX10_cutSign 262 = .ok (.invokevirtual 39, 3) := by decide +kernel
theorem dX10_cutSign_265 : decode cX10_cutSign 265 = .ok (.ireturn, 1) := by decide +kernel
theorem dX10_cutSign_266 : decode cX10_cutSign 266 = .ok (.aload_n 0, 1) := by decide +kernel
theorem dX10_cutSign_267 : decode cX10_cutSign 267 = .ok (.bipush 38, 2) := by decide +kernel
theorem dX10_cutSign_269 : decode cX10_cutSign 269 = .ok (.iload_n 3, 1) := by decide +kernel
theorem dX10_cutSign_270 : decode cX10_cutSign 270 = .ok (.iconst 1, 1) := by decide +kernel
theorem dX10_cutSign_271 : decode cX10_cutSign 271 = .ok (.iadd, 1) := by decide +kernel
theorem dX10_cutSign_272 : decode cX10_cutSign 272 = .ok (.invokevirtual 39, 3) := by decide +kernel
theorem dX10_cutSign_275 : decode cX10_cutSign 275 = .ok (.ireturn, 1) := by decide +kernel
theorem dX10_keep_0 : decode cX10_keep 0 = .ok (.aload_n 0, 1) := by decide +kernel
theorem dX10_keep_1 : decode cX10_keep 1 = .ok (.getfield 22, 3) := by decide +kernel
theorem dX10_keep_4 : decode cX10_keep 4 = .ok (.ifCond .lt 25, 3) := by decide +kernel
theorem dX10_keep_7 : decode cX10_keep 7 = .ok (.aload_n 0, 1) := by decide +kernel
theorem dX10_keep_8 : decode cX10_keep 8 = .ok (.getfield 22, 3) := by decide +kernel
theorem dX10_keep_11 : decode cX10_keep 11 = .ok (.aload_n 0, 1) := by decide +kernel
theorem dX10_keep_12 : decode cX10_keep 12 = .ok (.getfield 9, 3) := by decide +kernel
theorem dX10_keep_15 : decode cX10_keep 15 = .ok (.arraylength, 1) := by decide +kernel
theorem dX10_keep_16 : decode cX10_keep 16 = .ok (.if_icmp .ge 13, 3) := by decide +kernel
theorem dX10_keep_19 : decode cX10_keep 19 = .ok (.aload_n 0, 1) := by decide +kernel
theorem dX10_keep_20 : decode cX10_keep 20 = .ok (.getfield 9, 3) := by decide +kernel
theorem dX10_keep_23 : decode cX10_keep 23 = .ok (.aload_n 0, 1) := by decide +kernel
theorem dX10_keep_24 : decode cX10_keep 24 = .ok (.getfield 22, 3) := by decide +kernel
theorem dX10_keep_27 : decode cX10_keep 27 = .ok (.iload_n 1, 1) := by decide +kernel
theorem dX10_keep_28 : decode cX10_keep 28 = .ok (.iastore, 1) := by decide +kernel
theorem dX10_keep_29 : decode cX10_keep 29 = .ok (.iload_n 2, 1) := by decide +kernel
theorem dX10_keep_30 : decode cX10_keep 30 = .ok (.ireturn, 1) := by decide +kernel
theorem dX10_packLetter_0 : decode cX10_packLetter 0 = .ok (.lload_n 0, 1) := by decide +kernel
theorem dX10_packLetter_1 : decode cX10_packLetter 1 = .ok (.ldc2_w 71, 3) := by decide +kernel
theorem dX10_packLetter_4 : decode cX10_packLetter 4 = .ok (.lmul, 1) := by decide +kernel
theorem dX10_packLetter_5 : decode cX10_packLetter 5 = .ok (.iload_n 2, 1) := by decide +kernel
theorem dX10_packLetter_6 : decode cX10_packLetter 6 = .ok (.bipush 97, 2) := by decide +kernel
theorem dX10_packLetter_8 : decode cX10_packLetter 8 = .ok (.isub, 1) := by decide +kernel
theorem dX10_packLetter_9 : decode cX10_packLetter 9 = .ok (.iconst 1, 1) := by decide +kernel
theorem dX10_packLetter_10 : decode cX10_packLetter 10 = .ok (.iadd, 1) := by decide +kernel
theorem dX10_packLetter_11 : decode cX10_packLetter 11 = .ok (.i2l, 1) := by decide +kernel
theorem dX10_packLetter_12 : decode cX10_packLetter 12 = .ok (.ladd, 1) := by decide +kernel
theorem dX10_packLetter_13 : decode cX10_packLetter 13 = .ok (.lreturn, 1) := by decide +kernel
theorem dX10_wordToken_0 : decode cX10_wordToken 0 = .ok (.ldc 73, 2) := by decide +kernel
theorem dX10_wordToken_2 : decode cX10_wordToken 2 = .ok (.lload_n 0, 1) := by decide +kernel
theorem dX10_wordToken_3 : decode cX10_wordToken 3 = .ok (.invokestatic 75, 3) := by decide +kernel
theorem dX10_wordToken_6 : decode cX10_wordToken 6 = .ok (.istore_n 2, 1) := by decide +kernel
theorem dX10_wordToken_7 : decode cX10_wordToken 7 = .ok (.iload_n 2, 1) := by decide +kernel
theorem dX10_wordToken_8 : decode cX10_wordToken 8 = .ok (.iconst (-1), 1) := by decide +kernel
theorem dX10_wordToken_9 : decode cX10_wordToken 9 = .ok (.if_icmp .eq 5, 3) := by decide +kernel
theorem dX10_wordToken_12 : decode cX10_wordToken 12 = .ok (.iload_n 2, 1) := by decide +kernel
theorem dX10_wordToken_13 : decode cX10_wordToken 13 = .ok (.ireturn, 1) := by decide +kernel
theorem dX10_wordToken_14 : decode cX10_wordToken 14 = .ok (.ldc 79, 2) := by decide +kernel
theorem dX10_wordToken_16 : decode cX10_wordToken 16 = .ok (.lload_n 0, 1) := by decide +kernel
theorem dX10_wordToken_17 : decode cX10_wordToken 17 = .ok (.invokestatic 75, 3) := by decide +kernel
theorem dX10_wordToken_20 : decode cX10_wordToken 20 = .ok (.istore_n 3, 1) := by decide +kernel
theorem dX10_wordToken_21 : decode cX10_wordToken 21 = .ok (.iload_n 3, 1) := by decide +kernel
theorem dX10_wordToken_22 : decode cX10_wordToken 22 = .ok (.iconst (-1), 1) := by decide +kernel
theorem dX10_wordToken_23 : decode cX10_wordToken 23 = .ok (.if_icmp .eq 10, 3) := by decide +kernel
theorem dX10_wordToken_26 : decode cX10_wordToken 26 = .ok (.bipush 12, 2) := by decide +kernel
theorem dX10_wordToken_28 : decode cX10_wordToken 28 = .ok (.iload_n 3, 1) := by decide +kernel
theorem dX10_wordToken_29 : decode cX10_wordToken 29 = .ok (.iadd, 1) := by decide +kernel
theorem dX10_wordToken_30 : decode cX10_wordToken 30 = .ok (.goto 5, 3) := by decide +kernel
theorem dX10_wordToken_33 : decode cX10_wordToken 33 = .ok (.bipush 24, 2) := by decide +kernel
theorem dX10_wordToken_35 : decode cX10_wordToken 35 = .ok (.ireturn, 1) := by decide +kernel
theorem dX10_placeAmong_0 : decode cX10_placeAmong 0 = .ok (.iconst 0, 1) := by decide +kernel
theorem dX10_placeAmong_1 : decode cX10_placeAmong 1 = .ok (.istore_n 3, 1) := by decide +kernel
theorem dX10_placeAmong_2 : decode cX10_placeAmong 2 = .ok (.lconst 0, 1) := by decide +kernel
theorem dX10_placeAmong_3 : decode cX10_placeAmong 3 = .ok (.lstore 4, 2) := by decide +kernel
theorem dX10_placeAmong_5 : decode cX10_placeAmong 5 = .ok (.iconst 0, 1) := by decide +kernel
theorem dX10_placeAmong_6 : decode cX10_placeAmong 6 = .ok (.istore 6, 2) := by decide +kernel
theorem dX10_placeAmong_8 : decode cX10_placeAmong 8 = .ok (.iload 6, 2) := by decide +kernel
theorem dX10_placeAmong_10 : decode cX10_placeAmong 10 = .ok (.aload_n 0, 1) := by decide +kernel
theorem dX10_placeAmong_11 : decode cX10_placeAmong 11 = .ok (.invokevirtual 81, 3) := by decide +kernel
theorem dX10_placeAmong_14 : decode cX10_placeAmong 14 = .ok (.if_icmp .ge 51, 3) := by decide +kernel
theorem dX10_placeAmong_17 : decode cX10_placeAmong 17 = .ok (.aload_n 0, 1) := by decide +kernel
theorem dX10_placeAmong_18 : decode cX10_placeAmong 18 = .ok (.iload 6, 2) := by decide +kernel
theorem dX10_placeAmong_20 : decode cX10_placeAmong 20 = .ok (.invokevirtual 86, 3) := by decide +kernel
theorem dX10_placeAmong_23 : decode cX10_placeAmong 23 = .ok (.istore 7, 2) := by decide +kernel
theorem dX10_placeAmong_25 : decode cX10_placeAmong 25 = .ok (.iload 7, 2) := by decide +kernel
theorem dX10_placeAmong_27 : decode cX10_placeAmong 27 = .ok (.bipush 32, 2) := by decide +kernel
theorem dX10_placeAmong_29 : decode cX10_placeAmong 29 = .ok (.if_icmp .eq 15, 3) := by decide +kernel
theorem dX10_placeAmong_32 : decode cX10_placeAmong 32 = .ok (.lload 4, 2) := by decide +kernel
theorem dX10_placeAmong_34 : decode cX10_placeAmong 34 = .ok (.iload 7, 2) := by decide +kernel
theorem dX10_placeAmong_36 : decode cX10_placeAmong 36 = .ok (.invokestatic 63, 3) := by decide +kernel
theorem dX10_placeAmong_39 : decode cX10_placeAmong 39 = .ok (.lstore 4, 2) := by decide +kernel
theorem dX10_placeAmong_41 : decode cX10_placeAmong 41 = .ok (.goto 18, 3) := by decide +kernel
theorem dX10_placeAmong_44 : decode cX10_placeAmong 44 = .ok (.lload 4, 2) := by decide +kernel
theorem dX10_placeAmong_46 : decode cX10_placeAmong 46 = .ok (.lload_n 1, 1) := by decide +kernel
theorem dX10_placeAmong_47 : decode cX10_placeAmong 47 = .ok (.lcmp, 1) := by decide +kernel
theorem dX10_placeAmong_48 : decode cX10_placeAmong 48 = .ok (.ifCond .ne 5, 3) := by decide +kernel
theorem dX10_placeAmong_51 : decode cX10_placeAmong 51 = .ok (.iload_n 3, 1) := by decide +kernel
theorem dX10_placeAmong_52 : decode cX10_placeAmong 52 = .ok (.ireturn, 1) := by decide +kernel
theorem dX10_placeAmong_53 : decode cX10_placeAmong 53 = .ok (.iinc 3 1, 3) := by decide +kernel
theorem dX10_placeAmong_56 : decode cX10_placeAmong 56 = .ok (.lconst 0, 1) := by decide +kernel
theorem dX10_placeAmong_57 : decode cX10_placeAmong 57 = .ok (.lstore 4, 2) := by decide +kernel
theorem dX10_placeAmong_59 : decode cX10_placeAmong 59 = .ok (.iinc 6 1, 3) := by decide +kernel
theorem dX10_placeAmong_62 : decode cX10_placeAmong 62 = .ok (.goto (-54), 3) := by decide +kernel
theorem dX10_placeAmong_65 : decode cX10_placeAmong 65 = .ok (.iconst (-1), 1) := by decide +kernel
theorem dX10_placeAmong_66 : decode cX10_placeAmong 66 = .ok (.ireturn, 1) := by decide +kernel
theorem dX10_isLetter_0 : decode cX10_isLetter 0 = .ok (.iload_n 0, 1) := by decide +kernel
theorem dX10_isLetter_1 : decode cX10_isLetter 1 = .ok (.bipush 97, 2) := by decide +kernel
theorem dX10_isLetter_3 : decode cX10_isLetter 3 = .ok (.if_icmp .lt 13, 3) := by decide +kernel
theorem dX10_isLetter_6 : decode cX10_isLetter 6 = .ok (.iload_n 0, 1) := by decide +kernel
theorem dX10_isLetter_7 : decode cX10_isLetter 7 = .ok (.bipush 122, 2) := by decide +kernel
theorem dX10_isLetter_9 : decode cX10_isLetter 9 = .ok (.if_icmp .gt 7, 3) := by decide +kernel
theorem dX10_isLetter_12 : decode cX10_isLetter 12 = .ok (.iconst 1, 1) := by decide +kernel
theorem dX10_isLetter_13 : decode cX10_isLetter 13 = .ok (.goto 4, 3) := by decide +kernel
theorem dX10_isLetter_16 : decode cX10_isLetter 16 = .ok (.iconst 0, 1) := by decide +kernel
theorem dX10_isLetter_17 : decode cX10_isLetter 17 = .ok (.ireturn, 1) := by decide +kernel
theorem dX10_isDigit_0 : decode cX10_isDigit 0 = .ok (.iload_n 0, 1) := by decide +kernel
theorem dX10_isDigit_1 : decode cX10_isDigit 1 = .ok (.bipush 48, 2) := by decide +kernel
theorem dX10_isDigit_3 : decode cX10_isDigit 3 = .ok (.if_icmp .lt 13, 3) := by decide +kernel
theorem dX10_isDigit_6 : decode cX10_isDigit 6 = .ok (.iload_n 0, 1) := by decide +kernel
theorem dX10_isDigit_7 : decode cX10_isDigit 7 = .ok (.bipush 57, 2) := by decide +kernel
theorem dX10_isDigit_9 : decode cX10_isDigit 9 = .ok (.if_icmp .gt 7, 3) := by decide +kernel
theorem dX10_isDigit_12 : decode cX10_isDigit 12 = .ok (.iconst 1, 1) := by decide +kernel
theorem dX10_isDigit_13 : decode cX10_isDigit 13 = .ok (.goto 4, 3) := by decide +kernel
theorem dX10_isDigit_16 : decode cX10_isDigit 16 = .ok (.iconst 0, 1) := by decide +kernel
theorem dX10_isDigit_17 : decode cX10_isDigit 17 = .ok (.ireturn, 1) := by decide +kernel
theorem dJ6_compare_7cf53_0 : decode cJ6_compare_7cf53 0 = .ok (.iload_n 0, 1) := by decide +kernel
theorem dJ6_compare_7cf53_1 : decode cJ6_compare_7cf53 1 = .ok (.iload_n 1, 1) := by decide +kernel
theorem dJ6_compare_7cf53_2 : decode cJ6_compare_7cf53 2 = .ok (.if_icmp .ge 7, 3) := by decide +kernel
theorem dJ6_compare_7cf53_5 : decode cJ6_compare_7cf53 5 = .ok (.iconst (-1), 1) := by decide +kernel
theorem dJ6_compare_7cf53_6 : decode cJ6_compare_7cf53 6 = .ok (.goto 13, 3) := by decide +kernel
theorem dJ6_compare_7cf53_9 : decode cJ6_compare_7cf53 9 = .ok (.iload_n 0, 1) := by decide +kernel
theorem dJ6_compare_7cf53_10 : decode cJ6_compare_7cf53 10 = .ok (.iload_n 1, 1) := by decide +kernel
theorem dJ6_compare_7cf53_11 : decode cJ6_compare_7cf53 11 = .ok (.if_icmp .ne 7, 3) := by decide +kernel
theorem dJ6_compare_7cf53_14 : decode cJ6_compare_7cf53 14 = .ok (.iconst 0, 1) := by decide +kernel
theorem dJ6_compare_7cf53_15 : decode cJ6_compare_7cf53 15 = .ok (.goto 4, 3) := by decide +kernel
theorem dJ6_compare_7cf53_18 : decode cJ6_compare_7cf53 18 = .ok (.iconst 1, 1) := by decide +kernel
theorem dJ6_compare_7cf53_19 : decode cJ6_compare_7cf53 19 = .ok (.ireturn, 1) := by decide +kernel
theorem dJ6_bitCount_0f7a4_0 : decode cJ6_bitCount_0f7a4 0 = .ok (.iload_n 0, 1) := by decide +kernel
theorem dJ6_bitCount_0f7a4_1 : decode cJ6_bitCount_0f7a4 1 = .ok (.iload_n 0, 1) := by decide +kernel
theorem dJ6_bitCount_0f7a4_2 : decode cJ6_bitCount_0f7a4 2 = .ok (.iconst 1, 1) := by decide +kernel
theorem dJ6_bitCount_0f7a4_3 : decode cJ6_bitCount_0f7a4 3 = .ok (.iushr, 1) := by decide +kernel
theorem dJ6_bitCount_0f7a4_4 : decode cJ6_bitCount_0f7a4 4 = .ok (.ldc_w 265, 3) := by decide +kernel
theorem dJ6_bitCount_0f7a4_7 : decode cJ6_bitCount_0f7a4 7 = .ok (.iand, 1) := by decide +kernel
theorem dJ6_bitCount_0f7a4_8 : decode cJ6_bitCount_0f7a4 8 = .ok (.isub, 1) := by decide +kernel
theorem dJ6_bitCount_0f7a4_9 : decode cJ6_bitCount_0f7a4 9 = .ok (.istore_n 0, 1) := by decide +kernel
theorem dJ6_bitCount_0f7a4_10 : decode cJ6_bitCount_0f7a4 10 = .ok (.iload_n 0, 1) := by decide +kernel
theorem dJ6_bitCount_0f7a4_11 : decode cJ6_bitCount_0f7a4 11 = .ok (.ldc_w 266, 3) := by decide +kernel
theorem dJ6_bitCount_0f7a4_14 : decode cJ6_bitCount_0f7a4 14 = .ok (.iand, 1) := by decide +kernel
theorem dJ6_bitCount_0f7a4_15 : decode cJ6_bitCount_0f7a4 15 = .ok (.iload_n 0, 1) := by decide +kernel
theorem dJ6_bitCount_0f7a4_16 : decode cJ6_bitCount_0f7a4 16 = .ok (.iconst 2, 1) := by decide +kernel
theorem dJ6_bitCount_0f7a4_17 : decode cJ6_bitCount_0f7a4 17 = .ok (.iushr, 1) := by decide +kernel
theorem dJ6_bitCount_0f7a4_18 : decode cJ6_bitCount_0f7a4 18 = .ok (.ldc_w 266, 3) := by decide +kernel
theorem dJ6_bitCount_0f7a4_21 : decode cJ6_bitCount_0f7a4 21 = .ok (.iand, 1) := by decide +kernel
theorem dJ6_bitCount_0f7a4_22 : decode cJ6_bitCount_0f7a4 22 = .ok (.iadd, 1) := by decide +kernel
theorem dJ6_bitCount_0f7a4_23 : decode cJ6_bitCount_0f7a4 23 = .ok (.istore_n 0, 1) := by decide +kernel
theorem dJ6_bitCount_0f7a4_24 : decode cJ6_bitCount_0f7a4 24 = .ok (.iload_n 0, 1) := by decide +kernel
theorem dJ6_bitCount_0f7a4_25 : decode cJ6_bitCount_0f7a4 25 = .ok (.iload_n 0, 1) := by decide +kernel
theorem dJ6_bitCount_0f7a4_26 : decode cJ6_bitCount_0f7a4 26 = .ok (.iconst 4, 1) := by decide +kernel
theorem dJ6_bitCount_0f7a4_27 : decode cJ6_bitCount_0f7a4 27 = .ok (.iushr, 1) := by decide +kernel
theorem dJ6_bitCount_0f7a4_28 : decode cJ6_bitCount_0f7a4 28 = .ok (.iadd, 1) := by decide +kernel
theorem dJ6_bitCount_0f7a4_29 : decode cJ6_bitCount_0f7a4 29 = .ok (.ldc_w 267, 3) := by decide +kernel
theorem dJ6_bitCount_0f7a4_32 : decode cJ6_bitCount_0f7a4 32 = .ok (.iand, 1) := by decide +kernel
theorem dJ6_bitCount_0f7a4_33 : decode cJ6_bitCount_0f7a4 33 = .ok (.istore_n 0, 1) := by decide +kernel
theorem dJ6_bitCount_0f7a4_34 : decode cJ6_bitCount_0f7a4 34 = .ok (.iload_n 0, 1) := by decide +kernel
theorem dJ6_bitCount_0f7a4_35 : decode cJ6_bitCount_0f7a4 35 = .ok (.iload_n 0, 1) := by decide +kernel
theorem dJ6_bitCount_0f7a4_36 : decode cJ6_bitCount_0f7a4 36 = .ok (.bipush 8, 2) := by decide +kernel
theorem dJ6_bitCount_0f7a4_38 : decode cJ6_bitCount_0f7a4 38 = .ok (.iushr, 1) := by decide +kernel
theorem dJ6_bitCount_0f7a4_39 : decode cJ6_bitCount_0f7a4 39 = .ok (.iadd, 1) := by decide +kernel
theorem dJ6_bitCount_0f7a4_40 : decode cJ6_bitCount_0f7a4 40 = .ok (.istore_n 0, 1) := by decide +kernel
theorem dJ6_bitCount_0f7a4_41 : decode cJ6_bitCount_0f7a4 41 = .ok (.iload_n 0, 1) := by decide +kernel
theorem dJ6_bitCount_0f7a4_42 : decode cJ6_bitCount_0f7a4 42 = .ok (.iload_n 0, 1) := by decide +kernel
theorem dJ6_bitCount_0f7a4_43 : decode cJ6_bitCount_0f7a4 43 = .ok (.bipush 16, 2) := by decide +kernel
theorem dJ6_bitCount_0f7a4_45 : decode cJ6_bitCount_0f7a4 45 = .ok (.iushr, 1) := by decide +kernel
theorem dJ6_bitCount_0f7a4_46 : decode cJ6_bitCount_0f7a4 46 = .ok (.iadd, 1) := by decide +kernel
theorem dJ6_bitCount_0f7a4_47 : decode cJ6_bitCount_0f7a4 47 = .ok (.istore_n 0, 1) := by decide +kernel
theorem dJ6_bitCount_0f7a4_48 : decode cJ6_bitCount_0f7a4 48 = .ok (.iload_n 0, 1) := by decide +kernel
theorem dJ6_bitCount_0f7a4_49 : decode cJ6_bitCount_0f7a4 49 = .ok (.bipush 63, 2) := by decide +kernel
theorem dJ6_bitCount_0f7a4_51 : decode cJ6_bitCount_0f7a4 51 = .ok (.iand, 1) := by decide +kernel
theorem dJ6_bitCount_0f7a4_52 : decode cJ6_bitCount_0f7a4 52 = .ok (.ireturn, 1) := by decide +kernel
theorem dJ9_max_7cf53_0 : decode cJ9_max_7cf53 0 = .ok (.iload_n 0, 1) := by decide +kernel
theorem dJ9_max_7cf53_1 : decode cJ9_max_7cf53 1 = .ok (.iload_n 1, 1) := by decide +kernel
theorem dJ9_max_7cf53_2 : decode cJ9_max_7cf53 2 = .ok (.if_icmp .lt 7, 3) := by decide +kernel
theorem dJ9_max_7cf53_5 : decode cJ9_max_7cf53 5 = .ok (.iload_n 0, 1) := by decide +kernel
theorem dJ9_max_7cf53_6 : decode cJ9_max_7cf53 6 = .ok (.goto 4, 3) := by decide +kernel
theorem dJ9_max_7cf53_9 : decode cJ9_max_7cf53 9 = .ok (.iload_n 1, 1) := by decide +kernel
theorem dJ9_max_7cf53_10 : decode cJ9_max_7cf53 10 = .ok (.ireturn, 1) := by decide +kernel
theorem dJ9_min_7cf53_0 : decode cJ9_min_7cf53 0 = .ok (.iload_n 0, 1) := by decide +kernel
theorem dJ9_min_7cf53_1 : decode cJ9_min_7cf53 1 = .ok (.iload_n 1, 1) := by decide +kernel
theorem dJ9_min_7cf53_2 : decode cJ9_min_7cf53 2 = .ok (.if_icmp .gt 7, 3) := by decide +kernel
theorem dJ9_min_7cf53_5 : decode cJ9_min_7cf53 5 = .ok (.iload_n 0, 1) := by decide +kernel
theorem dJ9_min_7cf53_6 : decode cJ9_min_7cf53 6 = .ok (.goto 4, 3) := by decide +kernel
theorem dJ9_min_7cf53_9 : decode cJ9_min_7cf53 9 = .ok (.iload_n 1, 1) := by decide +kernel
theorem dJ9_min_7cf53_10 : decode cJ9_min_7cf53 10 = .ok (.ireturn, 1) := by decide +kernel
theorem dJ0_length_8abf5_0 : decode cJ0_length_8abf5 0 = .ok (.aload_n 0, 1) := by decide +kernel
theorem dJ0_length_8abf5_1 : decode cJ0_length_8abf5 1 = .ok (.getfield 9, 3) := by decide +kernel
theorem dJ0_length_8abf5_4 : decode cJ0_length_8abf5 4 = .ok (.arraylength, 1) := by decide +kernel
theorem dJ0_length_8abf5_5 : decode cJ0_length_8abf5 5 = .ok (.aload_n 0, 1) := by decide +kernel
theorem dJ0_length_8abf5_6 : decode cJ0_length_8abf5 6 = .ok (.invokevirtual 335, 3) := by decide +kernel
theorem dJ0_length_8abf5_9 : decode cJ0_length_8abf5 9 = .ok (.ishr, 1) := by decide +kernel
theorem dJ0_length_8abf5_10 : decode cJ0_length_8abf5 10 = .ok (.ireturn, 1) := by decide +kernel
theorem dJ0_charAt_5068e_0 : decode cJ0_charAt_5068e 0 = .ok (.aload_n 0, 1) := by decide +kernel
theorem dJ0_charAt_5068e_1 : decode cJ0_charAt_5068e 1 = .ok (.invokevirtual 492, 3) := by decide +kernel
theorem dJ0_charAt_5068e_4 : decode cJ0_charAt_5068e 4 = .ok (.ifCond .eq 12, 3) := by decide +kernel
theorem dJ0_charAt_5068e_7 : decode cJ0_charAt_5068e 7 = .ok (.aload_n 0, 1) := by decide +kernel
theorem dJ0_charAt_5068e_8 : decode cJ0_charAt_5068e 8 = .ok (.getfield 9, 3) := by decide +kernel
theorem dJ0_charAt_5068e_11 : decode cJ0_charAt_5068e 11 = .ok (.iload_n 1, 1) := by decide +kernel
theorem dJ0_charAt_5068e_12 : decode cJ0_charAt_5068e 12 = .ok (.invokestatic 495, 3) := by decide +kernel
theorem dJ0_charAt_5068e_15 : decode cJ0_charAt_5068e 15 = .ok (.ireturn, 1) := by decide +kernel
theorem dJ0_charAt_5068e_16 : decode cJ0_charAt_5068e 16 = .ok (.aload_n 0, 1) := by decide +kernel
theorem dJ0_charAt_5068e_17 : decode cJ0_charAt_5068e 17 = .ok (.getfield 9, 3) := by decide +kernel
theorem dJ0_charAt_5068e_20 : decode cJ0_charAt_5068e 20 = .ok (.iload_n 1, 1) := by decide +kernel
theorem dJ0_charAt_5068e_21 : decode cJ0_charAt_5068e 21 = .ok (.invokestatic 498, 3) := by decide +kernel
theorem dJ0_charAt_5068e_24 : decode cJ0_charAt_5068e 24 = .ok (.ireturn, 1) := by decide +kernel
theorem dJ0_coder_7d493_0 : decode cJ0_coder_7d493 0 = .ok (.getstatic 38, 3) := by decide +kernel
theorem dJ0_coder_7d493_3 : decode cJ0_coder_7d493 3 = .ok (.ifCond .eq 10, 3) := by decide +kernel
theorem dJ0_coder_7d493_6 : decode cJ0_coder_7d493 6 = .ok (.aload_n 0, 1) := by decide +kernel
theorem dJ0_coder_7d493_7 : decode cJ0_coder_7d493 7 = .ok (.getfield 15, 3) := by decide +kernel
theorem dJ0_coder_7d493_10 : decode cJ0_coder_7d493 10 = .ok (.goto 4, 3) := by decide +kernel
theorem dJ0_coder_7d493_13 : decode cJ0_coder_7d493 13 = .ok (.iconst 1, 1) := by decide +kernel
theorem dJ0_coder_7d493_14 : decode cJ0_coder_7d493 14 = .ok (.ireturn, 1) := by decide +kernel
theorem dJ0_isLatin1_aae02_0 : decode cJ0_isLatin1_aae02 0 = .ok (.getstatic 38, 3) := by decide +kernel
theorem dJ0_isLatin1_aae02_3 : decode cJ0_isLatin1_aae02 3 = .ok (.ifCond .eq 14, 3) := by decide +kernel
theorem dJ0_isLatin1_aae02_6 : decode cJ0_isLatin1_aae02 6 = .ok (.aload_n 0, 1) := by decide +kernel
theorem dJ0_isLatin1_aae02_7 : decode cJ0_isLatin1_aae02 7 = .ok (.getfield 15, 3) := by decide +kernel
theorem dJ0_isLatin1_aae02_10 : decode cJ0_isLatin1_aae02 10 = .ok (.ifCond .ne 7, 3) := by decide +kernel
theorem dJ0_isLatin1_aae02_13 : decode cJ0_isLatin1_aae02 13 = .ok (.iconst 1, 1) := by decide +kernel
theorem dJ0_isLatin1_aae02_14 : decode cJ0_isLatin1_aae02 14 = .ok (.goto 4, 3) := by decide +kernel
theorem dJ0_isLatin1_aae02_17 : decode cJ0_isLatin1_aae02 17 = .ok (.iconst 0, 1) := by decide +kernel
theorem dJ0_isLatin1_aae02_18 : decode cJ0_isLatin1_aae02 18 = .ok (.ireturn, 1) := by decide +kernel
theorem dJ0_checkIndex_df160_0 : decode cJ0_checkIndex_df160 0 = .ok (.iload_n 0, 1) := by decide +kernel
theorem dJ0_checkIndex_df160_1 : decode cJ0_checkIndex_df160 1 = .ok (.iload_n 1, 1) := by decide +kernel
theorem dJ0_checkIndex_df160_2 : decode cJ0_checkIndex_df160 2 = .ok (.getstatic 1053, 3) := by decide +kernel
theorem dJ0_checkIndex_df160_5 : decode cJ0_checkIndex_df160 5 = .ok (.invokestatic 1059, 3) := by decide +kernel
theorem dJ0_checkIndex_df160_8 : decode cJ0_checkIndex_df160 8 = .ok (.pop, 1) := by decide +kernel
theorem dJ0_checkIndex_df160_9 : decode cJ0_checkIndex_df160 9 = .ok (.return_, 1) := by decide +kernel
theorem dJ1_charAt_3b067_0 : decode cJ1_charAt_3b067 0 = .ok (.iload_n 1, 1) := by decide +kernel
theorem dJ1_charAt_3b067_1 : decode cJ1_charAt_3b067 1 = .ok (.aload_n 0, 1) := by decide +kernel
theorem dJ1_charAt_3b067_2 : decode cJ1_charAt_3b067 2 = .ok (.arraylength, 1) := by decide +kernel
theorem dJ1_charAt_3b067_3 : decode cJ1_charAt_3b067 3 = .ok (.invokestatic 9, 3) := by decide +kernel
theorem dJ1_charAt_3b067_6 : decode cJ1_charAt_3b067 6 = .ok (.aload_n 0, 1) := by decide +kernel
theorem dJ1_charAt_3b067_7 : decode cJ1_charAt_3b067 7 = .ok (.iload_n 1, 1) := by decide +kernel
theorem dJ1_charAt_3b067_8 : decode cJ1_charAt_3b067 8 = .ok (.baload, 1) := by decide +kernel
theorem dJ1_charAt_3b067_9 : decode cJ1_charAt_3b067 9 = .ok (.sipush 255, 3) := by decide +kernel
theorem dJ1_charAt_3b067_12 : decode cJ1_charAt_3b067 12 = .ok (.iand, 1) := by decide +kernel
theorem dJ1_charAt_3b067_13 : decode cJ1_charAt_3b067 13 = .ok (.i2c, 1) := by decide +kernel
theorem dJ1_charAt_3b067_14 : decode cJ1_charAt_3b067 14 = .ok (.ireturn, 1) := by decide +kernel
theorem dJ2_getChar_3b067_0 : decode cJ2_getChar_3b067 0 = .ok (.getstatic 44, 3) := by decide +kernel
theorem dJ2_getChar_3b067_3 : decode cJ2_getChar_3b067 3 = .ok (.ifCond .ne 25, 3) := by decide +kernel
theorem dJ2_getChar_3b067_6 : decode cJ2_getChar_3b067 6 = .ok (.iload_n 1, 1) := by decide +kernel
theorem dJ2_getChar_3b067_7 : decode cJ2_getChar_3b067 7 = .ok (.ifCond .lt 11, 3) := by decide +kernel
theorem dJ2_getChar_3b067_10 : decode cJ2_getChar_3b067 10 = .ok (.iload_n 1, 1) := by decide +kernel
theorem dJ2_getChar_3b067_11 : decode cJ2_getChar_3b067 11 = .ok (.aload_n 0, 1) := by decide +kernel
theorem dJ2_getChar_3b067_12 : decode cJ2_getChar_3b067 12 = .ok (.invokestatic 48, 3) := by decide +kernel
theorem dJ2_getChar_3b067_15 : decode cJ2_getChar_3b067 15 = .ok (.if_icmp .lt 13, 3) := by decide +kernel
theorem dJ2_getChar_3b067_18 : decode cJ2_getChar_3b067 18 = .ok (.new 52, 3) := by decide +kernel
theorem dJ2_getChar_3b067_21 : decode cJ2_getChar_3b067 21 = .ok (.dup, 1) := by decide +kernel
theorem dJ2_getChar_3b067_22 : decode cJ2_getChar_3b067 22 = .ok (.ldc 54, 2) := by decide +kernel
theorem dJ2_getChar_3b067_24 : decode cJ2_getChar_3b067 24 = .ok (.invokespecial 56, 3) := by decide +kernel
theorem dJ2_getChar_3b067_27 : decode cJ2_getChar_3b067 27 = .ok (.athrow, 1) := by decide +kernel
theorem dJ2_getChar_3b067_28 : decode cJ2_getChar_3b067 28 = .ok (.iload_n 1, 1) := by decide +kernel
theorem dJ2_getChar_3b067_29 : decode cJ2_getChar_3b067 29 = .ok (.iconst 1, 1) := by decide +kernel
theorem dJ2_getChar_3b067_30 : decode cJ2_getChar_3b067 30 = .ok (.ishl, 1) := by decide +kernel
theorem dJ2_getChar_3b067_31 : decode cJ2_getChar_3b067 31 = .ok (.istore_n 1, 1) := by decide +kernel
theorem dJ2_getChar_3b067_32 : decode cJ2_getChar_3b067 32 = .ok (.aload_n 0, 1) := by decide +kernel
theorem dJ2_getChar_3b067_33 : decode cJ2_getChar_3b067 33 = .ok (.iload_n 1, 1) := by decide +kernel
theorem dJ2_getChar_3b067_34 : decode cJ2_getChar_3b067 34 = .ok (.iinc 1 1, 3) := by decide +kernel
theorem dJ2_getChar_3b067_37 : decode cJ2_getChar_3b067 37 = .ok (.baload, 1) := by decide +kernel
theorem dJ2_getChar_3b067_38 : decode cJ2_getChar_3b067 38 = .ok (.sipush 255, 3) := by decide +kernel
theorem dJ2_getChar_3b067_41 : decode cJ2_getChar_3b067 41 = .ok (.iand, 1) := by decide +kernel
theorem dJ2_getChar_3b067_42 : decode cJ2_getChar_3b067 42 = .ok (.getstatic 59, 3) := by decide +kernel
theorem dJ2_getChar_3b067_45 : decode cJ2_getChar_3b067 45 = .ok (.ishl, 1) := by decide +kernel
theorem dJ2_getChar_3b067_46 : decode cJ2_getChar_3b067 46 = .ok (.aload_n 0, 1) := by decide +kernel
theorem dJ2_getChar_3b067_47 : decode cJ2_getChar_3b067 47 = .ok (.iload_n 1, 1) := by decide +kernel
theorem dJ2_getChar_3b067_48 : decode cJ2_getChar_3b067 48 = .ok (.baload, 1) := by decide +kernel
theorem dJ2_getChar_3b067_49 : decode cJ2_getChar_3b067 49 = .ok (.sipush 255, 3) := by decide +kernel
theorem dJ2_getChar_3b067_52 : decode cJ2_getChar_3b067 52 = .ok (.iand, 1) := by decide +kernel
theorem dJ2_getChar_3b067_53 : decode cJ2_getChar_3b067 53 = .ok (.getstatic 63, 3) := by decide +kernel
theorem dJ2_getChar_3b067_56 : decode cJ2_getChar_3b067 56 = .ok (.ishl, 1) := by decide +kernel
theorem dJ2_getChar_3b067_57 : decode cJ2_getChar_3b067 57 = .ok (.ior, 1) := by decide +kernel
theorem dJ2_getChar_3b067_58 : decode cJ2_getChar_3b067 58 = .ok (.i2c, 1) := by decide +kernel
theorem dJ2_getChar_3b067_59 : decode cJ2_getChar_3b067 59 = .ok (.ireturn, 1) := by decide +kernel
theorem dJ2_length_9d52b_0 : decode cJ2_length_9d52b 0 = .ok (.aload_n 0, 1) := by decide +kernel
theorem dJ2_length_9d52b_1 : decode cJ2_length_9d52b 1 = .ok (.arraylength, 1) := by decide +kernel
theorem dJ2_length_9d52b_2 : decode cJ2_length_9d52b 2 = .ok (.iconst 1, 1) := by decide +kernel
theorem dJ2_length_9d52b_3 : decode cJ2_length_9d52b 3 = .ok (.ishr, 1) := by decide +kernel
theorem dJ2_length_9d52b_4 : decode cJ2_length_9d52b 4 = .ok (.ireturn, 1) := by decide +kernel
theorem dJ2_charAt_3b067_0 : decode cJ2_charAt_3b067 0 = .ok (.iload_n 1, 1) := by decide +kernel
theorem dJ2_charAt_3b067_1 : decode cJ2_charAt_3b067 1 = .ok (.aload_n 0, 1) := by decide +kernel
theorem dJ2_charAt_3b067_2 : decode cJ2_charAt_3b067 2 = .ok (.invokestatic 67, 3) := by decide +kernel
theorem dJ2_charAt_3b067_5 : decode cJ2_charAt_3b067 5 = .ok (.aload_n 0, 1) := by decide +kernel
theorem dJ2_charAt_3b067_6 : decode cJ2_charAt_3b067 6 = .ok (.iload_n 1, 1) := by decide +kernel
theorem dJ2_charAt_3b067_7 : decode cJ2_charAt_3b067 7 = .ok (.invokestatic 71, 3) := by decide +kernel
theorem dJ2_charAt_3b067_10 : decode cJ2_charAt_3b067 10 = .ok (.ireturn, 1) := by decide +kernel
theorem dJ2_checkIndex_2214a_0 : decode cJ2_checkIndex_2214a 0 = .ok (.iload_n 0, 1) := by decide +kernel
theorem dJ2_checkIndex_2214a_1 : decode cJ2_checkIndex_2214a 1 = .ok (.aload_n 1, 1) := by decide +kernel
theorem dJ2_checkIndex_2214a_2 : decode cJ2_checkIndex_2214a 2 = .ok (.invokestatic 48, 3) := by decide +kernel
theorem dJ2_checkIndex_2214a_5 : decode cJ2_checkIndex_2214a 5 = .ok (.invokestatic 414, 3) := by decide +kernel
theorem dJ2_checkIndex_2214a_8 : decode cJ2_checkIndex_2214a 8 = .ok (.return_, 1) := by decide +kernel
theorem dJ3_checkIndex_8e157_0 : decode cJ3_checkIndex_8e157 0 = .ok (.iload_n 0, 1) := by decide +kernel
theorem dJ3_checkIndex_8e157_1 : decode cJ3_checkIndex_8e157 1 = .ok (.ifCond .lt 8, 3) := by decide +kernel
theorem dJ3_checkIndex_8e157_4 : decode cJ3_checkIndex_8e157 4 = .ok (.iload_n 0, 1) := by decide +kernel
theorem dJ3_checkIndex_8e157_5 : decode cJ3_checkIndex_8e157 5 = .ok (.iload_n 1, 1) := by decide +kernel
theorem dJ3_checkIndex_8e157_6 : decode cJ3_checkIndex_8e157 6 = .ok (.if_icmp .lt 10, 3) := by decide +kernel
theorem dJ3_checkIndex_8e157_9 : decode cJ3_checkIndex_8e157 9 = .ok (.aload_n 2, 1) := by decide +kernel
theorem dJ3_checkIndex_8e157_10 : decode cJ3_checkIndex_8e157 10 = .ok (.iload_n 0, 1) := by decide +kernel
theorem dJ3_checkIndex_8e157_11 : decode cJ3_checkIndex_8e157 11 = .ok (.iload_n 1, 1) := by decide +kernel
theorem dJ3_checkIndex_8e157_12 : decode cJ3_checkIndex_8e157 12 = .ok (.invokestatic 95, 3) := by decide +kernel
theorem dJ3_checkIndex_8e157_15 : decode cJ3_checkIndex_8e157 15 = .ok (.athrow, 1) := by decide +kernel
theorem dJ3_checkIndex_8e157_16 : decode cJ3_checkIndex_8e157 16 = .ok (.iload_n 0, 1) := by decide +kernel
theorem dJ3_checkIndex_8e157_17 : decode cJ3_checkIndex_8e157 17 = .ok (.ireturn, 1) := by decide +kernel
