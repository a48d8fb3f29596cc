theorem dX11_init_0 : decode cX11_init 0 = .ok (.aload_n 0, 1) := by decide +kernel
theorem dX11_init_1 : decode cX11_init 1 = .ok (.invokespecial 1, 3) := by decide +kernel
theorem dX11_init_4 : decode cX11_init 4 = .ok (.aload_n 0, 1) := by decide +kernel
theorem dX11_init_5 : decode cX11_init 5 = .ok (.new 7, 3) := by decide +kernel
theorem dX11_init_8 : decode cX11_init 8 = .ok (.dup, 1) := by decide +kernel
theorem dX11_init_9 : decode cX11_init 9 = .ok (.invokespecial 9, 3) := by decide +kernel
theorem dX11_init_12 : decode cX11_init 12 = .ok (.putfield 10, 3) := by decide +kernel
theorem dX11_init_15 : decode cX11_init 15 = .ok (.aload_n 0, 1) := by decide +kernel
theorem dX11_init_16 : decode cX11_init 16 = .ok (.new 16, 3) := by decide +kernel
theorem dX11_init_19 : decode cX11_init 19 = .ok (.dup, 1) := by decide +kernel
theorem dX11_init_20 : decode cX11_init 20 = .ok (.invokespecial 18, 3) := by decide +kernel
theorem dX11_init_23 : decode cX11_init 23 = .ok (.putfield 19, 3) := by decide +kernel
theorem dX11_init_26 : decode cX11_init 26 = .ok (.aload_n 0, 1) := by decide +kernel
theorem dX11_init_27 : decode cX11_init 27 = .ok (.new 23, 3) := by decide +kernel
theorem dX11_init_30 : decode cX11_init 30 = .ok (.dup, 1) := by decide +kernel
theorem dX11_init_31 : decode cX11_init 31 = .ok (.aload_n 0, 1) := by decide +kernel
theorem dX11_init_32 : decode cX11_init 32 = .ok (.getfield 19, 3) := by decide +kernel
theorem dX11_init_35 : decode cX11_init 35 = .ok (.invokespecial 25, 3) := by decide +kernel
theorem dX11_init_38 : decode cX11_init 38 = .ok (.putfield 28, 3) := by decide +kernel
theorem dX11_init_41 : decode cX11_init 41 = .ok (.aload_n 0, 1) := by decide +kernel
theorem dX11_init_42 : decode cX11_init 42 = .ok (.new 32, 3) := by decide +kernel
theorem dX11_init_45 : decode cX11_init 45 = .ok (.dup, 1) := by decide +kernel
theorem dX11_init_46 : decode cX11_init 46 = .ok (.invokespecial 34, 3) := by decide +kernel
theorem dX11_init_49 : decode cX11_init 49 = .ok (.putfield 35, 3) := by decide +kernel
theorem dX11_init_52 : decode cX11_init 52 = .ok (.aload_n 0, 1) := by decide +kernel
theorem dX11_init_53 : decode cX11_init 53 = .ok (.new 39, 3) := by decide +kernel
theorem dX11_init_56 : decode cX11_init 56 = .ok (.dup, 1) := by decide +kernel
theorem dX11_init_57 : decode cX11_init 57 = .ok (.aload_n 0, 1) := by decide +kernel
theorem dX11_init_58 : decode cX11_init 58 = .ok (.getfield 35, 3) := by decide +kernel
theorem dX11_init_61 : decode cX11_init 61 = .ok (.aload_n 0, 1) := by decide +kernel
theorem dX11_init_62 : decode cX11_init 62 = .ok (.getfield 19, 3) := by decide +kernel
theorem dX11_init_65 : decode cX11_init 65 = .ok (.invokespecial 41, 3) := by decide +kernel
theorem dX11_init_68 : decode cX11_init 68 = .ok (.putfield 44, 3) := by decide +kernel
theorem dX11_init_71 : decode cX11_init 71 = .ok (.aload_n 0, 1) := by decide +kernel
theorem dX11_init_72 : decode cX11_init 72 = .ok (.new 48, 3) := by decide +kernel
theorem dX11_init_75 : decode cX11_init 75 = .ok (.dup, 1) := by decide +kernel
theorem dX11_init_76 : decode cX11_init 76 = .ok (.aload_n 0, 1) := by decide +kernel
theorem dX11_init_77 : decode cX11_init 77 = .ok (.getfield 35, 3) := by decide +kernel
theorem dX11_init_80 : decode cX11_init 80 = .ok (.invokespecial 50, 3) := by decide +kernel
theorem dX11_init_83 : decode cX11_init 83 = .ok (.putfield 53, 3) := by decide +kernel
theorem dX11_init_86 : decode cX11_init 86 = .ok (.aload_n 0, 1) := by decide +kernel
theorem dX11_init_87 : decode cX11_init 87 = .ok (.new 57, 3) := by decide +kernel
theorem dX11_init_90 : decode cX11_init 90 = .ok (.dup, 1) := by decide +kernel
theorem dX11_init_91 : decode cX11_init 91 = .ok (.aload_n 0, 1) := by decide +kernel
theorem dX11_init_92 : decode cX11_init 92 = .ok (.getfield 35, 3) := by decide +kernel
theorem dX11_init_95 : decode cX11_init 95 = .ok (.aload_n 0, 1) := by decide +kernel
theorem dX11_init_96 : decode cX11_init 96 = .ok (.getfield 44, 3) := by decide +kernel
theorem dX11_init_99 : decode cX11_init 99 = .ok (.aload_n 0, 1) := by decide +kernel
theorem dX11_init_100 : decode cX11_init 100 = .ok (.getfield 53, 3) := by decide +kernel
theorem dX11_init_103 : decode cX11_init 103 = .ok (.invokespecial 59, 3) := by decide +kernel
theorem dX11_init_106 : decode cX11_init 106 = .ok (.putfield 62, 3) := by decide +kernel
theorem dX11_init_109 : decode cX11_init 109 = .ok (.aload_n 0, 1) := by decide +kernel
theorem dX11_init_110 : decode cX11_init 110 = .ok (.new 66, 3) := by decide +kernel
theorem dX11_init_113 : decode cX11_init 113 = .ok (.dup, 1) := by decide +kernel
theorem dX11_init_114 : decode cX11_init 114 = .ok (.invokespecial 68, 3) := by decide +kernel
theorem dX11_init_117 : decode cX11_init 117 = .ok (.putfield 69, 3) := by decide +kernel
theorem dX11_init_120 : decode cX11_init 120 = .ok (.aload_n 0, 1) := by decide +kernel
theorem dX11_init_121 : decode cX11_init 121 = .ok (.new 73, 3) := by decide +kernel
theorem dX11_init_124 : decode cX11_init 124 = .ok (.dup, 1) := by decide +kernel
theorem dX11_init_125 : decode cX11_init 125 = .ok (.invokespecial 75, 3) := by decide +kernel
theorem dX11_init_128 : decode cX11_init 128 = .ok (.putfield 76, 3) := by decide +kernel
theorem dX11_init_131 : decode cX11_init 131 = .ok (.aload_n 0, 1) := by decide +kernel
theorem dX11_init_132 : decode cX11_init 132 = .ok (.iconst (-1), 1) := by decide +kernel
theorem dX11_init_133 : decode cX11_init 133 = .ok (.putfield 80, 3) := by decide +kernel
theorem dX11_init_136 : decode cX11_init 136 = .ok (.return_, 1) := by decide +kernel
theorem dX11_feed_0 : decode cX11_feed 0 = .ok (.aload_n 0, 1) := by decide +kernel
theorem dX11_feed_1 : decode cX11_feed 1 = .ok (.getfield 10, 3) := by decide +kernel
theorem dX11_feed_4 : decode cX11_feed 4 = .ok (.invokevirtual 84, 3) := by decide +kernel
theorem dX11_feed_7 : decode cX11_feed 7 = .ok (.ifCond .ne 5, 3) := by decide +kernel
theorem dX11_feed_10 : decode cX11_feed 10 = .ok (.iconst (-1), 1) := by decide +kernel
theorem dX11_feed_11 : decode cX11_feed 11 = .ok (.ireturn, 1) := by decide +kernel
theorem dX11_feed_12 : decode cX11_feed 12 = .ok (.aload_n 0, 1) := by decide +kernel
theorem dX11_feed_13 : decode cX11_feed 13 = .ok (.getfield 10, 3) := by decide +kernel
theorem dX11_feed_16 : decode cX11_feed 16 = .ok (.iload_n 1, 1) := by decide +kernel
theorem dX11_feed_17 : decode cX11_feed 17 = .ok (.invokevirtual 88, 3) := by decide +kernel
theorem dX11_feed_20 : decode cX11_feed 20 = .ok (.aload_n 0, 1) := by decide +kernel
theorem dX11_feed_21 : decode cX11_feed 21 = .ok (.getfield 10, 3) := by decide +kernel
theorem dX11_feed_24 : decode cX11_feed 24 = .ok (.iload_n 2, 1) := by decide +kernel
theorem dX11_feed_25 : decode cX11_feed 25 = .ok (.invokevirtual 88, 3) := by decide +kernel
theorem dX11_feed_28 : decode cX11_feed 28 = .ok (.aload_n 0, 1) := by decide +kernel
theorem dX11_feed_29 : decode cX11_feed 29 = .ok (.getfield 10, 3) := by decide +kernel
theorem dX11_feed_32 : decode cX11_feed 32 = .ok (.iload_n 3, 1) := by decide +kernel
theorem dX11_feed_33 : decode cX11_feed 33 = .ok (.invokevirtual 88, 3) := by decide +kernel
theorem dX11_feed_36 : decode cX11_feed 36 = .ok (.aload_n 0, 1) := by decide +kernel
theorem dX11_feed_37 : decode cX11_feed 37 = .ok (.getfield 10, 3) := by decide +kernel
theorem dX11_feed_40 : decode cX11_feed 40 = .ok (.iload 4, 2) := by decide +kernel
theorem dX11_feed_42 : decode cX11_feed 42 = .ok (.invokevirtual 88, 3) := by decide +kernel
theorem dX11_feed_45 : decode cX11_feed 45 = .ok (.aload_n 0, 1) := by decide +kernel
theorem dX11_feed_46 : decode cX11_feed 46 = .ok (.getfield 10, 3) := by decide +kernel
theorem dX11_feed_49 : decode cX11_feed 49 = .ok (.iload 5, 2) := by decide +kernel
theorem dX11_feed_51 : decode cX11_feed 51 = .ok (.invokevirtual 88, 3) := by decide +kernel
theorem dX11_feed_54 : decode cX11_feed 54 = .ok (.aload_n 0, 1) := by decide +kernel
theorem dX11_feed_55 : decode cX11_feed 55 = .ok (.getfield 10, 3) := by decide +kernel
theorem dX11_feed_58 : decode cX11_feed 58 = .ok (.getfield 92, 3) := by decide +kernel
theorem dX11_feed_61 : decode cX11_feed 61 = .ok (.ireturn, 1) := by decide +kernel
theorem dX11_back_0 : decode cX11_back 0 = .ok (.iload_n 1, 1) := by decide +kernel
theorem dX11_back_1 : decode cX11_back 1 = .ok (.ifCond .lt 14, 3) := by decide +kernel
theorem dX11_back_4 : decode cX11_back 4 = .ok (.iload_n 1, 1) := by decide +kernel
theorem dX11_back_5 : decode cX11_back 5 = .ok (.aload_n 0, 1) := by decide +kernel
theorem dX11_back_6 : decode cX11_back 6 = .ok (.getfield 10, 3) := by decide +kernel
theorem dX11_back_9 : decode cX11_back 9 = .ok (.getfield 92, 3) := by decide +kernel
theorem dX11_back_12 : decode cX11_back 12 = .ok (.if_icmp .le 5, 3) := by decide +kernel
theorem dX11_back_15 : decode cX11_back 15 = .ok (.iconst (-1), 1) := by decide +kernel
theorem dX11_back_16 : decode cX11_back 16 = .ok (.ireturn, 1) := by decide +kernel
theorem dX11_back_17 : decode cX11_back 17 = .ok (.aload_n 0, 1) := by decide +kernel
theorem dX11_back_18 : decode cX11_back 18 = .ok (.getfield 10, 3) := by decide +kernel
theorem dX11_back_21 : decode cX11_back 21 = .ok (.dup, 1) := by decide +kernel
theorem dX11_back_22 : decode cX11_back 22 = .ok (.getfield 92, 3) := by decide +kernel
theorem dX11_back_25 : decode cX11_back 25 = .ok (.iload_n 1, 1) := by decide +kernel
theorem dX11_back_26 : decode cX11_back 26 = .ok (.isub, 1) := by decide +kernel
theorem dX11_back_27 : decode cX11_back 27 = .ok (.putfield 92, 3) := by decide +kernel
theorem dX11_back_30 : decode cX11_back 30 = .ok (.aload_n 0, 1) := by decide +kernel
theorem dX11_back_31 : decode cX11_back 31 = .ok (.getfield 10, 3) := by decide +kernel
theorem dX11_back_34 : decode cX11_back 34 = .ok (.getfield 92, 3) := by decide +kernel
theorem dX11_back_37 : decode cX11_back 37 = .ok (.ireturn, 1) := by decide +kernel
theorem dX11_read_0 : decode cX11_read 0 = .ok (.aload_n 0, 1) := by decide +kernel
theorem dX11_read_1 : decode cX11_read 1 = .ok (.getfield 19, 3) := by decide +kernel
theorem dX11_read_4 : decode cX11_read 4 = .ok (.getfield 95, 3) := by decide +kernel
theorem dX11_read_7 : decode cX11_read 7 = .ok (.bipush 6, 2) := by decide +kernel
theorem dX11_read_9 : decode cX11_read 9 = .ok (.if_icmp .lt 6, 3) := by decide +kernel
theorem dX11_read_12 : decode cX11_read 12 = .ok (.bipush (-2), 2) := by decide +kernel
theorem dX11_read_14 : decode cX11_read 14 = .ok (.ireturn, 1) := by decide +kernel
theorem dX11_read_15 : decode cX11_read 15 = .ok (.aload_n 0, 1) := by decide +kernel
theorem dX11_read_16 : decode cX11_read 16 = .ok (.getfield 28, 3) := by decide +kernel
theorem dX11_read_19 : decode cX11_read 19 = .ok (.aload_n 0, 1) := by decide +kernel
theorem dX11_read_20 : decode cX11_read 20 = .ok (.getfield 10, 3) := by decide +kernel
theorem dX11_read_23 : decode cX11_read 23 = .ok (.invokevirtual 98, 3) := by decide +kernel
theorem dX11_read_26 : decode cX11_read 26 = .ok (.istore_n 1, 1) := by decide +kernel
theorem dX11_read_27 : decode cX11_read 27 = .ok (.aload_n 0, 1) := by decide +kernel
theorem dX11_read_28 : decode cX11_read 28 = .ok (.aload_n 0, 1) := by decide +kernel
theorem dX11_read_29 : decode cX11_read 29 = .ok (.getfield 28, 3) := by decide +kernel
theorem dX11_read_32 : decode cX11_read 32 = .ok (.getfield 102, 3) := by decide +kernel
theorem dX11_read_35 : decode cX11_read 35 = .ok (.putfield 80, 3) := by decide +kernel
theorem dX11_read_38 : decode cX11_read 38 = .ok (.aload_n 0, 1) := by decide +kernel
theorem dX11_read_39 : decode cX11_read 39 = .ok (.getfield 10, 3) := by decide +kernel
theorem dX11_read_42 : decode cX11_read 42 = .ok (.iconst 0, 1) := by decide +kernel
theorem dX11_read_43 : decode cX11_read 43 = .ok (.putfield 92, 3) := by decide +kernel
theorem dX11_read_46 : decode cX11_read 46 = .ok (.iload_n 1, 1) := by decide +kernel
theorem dX11_read_47 : decode cX11_read 47 = .ok (.ireturn, 1) := by decide +kernel
theorem dX11_place_0 : decode cX11_place 0 = .ok (.aload_n 0, 1) := by decide +kernel
theorem dX11_place_1 : decode cX11_place 1 = .ok (.getfield 80, 3) := by decide +kernel
theorem dX11_place_4 : decode cX11_place 4 = .ok (.ireturn, 1) := by decide +kernel
theorem dX11_line_0 : decode cX11_line 0 = .ok (.iload_n 3, 1) := by decide +kernel
theorem dX11_line_1 : decode cX11_line 1 = .ok (.ifCond .eq 8, 3) := by decide +kernel
theorem dX11_line_4 : decode cX11_line 4 = .ok (.iload_n 3, 1) := by decide +kernel
theorem dX11_line_5 : decode cX11_line 5 = .ok (.iconst 2, 1) := by decide +kernel
theorem dX11_line_6 : decode cX11_line 6 = .ok (.if_icmp .ne 15, 3) := by decide +kernel
theorem dX11_line_9 : decode cX11_line 9 = .ok (.iload 5, 2) := by decide +kernel
theorem dX11_line_11 : decode cX11_line 11 = .ok (.invokestatic 105, 3) := by decide +kernel
theorem dX11_line_14 : decode cX11_line 14 = .ok (.ifCond .eq 7, 3) := by decide +kernel
theorem dX11_line_17 : decode cX11_line 17 = .ok (.iconst 1, 1) := by decide +kernel
theorem dX11_line_18 : decode cX11_line 18 = .ok (.goto 4, 3) := by decide +kernel
theorem dX11_line_21 : decode cX11_line 21 = .ok (.iconst 0, 1) := by decide +kernel
theorem dX11_line_22 : decode cX11_line 22 = .ok (.istore 6, 2) := by decide +kernel
theorem dX11_line_24 : decode cX11_line 24 = .ok (.iload_n 3, 1) := by decide +kernel
theorem dX11_line_25 : decode cX11_line 25 = .ok (.iconst 3, 1) := by decide +kernel
theorem dX11_line_26 : decode cX11_line 26 = .ok (.if_icmp .ne 12, 3) := by decide +kernel
theorem dX11_line_29 : decode cX11_line 29 = .ok (.iload 5, 2) := by decide +kernel
theorem dX11_line_31 : decode cX11_line 31 = .ok (.ifCond .ne 7, 3) := by decide +kernel
theorem dX11_line_34 : decode cX11_line 34 = .ok (.iconst 1, 1) := by decide +kernel
theorem dX11_line_35 : decode cX11_line 35 = .ok (.goto 4, 3) := by decide +kernel
theorem dX11_line_38 : decode cX11_line 38 = .ok (.iconst 0, 1) := by decide +kernel
theorem dX11_line_39 : decode cX11_line 39 = .ok (.istore 7, 2) := by decide +kernel
theorem dX11_line_41 : decode cX11_line 41 = .ok (.iload 6, 2) := by decide +kernel
theorem dX11_line_43 : decode cX11_line 43 = .ok (.ifCond .ne 10, 3) := by decide +kernel
theorem dX11_line_46 : decode cX11_line 46 = .ok (.iload 7, 2) := by decide +kernel
theorem dX11_line_48 : decode cX11_line 48 = .ok (.ifCond .ne 5, 3) := by decide +kernel
theorem dX11_line_51 : decode cX11_line 51 = .ok (.iconst (-1), 1) := by decide +kernel
theorem dX11_line_52 : decode cX11_line 52 = .ok (.ireturn, 1) := by decide +kernel
theorem dX11_line_53 : decode cX11_line 53 = .ok (.aload_n 0, 1) := by decide +kernel
theorem dX11_line_54 : decode cX11_line 54 = .ok (.iload_n 1, 1) := by decide +kernel
theorem dX11_line_55 : decode cX11_line 55 = .ok (.iload_n 2, 1) := by decide +kernel
theorem dX11_line_56 : decode cX11_line 56 = .ok (.iload_n 3, 1) := by decide +kernel
theorem dX11_line_57 : decode cX11_line 57 = .ok (.iload 4, 2) := by decide +kernel
theorem dX11_line_59 : decode cX11_line 59 = .ok (.iload 5, 2) := by decide +kernel
theorem dX11_line_61 : decode cX11_line 61 = .ok (.invokevirtual 109, 3) := by decide +kernel
theorem dX11_line_64 : decode cX11_line 64 = .ok (.ireturn, 1) := by decide +kernel
theorem dX11_reads_0 : decode cX11_reads 0 = .ok (.iload 4, 2) := by decide +kernel
theorem dX11_reads_2 : decode cX11_reads 2 = .ok (.invokestatic 105, 3) := by decide +kernel
theorem dX11_reads_5 : decode cX11_reads 5 = .ok (.ifCond .eq 22, 3) := by decide +kernel
theorem dX11_reads_8 : decode cX11_reads 8 = .ok (.iload 5, 2) := by decide +kernel
theorem dX11_reads_10 : decode cX11_reads 10 = .ok (.iconst 4, 1) := by decide +kernel
theorem dX11_reads_11 : decode cX11_reads 11 = .ok (.invokestatic 113, 3) := by decide +kernel
theorem dX11_reads_14 : decode cX11_reads 14 = .ok (.ifCond .eq 13, 3) := by decide +kernel
theorem dX11_reads_17 : decode cX11_reads 17 = .ok (.iload 6, 2) := by decide +kernel
theorem dX11_reads_19 : decode cX11_reads 19 = .ok (.bipush 10, 2) := by decide +kernel
theorem dX11_reads_21 : decode cX11_reads 21 = .ok (.invokestatic 113, 3) := by decide +kernel
theorem dX11_reads_24 : decode cX11_reads 24 = .ok (.ifCond .ne 5, 3) := by decide +kernel
theorem dX11_reads_27 : decode cX11_reads 27 = .ok (.iconst (-1), 1) := by decide +kernel
theorem dX11_reads_28 : decode cX11_reads 28 = .ok (.ireturn, 1) := by decide +kernel
theorem dX11_reads_29 : decode cX11_reads 29 = .ok (.aload_n 0, 1) := by decide +kernel
theorem dX11_reads_30 : decode cX11_reads 30 = .ok (.iload_n 1, 1) := by decide +kernel
theorem dX11_reads_31 : decode cX11_reads 31 = .ok (.iload_n 2, 1) := by decide +kernel
theorem dX11_reads_32 : decode cX11_reads 32 = .ok (.iconst 1, 1) := by decide +kernel
theorem dX11_reads_33 : decode cX11_reads 33 = .ok (.iload_n 3, 1) := by decide +kernel
theorem dX11_reads_34 : decode cX11_reads 34 = .ok (.iload 4, 2) := by decide +kernel
theorem dX11_reads_36 : decode cX11_reads 36 = .ok (.invokevirtual 109, 3) := by decide +kernel
theorem dX11_reads_39 : decode cX11_reads 39 = .ok (.istore 7, 2) := by decide +kernel
theorem dX11_reads_41 : decode cX11_reads 41 = .ok (.iload 7, 2) := by decide +kernel
theorem dX11_reads_43 : decode cX11_reads 43 = .ok (.iconst (-1), 1) := by decide +kernel
theorem dX11_reads_44 : decode cX11_reads 44 = .ok (.if_icmp .eq 16, 3) := by decide +kernel
theorem dX11_reads_47 : decode cX11_reads 47 = .ok (.aload_n 0, 1) := by decide +kernel
theorem dX11_reads_48 : decode cX11_reads 48 = .ok (.getfield 35, 3) := by decide +kernel
theorem dX11_reads_51 : decode cX11_reads 51 = .ok (.iload 7, 2) := by decide +kernel
theorem dX11_reads_53 : decode cX11_reads 53 = .ok (.iload 5, 2) := by decide +kernel
theorem dX11_reads_55 : decode cX11_reads 55 = .ok (.iload 6, 2) := by decide +kernel
theorem dX11_reads_57 : decode cX11_reads 57 = .ok (.invokevirtual 117, 3) := by decide +kernel
theorem dX11_reads_60 : decode cX11_reads 60 = .ok (.iload 7, 2) := by decide +kernel
theorem dX11_reads_62 : decode cX11_reads 62 = .ok (.ireturn, 1) := by decide +kernel
theorem dX11_sits_0 : decode cX11_sits 0 = .ok (.iload_n 1, 1) := by decide +kernel
theorem dX11_sits_1 : decode cX11_sits 1 = .ok (.bipush 8, 2) := by decide +kernel
theorem dX11_sits_3 : decode cX11_sits 3 = .ok (.invokestatic 113, 3) := by decide +kernel
theorem dX11_sits_6 : decode cX11_sits 6 = .ok (.ifCond .eq 21, 3) := by decide +kernel
theorem dX11_sits_9 : decode cX11_sits 9 = .ok (.iload_n 2, 1) := by decide +kernel
theorem dX11_sits_10 : decode cX11_sits 10 = .ok (.bipush 10, 2) := by decide +kernel
theorem dX11_sits_12 : decode cX11_sits 12 = .ok (.invokestatic 113, 3) := by decide +kernel
theorem dX11_sits_15 : decode cX11_sits 15 = .ok (.ifCond .eq 12, 3) := by decide +kernel
theorem dX11_sits_18 : decode cX11_sits 18 = .ok (.iload_n 3, 1) := by decide +kernel
theorem dX11_sits_19 : decode cX11_sits 19 = .ok (.bipush 100, 2) := by decide +kernel
theorem dX11_sits_21 : decode cX11_sits 21 = .ok (.invokestatic 113, 3) := by decide +kernel
theorem dX11_sits_24 : decode cX11_sits 24 = .ok (.ifCond .ne 5, 3) := by decide +kernel
theorem dX11_sits_27 : decode cX11_sits 27 = .ok (.iconst (-1), 1) := by decide +kernel
theorem dX11_sits_28 : decode cX11_sits 28 = .ok (.ireturn, 1) := by decide +kernel
theorem dX11_sits_29 : decode cX11_sits 29 = .ok (.aload_n 0, 1) := by decide +kernel
theorem dX11_sits_30 : decode cX11_sits 30 = .ok (.getfield 35, 3) := by decide +kernel
theorem dX11_sits_33 : decode cX11_sits 33 = .ok (.iconst 5, 1) := by decide +kernel
theorem dX11_sits_34 : decode cX11_sits 34 = .ok (.iload_n 3, 1) := by decide +kernel
theorem dX11_sits_35 : decode cX11_sits 35 = .ok (.iconst 0, 1) := by decide +kernel
theorem dX11_sits_36 : decode cX11_sits 36 = .ok (.invokevirtual 121, 3) := by decide +kernel
theorem dX11_sits_39 : decode cX11_sits 39 = .ok (.istore 4, 2) := by decide +kernel
theorem dX11_sits_41 : decode cX11_sits 41 = .ok (.iload 4, 2) := by decide +kernel
theorem dX11_sits_43 : decode cX11_sits 43 = .ok (.iconst (-1), 1) := by decide +kernel
theorem dX11_sits_44 : decode cX11_sits 44 = .ok (.if_icmp .eq 25, 3) := by decide +kernel
theorem dX11_sits_47 : decode cX11_sits 47 = .ok (.aload_n 0, 1) := by decide +kernel
theorem dX11_sits_48 : decode cX11_sits 48 = .ok (.getfield 35, 3) := by decide +kernel
theorem dX11_sits_51 : decode cX11_sits 51 = .ok (.getfield 125, 3) := by decide +kernel
theorem dX11_sits_54 : decode cX11_sits 54 = .ok (.iload 4, 2) := by decide +kernel
theorem dX11_sits_56 : decode cX11_sits 56 = .ok (.iload_n 1, 1) := by decide +kernel
theorem dX11_sits_57 : decode cX11_sits 57 = .ok (.iastore, 1) := by decide +kernel
theorem dX11_sits_58 : decode cX11_sits 58 = .ok (.aload_n 0, 1) := by decide +kernel
theorem dX11_sits_59 : decode cX11_sits 59 = .ok (.getfield 35, 3) := by decide +kernel
theorem dX11_sits_62 : decode cX11_sits 62 = .ok (.getfield 129, 3) := by decide +kernel
theorem dX11_sits_65 : decode cX11_sits 65 = .ok (.iload 4, 2) := by decide +kernel
theorem dX11_sits_67 : decode cX11_sits 67 = .ok (.iload_n 2, 1) := by decide +kernel
theorem dX11_sits_68 : decode cX11_sits 68 = .ok (.iastore, 1) := by decide +kernel
theorem dX11_sits_69 : decode cX11_sits 69 = .ok (.iload 4, 2) := by decide +kernel
theorem dX11_sits_71 : decode cX11_sits 71 = .ok (.ireturn, 1) := by decide +kernel
theorem dX11_office_0 : decode cX11_office 0 = .ok (.iload_n 1, 1) := by decide +kernel
theorem dX11_office_1 : decode cX11_office 1 = .ok (.bipush 8, 2) := by decide +kernel
theorem dX11_office_3 : decode cX11_office 3 = .ok (.invokestatic 113, 3) := by decide +kernel
theorem dX11_office_6 : decode cX11_office 6 = .ok (.ifCond .eq 12, 3) := by decide +kernel
theorem dX11_office_9 : decode cX11_office 9 = .ok (.iload_n 2, 1) := by decide +kernel
theorem dX11_office_10 : decode cX11_office 10 = .ok (.bipush 10, 2) := by decide +kernel
theorem dX11_office_12 : decode cX11_office 12 = .ok (.invokestatic 113, 3) := by decide +kernel
theorem dX11_office_15 : decode cX11_office 15 = .ok (.ifCond .ne 5, 3) := by decide +kernel
theorem dX11_office_18 : decode cX11_office 18 = .ok (.iconst (-1), 1) := by decide +kernel
theorem dX11_office_19 : decode cX11_office 19 = .ok (.ireturn, 1) := by decide +kernel
theorem dX11_office_20 : decode cX11_office 20 = .ok (.aload_n 0, 1) := by decide +kernel
theorem dX11_office_21 : decode cX11_office 21 = .ok (.getfield 35, 3) := by decide +kernel
theorem dX11_office_24 : decode cX11_office 24 = .ok (.bipush 6, 2) := by decide +kernel
theorem dX11_office_26 : decode cX11_office 26 = .ok (.iconst 0, 1) := by decide +kernel
theorem dX11_office_27 : decode cX11_office 27 = .ok (.iconst 0, 1) := by decide +kernel
theorem dX11_office_28 : decode cX11_office 28 = .ok (.invokevirtual 121, 3) := by decide +kernel
theorem dX11_office_31 : decode cX11_office 31 = .ok (.istore_n 3, 1) := by decide +kernel
theorem dX11_office_32 : decode cX11_office 32 = .ok (.iload_n 3, 1) := by decide +kernel
theorem dX11_office_33 : decode cX11_office 33 = .ok (.iconst (-1), 1) := by decide +kernel
theorem dX11_office_34 : decode cX11_office 34 = .ok (.if_icmp .eq 23, 3) := by decide +kernel
theorem dX11_office_37 : decode cX11_office 37 = .ok (.aload_n 0, 1) := by decide +kernel
theorem dX11_office_38 : decode cX11_office 38 = .ok (.getfield 35, 3) := by decide +kernel
theorem dX11_office_41 : decode cX11_office 41 = .ok (.getfield 125, 3) := by decide +kernel
theorem dX11_office_44 : decode cX11_office 44 = .ok (.iload_n 3, 1) := by decide +kernel
theorem dX11_office_45 : decode cX11_office 45 = .ok (.iload_n 1, 1) := by decide +kernel
theorem dX11_office_46 : decode cX11_office 46 = .ok (.iastore, 1) := by decide +kernel
theorem dX11_office_47 : decode cX11_office 47 = .ok (.aload_n 0, 1) := by decide +kernel
theorem dX11_office_48 : decode cX11_office 48 = .ok (.getfield 35, 3) := by decide +kernel
theorem dX11_office_51 : decode cX11_office 51 = .ok (.getfield 132, 3) := by decide +kernel
theorem dX11_office_54 : decode cX11_office 54 = .ok (.iload_n 3, 1) := by decide +kernel
theorem dX11_office_55 : decode cX11_office 55 = .ok (.iload_n 2, 1) := by decide +kernel
theorem dX11_office_56 : decode cX11_office 56 = .ok (.iastore, 1) := by decide +kernel
theorem dX11_office_57 : decode cX11_office 57 = .ok (.iload_n 3, 1) := by decide +kernel
theorem dX11_office_58 : decode cX11_office 58 = .ok (.ireturn, 1) := by decide +kernel
theorem dX11_paper_0 : decode cX11_paper 0 = .ok (.iload_n 1, 1) := by decide +kernel
theorem dX11_paper_1 : decode cX11_paper 1 = .ok (.iconst 4, 1) := by decide +kernel
theorem dX11_paper_2 : decode cX11_paper 2 = .ok (.invokestatic 113, 3) := by decide +kernel
theorem dX11_paper_5 : decode cX11_paper 5 = .ok (.ifCond .eq 22, 3) := by decide +kernel
theorem dX11_paper_8 : decode cX11_paper 8 = .ok (.iload_n 2, 1) := by decide +kernel
theorem dX11_paper_9 : decode cX11_paper 9 = .ok (.bipush 10, 2) := by decide +kernel
theorem dX11_paper_11 : decode cX11_paper 11 = .ok (.invokestatic 113, 3) := by decide +kernel
theorem dX11_paper_14 : decode cX11_paper 14 = .ok (.ifCond .eq 13, 3) := by decide +kernel
theorem dX11_paper_17 : decode cX11_paper 17 = .ok (.iload_n 3, 1) := by decide +kernel
theorem dX11_paper_18 : decode cX11_paper 18 = .ok (.sipush 1000, 3) := by decide +kernel
theorem dX11_paper_21 : decode cX11_paper 21 = .ok (.invokestatic 113, 3) := by decide +kernel
theorem dX11_paper_24 : decode cX11_paper 24 = .ok (.ifCond .ne 5, 3) := by decide +kernel
theorem dX11_paper_27 : decode cX11_paper 27 = .ok (.iconst (-1), 1) := by decide +kernel
theorem dX11_paper_28 : decode cX11_paper 28 = .ok (.ireturn, 1) := by decide +kernel
theorem dX11_paper_29 : decode cX11_paper 29 = .ok (.aload_n 0, 1) := by decide +kernel
theorem dX11_paper_30 : decode cX11_paper 30 = .ok (.getfield 35, 3) := by decide +kernel
theorem dX11_paper_33 : decode cX11_paper 33 = .ok (.bipush 7, 2) := by decide +kernel
theorem dX11_paper_35 : decode cX11_paper 35 = .ok (.iconst 0, 1) := by decide +kernel
theorem dX11_paper_36 : decode cX11_paper 36 = .ok (.iload_n 3, 1) := by decide +kernel
theorem dX11_paper_37 : decode cX11_paper 37 = .ok (.invokevirtual 121, 3) := by decide +kernel
theorem dX11_paper_40 : decode cX11_paper 40 = .ok (.istore 4, 2) := by decide +kernel
theorem dX11_paper_42 : decode cX11_paper 42 = .ok (.iload 4, 2) := by decide +kernel
theorem dX11_paper_44 : decode cX11_paper 44 = .ok (.iconst (-1), 1) := by decide +kernel
theorem dX11_paper_45 : decode cX11_paper 45 = .ok (.if_icmp .eq 14, 3) := by decide +kernel
theorem dX11_paper_48 : decode cX11_paper 48 = .ok (.aload_n 0, 1) := by decide +kernel
theorem dX11_paper_49 : decode cX11_paper 49 = .ok (.getfield 35, 3) := by decide +kernel
theorem dX11_paper_52 : decode cX11_paper 52 = .ok (.iload 4, 2) := by decide +kernel
theorem dX11_paper_54 : decode cX11_paper 54 = .ok (.iload_n 1, 1) := by decide +kernel
theorem dX11_paper_55 : decode cX11_paper 55 = .ok (.iload_n 2, 1) := by decide +kernel
theorem dX11_paper_56 : decode cX11_paper 56 = .ok (.invokevirtual 117, 3) := by decide +kernel
theorem dX11_paper_59 : decode cX11_paper 59 = .ok (.iload 4, 2) := by decide +kernel
theorem dX11_paper_61 : decode cX11_paper 61 = .ok (.ireturn, 1) := by decide +kernel
theorem dX11_fact_0 : decode cX11_fact 0 = .ok (.iload_n 1, 1) := by decide +kernel
theorem dX11_fact_1 : decode cX11_fact 1 = .ok (.ifCond .lt 27, 3) := by decide +kernel
theorem dX11_fact_4 : decode cX11_fact 4 = .ok (.iload_n 1, 1) := by decide +kernel
theorem dX11_fact_5 : decode cX11_fact 5 = .ok (.iconst 3, 1) := by decide +kernel
theorem dX11_fact_6 : decode cX11_fact 6 = .ok (.if_icmp .gt 22, 3) := by decide +kernel
theorem dX11_fact_9 : decode cX11_fact 9 = .ok (.aload_n 0, 1) := by decide +kernel
theorem dX11_fact_10 : decode cX11_fact 10 = .ok (.getfield 35, 3) := by decide +kernel
theorem dX11_fact_13 : decode cX11_fact 13 = .ok (.iload_n 2, 1) := by decide +kernel
theorem dX11_fact_14 : decode cX11_fact 14 = .ok (.iconst 4, 1) := by decide +kernel
theorem dX11_fact_15 : decode cX11_fact 15 = .ok (.aload_n 0, 1) := by decide +kernel
theorem dX11_fact_16 : decode cX11_fact 16 = .ok (.getfield 35, 3) := by decide +kernel
theorem dX11_fact_19 : decode cX11_fact 19 = .ok (.getfield 135, 3) := by decide +kernel
theorem dX11_fact_22 : decode cX11_fact 22 = .ok (.invokevirtual 138, 3) := by decide +kernel
theorem dX11_fact_25 : decode cX11_fact 25 = .ok (.ifCond .ne 5, 3) := by decide +kernel
theorem dX11_fact_28 : decode cX11_fact 28 = .ok (.iconst (-1), 1) := by decide +kernel
theorem dX11_fact_29 : decode cX11_fact 29 = .ok (.ireturn, 1) := by decide +kernel
theorem dX11_fact_30 : decode cX11_fact 30 = .ok (.iload_n 1, 1) := by decide +kernel
theorem dX11_fact_31 : decode cX11_fact 31 = .ok (.ifCond .eq 8, 3) := by decide +kernel
theorem dX11_fact_34 : decode cX11_fact 34 = .ok (.iload_n 1, 1) := by decide +kernel
theorem dX11_fact_35 : decode cX11_fact 35 = .ok (.iconst 1, 1) := by decide +kernel
theorem dX11_fact_36 : decode cX11_fact 36 = .ok (.if_icmp .ne 7, 3) := by decide +kernel
theorem dX11_fact_39 : decode cX11_fact 39 = .ok (.iconst 1, 1) := by decide +kernel
theorem dX11_fact_40 : decode cX11_fact 40 = .ok (.goto 4, 3) := by decide +kernel
theorem dX11_fact_43 : decode cX11_fact 43 = .ok (.iconst 0, 1) := by decide +kernel
theorem dX11_fact_44 : decode cX11_fact 44 = .ok (.istore 5, 2) := by decide +kernel
theorem dX11_fact_46 : decode cX11_fact 46 = .ok (.iload_n 1, 1) := by decide +kernel
theorem dX11_fact_47 : decode cX11_fact 47 = .ok (.iconst 1, 1) := by decide +kernel
theorem dX11_fact_48 : decode cX11_fact 48 = .ok (.if_icmp .eq 7, 3) := by decide +kernel
theorem dX11_fact_51 : decode cX11_fact 51 = .ok (.iconst 1, 1) := by decide +kernel
theorem dX11_fact_52 : decode cX11_fact 52 = .ok (.goto 4, 3) := by decide +kernel
theorem dX11_fact_55 : decode cX11_fact 55 = .ok (.iconst 0, 1) := by decide +kernel
theorem dX11_fact_56 : decode cX11_fact 56 = .ok (.istore 6, 2) := by decide +kernel
theorem dX11_fact_58 : decode cX11_fact 58 = .ok (.iload 5, 2) := by decide +kernel
theorem dX11_fact_60 : decode cX11_fact 60 = .ok (.ifCond .eq 10, 3) := by decide +kernel
theorem dX11_fact_63 : decode cX11_fact 63 = .ok (.iload_n 3, 1) := by decide +kernel
theorem dX11_fact_64 : decode cX11_fact 64 = .ok (.invokestatic 105, 3) := by decide +kernel
theorem dX11_fact_67 : decode cX11_fact 67 = .ok (.ifCond .eq 18, 3) := by decide +kernel
theorem dX11_fact_70 : decode cX11_fact 70 = .ok (.iload 6, 2) := by decide +kernel
theorem dX11_fact_72 : decode cX11_fact 72 = .ok (.ifCond .eq 15, 3) := by decide +kernel
theorem dX11_fact_75 : decode cX11_fact 75 = .ok (.iload 4, 2) := by decide +kernel
theorem dX11_fact_77 : decode cX11_fact 77 = .ok (.bipush 100, 2) := by decide +kernel
theorem dX11_fact_79 : decode cX11_fact 79 = .ok (.invokestatic 113, 3) := by decide +kernel
theorem dX11_fact_82 : decode cX11_fact 82 = .ok (.ifCond .ne 5, 3) := by decide +kernel
theorem dX11_fact_85 : decode cX11_fact 85 = .ok (.iconst (-1), 1) := by decide +kernel
theorem dX11_fact_86 : decode cX11_fact 86 = .ok (.ireturn, 1) := by decide +kernel
theorem dX11_fact_87 : decode cX11_fact 87 = .ok (.iload_n 1, 1) := by decide +kernel
theorem dX11_fact_88 : decode cX11_fact 88 = .ok (.iconst 3, 1) := by decide +kernel
theorem dX11_fact_89 : decode cX11_fact 89 = .ok (.if_icmp .ne 19, 3) := by decide +kernel
theorem dX11_fact_92 : decode cX11_fact 92 = .ok (.iload 4, 2) := by decide +kernel
theorem dX11_fact_94 : decode cX11_fact 94 = .ok (.aload_n 0, 1) := by decide +kernel
theorem dX11_fact_95 : decode cX11_fact 95 = .ok (.getfield 35, 3) := by decide +kernel
theorem dX11_fact_98 : decode cX11_fact 98 = .ok (.getfield 142, 3) := by decide +kernel
theorem dX11_fact_101 : decode cX11_fact 101 = .ok (.iload_n 2, 1) := by decide +kernel
theorem dX11_fact_102 : decode cX11_fact 102 = .ok (.iaload, 1) := by decide +kernel
theorem dX11_fact_103 : decode cX11_fact 103 = .ok (.if_icmp .ge 5, 3) := by decide +kernel
theorem dX11_fact_106 : decode cX11_fact 106 = .ok (.iconst (-1), 1) := by decide +kernel
theorem dX11_fact_107 : decode cX11_fact 107 = .ok (.ireturn, 1) := by decide +kernel
theorem dX11_fact_108 : decode cX11_fact 108 = .ok (.aload_n 0, 1) := by decide +kernel
theorem dX11_fact_109 : decode cX11_fact 109 = .ok (.getfield 35, 3) := by decide +kernel
theorem dX11_fact_112 : decode cX11_fact 112 = .ok (.iload_n 1, 1) := by decide +kernel
theorem dX11_fact_113 : decode cX11_fact 113 = .ok (.iload 4, 2) := by decide +kernel
theorem dX11_fact_115 : decode cX11_fact 115 = .ok (.iload_n 3, 1) := by decide +kernel
theorem dX11_fact_116 : decode cX11_fact 116 = .ok (.invokevirtual 121, 3) := by decide +kernel
theorem dX11_fact_119 : decode cX11_fact 119 = .ok (.istore 7, 2) := by decide +kernel
theorem dX11_fact_121 : decode cX11_fact 121 = .ok (.iload 7, 2) := by decide +kernel
theorem dX11_fact_123 : decode cX11_fact 123 = .ok (.iconst (-1), 1) := by decide +kernel
theorem dX11_fact_124 : decode cX11_fact 124 = .ok (.if_icmp .eq 14, 3) := by decide +kernel
theorem dX11_fact_127 : decode cX11_fact 127 = .ok (.aload_n 0, 1) := by decide +kernel
theorem dX11_fact_128 : decode cX11_fact 128 = .ok (.getfield 35, 3) := by decide +kernel
theorem dX11_fact_131 : decode cX11_fact 131 = .ok (.getfield 145, 3) := by decide +kernel
theorem dX11_fact_134 : decode cX11_fact 134 = .ok (.iload 7, 2) := by decide +kernel
theorem dX11_fact_136 : decode cX11_fact 136 = .ok (.iload_n 2, 1) := by decide +kernel
theorem dX11_fact_137 : decode cX11_fact 137 = .ok (.iastore, 1) := by decide +kernel
theorem dX11_fact_138 : decode cX11_fact 138 = .ok (.iload 7, 2) := by decide +kernel
theorem dX11_fact_140 : decode cX11_fact 140 = .ok (.ireturn, 1) := by decide +kernel
theorem dX11_rename_0 : decode cX11_rename 0 = .ok (.iload_n 1, 1) := by decide +kernel
theorem dX11_rename_1 : decode cX11_rename 1 = .ok (.invokestatic 105, 3) := by decide +kernel
theorem dX11_rename_4 : decode cX11_rename 4 = .ok (.ifCond .eq 24, 3) := by decide +kernel
theorem dX11_rename_7 : decode cX11_rename 7 = .ok (.iload_n 2, 1) := by decide +kernel
theorem dX11_rename_8 : decode cX11_rename 8 = .ok (.invokestatic 105, 3) := by decide +kernel
theorem dX11_rename_11 : decode cX11_rename 11 = .ok (.ifCond .eq 17, 3) := by decide +kernel
theorem dX11_rename_14 : decode cX11_rename 14 = .ok (.iload_n 1, 1) := by decide +kernel
theorem dX11_rename_15 : decode cX11_rename 15 = .ok (.iload_n 2, 1) := by decide +kernel
theorem dX11_rename_16 : decode cX11_rename 16 = .ok (.if_icmp .eq 12, 3) := by decide +kernel
theorem dX11_rename_19 : decode cX11_rename 19 = .ok (.iload_n 3, 1) := by decide +kernel
theorem dX11_rename_20 : decode cX11_rename 20 = .ok (.bipush 100, 2) := by decide +kernel
theorem dX11_rename_22 : decode cX11_rename 22 = .ok (.invokestatic 113, 3) := by decide +kernel
theorem dX11_rename_25 : decode cX11_rename 25 = .ok (.ifCond .ne 5, 3) := by decide +kernel
theorem dX11_rename_28 : decode cX11_rename 28 = .ok (.iconst (-1), 1) := by decide +kernel
theorem dX11_rename_29 : decode cX11_rename 29 = .ok (.ireturn, 1) := by decide +kernel
theorem dX11_rename_30 : decode cX11_rename 30 = .ok (.aload_n 0, 1) := by decide +kernel
theorem dX11_rename_31 : decode cX11_rename 31 = .ok (.getfield 35, 3) := by decide +kernel
theorem dX11_rename_34 : decode cX11_rename 34 = .ok (.bipush 8, 2) := by decide +kernel
theorem dX11_rename_36 : decode cX11_rename 36 = .ok (.iload_n 3, 1) := by decide +kernel
theorem dX11_rename_37 : decode cX11_rename 37 = .ok (.iload_n 1, 1) := by decide +kernel
theorem dX11_rename_38 : decode cX11_rename 38 = .ok (.invokevirtual 121, 3) := by decide +kernel
theorem dX11_rename_41 : decode cX11_rename 41 = .ok (.istore 4, 2) := by decide +kernel
theorem dX11_rename_43 : decode cX11_rename 43 = .ok (.iload 4, 2) := by decide +kernel
theorem dX11_rename_45 : decode cX11_rename 45 = .ok (.iconst (-1), 1) := by decide +kernel
theorem dX11_rename_46 : decode cX11_rename 46 = .ok (.if_icmp .eq 14, 3) := by decide +kernel
theorem dX11_rename_49 : decode cX11_rename 49 = .ok (.aload_n 0, 1) := by decide +kernel
theorem dX11_rename_50 : decode cX11_rename 50 = .ok (.getfield 35, 3) := by decide +kernel
theorem dX11_rename_53 : decode cX11_rename 53 = .ok (.getfield 132, 3) := by decide +kernel
theorem dX11_rename_56 : decode cX11_rename 56 = .ok (.iload 4, 2) := by decide +kernel
theorem dX11_rename_58 : decode cX11_rename 58 = .ok (.iload_n 2, 1) := by decide +kernel
theorem dX11_rename_59 : decode cX11_rename 59 = .ok (.iastore, 1) := by decide +kernel
theorem dX11_rename_60 : decode cX11_rename 60 = .ok (.iload 4, 2) := by decide +kernel
theorem dX11_rename_62 : decode cX11_rename 62 = .ok (.ireturn, 1) := by decide +kernel
theorem dX11_vote_0 : decode cX11_vote 0 = .ok (.iload_n 1, 1) := by decide +kernel
theorem dX11_vote_1 : decode cX11_vote 1 = .ok (.iconst 4, 1) := by decide +kernel
theorem dX11_vote_2 : decode cX11_vote 2 = .ok (.invokestatic 113, 3) := by decide +kernel
theorem dX11_vote_5 : decode cX11_vote 5 = .ok (.ifCond .eq 29, 3) := by decide +kernel
theorem dX11_vote_8 : decode cX11_vote 8 = .ok (.iload_n 2, 1) := by decide +kernel
theorem dX11_vote_9 : decode cX11_vote 9 = .ok (.bipush 8, 2) := by decide +kernel
theorem dX11_vote_11 : decode cX11_vote 11 = .ok (.invokestatic 113, 3) := by decide +kernel
theorem dX11_vote_14 : decode cX11_vote 14 = .ok (.ifCond .eq 20, 3) := by decide +kernel
theorem dX11_vote_17 : decode cX11_vote 17 = .ok (.iload_n 3, 1) := by decide +kernel
theorem dX11_vote_18 : decode cX11_vote 18 = .ok (.iconst 2, 1) := by decide +kernel
theorem dX11_vote_19 : decode cX11_vote 19 = .ok (.invokestatic 113, 3) := by decide +kernel
theorem dX11_vote_22 : decode cX11_vote 22 = .ok (.ifCond .eq 12, 3) := by decide +kernel
theorem dX11_vote_25 : decode cX11_vote 25 = .ok (.iload 4, 2) := by decide +kernel
theorem dX11_vote_27 : decode cX11_vote 27 = .ok (.iconst 2, 1) := by decide +kernel
theorem dX11_vote_28 : decode cX11_vote 28 = .ok (.invokestatic 113, 3) := by decide +kernel
theorem dX11_vote_31 : decode cX11_vote 31 = .ok (.ifCond .ne 5, 3) := by decide +kernel
theorem dX11_vote_34 : decode cX11_vote 34 = .ok (.iconst (-1), 1) := by decide +kernel
theorem dX11_vote_35 : decode cX11_vote 35 = .ok (.ireturn, 1) := by decide +kernel
theorem dX11_vote_36 : decode cX11_vote 36 = .ok (.aload_n 0, 1) := by decide +kernel
theorem dX11_vote_37 : decode cX11_vote 37 = .ok (.getfield 35, 3) := by decide +kernel
theorem dX11_vote_40 : decode cX11_vote 40 = .ok (.bipush 9, 2) := by decide +kernel
theorem dX11_vote_42 : decode cX11_vote 42 = .ok (.iconst 0, 1) := by decide +kernel
theorem dX11_vote_43 : decode cX11_vote 43 = .ok (.iconst 0, 1) := by decide +kernel
theorem dX11_vote_44 : decode cX11_vote 44 = .ok (.invokevirtual 121, 3) := by decide +kernel
theorem dX11_vote_47 : decode cX11_vote 47 = .ok (.istore 5, 2) := by decide +kernel
theorem dX11_vote_49 : decode cX11_vote 49 = .ok (.iload 5, 2) := by decide +kernel
theorem dX11_vote_51 : decode cX11_vote 51 = .ok (.iconst (-1), 1) := by decide +kernel
theorem dX11_vote_52 : decode cX11_vote 52 = .ok (.if_icmp .eq 36, 3) := by decide +kernel
theorem dX11_vote_55 : decode cX11_vote 55 = .ok (.aload_n 0, 1) := by decide +kernel
theorem dX11_vote_56 : decode cX11_vote 56 = .ok (.getfield 35, 3) := by decide +kernel
theorem dX11_vote_59 : decode cX11_vote 59 = .ok (.getfield 145, 3) := by decide +kernel
theorem dX11_vote_62 : decode cX11_vote 62 = .ok (.iload 5, 2) := by decide +kernel
theorem dX11_vote_64 : decode cX11_vote 64 = .ok (.iload_n 1, 1) := by decide +kernel
theorem dX11_vote_65 : decode cX11_vote 65 = .ok (.iastore, 1) := by decide +kernel
theorem dX11_vote_66 : decode cX11_vote 66 = .ok (.aload_n 0, 1) := by decide +kernel
theorem dX11_vote_67 : decode cX11_vote 67 = .ok (.getfield 35, 3) := by decide +kernel
theorem dX11_vote_70 : decode cX11_vote 70 = .ok (.getfield 125, 3) := by decide +kernel
theorem dX11_vote_73 : decode cX11_vote 73 = .ok (.iload 5, 2) := by decide +kernel
theorem dX11_vote_75 : decode cX11_vote 75 = .ok (.iload_n 2, 1) := by decide +kernel
theorem dX11_vote_76 : decode cX11_vote 76 = .ok (.iastore, 1) := by decide +kernel
theorem dX11_vote_77 : decode cX11_vote 77 = .ok (.aload_n 0, 1) := by decide +kernel
theorem dX11_vote_78 : decode cX11_vote 78 = .ok (.getfield 35, 3) := by decide +kernel
theorem dX11_vote_81 : decode cX11_vote 81 = .ok (.getfield 132, 3) := by decide +kernel
theorem dX11_vote_84 : decode cX11_vote 84 = .ok (.iload 5, 2) := by decide +kernel
theorem dX11_vote_86 : decode cX11_vote 86 = .ok (.iload_n 3, 1) := by decide +kernel
theorem dX11_vote_87 : decode cX11_vote 87 = .ok (.iastore, 1) := by decide +kernel
theorem dX11_vote_88 : decode cX11_vote 88 = .ok (.iload 5, 2) := by decide +kernel
theorem dX11_vote_90 : decode cX11_vote 90 = .ok (.ireturn, 1) := by decide +kernel
theorem dX11_rules_0 : decode cX11_rules 0 = .ok (.iload_n 1, 1) := by decide +kernel
theorem dX11_rules_1 : decode cX11_rules 1 = .ok (.bipush 100, 2) := by decide +kernel
theorem dX11_rules_3 : decode cX11_rules 3 = .ok (.invokestatic 113, 3) := by decide +kernel
theorem dX11_rules_6 : decode cX11_rules 6 = .ok (.ifCond .eq 14, 3) := by decide +kernel
theorem dX11_rules_9 : decode cX11_rules 9 = .ok (.aload_n 0, 1) := by decide +kernel
theorem dX11_rules_10 : decode cX11_rules 10 = .ok (.getfield 19, 3) := by decide +kernel
theorem dX11_rules_13 : decode cX11_rules 13 = .ok (.iload_n 1, 1) := by decide +kernel
theorem dX11_rules_14 : decode cX11_rules 14 = .ok (.invokevirtual 148, 3) := by decide +kernel
theorem dX11_rules_17 : decode cX11_rules 17 = .ok (.goto 4, 3) := by decide +kernel
theorem dX11_rules_20 : decode cX11_rules 20 = .ok (.iconst (-1), 1) := by decide +kernel
theorem dX11_rules_21 : decode cX11_rules 21 = .ok (.ireturn, 1) := by decide +kernel
theorem dX11_rule_0 : decode cX11_rule 0 = .ok (.iload_n 1, 1) := by decide +kernel
theorem dX11_rule_1 : decode cX11_rule 1 = .ok (.bipush 100, 2) := by decide +kernel
theorem dX11_rule_3 : decode cX11_rule 3 = .ok (.invokestatic 113, 3) := by decide +kernel
theorem dX11_rule_6 : decode cX11_rule 6 = .ok (.ifCond .ne 5, 3) := by decide +kernel
theorem dX11_rule_9 : decode cX11_rule 9 = .ok (.iconst (-1), 1) := by decide +kernel
theorem dX11_rule_10 : decode cX11_rule 10 = .ok (.ireturn, 1) := by decide +kernel
theorem dX11_rule_11 : decode cX11_rule 11 = .ok (.aload_n 0, 1) := by decide +kernel
theorem dX11_rule_12 : decode cX11_rule 12 = .ok (.getfield 19, 3) := by decide +kernel
theorem dX11_rule_15 : decode cX11_rule 15 = .ok (.iload_n 1, 1) := by decide +kernel
theorem dX11_rule_16 : decode cX11_rule 16 = .ok (.iload_n 2, 1) := by decide +kernel
theorem dX11_rule_17 : decode cX11_rule 17 = .ok (.invokevirtual 152, 3) := by decide +kernel
theorem dX11_rule_20 : decode cX11_rule 20 = .ok (.istore 4, 2) := by decide +kernel
theorem dX11_rule_22 : decode cX11_rule 22 = .ok (.iload 4, 2) := by decide +kernel
theorem dX11_rule_24 : decode cX11_rule 24 = .ok (.iconst (-1), 1) := by decide +kernel
theorem dX11_rule_25 : decode cX11_rule 25 = .ok (.if_icmp .ne 5, 3) := by decide +kernel
theorem dX11_rule_28 : decode cX11_rule 28 = .ok (.iconst (-1), 1) := by decide +kernel
theorem dX11_rule_29 : decode cX11_rule 29 = .ok (.ireturn, 1) := by decide +kernel
theorem dX11_rule_30 : decode cX11_rule 30 = .ok (.iload_n 3, 1) := by decide +kernel
theorem dX11_rule_31 : decode cX11_rule 31 = .ok (.tableswitch 58 0 2 #[25, 36, 47], 25) := by decide +kernel
theorem dX11_rule_56 : decode cX11_rule 56 = .ok (.aload_n 0, 1) := by decide +kernel
theorem dX11_rule_57 : decode cX11_rule 57 = .ok (.getfield 19, 3) := by decide +kernel
theorem dX11_rule_60 : decode cX11_rule 60 = .ok (.getfield 156, 3) := by decide +kernel
theorem dX11_rule_63 : decode cX11_rule 63 = .ok (.iload 4, 2) := by decide +kernel
theorem dX11_rule_65 : decode cX11_rule 65 = .ok (.iaload, 1) := by decide +kernel
theorem dX11_rule_66 : decode cX11_rule 66 = .ok (.ireturn, 1) := by decide +kernel
theorem dX11_rule_67 : decode cX11_rule 67 = .ok (.aload_n 0, 1) := by decide +kernel
theorem dX11_rule_68 : decode cX11_rule 68 = .ok (.getfield 19, 3) := by decide +kernel
theorem dX11_rule_71 : decode cX11_rule 71 = .ok (.getfield 159, 3) := by decide +kernel
theorem dX11_rule_74 : decode cX11_rule 74 = .ok (.iload 4, 2) := by decide +kernel
theorem dX11_rule_76 : decode cX11_rule 76 = .ok (.iaload, 1) := by decide +kernel
theorem dX11_rule_77 : decode cX11_rule 77 = .ok (.ireturn, 1) := by decide +kernel
theorem dX11_rule_78 : decode cX11_rule 78 = .ok (.aload_n 0, 1) := by decide +kernel
theorem dX11_rule_79 : decode cX11_rule 79 = .ok (.getfield 19, 3) := by decide +kernel
theorem dX11_rule_82 : decode cX11_rule 82 = .ok (.getfield 162, 3) := by decide +kernel
theorem dX11_rule_85 : decode cX11_rule 85 = .ok (.iload 4, 2) := by decide +kernel
theorem dX11_rule_87 : decode cX11_rule 87 = .ok (.iaload, 1) := by decide +kernel
theorem dX11_rule_88 : decode cX11_rule 88 = .ok (.ireturn, 1) := by decide +kernel
theorem dX11_rule_89 : decode cX11_rule 89 = .ok (.iconst (-1), 1) := by decide +kernel
theorem dX11_rule_90 : decode cX11_rule 90 = .ok (.ireturn, 1) := by decide +kernel
theorem dX11_who_0 : decode cX11_who 0 = .ok (.iload_n 1, 1) := by decide +kernel
theorem dX11_who_1 : decode cX11_who 1 = .ok (.bipush 10, 2) := by decide +kernel
theorem dX11_who_3 : decode cX11_who 3 = .ok (.invokestatic 113, 3) := by decide +kernel
theorem dX11_who_6 : decode cX11_who 6 = .ok (.ifCond .eq 20, 3) := by decide +kernel
theorem dX11_who_9 : decode cX11_who 9 = .ok (.iload_n 2, 1) := by decide +kernel
theorem dX11_who_10 : decode cX11_who 10 = .ok (.bipush 100, 2) := by decide +kernel
theorem dX11_who_12 : decode cX11_who 12 = .ok (.invokestatic 113, 3) := by decide +kernel
theorem dX11_who_15 : decode cX11_who 15 = .ok (.ifCond .eq 11, 3) := by decide +kernel
theorem dX11_who_18 : decode cX11_who 18 = .ok (.aload_n 0, 1) := by decide +kernel
theorem dX11_who_19 : decode cX11_who 19 = .ok (.iload_n 3, 1) := by decide +kernel
theorem dX11_who_20 : decode cX11_who 20 = .ok (.invokevirtual 165, 3) := by decide +kernel
theorem dX11_who_23 : decode cX11_who 23 = .ok (.ifCond .ne 5, 3) := by decide +kernel
theorem dX11_who_26 : decode cX11_who 26 = .ok (.iconst (-1), 1) := by decide +kernel
theorem dX11_who_27 : decode cX11_who 27 = .ok (.ireturn, 1) := by decide +kernel
theorem dX11_who_28 : decode cX11_who 28 = .ok (.aload_n 0, 1) := by decide +kernel
theorem dX11_who_29 : decode cX11_who 29 = .ok (.getfield 35, 3) := by decide +kernel
theorem dX11_who_32 : decode cX11_who 32 = .ok (.iload_n 1, 1) := by decide +kernel
theorem dX11_who_33 : decode cX11_who 33 = .ok (.iload_n 2, 1) := by decide +kernel
theorem dX11_who_34 : decode cX11_who 34 = .ok (.iload_n 3, 1) := by decide +kernel
theorem dX11_who_35 : decode cX11_who 35 = .ok (.invokevirtual 168, 3) := by decide +kernel
theorem dX11_who_38 : decode cX11_who 38 = .ok (.ireturn, 1) := by decide +kernel
theorem dX11_printed_0 : decode cX11_printed 0 = .ok (.aload_n 0, 1) := by decide +kernel
theorem dX11_printed_1 : decode cX11_printed 1 = .ok (.iload_n 3, 1) := by decide +kernel
theorem dX11_printed_2 : decode cX11_printed 2 = .ok (.invokevirtual 165, 3) := by decide +kernel
theorem dX11_printed_5 : decode cX11_printed 5 = .ok (.ifCond .eq 48, 3) := by decide +kernel
theorem dX11_printed_8 : decode cX11_printed 8 = .ok (.aload_n 0, 1) := by decide +kernel
theorem dX11_printed_9 : decode cX11_printed 9 = .ok (.getfield 35, 3) := by decide +kernel
theorem dX11_printed_12 : decode cX11_printed 12 = .ok (.iload_n 1, 1) := by decide +kernel
theorem dX11_printed_13 : decode cX11_printed 13 = .ok (.iconst 4, 1) := by decide +kernel
theorem dX11_printed_14 : decode cX11_printed 14 = .ok (.iload_n 3, 1) := by decide +kernel
theorem dX11_printed_15 : decode cX11_printed 15 = .ok (.invokevirtual 138, 3) := by decide +kernel
theorem dX11_printed_18 : decode cX11_printed 18 = .ok (.ifCond .eq 35, 3) := by decide +kernel
theorem dX11_printed_21 : decode cX11_printed 21 = .ok (.iload_n 2, 1) := by decide +kernel
theorem dX11_printed_22 : decode cX11_printed 22 = .ok (.bipush 100, 2) := by decide +kernel
theorem dX11_printed_24 : decode cX11_printed 24 = .ok (.invokestatic 113, 3) := by decide +kernel
theorem dX11_printed_27 : decode cX11_printed 27 = .ok (.ifCond .eq 26, 3) := by decide +kernel
theorem dX11_printed_30 : decode cX11_printed 30 = .ok (.iload_n 2, 1) := by decide +kernel
theorem dX11_printed_31 : decode cX11_printed 31 = .ok (.aload_n 0, 1) := by decide +kernel
theorem dX11_printed_32 : decode cX11_printed 32 = .ok (.getfield 35, 3) := by decide +kernel
theorem dX11_printed_35 : decode cX11_printed 35 = .ok (.getfield 142, 3) := by decide +kernel
theorem dX11_printed_38 : decode cX11_printed 38 = .ok (.iload_n 1, 1) := by decide +kernel
theorem dX11_printed_39 : decode cX11_printed 39 = .ok (.iaload, 1) := by decide +kernel
theorem dX11_printed_40 : decode cX11_printed 40 = .ok (.if_icmp .lt 13, 3) := by decide +kernel
theorem dX11_printed_43 : decode cX11_printed 43 = .ok (.iload 4, 2) := by decide +kernel
theorem dX11_printed_45 : decode cX11_printed 45 = .ok (.bipush 6, 2) := by decide +kernel
theorem dX11_printed_47 : decode cX11_printed 47 = .ok (.invokestatic 113, 3) := by decide +kernel
theorem dX11_printed_50 : decode cX11_printed 50 = .ok (.ifCond .ne 5, 3) := by decide +kernel
theorem dX11_printed_53 : decode cX11_printed 53 = .ok (.iconst (-1), 1) := by decide +kernel
theorem dX11_printed_54 : decode cX11_printed 54 = .ok (.ireturn, 1) := by decide +kernel
theorem dX11_printed_55 : decode cX11_printed 55 = .ok (.aload_n 0, 1) := by decide +kernel
theorem dX11_printed_56 : decode cX11_printed 56 = .ok (.getfield 44, 3) := by decide +kernel
theorem dX11_printed_59 : decode cX11_printed 59 = .ok (.iload_n 1, 1) := by decide +kernel
theorem dX11_printed_60 : decode cX11_printed 60 = .ok (.iload_n 2, 1) := by decide +kernel
theorem dX11_printed_61 : decode cX11_printed 61 = .ok (.iload_n 3, 1) := by decide +kernel
theorem dX11_printed_62 : decode cX11_printed 62 = .ok (.invokevirtual 171, 3) := by decide +kernel
theorem dX11_printed_65 : decode cX11_printed 65 = .ok (.iload 4, 2) := by decide +kernel
theorem dX11_printed_67 : decode cX11_printed 67 = .ok (.tableswitch 81 0 4 #[33, 41, 57, 65, 73], 33) := by decide +kernel
theorem dX11_printed_100 : decode cX11_printed 100 = .ok (.aload_n 0, 1) := by decide +kernel
theorem dX11_printed_101 : decode cX11_printed 101 = .ok (.getfield 44, 3) := by decide +kernel
theorem dX11_printed_104 : decode cX11_printed 104 = .ok (.getfield 174, 3) := by decide +kernel
theorem dX11_printed_107 : decode cX11_printed 107 = .ok (.ireturn, 1) := by decide +kernel
theorem dX11_printed_108 : decode cX11_printed 108 = .ok (.aload_n 0, 1) := by decide +kernel
theorem dX11_printed_109 : decode cX11_printed 109 = .ok (.getfield 44, 3) := by decide +kernel
theorem dX11_printed_112 : decode cX11_printed 112 = .ok (.getfield 177, 3) := by decide +kernel
theorem dX11_printed_115 : decode cX11_printed 115 = .ok (.ifCond .eq 7, 3) := by decide +kernel
theorem dX11_printed_118 : decode cX11_printed 118 = .ok (.iconst 1, 1) := by decide +kernel
theorem dX11_printed_119 : decode cX11_printed 119 = .ok (.goto 4, 3) := by decide +kernel
theorem dX11_printed_122 : decode cX11_printed 122 = .ok (.iconst 0, 1) := by decide +kernel
theorem dX11_printed_123 : decode cX11_printed 123 = .ok (.ireturn, 1) := by decide +kernel
theorem dX11_printed_124 : decode cX11_printed 124 = .ok (.aload_n 0, 1) := by decide +kernel
theorem dX11_printed_125 : decode cX11_printed 125 = .ok (.getfield 44, 3) := by decide +kernel
theorem dX11_printed_128 : decode cX11_printed 128 = .ok (.getfield 181, 3) := by decide +kernel
theorem dX11_printed_131 : decode cX11_printed 131 = .ok (.ireturn, 1) := by decide +kernel
theorem dX11_printed_132 : decode cX11_printed 132 = .ok (.aload_n 0, 1) := by decide +kernel
theorem dX11_printed_133 : decode cX11_printed 133 = .ok (.getfield 44, 3) := by decide +kernel
theorem dX11_printed_136 : decode cX11_printed 136 = .ok (.getfield 184, 3) := by decide +kernel
theorem dX11_printed_139 : decode cX11_printed 139 = .ok (.ireturn, 1) := by decide +kernel
theorem dX11_printed_140 : decode cX11_printed 140 = .ok (.aload_n 0, 1) := by decide +kernel
theorem dX11_printed_141 : decode cX11_printed 141 = .ok (.getfield 44, 3) := by decide +kernel
theorem dX11_printed_144 : decode cX11_printed 144 = .ok (.getfield 187, 3) := by decide +kernel
theorem dX11_printed_147 : decode cX11_printed 147 = .ok (.ireturn, 1) := by decide +kernel
theorem dX11_printed_148 : decode cX11_printed 148 = .ok (.aload_n 0, 1) := by decide +kernel
theorem dX11_printed_149 : decode cX11_printed 149 = .ok (.getfield 44, 3) := by decide +kernel
theorem dX11_printed_152 : decode cX11_printed 152 = .ok (.getfield 190, 3) := by decide +kernel
theorem dX11_printed_155 : decode cX11_printed 155 = .ok (.ireturn, 1) := by decide +kernel
theorem dX11_mended_0 : decode cX11_mended 0 = .ok (.aload_n 0, 1) := by decide +kernel
theorem dX11_mended_1 : decode cX11_mended 1 = .ok (.iload_n 2, 1) := by decide +kernel
theorem dX11_mended_2 : decode cX11_mended 2 = .ok (.invokevirtual 165, 3) := by decide +kernel
theorem dX11_mended_5 : decode cX11_mended 5 = .ok (.ifCond .eq 16, 3) := by decide +kernel
theorem dX11_mended_8 : decode cX11_mended 8 = .ok (.aload_n 0, 1) := by decide +kernel
theorem dX11_mended_9 : decode cX11_mended 9 = .ok (.getfield 35, 3) := by decide +kernel
theorem dX11_mended_12 : decode cX11_mended 12 = .ok (.iload_n 1, 1) := by decide +kernel
theorem dX11_mended_13 : decode cX11_mended 13 = .ok (.iconst 0, 1) := by decide +kernel
theorem dX11_mended_14 : decode cX11_mended 14 = .ok (.iload_n 2, 1) := by decide +kernel
theorem dX11_mended_15 : decode cX11_mended 15 = .ok (.invokevirtual 138, 3) := by decide +kernel
theorem dX11_mended_18 : decode cX11_mended 18 = .ok (.ifCond .ne 5, 3) := by decide +kernel
theorem dX11_mended_21 : decode cX11_mended 21 = .ok (.iconst (-1), 1) := by decide +kernel
theorem dX11_mended_22 : decode cX11_mended 22 = .ok (.ireturn, 1) := by decide +kernel
theorem dX11_mended_23 : decode cX11_mended 23 = .ok (.aload_n 0, 1) := by decide +kernel
theorem dX11_mended_24 : decode cX11_mended 24 = .ok (.getfield 44, 3) := by decide +kernel
theorem dX11_mended_27 : decode cX11_mended 27 = .ok (.iload_n 1, 1) := by decide +kernel
theorem dX11_mended_28 : decode cX11_mended 28 = .ok (.iload_n 2, 1) := by decide +kernel
theorem dX11_mended_29 : decode cX11_mended 29 = .ok (.invokevirtual 192, 3) := by decide +kernel
theorem dX11_mended_32 : decode cX11_mended 32 = .ok (.ireturn, 1) := by decide +kernel
theorem dX11_bar_0 : decode cX11_bar 0 = .ok (.aload_n 0, 1) := by decide +kernel
theorem dX11_bar_1 : decode cX11_bar 1 = .ok (.iload_n 2, 1) := by decide +kernel
theorem dX11_bar_2 : decode cX11_bar 2 = .ok (.invokevirtual 165, 3) := by decide +kernel
theorem dX11_bar_5 : decode cX11_bar 5 = .ok (.ifCond .eq 16, 3) := by decide +kernel
theorem dX11_bar_8 : decode cX11_bar 8 = .ok (.aload_n 0, 1) := by decide +kernel
theorem dX11_bar_9 : decode cX11_bar 9 = .ok (.getfield 35, 3) := by decide +kernel
theorem dX11_bar_12 : decode cX11_bar 12 = .ok (.iload_n 1, 1) := by decide +kernel
theorem dX11_bar_13 : decode cX11_bar 13 = .ok (.iconst 0, 1) := by decide +kernel
theorem dX11_bar_14 : decode cX11_bar 14 = .ok (.iload_n 2, 1) := by decide +kernel
theorem dX11_bar_15 : decode cX11_bar 15 = .ok (.invokevirtual 138, 3) := by decide +kernel
theorem dX11_bar_18 : decode cX11_bar 18 = .ok (.ifCond .ne 5, 3) := by decide +kernel
theorem dX11_bar_21 : decode cX11_bar 21 = .ok (.iconst (-1), 1) := by decide +kernel
theorem dX11_bar_22 : decode cX11_bar 22 = .ok (.ireturn, 1) := by decide +kernel
theorem dX11_bar_23 : decode cX11_bar 23 = .ok (.aload_n 0, 1) := by decide +kernel
theorem dX11_bar_24 : decode cX11_bar 24 = .ok (.getfield 44, 3) := by decide +kernel
theorem dX11_bar_27 : decode cX11_bar 27 = .ok (.iload_n 1, 1) := by decide +kernel
theorem dX11_bar_28 : decode cX11_bar 28 = .ok (.iload_n 2, 1) := by decide +kernel
theorem dX11_bar_29 : decode cX11_bar 29 = .ok (.invokevirtual 192, 3) := by decide +kernel
theorem dX11_bar_32 : decode cX11_bar 32 = .ok (.iconst 4, 1) := by decide +kernel
theorem dX11_bar_33 : decode cX11_bar 33 = .ok (.if_icmp .ne 13, 3) := by decide +kernel
theorem dX11_bar_36 : decode cX11_bar 36 = .ok (.aload_n 0, 1) := by decide +kernel
theorem dX11_bar_37 : decode cX11_bar 37 = .ok (.getfield 44, 3) := by decide +kernel
theorem dX11_bar_40 : decode cX11_bar 40 = .ok (.getfield 195, 3) := by decide +kernel
theorem dX11_bar_43 : decode cX11_bar 43 = .ok (.goto 4, 3) := by decide +kernel
theorem dX11_bar_46 : decode cX11_bar 46 = .ok (.iconst (-1), 1) := by decide +kernel
theorem dX11_bar_47 : decode cX11_bar 47 = .ok (.ireturn, 1) := by decide +kernel
theorem dX11_lines_0 : decode cX11_lines 0 = .ok (.aload_n 0, 1) := by decide +kernel
theorem dX11_lines_1 : decode cX11_lines 1 = .ok (.iload_n 1, 1) := by decide +kernel
theorem dX11_lines_2 : decode cX11_lines 2 = .ok (.iload_n 2, 1) := by decide +kernel
theorem dX11_lines_3 : decode cX11_lines 3 = .ok (.iload_n 3, 1) := by decide +kernel
theorem dX11_lines_4 : decode cX11_lines 4 = .ok (.invokevirtual 198, 3) := by decide +kernel
theorem dX11_lines_7 : decode cX11_lines 7 = .ok (.ifCond .ne 5, 3) := by decide +kernel
theorem dX11_lines_10 : decode cX11_lines 10 = .ok (.iconst (-1), 1) := by decide +kernel
theorem dX11_lines_11 : decode cX11_lines 11 = .ok (.ireturn, 1) := by decide +kernel
theorem dX11_lines_12 : decode cX11_lines 12 = .ok (.aload_n 0, 1) := by decide +kernel
theorem dX11_lines_13 : decode cX11_lines 13 = .ok (.getfield 62, 3) := by decide +kernel
theorem dX11_lines_16 : decode cX11_lines 16 = .ok (.iload_n 1, 1) := by decide +kernel
theorem dX11_lines_17 : decode cX11_lines 17 = .ok (.iload_n 2, 1) := by decide +kernel
theorem dX11_lines_18 : decode cX11_lines 18 = .ok (.iload_n 3, 1) := by decide +kernel
theorem dX11_lines_19 : decode cX11_lines 19 = .ok (.invokevirtual 201, 3) := by decide +kernel
theorem dX11_lines_22 : decode cX11_lines 22 = .ok (.aload_n 0, 1) := by decide +kernel
theorem dX11_lines_23 : decode cX11_lines 23 = .ok (.getfield 62, 3) := by decide +kernel
theorem dX11_lines_26 : decode cX11_lines 26 = .ok (.getfield 204, 3) := by decide +kernel
theorem dX11_lines_29 : decode cX11_lines 29 = .ok (.ireturn, 1) := by decide +kernel
theorem dX11_at_0 : decode cX11_at 0 = .ok (.aload_n 0, 1) := by decide +kernel
theorem dX11_at_1 : decode cX11_at 1 = .ok (.iload_n 1, 1) := by decide +kernel
theorem dX11_at_2 : decode cX11_at 2 = .ok (.iload_n 2, 1) := by decide +kernel
theorem dX11_at_3 : decode cX11_at 3 = .ok (.iload_n 3, 1) := by decide +kernel
theorem dX11_at_4 : decode cX11_at 4 = .ok (.invokevirtual 198, 3) := by decide +kernel
theorem dX11_at_7 : decode cX11_at 7 = .ok (.ifCond .ne 5, 3) := by decide +kernel
theorem dX11_at_10 : decode cX11_at 10 = .ok (.iconst (-1), 1) := by decide +kernel
theorem dX11_at_11 : decode cX11_at 11 = .ok (.ireturn, 1) := by decide +kernel
theorem dX11_at_12 : decode cX11_at 12 = .ok (.aload_n 0, 1) := by decide +kernel
theorem dX11_at_13 : decode cX11_at 13 = .ok (.getfield 62, 3) := by decide +kernel
theorem dX11_at_16 : decode cX11_at 16 = .ok (.iload_n 1, 1) := by decide +kernel
theorem dX11_at_17 : decode cX11_at 17 = .ok (.iload_n 2, 1) := by decide +kernel
theorem dX11_at_18 : decode cX11_at 18 = .ok (.iload_n 3, 1) := by decide +kernel
theorem dX11_at_19 : decode cX11_at 19 = .ok (.invokevirtual 201, 3) := by decide +kernel
theorem dX11_at_22 : decode cX11_at 22 = .ok (.aload_n 0, 1) := by decide +kernel
theorem dX11_at_23 : decode cX11_at 23 = .ok (.getfield 62, 3) := by decide +kernel
theorem dX11_at_26 : decode cX11_at 26 = .ok (.iload 4, 2) := by decide +kernel
theorem dX11_at_28 : decode cX11_at 28 = .ok (.invokevirtual 205, 3) := by decide +kernel
theorem dX11_at_31 : decode cX11_at 31 = .ok (.ireturn, 1) := by decide +kernel
theorem dX11_court_0 : decode cX11_court 0 = .ok (.aload_n 0, 1) := by decide +kernel
theorem dX11_court_1 : decode cX11_court 1 = .ok (.iload_n 2, 1) := by decide +kernel
theorem dX11_court_2 : decode cX11_court 2 = .ok (.invokevirtual 165, 3) := by decide +kernel
theorem dX11_court_5 : decode cX11_court 5 = .ok (.ifCond .eq 24, 3) := by decide +kernel
theorem dX11_court_8 : decode cX11_court 8 = .ok (.aload_n 0, 1) := by decide +kernel
theorem dX11_court_9 : decode cX11_court 9 = .ok (.getfield 35, 3) := by decide +kernel
theorem dX11_court_12 : decode cX11_court 12 = .ok (.iload_n 1, 1) := by decide +kernel
theorem dX11_court_13 : decode cX11_court 13 = .ok (.iconst 3, 1) := by decide +kernel
theorem dX11_court_14 : decode cX11_court 14 = .ok (.iload_n 2, 1) := by decide +kernel
theorem dX11_court_15 : decode cX11_court 15 = .ok (.invokevirtual 138, 3) := by decide +kernel
theorem dX11_court_18 : decode cX11_court 18 = .ok (.ifCond .eq 11, 3) := by decide +kernel
theorem dX11_court_21 : decode cX11_court 21 = .ok (.iload_n 3, 1) := by decide +kernel
theorem dX11_court_22 : decode cX11_court 22 = .ok (.iconst 3, 1) := by decide +kernel
theorem dX11_court_23 : decode cX11_court 23 = .ok (.invokestatic 113, 3) := by decide +kernel
theorem dX11_court_26 : decode cX11_court 26 = .ok (.ifCond .ne 5, 3) := by decide +kernel
theorem dX11_court_29 : decode cX11_court 29 = .ok (.iconst (-1), 1) := by decide +kernel
theorem dX11_court_30 : decode cX11_court 30 = .ok (.ireturn, 1) := by decide +kernel
theorem dX11_court_31 : decode cX11_court 31 = .ok (.aload_n 0, 1) := by decide +kernel
theorem dX11_court_32 : decode cX11_court 32 = .ok (.getfield 44, 3) := by decide +kernel
theorem dX11_court_35 : decode cX11_court 35 = .ok (.aload_n 0, 1) := by decide +kernel
theorem dX11_court_36 : decode cX11_court 36 = .ok (.getfield 35, 3) := by decide +kernel
theorem dX11_court_39 : decode cX11_court 39 = .ok (.getfield 145, 3) := by decide +kernel
theorem dX11_court_42 : decode cX11_court 42 = .ok (.iload_n 1, 1) := by decide +kernel
theorem dX11_court_43 : decode cX11_court 43 = .ok (.iaload, 1) := by decide +kernel
theorem dX11_court_44 : decode cX11_court 44 = .ok (.aload_n 0, 1) := by decide +kernel
theorem dX11_court_45 : decode cX11_court 45 = .ok (.getfield 35, 3) := by decide +kernel
theorem dX11_court_48 : decode cX11_court 48 = .ok (.getfield 142, 3) := by decide +kernel
theorem dX11_court_51 : decode cX11_court 51 = .ok (.iload_n 1, 1) := by decide +kernel
theorem dX11_court_52 : decode cX11_court 52 = .ok (.iaload, 1) := by decide +kernel
theorem dX11_court_53 : decode cX11_court 53 = .ok (.iload_n 3, 1) := by decide +kernel
theorem dX11_court_54 : decode cX11_court 54 = .ok (.iconst 2, 1) := by decide +kernel
theorem dX11_court_55 : decode cX11_court 55 = .ok (.if_icmp .ne 7, 3) := by decide +kernel
theorem dX11_court_58 : decode cX11_court 58 = .ok (.iload_n 2, 1) := by decide +kernel
theorem dX11_court_59 : decode cX11_court 59 = .ok (.goto 4, 3) := by decide +kernel
theorem dX11_court_62 : decode cX11_court 62 = .ok (.iload_n 1, 1) := by decide +kernel
theorem dX11_court_63 : decode cX11_court 63 = .ok (.invokevirtual 171, 3) := by decide +kernel
theorem dX11_court_66 : decode cX11_court 66 = .ok (.iload_n 3, 1) := by decide +kernel
theorem dX11_court_67 : decode cX11_court 67 = .ok (.iconst 1, 1) := by decide +kernel
theorem dX11_court_68 : decode cX11_court 68 = .ok (.if_icmp .ne 20, 3) := by decide +kernel
theorem dX11_court_71 : decode cX11_court 71 = .ok (.aload_n 0, 1) := by decide +kernel
theorem dX11_court_72 : decode cX11_court 72 = .ok (.getfield 44, 3) := by decide +kernel
theorem dX11_court_75 : decode cX11_court 75 = .ok (.aload_n 0, 1) := by decide +kernel
theorem dX11_court_76 : decode cX11_court 76 = .ok (.getfield 35, 3) := by decide +kernel
theorem dX11_court_79 : decode cX11_court 79 = .ok (.getfield 142, 3) := by decide +kernel
theorem dX11_court_82 : decode cX11_court 82 = .ok (.iload_n 1, 1) := by decide +kernel
theorem dX11_court_83 : decode cX11_court 83 = .ok (.iaload, 1) := by decide +kernel
theorem dX11_court_84 : decode cX11_court 84 = .ok (.invokevirtual 208, 3) := by decide +kernel
theorem dX11_court_87 : decode cX11_court 87 = .ok (.ireturn, 1) := by decide +kernel
theorem dX11_court_88 : decode cX11_court 88 = .ok (.aload_n 0, 1) := by decide +kernel
theorem dX11_court_89 : decode cX11_court 89 = .ok (.getfield 44, 3) := by decide +kernel
theorem dX11_court_92 : decode cX11_court 92 = .ok (.getfield 177, 3) := by decide +kernel
theorem dX11_court_95 : decode cX11_court 95 = .ok (.ifCond .eq 7, 3) := by decide +kernel
theorem dX11_court_98 : decode cX11_court 98 = .ok (.iconst 0, 1) := by decide +kernel
theorem dX11_court_99 : decode cX11_court 99 = .ok (.goto 10, 3) := by decide +kernel
theorem dX11_court_102 : decode cX11_court 102 = .ok (.aload_n 0, 1) := by decide +kernel
theorem dX11_court_103 : decode cX11_court 103 = .ok (.getfield 44, 3) := by decide +kernel
theorem dX11_court_106 : decode cX11_court 106 = .ok (.getfield 174, 3) := by decide +kernel
theorem dX11_court_109 : decode cX11_court 109 = .ok (.ireturn, 1) := by decide +kernel
theorem dX11_take_0 : decode cX11_take 0 = .ok (.iload_n 1, 1) := by decide +kernel
theorem dX11_take_1 : decode cX11_take 1 = .ok (.iconst 2, 1) := by decide +kernel
theorem dX11_take_2 : decode cX11_take 2 = .ok (.if_icmp .ne 7, 3) := by decide +kernel
theorem dX11_take_5 : decode cX11_take 5 = .ok (.iconst 0, 1) := by decide +kernel
theorem dX11_take_6 : decode cX11_take 6 = .ok (.goto 4, 3) := by decide +kernel
theorem dX11_take_9 : decode cX11_take 9 = .ok (.iconst 1, 1) := by decide +kernel
theorem dX11_take_10 : decode cX11_take 10 = .ok (.istore_n 3, 1) := by decide +kernel
theorem dX11_take_11 : decode cX11_take 11 = .ok (.iload_n 1, 1) := by decide +kernel
theorem dX11_take_12 : decode cX11_take 12 = .ok (.iconst 3, 1) := by decide +kernel
theorem dX11_take_13 : decode cX11_take 13 = .ok (.invokestatic 113, 3) := by decide +kernel
theorem dX11_take_16 : decode cX11_take 16 = .ok (.ifCond .eq 15, 3) := by decide +kernel
theorem dX11_take_19 : decode cX11_take 19 = .ok (.iload_n 2, 1) := by decide +kernel
theorem dX11_take_20 : decode cX11_take 20 = .ok (.iload_n 3, 1) := by decide +kernel
theorem dX11_take_21 : decode cX11_take 21 = .ok (.if_icmp .lt 10, 3) := by decide +kernel
theorem dX11_take_24 : decode cX11_take 24 = .ok (.iload_n 2, 1) := by decide +kernel
theorem dX11_take_25 : decode cX11_take 25 = .ok (.sipush 1000, 3) := by decide +kernel
theorem dX11_take_28 : decode cX11_take 28 = .ok (.if_icmp .lt 5, 3) := by decide +kernel
theorem dX11_take_31 : decode cX11_take 31 = .ok (.iconst (-1), 1) := by decide +kernel
theorem dX11_take_32 : decode cX11_take 32 = .ok (.ireturn, 1) := by decide +kernel
theorem dX11_take_33 : decode cX11_take 33 = .ok (.aload_n 0, 1) := by decide +kernel
theorem dX11_take_34 : decode cX11_take 34 = .ok (.getfield 69, 3) := by decide +kernel
theorem dX11_take_37 : decode cX11_take 37 = .ok (.iload_n 1, 1) := by decide +kernel
theorem dX11_take_38 : decode cX11_take 38 = .ok (.iload_n 2, 1) := by decide +kernel
theorem dX11_take_39 : decode cX11_take 39 = .ok (.invokevirtual 211, 3) := by decide +kernel
theorem dX11_take_42 : decode cX11_take 42 = .ok (.ireturn, 1) := by decide +kernel
theorem dX11_clear_0 : decode cX11_clear 0 = .ok (.aload_n 0, 1) := by decide +kernel
theorem dX11_clear_1 : decode cX11_clear 1 = .ok (.getfield 69, 3) := by decide +kernel
theorem dX11_clear_4 : decode cX11_clear 4 = .ok (.invokevirtual 213, 3) := by decide +kernel
theorem dX11_clear_7 : decode cX11_clear 7 = .ok (.return_, 1) := by decide +kernel
theorem dX11_join_0 : decode cX11_join 0 = .ok (.aload_n 0, 1) := by decide +kernel
theorem dX11_join_1 : decode cX11_join 1 = .ok (.getfield 69, 3) := by decide +kernel
theorem dX11_join_4 : decode cX11_join 4 = .ok (.invokevirtual 216, 3) := by decide +kernel
theorem dX11_join_7 : decode cX11_join 7 = .ok (.ireturn, 1) := by decide +kernel
theorem dX11_joined_0 : decode cX11_joined 0 = .ok (.aload_n 0, 1) := by decide +kernel
theorem dX11_joined_1 : decode cX11_joined 1 = .ok (.getfield 69, 3) := by decide +kernel
theorem dX11_joined_4 : decode cX11_joined 4 = .ok (.iload_n 1, 1) := by decide +kernel
theorem dX11_joined_5 : decode cX11_joined 5 = .ok (.invokevirtual 220, 3) := by decide +kernel
theorem dX11_joined_8 : decode cX11_joined 8 = .ok (.ireturn, 1) := by decide +kernel
theorem dX11_apart_0 : decode cX11_apart 0 = .ok (.iload_n 1, 1) := by decide +kernel
theorem dX11_apart_1 : decode cX11_apart 1 = .ok (.iconst 3, 1) := by decide +kernel
theorem dX11_apart_2 : decode cX11_apart 2 = .ok (.invokestatic 113, 3) := by decide +kernel
theorem dX11_apart_5 : decode cX11_apart 5 = .ok (.ifCond .eq 11, 3) := by decide +kernel
theorem dX11_apart_8 : decode cX11_apart 8 = .ok (.iload_n 2, 1) := by decide +kernel
theorem dX11_apart_9 : decode cX11_apart 9 = .ok (.iconst 3, 1) := by decide +kernel
theorem dX11_apart_10 : decode cX11_apart 10 = .ok (.invokestatic 113, 3) := by decide +kernel
theorem dX11_apart_13 : decode cX11_apart 13 = .ok (.ifCond .ne 5, 3) := by decide +kernel
theorem dX11_apart_16 : decode cX11_apart 16 = .ok (.iconst (-1), 1) := by decide +kernel
theorem dX11_apart_17 : decode cX11_apart 17 = .ok (.ireturn, 1) := by decide +kernel
theorem dX11_apart_18 : decode cX11_apart 18 = .ok (.aload_n 0, 1) := by decide +kernel
theorem dX11_apart_19 : decode cX11_apart 19 = .ok (.getfield 69, 3) := by decide +kernel
theorem dX11_apart_22 : decode cX11_apart 22 = .ok (.iload_n 1, 1) := by decide +kernel
theorem dX11_apart_23 : decode cX11_apart 23 = .ok (.iload_n 2, 1) := by decide +kernel
theorem dX11_apart_24 : decode cX11_apart 24 = .ok (.invokevirtual 223, 3) := by decide +kernel
theorem dX11_apart_27 : decode cX11_apart 27 = .ok (.ireturn, 1) := by decide +kernel
theorem dX11_sum_0 : decode cX11_sum 0 = .ok (.iload_n 1, 1) := by decide +kernel
theorem dX11_sum_1 : decode cX11_sum 1 = .ok (.iconst 4, 1) := by decide +kernel
theorem dX11_sum_2 : decode cX11_sum 2 = .ok (.invokestatic 113, 3) := by decide +kernel
theorem dX11_sum_5 : decode cX11_sum 5 = .ok (.ifCond .eq 19, 3) := by decide +kernel
theorem dX11_sum_8 : decode cX11_sum 8 = .ok (.iload_n 2, 1) := by decide +kernel
theorem dX11_sum_9 : decode cX11_sum 9 = .ok (.iconst 2, 1) := by decide +kernel
theorem dX11_sum_10 : decode cX11_sum 10 = .ok (.invokestatic 113, 3) := by decide +kernel
theorem dX11_sum_13 : decode cX11_sum 13 = .ok (.ifCond .eq 11, 3) := by decide +kernel
theorem dX11_sum_16 : decode cX11_sum 16 = .ok (.aload_n 0, 1) := by decide +kernel
theorem dX11_sum_17 : decode cX11_sum 17 = .ok (.iload_n 3, 1) := by decide +kernel
theorem dX11_sum_18 : decode cX11_sum 18 = .ok (.invokevirtual 165, 3) := by decide +kernel
theorem dX11_sum_21 : decode cX11_sum 21 = .ok (.ifCond .ne 5, 3) := by decide +kernel
theorem dX11_sum_24 : decode cX11_sum 24 = .ok (.iconst (-1), 1) := by decide +kernel
theorem dX11_sum_25 : decode cX11_sum 25 = .ok (.ireturn, 1) := by decide +kernel
theorem dX11_sum_26 : decode cX11_sum 26 = .ok (.aload_n 0, 1) := by decide +kernel
theorem dX11_sum_27 : decode cX11_sum 27 = .ok (.getfield 35, 3) := by decide +kernel
theorem dX11_sum_30 : decode cX11_sum 30 = .ok (.iload_n 1, 1) := by decide +kernel
theorem dX11_sum_31 : decode cX11_sum 31 = .ok (.iload_n 2, 1) := by decide +kernel
theorem dX11_sum_32 : decode cX11_sum 32 = .ok (.iload_n 3, 1) := by decide +kernel
theorem dX11_sum_33 : decode cX11_sum 33 = .ok (.invokevirtual 226, 3) := by decide +kernel
theorem dX11_sum_36 : decode cX11_sum 36 = .ok (.istore 4, 2) := by decide +kernel
theorem dX11_sum_38 : decode cX11_sum 38 = .ok (.aload_n 0, 1) := by decide +kernel
theorem dX11_sum_39 : decode cX11_sum 39 = .ok (.getfield 35, 3) := by decide +kernel
theorem dX11_sum_42 : decode cX11_sum 42 = .ok (.iload_n 1, 1) := by decide +kernel
theorem dX11_sum_43 : decode cX11_sum 43 = .ok (.iconst 1, 1) := by decide +kernel
theorem dX11_sum_44 : decode cX11_sum 44 = .ok (.iload_n 2, 1) := by decide +kernel
theorem dX11_sum_45 : decode cX11_sum 45 = .ok (.isub, 1) := by decide +kernel
theorem dX11_sum_46 : decode cX11_sum 46 = .ok (.iload_n 3, 1) := by decide +kernel
theorem dX11_sum_47 : decode cX11_sum 47 = .ok (.invokevirtual 226, 3) := by decide +kernel
theorem dX11_sum_50 : decode cX11_sum 50 = .ok (.istore 5, 2) := by decide +kernel
theorem dX11_sum_52 : decode cX11_sum 52 = .ok (.iload 4, 2) := by decide +kernel
theorem dX11_sum_54 : decode cX11_sum 54 = .ok (.iload 5, 2) := by decide +kernel
theorem dX11_sum_56 : decode cX11_sum 56 = .ok (.iconst (-1), 1) := by decide +kernel
theorem dX11_sum_57 : decode cX11_sum 57 = .ok (.ixor, 1) := by decide +kernel
theorem dX11_sum_58 : decode cX11_sum 58 = .ok (.iand, 1) := by decide +kernel
theorem dX11_sum_59 : decode cX11_sum 59 = .ok (.invokestatic 229, 3) := by decide +kernel
theorem dX11_sum_62 : decode cX11_sum 62 = .ok (.ireturn, 1) := by decide +kernel
theorem dX11_doubles_0 : decode cX11_doubles 0 = .ok (.iload_n 1, 1) := by decide +kernel
theorem dX11_doubles_1 : decode cX11_doubles 1 = .ok (.iconst 4, 1) := by decide +kernel
theorem dX11_doubles_2 : decode cX11_doubles 2 = .ok (.invokestatic 113, 3) := by decide +kernel
theorem dX11_doubles_5 : decode cX11_doubles 5 = .ok (.ifCond .eq 11, 3) := by decide +kernel
theorem dX11_doubles_8 : decode cX11_doubles 8 = .ok (.aload_n 0, 1) := by decide +kernel
theorem dX11_doubles_9 : decode cX11_doubles 9 = .ok (.iload_n 2, 1) := by decide +kernel
theorem dX11_doubles_10 : decode cX11_doubles 10 = .ok (.invokevirtual 165, 3) := by decide +kernel
theorem dX11_doubles_13 : decode cX11_doubles 13 = .ok (.ifCond .ne 5, 3) := by decide +kernel
theorem dX11_doubles_16 : decode cX11_doubles 16 = .ok (.iconst (-1), 1) := by decide +kernel
theorem dX11_doubles_17 : decode cX11_doubles 17 = .ok (.ireturn, 1) := by decide +kernel
theorem dX11_doubles_18 : decode cX11_doubles 18 = .ok (.aload_n 0, 1) := by decide +kernel
theorem dX11_doubles_19 : decode cX11_doubles 19 = .ok (.getfield 35, 3) := by decide +kernel
theorem dX11_doubles_22 : decode cX11_doubles 22 = .ok (.iload_n 1, 1) := by decide +kernel
theorem dX11_doubles_23 : decode cX11_doubles 23 = .ok (.iconst 0, 1) := by decide +kernel
theorem dX11_doubles_24 : decode cX11_doubles 24 = .ok (.iload_n 2, 1) := by decide +kernel
theorem dX11_doubles_25 : decode cX11_doubles 25 = .ok (.invokevirtual 226, 3) := by decide +kernel
theorem dX11_doubles_28 : decode cX11_doubles 28 = .ok (.aload_n 0, 1) := by decide +kernel
theorem dX11_doubles_29 : decode cX11_doubles 29 = .ok (.getfield 35, 3) := by decide +kernel
theorem dX11_doubles_32 : decode cX11_doubles 32 = .ok (.iload_n 1, 1) := by decide +kernel
theorem dX11_doubles_33 : decode cX11_doubles 33 = .ok (.iconst 1, 1) := by decide +kernel
theorem dX11_doubles_34 : decode cX11_doubles 34 = .ok (.iload_n 2, 1) := by decide +kernel
theorem dX11_doubles_35 : decode cX11_doubles 35 = .ok (.invokevirtual 226, 3) := by decide +kernel
theorem dX11_doubles_38 : decode cX11_doubles 38 = .ok (.iand, 1) := by decide +kernel
theorem dX11_doubles_39 : decode cX11_doubles 39 = .ok (.ireturn, 1) := by decide +kernel
theorem dX11_moved_0 : decode cX11_moved 0 = .ok (.iload_n 1, 1) := by decide +kernel
theorem dX11_moved_1 : decode cX11_moved 1 = .ok (.iconst 4, 1) := by decide +kernel
theorem dX11_moved_2 : decode cX11_moved 2 = .ok (.invokestatic 113, 3) := by decide +kernel
theorem dX11_moved_5 : decode cX11_moved 5 = .ok (.ifCond .eq 11, 3) := by decide +kernel
theorem dX11_moved_8 : decode cX11_moved 8 = .ok (.aload_n 0, 1) := by decide +kernel
theorem dX11_moved_9 : decode cX11_moved 9 = .ok (.iload_n 2, 1) := by decide +kernel
theorem dX11_moved_10 : decode cX11_moved 10 = .ok (.invokevirtual 165, 3) := by decide +kernel
theorem dX11_moved_13 : decode cX11_moved 13 = .ok (.ifCond .ne 5, 3) := by decide +kernel
theorem dX11_moved_16 : decode cX11_moved 16 = .ok (.iconst (-1), 1) := by decide +kernel
theorem dX11_moved_17 : decode cX11_moved 17 = .ok (.ireturn, 1) := by decide +kernel
theorem dX11_moved_18 : decode cX11_moved 18 = .ok (.aload_n 0, 1) := by decide +kernel
theorem dX11_moved_19 : decode cX11_moved 19 = .ok (.getfield 35, 3) := by decide +kernel
theorem dX11_moved_22 : decode cX11_moved 22 = .ok (.iload_n 1, 1) := by decide +kernel
theorem dX11_moved_23 : decode cX11_moved 23 = .ok (.iload_n 2, 1) := by decide +kernel
theorem dX11_moved_24 : decode cX11_moved 24 = .ok (.invokevirtual 234, 3) := by decide +kernel
theorem dX11_moved_27 : decode cX11_moved 27 = .ok (.ireturn, 1) := by decide +kernel
theorem dX11_reporter_0 : decode cX11_reporter 0 = .ok (.iload_n 1, 1) := by decide +kernel
theorem dX11_reporter_1 : decode cX11_reporter 1 = .ok (.iconst 4, 1) := by decide +kernel
theorem dX11_reporter_2 : decode cX11_reporter 2 = .ok (.invokestatic 113, 3) := by decide +kernel
theorem dX11_reporter_5 : decode cX11_reporter 5 = .ok (.ifCond .eq 24, 3) := by decide +kernel
theorem dX11_reporter_8 : decode cX11_reporter 8 = .ok (.iload_n 2, 1) := by decide +kernel
theorem dX11_reporter_9 : decode cX11_reporter 9 = .ok (.iconst 1, 1) := by decide +kernel
theorem dX11_reporter_10 : decode cX11_reporter 10 = .ok (.if_icmp .lt 19, 3) := by decide +kernel
theorem dX11_reporter_13 : decode cX11_reporter 13 = .ok (.iload_n 2, 1) := by decide +kernel
theorem dX11_reporter_14 : decode cX11_reporter 14 = .ok (.bipush 6, 2) := by decide +kernel
theorem dX11_reporter_16 : decode cX11_reporter 16 = .ok (.if_icmp .gt 13, 3) := by decide +kernel
theorem dX11_reporter_19 : decode cX11_reporter 19 = .ok (.iload_n 3, 1) := by decide +kernel
theorem dX11_reporter_20 : decode cX11_reporter 20 = .ok (.sipush 256, 3) := by decide +kernel
theorem dX11_reporter_23 : decode cX11_reporter 23 = .ok (.invokestatic 113, 3) := by decide +kernel
theorem dX11_reporter_26 : decode cX11_reporter 26 = .ok (.ifCond .ne 5, 3) := by decide +kernel
theorem dX11_reporter_29 : decode cX11_reporter 29 = .ok (.iconst 0, 1) := by decide +kernel
theorem dX11_reporter_30 : decode cX11_reporter 30 = .ok (.ireturn, 1) := by decide +kernel
theorem dX11_reporter_31 : decode cX11_reporter 31 = .ok (.aload_n 0, 1) := by decide +kernel
theorem dX11_reporter_32 : decode cX11_reporter 32 = .ok (.getfield 76, 3) := by decide +kernel
theorem dX11_reporter_35 : decode cX11_reporter 35 = .ok (.iload_n 1, 1) := by decide +kernel
theorem dX11_reporter_36 : decode cX11_reporter 36 = .ok (.iload_n 2, 1) := by decide +kernel
theorem dX11_reporter_37 : decode cX11_reporter 37 = .ok (.iload_n 3, 1) := by decide +kernel
theorem dX11_reporter_38 : decode cX11_reporter 38 = .ok (.invokevirtual 237, 3) := by decide +kernel
theorem dX11_reporter_41 : decode cX11_reporter 41 = .ok (.iconst 1, 1) := by decide +kernel
theorem dX11_reporter_42 : decode cX11_reporter 42 = .ok (.ireturn, 1) := by decide +kernel
theorem dX11_roster_0 : decode cX11_roster 0 = .ok (.iload_n 1, 1) := by decide +kernel
theorem dX11_roster_1 : decode cX11_roster 1 = .ok (.iconst 1, 1) := by decide +kernel
theorem dX11_roster_2 : decode cX11_roster 2 = .ok (.if_icmp .lt 19, 3) := by decide +kernel
theorem dX11_roster_5 : decode cX11_roster 5 = .ok (.iload_n 1, 1) := by decide +kernel
theorem dX11_roster_6 : decode cX11_roster 6 = .ok (.bipush 8, 2) := by decide +kernel
theorem dX11_roster_8 : decode cX11_roster 8 = .ok (.if_icmp .gt 13, 3) := by decide +kernel
theorem dX11_roster_11 : decode cX11_roster 11 = .ok (.iload_n 2, 1) := by decide +kernel
theorem dX11_roster_12 : decode cX11_roster 12 = .ok (.iconst 1, 1) := by decide +kernel
theorem dX11_roster_13 : decode cX11_roster 13 = .ok (.if_icmp .lt 8, 3) := by decide +kernel
theorem dX11_roster_16 : decode cX11_roster 16 = .ok (.iload_n 2, 1) := by decide +kernel
theorem dX11_roster_17 : decode cX11_roster 17 = .ok (.iconst 4, 1) := by decide +kernel
theorem dX11_roster_18 : decode cX11_roster 18 = .ok (.if_icmp .le 6, 3) := by decide +kernel
theorem dX11_roster_21 : decode cX11_roster 21 = .ok (.bipush (-100), 2) := by decide +kernel
theorem dX11_roster_23 : decode cX11_roster 23 = .ok (.ireturn, 1) := by decide +kernel
theorem dX11_roster_24 : decode cX11_roster 24 = .ok (.aload_n 0, 1) := by decide +kernel
theorem dX11_roster_25 : decode cX11_roster 25 = .ok (.getfield 76, 3) := by decide +kernel
theorem dX11_roster_28 : decode cX11_roster 28 = .ok (.iload_n 1, 1) := by decide +kernel
theorem dX11_roster_29 : decode cX11_roster 29 = .ok (.iload_n 2, 1) := by decide +kernel
theorem dX11_roster_30 : decode cX11_roster 30 = .ok (.invokevirtual 240, 3) := by decide +kernel
theorem dX11_roster_33 : decode cX11_roster 33 = .ok (.ireturn, 1) := by decide +kernel
theorem dX11_turn_0 : decode cX11_turn 0 = .ok (.aload_n 0, 1) := by decide +kernel
theorem dX11_turn_1 : decode cX11_turn 1 = .ok (.getfield 76, 3) := by decide +kernel
theorem dX11_turn_4 : decode cX11_turn 4 = .ok (.iload_n 1, 1) := by decide +kernel
theorem dX11_turn_5 : decode cX11_turn 5 = .ok (.invokevirtual 243, 3) := by decide +kernel
theorem dX11_turn_8 : decode cX11_turn 8 = .ok (.ireturn, 1) := by decide +kernel
theorem dX11_names_0 : decode cX11_names 0 = .ok (.iload_n 1, 1) := by decide +kernel
theorem dX11_names_1 : decode cX11_names 1 = .ok (.invokestatic 105, 3) := by decide +kernel
theorem dX11_names_4 : decode cX11_names 4 = .ok (.ifCond .eq 20, 3) := by decide +kernel
theorem dX11_names_7 : decode cX11_names 7 = .ok (.iload_n 2, 1) := by decide +kernel
theorem dX11_names_8 : decode cX11_names 8 = .ok (.bipush 100, 2) := by decide +kernel
theorem dX11_names_10 : decode cX11_names 10 = .ok (.invokestatic 113, 3) := by decide +kernel
theorem dX11_names_13 : decode cX11_names 13 = .ok (.ifCond .eq 11, 3) := by decide +kernel
theorem dX11_names_16 : decode cX11_names 16 = .ok (.aload_n 0, 1) := by decide +kernel
theorem dX11_names_17 : decode cX11_names 17 = .ok (.iload_n 3, 1) := by decide +kernel
theorem dX11_names_18 : decode cX11_names 18 = .ok (.invokevirtual 165, 3) := by decide +kernel
theorem dX11_names_21 : decode cX11_names 21 = .ok (.ifCond .ne 5, 3) := by decide +kernel
theorem dX11_names_24 : decode cX11_names 24 = .ok (.iconst (-1), 1) := by decide +kernel
theorem dX11_names_25 : decode cX11_names 25 = .ok (.ireturn, 1) := by decide +kernel
theorem dX11_names_26 : decode cX11_names 26 = .ok (.aload_n 0, 1) := by decide +kernel
theorem dX11_names_27 : decode cX11_names 27 = .ok (.getfield 62, 3) := by decide +kernel
theorem dX11_names_30 : decode cX11_names 30 = .ok (.iload_n 1, 1) := by decide +kernel
theorem dX11_names_31 : decode cX11_names 31 = .ok (.iload_n 2, 1) := by decide +kernel
theorem dX11_names_32 : decode cX11_names 32 = .ok (.iload_n 3, 1) := by decide +kernel
theorem dX11_names_33 : decode cX11_names 33 = .ok (.invokevirtual 246, 3) := by decide +kernel
theorem dX11_names_36 : decode cX11_names 36 = .ok (.aload_n 0, 1) := by decide +kernel
theorem dX11_names_37 : decode cX11_names 37 = .ok (.getfield 62, 3) := by decide +kernel
theorem dX11_names_40 : decode cX11_names 40 = .ok (.getfield 204, 3) := by decide +kernel
theorem dX11_names_43 : decode cX11_names 43 = .ok (.ireturn, 1) := by decide +kernel
theorem dX11_found_0 : decode cX11_found 0 = .ok (.iload_n 1, 1) := by decide +kernel
theorem dX11_found_1 : decode cX11_found 1 = .ok (.invokestatic 105, 3) := by decide +kernel
theorem dX11_found_4 : decode cX11_found 4 = .ok (.ifCond .eq 20, 3) := by decide +kernel
theorem dX11_found_7 : decode cX11_found 7 = .ok (.iload_n 2, 1) := by decide +kernel
theorem dX11_found_8 : decode cX11_found 8 = .ok (.bipush 100, 2) := by decide +kernel
theorem dX11_found_10 : decode cX11_found 10 = .ok (.invokestatic 113, 3) := by decide +kernel
theorem dX11_found_13 : decode cX11_found 13 = .ok (.ifCond .eq 11, 3) := by decide +kernel
theorem dX11_found_16 : decode cX11_found 16 = .ok (.aload_n 0, 1) := by decide +kernel
theorem dX11_found_17 : decode cX11_found 17 = .ok (.iload_n 3, 1) := by decide +kernel
theorem dX11_found_18 : decode cX11_found 18 = .ok (.invokevirtual 165, 3) := by decide +kernel
theorem dX11_found_21 : decode cX11_found 21 = .ok (.ifCond .ne 5, 3) := by decide +kernel
theorem dX11_found_24 : decode cX11_found 24 = .ok (.iconst (-1), 1) := by decide +kernel
theorem dX11_found_25 : decode cX11_found 25 = .ok (.ireturn, 1) := by decide +kernel
theorem dX11_found_26 : decode cX11_found 26 = .ok (.aload_n 0, 1) := by decide +kernel
theorem dX11_found_27 : decode cX11_found 27 = .ok (.getfield 62, 3) := by decide +kernel
theorem dX11_found_30 : decode cX11_found 30 = .ok (.iload_n 1, 1) := by decide +kernel
theorem dX11_found_31 : decode cX11_found 31 = .ok (.iload_n 2, 1) := by decide +kernel
theorem dX11_found_32 : decode cX11_found 32 = .ok (.iload_n 3, 1) := by decide +kernel
theorem dX11_found_33 : decode cX11_found 33 = .ok (.invokevirtual 246, 3) := by decide +kernel
theorem dX11_found_36 : decode cX11_found 36 = .ok (.aload_n 0, 1) := by decide +kernel
theorem dX11_found_37 : decode cX11_found 37 = .ok (.getfield 62, 3) := by decide +kernel
theorem dX11_found_40 : decode cX11_found 40 = .ok (.iload 4, 2) := by decide +kernel
theorem dX11_found_42 : decode cX11_found 42 = .ok (.invokevirtual 205, 3) := by decide +kernel
theorem dX11_found_45 : decode cX11_found 45 = .ok (.ireturn, 1) := by decide +kernel
theorem dX11_same_0 : decode cX11_same 0 = .ok (.iload_n 1, 1) := by decide +kernel
theorem dX11_same_1 : decode cX11_same 1 = .ok (.invokestatic 105, 3) := by decide +kernel
theorem dX11_same_4 : decode cX11_same 4 = .ok (.ifCond .eq 28, 3) := by decide +kernel
theorem dX11_same_7 : decode cX11_same 7 = .ok (.iload_n 2, 1) := by decide +kernel
theorem dX11_same_8 : decode cX11_same 8 = .ok (.invokestatic 105, 3) := by decide +kernel
theorem dX11_same_11 : decode cX11_same 11 = .ok (.ifCond .eq 21, 3) := by decide +kernel
theorem dX11_same_14 : decode cX11_same 14 = .ok (.iload_n 3, 1) := by decide +kernel
theorem dX11_same_15 : decode cX11_same 15 = .ok (.bipush 100, 2) := by decide +kernel
theorem dX11_same_17 : decode cX11_same 17 = .ok (.invokestatic 113, 3) := by decide +kernel
theorem dX11_same_20 : decode cX11_same 20 = .ok (.ifCond .eq 12, 3) := by decide +kernel
theorem dX11_same_23 : decode cX11_same 23 = .ok (.aload_n 0, 1) := by decide +kernel
theorem dX11_same_24 : decode cX11_same 24 = .ok (.iload 4, 2) := by decide +kernel
theorem dX11_same_26 : decode cX11_same 26 = .ok (.invokevirtual 165, 3) := by decide +kernel
theorem dX11_same_29 : decode cX11_same 29 = .ok (.ifCond .ne 5, 3) := by decide +kernel
theorem dX11_same_32 : decode cX11_same 32 = .ok (.iconst (-1), 1) := by decide +kernel
theorem dX11_same_33 : decode cX11_same 33 = .ok (.ireturn, 1) := by decide +kernel
theorem dX11_same_34 : decode cX11_same 34 = .ok (.aload_n 0, 1) := by decide +kernel
theorem dX11_same_35 : decode cX11_same 35 = .ok (.getfield 53, 3) := by decide +kernel
theorem dX11_same_38 : decode cX11_same 38 = .ok (.iload_n 1, 1) := by decide +kernel
theorem dX11_same_39 : decode cX11_same 39 = .ok (.iload_n 3, 1) := by decide +kernel
theorem dX11_same_40 : decode cX11_same 40 = .ok (.iload 4, 2) := by decide +kernel
theorem dX11_same_42 : decode cX11_same 42 = .ok (.invokevirtual 249, 3) := by decide +kernel
theorem dX11_same_45 : decode cX11_same 45 = .ok (.aload_n 0, 1) := by decide +kernel
theorem dX11_same_46 : decode cX11_same 46 = .ok (.getfield 53, 3) := by decide +kernel
theorem dX11_same_49 : decode cX11_same 49 = .ok (.iload_n 2, 1) := by decide +kernel
theorem dX11_same_50 : decode cX11_same 50 = .ok (.invokevirtual 252, 3) := by decide +kernel
theorem dX11_same_53 : decode cX11_same 53 = .ok (.ifCond .eq 7, 3) := by decide +kernel
theorem dX11_same_56 : decode cX11_same 56 = .ok (.iconst 1, 1) := by decide +kernel
theorem dX11_same_57 : decode cX11_same 57 = .ok (.goto 4, 3) := by decide +kernel
theorem dX11_same_60 : decode cX11_same 60 = .ok (.iconst 0, 1) := by decide +kernel
theorem dX11_same_61 : decode cX11_same 61 = .ok (.ireturn, 1) := by decide +kernel
theorem dX11_count_0 : decode cX11_count 0 = .ok (.iload_n 1, 1) := by decide +kernel
theorem dX11_count_1 : decode cX11_count 1 = .ok (.tableswitch 74 0 5 #[39, 47, 55, 63, 63, 63], 39) := by decide +kernel
theorem dX11_count_40 : decode cX11_count 40 = .ok (.aload_n 0, 1) := by decide +kernel
theorem dX11_count_41 : decode cX11_count 41 = .ok (.getfield 35, 3) := by decide +kernel
theorem dX11_count_44 : decode cX11_count 44 = .ok (.getfield 135, 3) := by decide +kernel
theorem dX11_count_47 : decode cX11_count 47 = .ok (.ireturn, 1) := by decide +kernel
theorem dX11_count_48 : decode cX11_count 48 = .ok (.aload_n 0, 1) := by decide +kernel
theorem dX11_count_49 : decode cX11_count 49 = .ok (.getfield 19, 3) := by decide +kernel
theorem dX11_count_52 : decode cX11_count 52 = .ok (.getfield 95, 3) := by decide +kernel
theorem dX11_count_55 : decode cX11_count 55 = .ok (.ireturn, 1) := by decide +kernel
theorem dX11_count_56 : decode cX11_count 56 = .ok (.aload_n 0, 1) := by decide +kernel
theorem dX11_count_57 : decode cX11_count 57 = .ok (.getfield 10, 3) := by decide +kernel
theorem dX11_count_60 : decode cX11_count 60 = .ok (.getfield 92, 3) := by decide +kernel
theorem dX11_count_63 : decode cX11_count 63 = .ok (.ireturn, 1) := by decide +kernel
theorem dX11_count_64 : decode cX11_count 64 = .ok (.aload_n 0, 1) := by decide +kernel
theorem dX11_count_65 : decode cX11_count 65 = .ok (.getfield 69, 3) := by decide +kernel
theorem dX11_count_68 : decode cX11_count 68 = .ok (.iload_n 1, 1) := by decide +kernel
theorem dX11_count_69 : decode cX11_count 69 = .ok (.iconst 3, 1) := by decide +kernel
theorem dX11_count_70 : decode cX11_count 70 = .ok (.isub, 1) := by decide +kernel
theorem dX11_count_71 : decode cX11_count 71 = .ok (.invokevirtual 255, 3) := by decide +kernel
theorem dX11_count_74 : decode cX11_count 74 = .ok (.ireturn, 1) := by decide +kernel
theorem dX11_count_75 : decode cX11_count 75 = .ok (.iconst (-1), 1) := by decide +kernel
theorem dX11_count_76 : decode cX11_count 76 = .ok (.ireturn, 1) := by decide +kernel
theorem dX11_tellLine_0 : decode cX11_tellLine 0 = .ok (.iload_n 1, 1) := by decide +kernel
theorem dX11_tellLine_1 : decode cX11_tellLine 1 = .ok (.bipush 100, 2) := by decide +kernel
theorem dX11_tellLine_3 : decode cX11_tellLine 3 = .ok (.invokestatic 113, 3) := by decide +kernel
theorem dX11_tellLine_6 : decode cX11_tellLine 6 = .ok (.ifCond .eq 23, 3) := by decide +kernel
theorem dX11_tellLine_9 : decode cX11_tellLine 9 = .ok (.iload_n 2, 1) := by decide +kernel
theorem dX11_tellLine_10 : decode cX11_tellLine 10 = .ok (.sipush 240, 3) := by decide +kernel
theorem dX11_tellLine_13 : decode cX11_tellLine 13 = .ok (.invokestatic 113, 3) := by decide +kernel
theorem dX11_tellLine_16 : decode cX11_tellLine 16 = .ok (.ifCond .eq 13, 3) := by decide +kernel
theorem dX11_tellLine_19 : decode cX11_tellLine 19 = .ok (.iload 4, 2) := by decide +kernel
theorem dX11_tellLine_21 : decode cX11_tellLine 21 = .ok (.bipush 10, 2) := by decide +kernel
theorem dX11_tellLine_23 : decode cX11_tellLine 23 = .ok (.invokestatic 113, 3) := by decide +kernel
theorem dX11_tellLine_26 : decode cX11_tellLine 26 = .ok (.ifCond .ne 5, 3) := by decide +kernel
theorem dX11_tellLine_29 : decode cX11_tellLine 29 = .ok (.iconst (-1), 1) := by decide +kernel
theorem dX11_tellLine_30 : decode cX11_tellLine 30 = .ok (.ireturn, 1) := by decide +kernel
theorem dX11_tellLine_31 : decode cX11_tellLine 31 = .ok (.aload_n 0, 1) := by decide +kernel
theorem dX11_tellLine_32 : decode cX11_tellLine 32 = .ok (.getfield 35, 3) := by decide +kernel
theorem dX11_tellLine_35 : decode cX11_tellLine 35 = .ok (.iconst 4, 1) := by decide +kernel
theorem dX11_tellLine_36 : decode cX11_tellLine 36 = .ok (.iload_n 1, 1) := by decide +kernel
theorem dX11_tellLine_37 : decode cX11_tellLine 37 = .ok (.iload 5, 2) := by decide +kernel
theorem dX11_tellLine_39 : decode cX11_tellLine 39 = .ok (.invokevirtual 121, 3) := by decide +kernel
theorem dX11_tellLine_42 : decode cX11_tellLine 42 = .ok (.istore 6, 2) := by decide +kernel
theorem dX11_tellLine_44 : decode cX11_tellLine 44 = .ok (.iload 6, 2) := by decide +kernel
theorem dX11_tellLine_46 : decode cX11_tellLine 46 = .ok (.iconst (-1), 1) := by decide +kernel
theorem dX11_tellLine_47 : decode cX11_tellLine 47 = .ok (.if_icmp .eq 37, 3) := by decide +kernel
theorem dX11_tellLine_50 : decode cX11_tellLine 50 = .ok (.aload_n 0, 1) := by decide +kernel
theorem dX11_tellLine_51 : decode cX11_tellLine 51 = .ok (.getfield 35, 3) := by decide +kernel
theorem dX11_tellLine_54 : decode cX11_tellLine 54 = .ok (.getfield 258, 3) := by decide +kernel
theorem dX11_tellLine_57 : decode cX11_tellLine 57 = .ok (.iload 6, 2) := by decide +kernel
theorem dX11_tellLine_59 : decode cX11_tellLine 59 = .ok (.iload_n 2, 1) := by decide +kernel
theorem dX11_tellLine_60 : decode cX11_tellLine 60 = .ok (.iastore, 1) := by decide +kernel
theorem dX11_tellLine_61 : decode cX11_tellLine 61 = .ok (.aload_n 0, 1) := by decide +kernel
theorem dX11_tellLine_62 : decode cX11_tellLine 62 = .ok (.getfield 35, 3) := by decide +kernel
theorem dX11_tellLine_65 : decode cX11_tellLine 65 = .ok (.getfield 132, 3) := by decide +kernel
theorem dX11_tellLine_68 : decode cX11_tellLine 68 = .ok (.iload 6, 2) := by decide +kernel
theorem dX11_tellLine_70 : decode cX11_tellLine 70 = .ok (.iload_n 3, 1) := by decide +kernel
theorem dX11_tellLine_71 : decode cX11_tellLine 71 = .ok (.iastore, 1) := by decide +kernel
theorem dX11_tellLine_72 : decode cX11_tellLine 72 = .ok (.aload_n 0, 1) := by decide +kernel
theorem dX11_tellLine_73 : decode cX11_tellLine 73 = .ok (.getfield 35, 3) := by decide +kernel
theorem dX11_tellLine_76 : decode cX11_tellLine 76 = .ok (.getfield 129, 3) := by decide +kernel
theorem dX11_tellLine_79 : decode cX11_tellLine 79 = .ok (.iload 6, 2) := by decide +kernel
theorem dX11_tellLine_81 : decode cX11_tellLine 81 = .ok (.iload 4, 2) := by decide +kernel
theorem dX11_tellLine_83 : decode cX11_tellLine 83 = .ok (.iastore, 1) := by decide +kernel
theorem dX11_tellLine_84 : decode cX11_tellLine 84 = .ok (.iload 6, 2) := by decide +kernel
theorem dX11_tellLine_86 : decode cX11_tellLine 86 = .ok (.ireturn, 1) := by decide +kernel
theorem dX11_isKnown_0 : decode cX11_isKnown 0 = .ok (.iload_n 1, 1) := by decide +kernel
theorem dX11_isKnown_1 : decode cX11_isKnown 1 = .ok (.ifCond .lt 18, 3) := by decide +kernel
theorem dX11_isKnown_4 : decode cX11_isKnown 4 = .ok (.iload_n 1, 1) := by decide +kernel
theorem dX11_isKnown_5 : decode cX11_isKnown 5 = .ok (.aload_n 0, 1) := by decide +kernel
theorem dX11_isKnown_6 : decode cX11_isKnown 6 = .ok (.getfield 35, 3) := by decide +kernel
theorem dX11_isKnown_9 : decode cX11_isKnown 9 = .ok (.getfield 135, 3) := by decide +kernel
theorem dX11_isKnown_12 : decode cX11_isKnown 12 = .ok (.if_icmp .gt 7, 3) := by decide +kernel
theorem dX11_isKnown_15 : decode cX11_isKnown 15 = .ok (.iconst 1, 1) := by decide +kernel
theorem dX11_isKnown_16 : decode cX11_isKnown 16 = .ok (.goto 4, 3) := by decide +kernel
theorem dX11_isKnown_19 : decode cX11_isKnown 19 = .ok (.iconst 0, 1) := by decide +kernel
theorem dX11_isKnown_20 : decode cX11_isKnown 20 = .ok (.ireturn, 1) := by decide +kernel
theorem dX11_isPrint_0 : decode cX11_isPrint 0 = .ok (.iload_n 1, 1) := by decide +kernel
theorem dX11_isPrint_1 : decode cX11_isPrint 1 = .ok (.bipush 100, 2) := by decide +kernel
theorem dX11_isPrint_3 : decode cX11_isPrint 3 = .ok (.invokestatic 113, 3) := by decide +kernel
theorem dX11_isPrint_6 : decode cX11_isPrint 6 = .ok (.ifCond .eq 29, 3) := by decide +kernel
theorem dX11_isPrint_9 : decode cX11_isPrint 9 = .ok (.iload_n 2, 1) := by decide +kernel
theorem dX11_isPrint_10 : decode cX11_isPrint 10 = .ok (.bipush 100, 2) := by decide +kernel
theorem dX11_isPrint_12 : decode cX11_isPrint 12 = .ok (.invokestatic 113, 3) := by decide +kernel
theorem dX11_isPrint_15 : decode cX11_isPrint 15 = .ok (.ifCond .eq 20, 3) := by decide +kernel
theorem dX11_isPrint_18 : decode cX11_isPrint 18 = .ok (.iload_n 2, 1) := by decide +kernel
theorem dX11_isPrint_19 : decode cX11_isPrint 19 = .ok (.iload_n 1, 1) := by decide +kernel
theorem dX11_isPrint_20 : decode cX11_isPrint 20 = .ok (.if_icmp .lt 15, 3) := by decide +kernel
theorem dX11_isPrint_23 : decode cX11_isPrint 23 = .ok (.aload_n 0, 1) := by decide +kernel
theorem dX11_isPrint_24 : decode cX11_isPrint 24 = .ok (.iload_n 3, 1) := by decide +kernel
theorem dX11_isPrint_25 : decode cX11_isPrint 25 = .ok (.invokevirtual 165, 3) := by decide +kernel
theorem dX11_isPrint_28 : decode cX11_isPrint 28 = .ok (.ifCond .eq 7, 3) := by decide +kernel
theorem dX11_isPrint_31 : decode cX11_isPrint 31 = .ok (.iconst 1, 1) := by decide +kernel
theorem dX11_isPrint_32 : decode cX11_isPrint 32 = .ok (.goto 4, 3) := by decide +kernel
theorem dX11_isPrint_35 : decode cX11_isPrint 35 = .ok (.iconst 0, 1) := by decide +kernel
theorem dX11_isPrint_36 : decode cX11_isPrint 36 = .ok (.ireturn, 1) := by decide +kernel
theorem dX11_isWord_0 : decode cX11_isWord 0 = .ok (.iload_n 0, 1) := by decide +kernel
theorem dX11_isWord_1 : decode cX11_isWord 1 = .ok (.iconst 1, 1) := by decide +kernel
theorem dX11_isWord_2 : decode cX11_isWord 2 = .ok (.if_icmp .lt 14, 3) := by decide +kernel
theorem dX11_isWord_5 : decode cX11_isWord 5 = .ok (.iload_n 0, 1) := by decide +kernel
theorem dX11_isWord_6 : decode cX11_isWord 6 = .ok (.sipush 1000, 3) := by decide +kernel
theorem dX11_isWord_9 : decode cX11_isWord 9 = .ok (.if_icmp .ge 7, 3) := by decide +kernel
theorem dX11_isWord_12 : decode cX11_isWord 12 = .ok (.iconst 1, 1) := by decide +kernel
theorem dX11_isWord_13 : decode cX11_isWord 13 = .ok (.goto 4, 3) := by decide +kernel
theorem dX11_isWord_16 : decode cX11_isWord 16 = .ok (.iconst 0, 1) := by decide +kernel
theorem dX11_isWord_17 : decode cX11_isWord 17 = .ok (.ireturn, 1) := by decide +kernel
theorem dX11_isBelow_0 : decode cX11_isBelow 0 = .ok (.iload_n 0, 1) := by decide +kernel
theorem dX11_isBelow_1 : decode cX11_isBelow 1 = .ok (.ifCond .lt 12, 3) := by decide +kernel
theorem dX11_isBelow_4 : decode cX11_isBelow 4 = .ok (.iload_n 0, 1) := by decide +kernel
theorem dX11_isBelow_5 : decode cX11_isBelow 5 = .ok (.iload_n 1, 1) := by decide +kernel
theorem dX11_isBelow_6 : decode cX11_isBelow 6 = .ok (.if_icmp .ge 7, 3) := by decide +kernel
theorem dX11_isBelow_9 : decode cX11_isBelow 9 = .ok (.iconst 1, 1) := by decide +kernel
theorem dX11_isBelow_10 : decode cX11_isBelow 10 = .ok (.goto 4, 3) := by decide +kernel
theorem dX11_isBelow_13 : decode cX11_isBelow 13 = .ok (.iconst 0, 1) := by decide +kernel
theorem dX11_isBelow_14 : decode cX11_isBelow 14 = .ok (.ireturn, 1) := by decide +kernel
theorem dL_law_0 : decode cL_law 0 = .ok (.new 7, 3) := by decide +kernel
theorem dL_law_3 : decode cL_law 3 = .ok (.dup, 1) := by decide +kernel
theorem dL_law_4 : decode cL_law 4 = .ok (.invokespecial 9, 3) := by decide +kernel
theorem dL_law_7 : decode cL_law 7 = .ok (.astore_n 1, 1) := by decide +kernel
theorem dL_law_8 : decode cL_law 8 = .ok (.new 10, 3) := by decide +kernel
theorem dL_law_11 : decode cL_law 11 = .ok (.dup, 1) := by decide +kernel
theorem dL_law_12 : decode cL_law 12 = .ok (.invokespecial 12, 3) := by decide +kernel
theorem dL_law_15 : decode cL_law 15 = .ok (.astore_n 2, 1) := by decide +kernel
theorem dL_law_16 : decode cL_law 16 = .ok (.iconst 0, 1) := by decide +kernel
theorem dL_law_17 : decode cL_law 17 = .ok (.istore_n 3, 1) := by decide +kernel
theorem dL_law_18 : decode cL_law 18 = .ok (.iload_n 3, 1) := by decide +kernel
theorem dL_law_19 : decode cL_law 19 = .ok (.aload_n 0, 1) := by decide +kernel
theorem dL_law_20 : decode cL_law 20 = .ok (.arraylength, 1) := by decide +kernel
theorem dL_law_21 : decode cL_law 21 = .ok (.bipush 7, 2) := by decide +kernel
theorem dL_law_23 : decode cL_law 23 = .ok (.isub, 1) := by decide +kernel
theorem dL_law_24 : decode cL_law 24 = .ok (.if_icmp .gt 1552, 3) := by decide +kernel
theorem dL_law_27 : decode cL_law 27 = .ok (.aload_n 0, 1) := by decide +kernel
theorem dL_law_28 : decode cL_law 28 = .ok (.iload_n 3, 1) := by decide +kernel
theorem dL_law_29 : decode cL_law 29 = .ok (.iaload, 1) := by decide +kernel
theorem dL_law_30 : decode cL_law 30 = .ok (.bipush 63, 2) := by decide +kernel
theorem dL_law_32 : decode cL_law 32 = .ok (.iand, 1) := by decide +kernel
theorem dL_law_33 : decode cL_law 33 = .ok (.tableswitch 1537 0 35 #[159, 222, 245, 258, 271, 334, 409, 452, 485, 528, 581, 624, 677, 700, 743, 786, 839, 872, 905, 948, 1001, 1044, 1077, 1088, 1101, 1124, 1157, 1200, 1233, 1266, 1309, 1342, 1365, 1408, 1461, 1514], 159) := by decide +kernel
theorem dL_law_192 : decode cL_law 192 = .ok (.aload_n 1, 1) := by decide +kernel
theorem dL_law_193 : decode cL_law 193 = .ok (.aload_n 0, 1) := by decide +kernel
theorem dL_law_194 : decode cL_law 194 = .ok (.iload_n 3, 1) := by decide +kernel
theorem dL_law_195 : decode cL_law 195 = .ok (.iconst 1, 1) := by decide +kernel
theorem dL_law_196 : decode cL_law 196 = .ok (.iadd, 1) := by decide +kernel
theorem dL_law_197 : decode cL_law 197 = .ok (.iaload, 1) := by decide +kernel
theorem dL_law_198 : decode cL_law 198 = .ok (.aload_n 0, 1) := by decide +kernel
theorem dL_law_199 : decode cL_law 199 = .ok (.iload_n 3, 1) := by decide +kernel
theorem dL_law_200 : decode cL_law 200 = .ok (.iconst 2, 1) := by decide +kernel
theorem dL_law_201 : decode cL_law 201 = .ok (.iadd, 1) := by decide +kernel
theorem dL_law_202 : decode cL_law 202 = .ok (.iaload, 1) := by decide +kernel
theorem dL_law_203 : decode cL_law 203 = .ok (.aload_n 0, 1) := by decide +kernel
theorem dL_law_204 : decode cL_law 204 = .ok (.iload_n 3, 1) := by decide +kernel
theorem dL_law_205 : decode cL_law 205 = .ok (.iconst 3, 1) := by decide +kernel
theorem dL_law_206 : decode cL_law 206 = .ok (.iadd, 1) := by decide +kernel
theorem dL_law_207 : decode cL_law 207 = .ok (.iaload, 1) := by decide +kernel
theorem dL_law_208 : decode cL_law 208 = .ok (.aload_n 0, 1) := by decide +kernel
theorem dL_law_209 : decode cL_law 209 = .ok (.iload_n 3, 1) := by decide +kernel
theorem dL_law_210 : decode cL_law 210 = .ok (.iconst 4, 1) := by decide +kernel
theorem dL_law_211 : decode cL_law 211 = .ok (.iadd, 1) := by decide +kernel
theorem dL_law_212 : decode cL_law 212 = .ok (.iaload, 1) := by decide +kernel
theorem dL_law_213 : decode cL_law 213 = .ok (.aload_n 0, 1) := by decide +kernel
theorem dL_law_214 : decode cL_law 214 = .ok (.iload_n 3, 1) := by decide +kernel
theorem dL_law_215 : decode cL_law 215 = .ok (.iconst 5, 1) := by decide +kernel
theorem dL_law_216 : decode cL_law 216 = .ok (.iadd, 1) := by decide +kernel
theorem dL_law_217 : decode cL_law 217 = .ok (.iaload, 1) := by decide +kernel
theorem dL_law_218 : decode cL_law 218 = .ok (.invokevirtual 13, 3) := by decide +kernel
theorem dL_law_221 : decode cL_law 221 = .ok (.aload_n 2, 1) := by decide +kernel
theorem dL_law_222 : decode cL_law 222 = .ok (.aload_n 0, 1) := by decide +kernel
theorem dL_law_223 : decode cL_law 223 = .ok (.iload_n 3, 1) := by decide +kernel
theorem dL_law_224 : decode cL_law 224 = .ok (.iconst 1, 1) := by decide +kernel
theorem dL_law_225 : decode cL_law 225 = .ok (.iadd, 1) := by decide +kernel
theorem dL_law_226 : decode cL_law 226 = .ok (.iaload, 1) := by decide +kernel
theorem dL_law_227 : decode cL_law 227 = .ok (.aload_n 0, 1) := by decide +kernel
theorem dL_law_228 : decode cL_law 228 = .ok (.iload_n 3, 1) := by decide +kernel
theorem dL_law_229 : decode cL_law 229 = .ok (.iconst 2, 1) := by decide +kernel
theorem dL_law_230 : decode cL_law 230 = .ok (.iadd, 1) := by decide +kernel
theorem dL_law_231 : decode cL_law 231 = .ok (.iaload, 1) := by decide +kernel
theorem dL_law_232 : decode cL_law 232 = .ok (.aload_n 0, 1) := by decide +kernel
theorem dL_law_233 : decode cL_law 233 = .ok (.iload_n 3, 1) := by decide +kernel
theorem dL_law_234 : decode cL_law 234 = .ok (.iconst 3, 1) := by decide +kernel
theorem dL_law_235 : decode cL_law 235 = .ok (.iadd, 1) := by decide +kernel
theorem dL_law_236 : decode cL_law 236 = .ok (.iaload, 1) := by decide +kernel
theorem dL_law_237 : decode cL_law 237 = .ok (.aload_n 0, 1) := by decide +kernel
theorem dL_law_238 : decode cL_law 238 = .ok (.iload_n 3, 1) := by decide +kernel
theorem dL_law_239 : decode cL_law 239 = .ok (.iconst 4, 1) := by decide +kernel
theorem dL_law_240 : decode cL_law 240 = .ok (.iadd, 1) := by decide +kernel
theorem dL_law_241 : decode cL_law 241 = .ok (.iaload, 1) := by decide +kernel
theorem dL_law_242 : decode cL_law 242 = .ok (.aload_n 0, 1) := by decide +kernel
theorem dL_law_243 : decode cL_law 243 = .ok (.iload_n 3, 1) := by decide +kernel
theorem dL_law_244 : decode cL_law 244 = .ok (.iconst 5, 1) := by decide +kernel
theorem dL_law_245 : decode cL_law 245 = .ok (.iadd, 1) := by decide +kernel
theorem dL_law_246 : decode cL_law 246 = .ok (.iaload, 1) := by decide +kernel
theorem dL_law_247 : decode cL_law 247 = .ok (.invokevirtual 17, 3) := by decide +kernel
theorem dL_law_250 : decode cL_law 250 = .ok (.if_icmp .eq 1320, 3) := by decide +kernel
theorem dL_law_253 : decode cL_law 253 = .ok (.iconst 0, 1) := by decide +kernel
theorem dL_law_254 : decode cL_law 254 = .ok (.ireturn, 1) := by decide +kernel
theorem dL_law_255 : decode cL_law 255 = .ok (.aload_n 1, 1) := by decide +kernel
theorem dL_law_256 : decode cL_law 256 = .ok (.aload_n 0, 1) := by decide +kernel
theorem dL_law_257 : decode cL_law 257 = .ok (.iload_n 3, 1) := by decide +kernel
theorem dL_law_258 : decode cL_law 258 = .ok (.iconst 1, 1) := by decide +kernel
theorem dL_law_259 : decode cL_law 259 = .ok (.iadd, 1) := by decide +kernel
theorem dL_law_260 : decode cL_law 260 = .ok (.iaload, 1) := by decide +kernel
theorem dL_law_261 : decode cL_law 261 = .ok (.invokevirtual 18, 3) := by decide +kernel
theorem dL_law_264 : decode cL_law 264 = .ok (.aload_n 2, 1) := by decide +kernel
theorem dL_law_265 : decode cL_law 265 = .ok (.aload_n 0, 1) := by decide +kernel
theorem dL_law_266 : decode cL_law 266 = .ok (.iload_n 3, 1) := by decide +kernel
theorem dL_law_267 : decode cL_law 267 = .ok (.iconst 1, 1) := by decide +kernel
theorem dL_law_268 : decode cL_law 268 = .ok (.iadd, 1) := by decide +kernel
theorem dL_law_269 : decode cL_law 269 = .ok (.iaload, 1) := by decide +kernel
theorem dL_law_270 : decode cL_law 270 = .ok (.invokevirtual 22, 3) := by decide +kernel
theorem dL_law_273 : decode cL_law 273 = .ok (.if_icmp .eq 1297, 3) := by decide +kernel
theorem dL_law_276 : decode cL_law 276 = .ok (.iconst 0, 1) := by decide +kernel
theorem dL_law_277 : decode cL_law 277 = .ok (.ireturn, 1) := by decide +kernel
theorem dL_law_278 : decode cL_law 278 = .ok (.aload_n 1, 1) := by decide +kernel
theorem dL_law_279 : decode cL_law 279 = .ok (.invokevirtual 23, 3) := by decide +kernel
theorem dL_law_282 : decode cL_law 282 = .ok (.aload_n 2, 1) := by decide +kernel
theorem dL_law_283 : decode cL_law 283 = .ok (.invokevirtual 27, 3) := by decide +kernel
theorem dL_law_286 : decode cL_law 286 = .ok (.if_icmp .eq 1284, 3) := by decide +kernel
theorem dL_law_289 : decode cL_law 289 = .ok (.iconst 0, 1) := by decide +kernel
theorem dL_law_290 : decode cL_law 290 = .ok (.ireturn, 1) := by decide +kernel
theorem dL_law_291 : decode cL_law 291 = .ok (.aload_n 1, 1) := by decide +kernel
theorem dL_law_292 : decode cL_law 292 = .ok (.invokevirtual 28, 3) := by decide +kernel
theorem dL_law_295 : decode cL_law 295 = .ok (.aload_n 2, 1) := by decide +kernel
theorem dL_law_296 : decode cL_law 296 = .ok (.invokevirtual 31, 3) := by decide +kernel
theorem dL_law_299 : decode cL_law 299 = .ok (.if_icmp .eq 1271, 3) := by decide +kernel
theorem dL_law_302 : decode cL_law 302 = .ok (.iconst 0, 1) := by decide +kernel
theorem dL_law_303 : decode cL_law 303 = .ok (.ireturn, 1) := by decide +kernel
theorem dL_law_304 : decode cL_law 304 = .ok (.aload_n 1, 1) := by decide +kernel
theorem dL_law_305 : decode cL_law 305 = .ok (.aload_n 0, 1) := by decide +kernel
theorem dL_law_306 : decode cL_law 306 = .ok (.iload_n 3, 1) := by decide +kernel
theorem dL_law_307 : decode cL_law 307 = .ok (.iconst 1, 1) := by decide +kernel
theorem dL_law_308 : decode cL_law 308 = .ok (.iadd, 1) := by decide +kernel
theorem dL_law_309 : decode cL_law 309 = .ok (.iaload, 1) := by decide +kernel
theorem dL_law_310 : decode cL_law 310 = .ok (.aload_n 0, 1) := by decide +kernel
theorem dL_law_311 : decode cL_law 311 = .ok (.iload_n 3, 1) := by decide +kernel
theorem dL_law_312 : decode cL_law 312 = .ok (.iconst 2, 1) := by decide +kernel
theorem dL_law_313 : decode cL_law 313 = .ok (.iadd, 1) := by decide +kernel
theorem dL_law_314 : decode cL_law 314 = .ok (.iaload, 1) := by decide +kernel
theorem dL_law_315 : decode cL_law 315 = .ok (.aload_n 0, 1) := by decide +kernel
theorem dL_law_316 : decode cL_law 316 = .ok (.iload_n 3, 1) := by decide +kernel
theorem dL_law_317 : decode cL_law 317 = .ok (.iconst 3, 1) := by decide +kernel
theorem dL_law_318 : decode cL_law 318 = .ok (.iadd, 1) := by decide +kernel
theorem dL_law_319 : decode cL_law 319 = .ok (.iaload, 1) := by decide +kernel
theorem dL_law_320 : decode cL_law 320 = .ok (.aload_n 0, 1) := by decide +kernel
theorem dL_law_321 : decode cL_law 321 = .ok (.iload_n 3, 1) := by decide +kernel
theorem dL_law_322 : decode cL_law 322 = .ok (.iconst 4, 1) := by decide +kernel
theorem dL_law_323 : decode cL_law 323 = .ok (.iadd, 1) := by decide +kernel
theorem dL_law_324 : decode cL_law 324 = .ok (.iaload, 1) := by decide +kernel
theorem dL_law_325 : decode cL_law 325 = .ok (.aload_n 0, 1) := by decide +kernel
theorem dL_law_326 : decode cL_law 326 = .ok (.iload_n 3, 1) := by decide +kernel
theorem dL_law_327 : decode cL_law 327 = .ok (.iconst 5, 1) := by decide +kernel
theorem dL_law_328 : decode cL_law 328 = .ok (.iadd, 1) := by decide +kernel
theorem dL_law_329 : decode cL_law 329 = .ok (.iaload, 1) := by decide +kernel
theorem dL_law_330 : decode cL_law 330 = .ok (.invokevirtual 32, 3) := by decide +kernel
theorem dL_law_333 : decode cL_law 333 = .ok (.aload_n 2, 1) := by decide +kernel
theorem dL_law_334 : decode cL_law 334 = .ok (.aload_n 0, 1) := by decide +kernel
theorem dL_law_335 : decode cL_law 335 = .ok (.iload_n 3, 1) := by decide +kernel
theorem dL_law_336 : decode cL_law 336 = .ok (.iconst 1, 1) := by decide +kernel
theorem dL_law_337 : decode cL_law 337 = .ok (.iadd, 1) := by decide +kernel
theorem dL_law_338 : decode cL_law 338 = .ok (.iaload, 1) := by decide +kernel
theorem dL_law_339 : decode cL_law 339 = .ok (.aload_n 0, 1) := by decide +kernel
theorem dL_law_340 : decode cL_law 340 = .ok (.iload_n 3, 1) := by decide +kernel
theorem dL_law_341 : decode cL_law 341 = .ok (.iconst 2, 1) := by decide +kernel
theorem dL_law_342 : decode cL_law 342 = .ok (.iadd, 1) := by decide +kernel
theorem dL_law_343 : decode cL_law 343 = .ok (.iaload, 1) := by decide +kernel
theorem dL_law_344 : decode cL_law 344 = .ok (.aload_n 0, 1) := by decide +kernel
theorem dL_law_345 : decode cL_law 345 = .ok (.iload_n 3, 1) := by decide +kernel
theorem dL_law_346 : decode cL_law 346 = .ok (.iconst 3, 1) := by decide +kernel
theorem dL_law_347 : decode cL_law 347 = .ok (.iadd, 1) := by decide +kernel
theorem dL_law_348 : decode cL_law 348 = .ok (.iaload, 1) := by decide +kernel
theorem dL_law_349 : decode cL_law 349 = .ok (.aload_n 0, 1) := by decide +kernel
theorem dL_law_350 : decode cL_law 350 = .ok (.iload_n 3, 1) := by decide +kernel
theorem dL_law_351 : decode cL_law 351 = .ok (.iconst 4, 1) := by decide +kernel
theorem dL_law_352 : decode cL_law 352 = .ok (.iadd, 1) := by decide +kernel
theorem dL_law_353 : decode cL_law 353 = .ok (.iaload, 1) := by decide +kernel
theorem dL_law_354 : decode cL_law 354 = .ok (.aload_n 0, 1) := by decide +kernel
theorem dL_law_355 : decode cL_law 355 = .ok (.iload_n 3, 1) := by decide +kernel
theorem dL_law_356 : decode cL_law 356 = .ok (.iconst 5, 1) := by decide +kernel
theorem dL_law_357 : decode cL_law 357 = .ok (.iadd, 1) := by decide +kernel
theorem dL_law_358 : decode cL_law 358 = .ok (.iaload, 1) := by decide +kernel
theorem dL_law_359 : decode cL_law 359 = .ok (.invokevirtual 35, 3) := by decide +kernel
theorem dL_law_362 : decode cL_law 362 = .ok (.if_icmp .eq 1208, 3) := by decide +kernel
theorem dL_law_365 : decode cL_law 365 = .ok (.iconst 0, 1) := by decide +kernel
theorem dL_law_366 : decode cL_law 366 = .ok (.ireturn, 1) := by decide +kernel
theorem dL_law_367 : decode cL_law 367 = .ok (.aload_n 1, 1) := by decide +kernel
theorem dL_law_368 : decode cL_law 368 = .ok (.aload_n 0, 1) := by decide +kernel
theorem dL_law_369 : decode cL_law 369 = .ok (.iload_n 3, 1) := by decide +kernel
theorem dL_law_370 : decode cL_law 370 = .ok (.iconst 1, 1) := by decide +kernel
theorem dL_law_371 : decode cL_law 371 = .ok (.iadd, 1) := by decide +kernel
theorem dL_law_372 : decode cL_law 372 = .ok (.iaload, 1) := by decide +kernel
theorem dL_law_373 : decode cL_law 373 = .ok (.aload_n 0, 1) := by decide +kernel
theorem dL_law_374 : decode cL_law 374 = .ok (.iload_n 3, 1) := by decide +kernel
theorem dL_law_375 : decode cL_law 375 = .ok (.iconst 2, 1) := by decide +kernel
theorem dL_law_376 : decode cL_law 376 = .ok (.iadd, 1) := by decide +kernel
theorem dL_law_377 : decode cL_law 377 = .ok (.iaload, 1) := by decide +kernel
theorem dL_law_378 : decode cL_law 378 = .ok (.aload_n 0, 1) := by decide +kernel
theorem dL_law_379 : decode cL_law 379 = .ok (.iload_n 3, 1) := by decide +kernel
theorem dL_law_380 : decode cL_law 380 = .ok (.iconst 3, 1) := by decide +kernel
theorem dL_law_381 : decode cL_law 381 = .ok (.iadd, 1) := by decide +kernel
theorem dL_law_382 : decode cL_law 382 = .ok (.iaload, 1) := by decide +kernel
theorem dL_law_383 : decode cL_law 383 = .ok (.aload_n 0, 1) := by decide +kernel
theorem dL_law_384 : decode cL_law 384 = .ok (.iload_n 3, 1) := by decide +kernel
theorem dL_law_385 : decode cL_law 385 = .ok (.iconst 4, 1) := by decide +kernel
theorem dL_law_386 : decode cL_law 386 = .ok (.iadd, 1) := by decide +kernel
theorem dL_law_387 : decode cL_law 387 = .ok (.iaload, 1) := by decide +kernel
theorem dL_law_388 : decode cL_law 388 = .ok (.aload_n 0, 1) := by decide +kernel
theorem dL_law_389 : decode cL_law 389 = .ok (.iload_n 3, 1) := by decide +kernel
theorem dL_law_390 : decode cL_law 390 = .ok (.iconst 5, 1) := by decide +kernel
theorem dL_law_391 : decode cL_law 391 = .ok (.iadd, 1) := by decide +kernel
theorem dL_law_392 : decode cL_law 392 = .ok (.iaload, 1) := by decide +kernel
theorem dL_law_393 : decode cL_law 393 = .ok (.aload_n 0, 1) := by decide +kernel
theorem dL_law_394 : decode cL_law 394 = .ok (.iload_n 3, 1) := by decide +kernel
theorem dL_law_395 : decode cL_law 395 = .ok (.bipush 6, 2) := by decide +kernel
theorem dL_law_397 : decode cL_law 397 = .ok (.iadd, 1) := by decide +kernel
theorem dL_law_398 : decode cL_law 398 = .ok (.iaload, 1) := by decide +kernel
theorem dL_law_399 : decode cL_law 399 = .ok (.invokevirtual 36, 3) := by decide +kernel
theorem dL_law_402 : decode cL_law 402 = .ok (.aload_n 2, 1) := by decide +kernel
theorem dL_law_403 : decode cL_law 403 = .ok (.aload_n 0, 1) := by decide +kernel
theorem dL_law_404 : decode cL_law 404 = .ok (.iload_n 3, 1) := by decide +kernel
theorem dL_law_405 : decode cL_law 405 = .ok (.iconst 1, 1) := by decide +kernel
theorem dL_law_406 : decode cL_law 406 = .ok (.iadd, 1) := by decide +kernel
theorem dL_law_407 : decode cL_law 407 = .ok (.iaload, 1) := by decide +kernel
theorem dL_law_408 : decode cL_law 408 = .ok (.aload_n 0, 1) := by decide +kernel
theorem dL_law_409 : decode cL_law 409 = .ok (.iload_n 3, 1) := by decide +kernel
theorem dL_law_410 : decode cL_law 410 = .ok (.iconst 2, 1) := by decide +kernel
theorem dL_law_411 : decode cL_law 411 = .ok (.iadd, 1) := by decide +kernel
theorem dL_law_412 : decode cL_law 412 = .ok (.iaload, 1) := by decide +kernel
theorem dL_law_413 : decode cL_law 413 = .ok (.aload_n 0, 1) := by decide +kernel
theorem dL_law_414 : decode cL_law 414 = .ok (.iload_n 3, 1) := by decide +kernel
theorem dL_law_415 : decode cL_law 415 = .ok (.iconst 3, 1) := by decide +kernel
theorem dL_law_416 : decode cL_law 416 = .ok (.iadd, 1) := by decide +kernel
theorem dL_law_417 : decode cL_law 417 = .ok (.iaload, 1) := by decide +kernel
theorem dL_law_418 : decode cL_law 418 = .ok (.aload_n 0, 1) := by decide +kernel
theorem dL_law_419 : decode cL_law 419 = .ok (.iload_n 3, 1) := by decide +kernel
theorem dL_law_420 : decode cL_law 420 = .ok (.iconst 4, 1) := by decide +kernel
theorem dL_law_421 : decode cL_law 421 = .ok (.iadd, 1) := by decide +kernel
theorem dL_law_422 : decode cL_law 422 = .ok (.iaload, 1) := by decide +kernel
theorem dL_law_423 : decode cL_law 423 = .ok (.aload_n 0, 1) := by decide +kernel
theorem dL_law_424 : decode cL_law 424 = .ok (.iload_n 3, 1) := by decide +kernel
theorem dL_law_425 : decode cL_law 425 = .ok (.iconst 5, 1) := by decide +kernel
theorem dL_law_426 : decode cL_law 426 = .ok (.iadd, 1) := by decide +kernel
theorem dL_law_427 : decode cL_law 427 = .ok (.iaload, 1) := by decide +kernel
theorem dL_law_428 : decode cL_law 428 = .ok (.aload_n 0, 1) := by decide +kernel
theorem dL_law_429 : decode cL_law 429 = .ok (.iload_n 3, 1) := by decide +kernel
theorem dL_law_430 : decode cL_law 430 = .ok (.bipush 6, 2) := by decide +kernel
theorem dL_law_432 : decode cL_law 432 = .ok (.iadd, 1) := by decide +kernel
theorem dL_law_433 : decode cL_law 433 = .ok (.iaload, 1) := by decide +kernel
theorem dL_law_434 : decode cL_law 434 = .ok (.invokevirtual 40, 3) := by decide +kernel
theorem dL_law_437 : decode cL_law 437 = .ok (.if_icmp .eq 1133, 3) := by decide +kernel
theorem dL_law_440 : decode cL_law 440 = .ok (.iconst 0, 1) := by decide +kernel
theorem dL_law_441 : decode cL_law 441 = .ok (.ireturn, 1) := by decide +kernel
theorem dL_law_442 : decode cL_law 442 = .ok (.aload_n 1, 1) := by decide +kernel
theorem dL_law_443 : decode cL_law 443 = .ok (.aload_n 0, 1) := by decide +kernel
theorem dL_law_444 : decode cL_law 444 = .ok (.iload_n 3, 1) := by decide +kernel
theorem dL_law_445 : decode cL_law 445 = .ok (.iconst 1, 1) := by decide +kernel
theorem dL_law_446 : decode cL_law 446 = .ok (.iadd, 1) := by decide +kernel
theorem dL_law_447 : decode cL_law 447 = .ok (.iaload, 1) := by decide +kernel
theorem dL_law_448 : decode cL_law 448 = .ok (.aload_n 0, 1) := by decide +kernel
theorem dL_law_449 : decode cL_law 449 = .ok (.iload_n 3, 1) := by decide +kernel
theorem dL_law_450 : decode cL_law 450 = .ok (.iconst 2, 1) := by decide +kernel
theorem dL_law_451 : decode cL_law 451 = .ok (.iadd, 1) := by decide +kernel
theorem dL_law_452 : decode cL_law 452 = .ok (.iaload, 1) := by decide +kernel
theorem dL_law_453 : decode cL_law 453 = .ok (.aload_n 0, 1) := by decide +kernel
theorem dL_law_454 : decode cL_law 454 = .ok (.iload_n 3, 1) := by decide +kernel
theorem dL_law_455 : decode cL_law 455 = .ok (.iconst 3, 1) := by decide +kernel
theorem dL_law_456 : decode cL_law 456 = .ok (.iadd, 1) := by decide +kernel
theorem dL_law_457 : decode cL_law 457 = .ok (.iaload, 1) := by decide +kernel
theorem dL_law_458 : decode cL_law 458 = .ok (.invokevirtual 41, 3) := by decide +kernel
theorem dL_law_461 : decode cL_law 461 = .ok (.aload_n 2, 1) := by decide +kernel
theorem dL_law_462 : decode cL_law 462 = .ok (.aload_n 0, 1) := by decide +kernel
theorem dL_law_463 : decode cL_law 463 = .ok (.iload_n 3, 1) := by decide +kernel
theorem dL_law_464 : decode cL_law 464 = .ok (.iconst 1, 1) := by decide +kernel
theorem dL_law_465 : decode cL_law 465 = .ok (.iadd, 1) := by decide +kernel
theorem dL_law_466 : decode cL_law 466 = .ok (.iaload, 1) := by decide +kernel
theorem dL_law_467 : decode cL_law 467 = .ok (.aload_n 0, 1) := by decide +kernel
theorem dL_law_468 : decode cL_law 468 = .ok (.iload_n 3, 1) := by decide +kernel
theorem dL_law_469 : decode cL_law 469 = .ok (.iconst 2, 1) := by decide +kernel
theorem dL_law_470 : decode cL_law 470 = .ok (.iadd, 1) := by decide +kernel
theorem dL_law_471 : decode cL_law 471 = .ok (.iaload, 1) := by decide +kernel
theorem dL_law_472 : decode cL_law 472 = .ok (.aload_n 0, 1) := by decide +kernel
theorem dL_law_473 : decode cL_law 473 = .ok (.iload_n 3, 1) := by decide +kernel
theorem dL_law_474 : decode cL_law 474 = .ok (.iconst 3, 1) := by decide +kernel
theorem dL_law_475 : decode cL_law 475 = .ok (.iadd, 1) := by decide +kernel
theorem dL_law_476 : decode cL_law 476 = .ok (.iaload, 1) := by decide +kernel
theorem dL_law_477 : decode cL_law 477 = .ok (.invokevirtual 45, 3) := by decide +kernel
theorem dL_law_480 : decode cL_law 480 = .ok (.if_icmp .eq 1090, 3) := by decide +kernel
theorem dL_law_483 : decode cL_law 483 = .ok (.iconst 0, 1) := by decide +kernel
theorem dL_law_484 : decode cL_law 484 = .ok (.ireturn, 1) := by decide +kernel
theorem dL_law_485 : decode cL_law 485 = .ok (.aload_n 1, 1) := by decide +kernel
theorem dL_law_486 : decode cL_law 486 = .ok (.aload_n 0, 1) := by decide +kernel
theorem dL_law_487 : decode cL_law 487 = .ok (.iload_n 3, 1) := by decide +kernel
theorem dL_law_488 : decode cL_law 488 = .ok (.iconst 1, 1) := by decide +kernel
theorem dL_law_489 : decode cL_law 489 = .ok (.iadd, 1) := by decide +kernel
theorem dL_law_490 : decode cL_law 490 = .ok (.iaload, 1) := by decide +kernel
theorem dL_law_491 : decode cL_law 491 = .ok (.aload_n 0, 1) := by decide +kernel
theorem dL_law_492 : decode cL_law 492 = .ok (.iload_n 3, 1) := by decide +kernel
theorem dL_law_493 : decode cL_law 493 = .ok (.iconst 2, 1) := by decide +kernel
theorem dL_law_494 : decode cL_law 494 = .ok (.iadd, 1) := by decide +kernel
theorem dL_law_495 : decode cL_law 495 = .ok (.iaload, 1) := by decide +kernel
theorem dL_law_496 : decode cL_law 496 = .ok (.invokevirtual 46, 3) := by decide +kernel
theorem dL_law_499 : decode cL_law 499 = .ok (.aload_n 2, 1) := by decide +kernel
theorem dL_law_500 : decode cL_law 500 = .ok (.aload_n 0, 1) := by decide +kernel
theorem dL_law_501 : decode cL_law 501 = .ok (.iload_n 3, 1) := by decide +kernel
theorem dL_law_502 : decode cL_law 502 = .ok (.iconst 1, 1) := by decide +kernel
theorem dL_law_503 : decode cL_law 503 = .ok (.iadd, 1) := by decide +kernel
theorem dL_law_504 : decode cL_law 504 = .ok (.iaload, 1) := by decide +kernel
theorem dL_law_505 : decode cL_law 505 = .ok (.aload_n 0, 1) := by decide +kernel
theorem dL_law_506 : decode cL_law 506 = .ok (.iload_n 3, 1) := by decide +kernel
theorem dL_law_507 : decode cL_law 507 = .ok (.iconst 2, 1) := by decide +kernel
theorem dL_law_508 : decode cL_law 508 = .ok (.iadd, 1) := by decide +kernel
theorem dL_law_509 : decode cL_law 509 = .ok (.iaload, 1) := by decide +kernel
theorem dL_law_510 : decode cL_law 510 = .ok (.invokevirtual 50, 3) := by decide +kernel
theorem dL_law_513 : decode cL_law 513 = .ok (.if_icmp .eq 1057, 3) := by decide +kernel
theorem dL_law_516 : decode cL_law 516 = .ok (.iconst 0, 1) := by decide +kernel
theorem dL_law_517 : decode cL_law 517 = .ok (.ireturn, 1) := by decide +kernel
theorem dL_law_518 : decode cL_law 518 = .ok (.aload_n 1, 1) := by decide +kernel
theorem dL_law_519 : decode cL_law 519 = .ok (.aload_n 0, 1) := by decide +kernel
theorem dL_law_520 : decode cL_law 520 = .ok (.iload_n 3, 1) := by decide +kernel
theorem dL_law_521 : decode cL_law 521 = .ok (.iconst 1, 1) := by decide +kernel
theorem dL_law_522 : decode cL_law 522 = .ok (.iadd, 1) := by decide +kernel
theorem dL_law_523 : decode cL_law 523 = .ok (.iaload, 1) := by decide +kernel
theorem dL_law_524 : decode cL_law 524 = .ok (.aload_n 0, 1) := by decide +kernel
theorem dL_law_525 : decode cL_law 525 = .ok (.iload_n 3, 1) := by decide +kernel
theorem dL_law_526 : decode cL_law 526 = .ok (.iconst 2, 1) := by decide +kernel
theorem dL_law_527 : decode cL_law 527 = .ok (.iadd, 1) := by decide +kernel
theorem dL_law_528 : decode cL_law 528 = .ok (.iaload, 1) := by decide +kernel
theorem dL_law_529 : decode cL_law 529 = .ok (.aload_n 0, 1) := by decide +kernel
theorem dL_law_530 : decode cL_law 530 = .ok (.iload_n 3, 1) := by decide +kernel
theorem dL_law_531 : decode cL_law 531 = .ok (.iconst 3, 1) := by decide +kernel
theorem dL_law_532 : decode cL_law 532 = .ok (.iadd, 1) := by decide +kernel
theorem dL_law_533 : decode cL_law 533 = .ok (.iaload, 1) := by decide +kernel
theorem dL_law_534 : decode cL_law 534 = .ok (.invokevirtual 51, 3) := by decide +kernel
theorem dL_law_537 : decode cL_law 537 = .ok (.aload_n 2, 1) := by decide +kernel
theorem dL_law_538 : decode cL_law 538 = .ok (.aload_n 0, 1) := by decide +kernel
theorem dL_law_539 : decode cL_law 539 = .ok (.iload_n 3, 1) := by decide +kernel
theorem dL_law_540 : decode cL_law 540 = .ok (.iconst 1, 1) := by decide +kernel
theorem dL_law_541 : decode cL_law 541 = .ok (.iadd, 1) := by decide +kernel
theorem dL_law_542 : decode cL_law 542 = .ok (.iaload, 1) := by decide +kernel
theorem dL_law_543 : decode cL_law 543 = .ok (.aload_n 0, 1) := by decide +kernel
theorem dL_law_544 : decode cL_law 544 = .ok (.iload_n 3, 1) := by decide +kernel
theorem dL_law_545 : decode cL_law 545 = .ok (.iconst 2, 1) := by decide +kernel
theorem dL_law_546 : decode cL_law 546 = .ok (.iadd, 1) := by decide +kernel
theorem dL_law_547 : decode cL_law 547 = .ok (.iaload, 1) := by decide +kernel
theorem dL_law_548 : decode cL_law 548 = .ok (.aload_n 0, 1) := by decide +kernel
theorem dL_law_549 : decode cL_law 549 = .ok (.iload_n 3, 1) := by decide +kernel
theorem dL_law_550 : decode cL_law 550 = .ok (.iconst 3, 1) := by decide +kernel
theorem dL_law_551 : decode cL_law 551 = .ok (.iadd, 1) := by decide +kernel
theorem dL_law_552 : decode cL_law 552 = .ok (.iaload, 1) := by decide +kernel
theorem dL_law_553 : decode cL_law 553 = .ok (.invokevirtual 54, 3) := by decide +kernel
theorem dL_law_556 : decode cL_law 556 = .ok (.if_icmp .eq 1014, 3) := by decide +kernel
theorem dL_law_559 : decode cL_law 559 = .ok (.iconst 0, 1) := by decide +kernel
theorem dL_law_560 : decode cL_law 560 = .ok (.ireturn, 1) := by decide +kernel
theorem dL_law_561 : decode cL_law 561 = .ok (.aload_n 1, 1) := by decide +kernel
theorem dL_law_562 : decode cL_law 562 = .ok (.aload_n 0, 1) := by decide +kernel
theorem dL_law_563 : decode cL_law 563 = .ok (.iload_n 3, 1) := by decide +kernel
theorem dL_law_564 : decode cL_law 564 = .ok (.iconst 1, 1) := by decide +kernel
theorem dL_law_565 : decode cL_law 565 = .ok (.iadd, 1) := by decide +kernel
theorem dL_law_566 : decode cL_law 566 = .ok (.iaload, 1) := by decide +kernel
theorem dL_law_567 : decode cL_law 567 = .ok (.aload_n 0, 1) := by decide +kernel
theorem dL_law_568 : decode cL_law 568 = .ok (.iload_n 3, 1) := by decide +kernel
theorem dL_law_569 : decode cL_law 569 = .ok (.iconst 2, 1) := by decide +kernel
theorem dL_law_570 : decode cL_law 570 = .ok (.iadd, 1) := by decide +kernel
theorem dL_law_571 : decode cL_law 571 = .ok (.iaload, 1) := by decide +kernel
theorem dL_law_572 : decode cL_law 572 = .ok (.aload_n 0, 1) := by decide +kernel
theorem dL_law_573 : decode cL_law 573 = .ok (.iload_n 3, 1) := by decide +kernel
theorem dL_law_574 : decode cL_law 574 = .ok (.iconst 3, 1) := by decide +kernel
theorem dL_law_575 : decode cL_law 575 = .ok (.iadd, 1) := by decide +kernel
theorem dL_law_576 : decode cL_law 576 = .ok (.iaload, 1) := by decide +kernel
theorem dL_law_577 : decode cL_law 577 = .ok (.aload_n 0, 1) := by decide +kernel
theorem dL_law_578 : decode cL_law 578 = .ok (.iload_n 3, 1) := by decide +kernel
theorem dL_law_579 : decode cL_law 579 = .ok (.iconst 4, 1) := by decide +kernel
theorem dL_law_580 : decode cL_law 580 = .ok (.iadd, 1) := by decide +kernel
theorem dL_law_581 : decode cL_law 581 = .ok (.iaload, 1) := by decide +kernel
theorem dL_law_582 : decode cL_law 582 = .ok (.invokevirtual 55, 3) := by decide +kernel
theorem dL_law_585 : decode cL_law 585 = .ok (.aload_n 2, 1) := by decide +kernel
theorem dL_law_586 : decode cL_law 586 = .ok (.aload_n 0, 1) := by decide +kernel
theorem dL_law_587 : decode cL_law 587 = .ok (.iload_n 3, 1) := by decide +kernel
theorem dL_law_588 : decode cL_law 588 = .ok (.iconst 1, 1) := by decide +kernel
theorem dL_law_589 : decode cL_law 589 = .ok (.iadd, 1) := by decide +kernel
theorem dL_law_590 : decode cL_law 590 = .ok (.iaload, 1) := by decide +kernel
theorem dL_law_591 : decode cL_law 591 = .ok (.aload_n 0, 1) := by decide +kernel
theorem dL_law_592 : decode cL_law 592 = .ok (.iload_n 3, 1) := by decide +kernel
theorem dL_law_593 : decode cL_law 593 = .ok (.iconst 2, 1) := by decide +kernel
theorem dL_law_594 : decode cL_law 594 = .ok (.iadd, 1) := by decide +kernel
theorem dL_law_595 : decode cL_law 595 = .ok (.iaload, 1) := by decide +kernel
theorem dL_law_596 : decode cL_law 596 = .ok (.aload_n 0, 1) := by decide +kernel
theorem dL_law_597 : decode cL_law 597 = .ok (.iload_n 3, 1) := by decide +kernel
theorem dL_law_598 : decode cL_law 598 = .ok (.iconst 3, 1) := by decide +kernel
theorem dL_law_599 : decode cL_law 599 = .ok (.iadd, 1) := by decide +kernel
theorem dL_law_600 : decode cL_law 600 = .ok (.iaload, 1) := by decide +kernel
theorem dL_law_601 : decode cL_law 601 = .ok (.aload_n 0, 1) := by decide +kernel
theorem dL_law_602 : decode cL_law 602 = .ok (.iload_n 3, 1) := by decide +kernel
theorem dL_law_603 : decode cL_law 603 = .ok (.iconst 4, 1) := by decide +kernel
theorem dL_law_604 : decode cL_law 604 = .ok (.iadd, 1) := by decide +kernel
theorem dL_law_605 : decode cL_law 605 = .ok (.iaload, 1) := by decide +kernel
theorem dL_law_606 : decode cL_law 606 = .ok (.invokevirtual 59, 3) := by decide +kernel
theorem dL_law_609 : decode cL_law 609 = .ok (.if_icmp .eq 961, 3) := by decide +kernel
theorem dL_law_612 : decode cL_law 612 = .ok (.iconst 0, 1) := by decide +kernel
theorem dL_law_613 : decode cL_law 613 = .ok (.ireturn, 1) := by decide +kernel
theorem dL_law_614 : decode cL_law 614 = .ok (.aload_n 1, 1) := by decide +kernel
theorem dL_law_615 : decode cL_law 615 = .ok (.aload_n 0, 1) := by decide +kernel
theorem dL_law_616 : decode cL_law 616 = .ok (.iload_n 3, 1) := by decide +kernel
theorem dL_law_617 : decode cL_law 617 = .ok (.iconst 1, 1) := by decide +kernel
theorem dL_law_618 : decode cL_law 618 = .ok (.iadd, 1) := by decide +kernel
theorem dL_law_619 : decode cL_law 619 = .ok (.iaload, 1) := by decide +kernel
theorem dL_law_620 : decode cL_law 620 = .ok (.aload_n 0, 1) := by decide +kernel
theorem dL_law_621 : decode cL_law 621 = .ok (.iload_n 3, 1) := by decide +kernel
theorem dL_law_622 : decode cL_law 622 = .ok (.iconst 2, 1) := by decide +kernel
theorem dL_law_623 : decode cL_law 623 = .ok (.iadd, 1) := by decide +kernel
theorem dL_law_624 : decode cL_law 624 = .ok (.iaload, 1) := by decide +kernel
theorem dL_law_625 : decode cL_law 625 = .ok (.aload_n 0, 1) := by decide +kernel
theorem dL_law_626 : decode cL_law 626 = .ok (.iload_n 3, 1) := by decide +kernel
theorem dL_law_627 : decode cL_law 627 = .ok (.iconst 3, 1) := by decide +kernel
theorem dL_law_628 : decode cL_law 628 = .ok (.iadd, 1) := by decide +kernel
theorem dL_law_629 : decode cL_law 629 = .ok (.iaload, 1) := by decide +kernel
theorem dL_law_630 : decode cL_law 630 = .ok (.invokevirtual 60, 3) := by decide +kernel
theorem dL_law_633 : decode cL_law 633 = .ok (.aload_n 2, 1) := by decide +kernel
theorem dL_law_634 : decode cL_law 634 = .ok (.aload_n 0, 1) := by decide +kernel
theorem dL_law_635 : decode cL_law 635 = .ok (.iload_n 3, 1) := by decide +kernel
theorem dL_law_636 : decode cL_law 636 = .ok (.iconst 1, 1) := by decide +kernel
theorem dL_law_637 : decode cL_law 637 = .ok (.iadd, 1) := by decide +kernel
theorem dL_law_638 : decode cL_law 638 = .ok (.iaload, 1) := by decide +kernel
theorem dL_law_639 : decode cL_law 639 = .ok (.aload_n 0, 1) := by decide +kernel
theorem dL_law_640 : decode cL_law 640 = .ok (.iload_n 3, 1) := by decide +kernel
theorem dL_law_641 : decode cL_law 641 = .ok (.iconst 2, 1) := by decide +kernel
theorem dL_law_642 : decode cL_law 642 = .ok (.iadd, 1) := by decide +kernel
theorem dL_law_643 : decode cL_law 643 = .ok (.iaload, 1) := by decide +kernel
theorem dL_law_644 : decode cL_law 644 = .ok (.aload_n 0, 1) := by decide +kernel
theorem dL_law_645 : decode cL_law 645 = .ok (.iload_n 3, 1) := by decide +kernel
theorem dL_law_646 : decode cL_law 646 = .ok (.iconst 3, 1) := by decide +kernel
theorem dL_law_647 : decode cL_law 647 = .ok (.iadd, 1) := by decide +kernel
theorem dL_law_648 : decode cL_law 648 = .ok (.iaload, 1) := by decide +kernel
theorem dL_law_649 : decode cL_law 649 = .ok (.invokevirtual 63, 3) := by decide +kernel
theorem dL_law_652 : decode cL_law 652 = .ok (.if_icmp .eq 918, 3) := by decide +kernel
theorem dL_law_655 : decode cL_law 655 = .ok (.iconst 0, 1) := by decide +kernel
theorem dL_law_656 : decode cL_law 656 = .ok (.ireturn, 1) := by decide +kernel
theorem dL_law_657 : decode cL_law 657 = .ok (.aload_n 1, 1) := by decide +kernel
theorem dL_law_658 : decode cL_law 658 = .ok (.aload_n 0, 1) := by decide +kernel
theorem dL_law_659 : decode cL_law 659 = .ok (.iload_n 3, 1) := by decide +kernel
theorem dL_law_660 : decode cL_law 660 = .ok (.iconst 1, 1) := by decide +kernel
theorem dL_law_661 : decode cL_law 661 = .ok (.iadd, 1) := by decide +kernel
theorem dL_law_662 : decode cL_law 662 = .ok (.iaload, 1) := by decide +kernel
theorem dL_law_663 : decode cL_law 663 = .ok (.aload_n 0, 1) := by decide +kernel
theorem dL_law_664 : decode cL_law 664 = .ok (.iload_n 3, 1) := by decide +kernel
theorem dL_law_665 : decode cL_law 665 = .ok (.iconst 2, 1) := by decide +kernel
theorem dL_law_666 : decode cL_law 666 = .ok (.iadd, 1) := by decide +kernel
theorem dL_law_667 : decode cL_law 667 = .ok (.iaload, 1) := by decide +kernel
theorem dL_law_668 : decode cL_law 668 = .ok (.aload_n 0, 1) := by decide +kernel
theorem dL_law_669 : decode cL_law 669 = .ok (.iload_n 3, 1) := by decide +kernel
theorem dL_law_670 : decode cL_law 670 = .ok (.iconst 3, 1) := by decide +kernel
theorem dL_law_671 : decode cL_law 671 = .ok (.iadd, 1) := by decide +kernel
theorem dL_law_672 : decode cL_law 672 = .ok (.iaload, 1) := by decide +kernel
theorem dL_law_673 : decode cL_law 673 = .ok (.aload_n 0, 1) := by decide +kernel
theorem dL_law_674 : decode cL_law 674 = .ok (.iload_n 3, 1) := by decide +kernel
theorem dL_law_675 : decode cL_law 675 = .ok (.iconst 4, 1) := by decide +kernel
theorem dL_law_676 : decode cL_law 676 = .ok (.iadd, 1) := by decide +kernel
theorem dL_law_677 : decode cL_law 677 = .ok (.iaload, 1) := by decide +kernel
theorem dL_law_678 : decode cL_law 678 = .ok (.invokevirtual 64, 3) := by decide +kernel
theorem dL_law_681 : decode cL_law 681 = .ok (.aload_n 2, 1) := by decide +kernel
theorem dL_law_682 : decode cL_law 682 = .ok (.aload_n 0, 1) := by decide +kernel
theorem dL_law_683 : decode cL_law 683 = .ok (.iload_n 3, 1) := by decide +kernel
theorem dL_law_684 : decode cL_law 684 = .ok (.iconst 1, 1) := by decide +kernel
theorem dL_law_685 : decode cL_law 685 = .ok (.iadd, 1) := by decide +kernel
theorem dL_law_686 : decode cL_law 686 = .ok (.iaload, 1) := by decide +kernel
theorem dL_law_687 : decode cL_law 687 = .ok (.aload_n 0, 1) := by decide +kernel
theorem dL_law_688 : decode cL_law 688 = .ok (.iload_n 3, 1) := by decide +kernel
theorem dL_law_689 : decode cL_law 689 = .ok (.iconst 2, 1) := by decide +kernel
theorem dL_law_690 : decode cL_law 690 = .ok (.iadd, 1) := by decide +kernel
theorem dL_law_691 : decode cL_law 691 = .ok (.iaload, 1) := by decide +kernel
theorem dL_law_692 : decode cL_law 692 = .ok (.aload_n 0, 1) := by decide +kernel
theorem dL_law_693 : decode cL_law 693 = .ok (.iload_n 3, 1) := by decide +kernel
theorem dL_law_694 : decode cL_law 694 = .ok (.iconst 3, 1) := by decide +kernel
theorem dL_law_695 : decode cL_law 695 = .ok (.iadd, 1) := by decide +kernel
theorem dL_law_696 : decode cL_law 696 = .ok (.iaload, 1) := by decide +kernel
theorem dL_law_697 : decode cL_law 697 = .ok (.aload_n 0, 1) := by decide +kernel
theorem dL_law_698 : decode cL_law 698 = .ok (.iload_n 3, 1) := by decide +kernel
theorem dL_law_699 : decode cL_law 699 = .ok (.iconst 4, 1) := by decide +kernel
theorem dL_law_700 : decode cL_law 700 = .ok (.iadd, 1) := by decide +kernel
theorem dL_law_701 : decode cL_law 701 = .ok (.iaload, 1) := by decide +kernel
theorem dL_law_702 : decode cL_law 702 = .ok (.invokevirtual 67, 3) := by decide +kernel
theorem dL_law_705 : decode cL_law 705 = .ok (.if_icmp .eq 865, 3) := by decide +kernel
theorem dL_law_708 : decode cL_law 708 = .ok (.iconst 0, 1) := by decide +kernel
theorem dL_law_709 : decode cL_law 709 = .ok (.ireturn, 1) := by decide +kernel
theorem dL_law_710 : decode cL_law 710 = .ok (.aload_n 1, 1) := by decide +kernel
theorem dL_law_711 : decode cL_law 711 = .ok (.aload_n 0, 1) := by decide +kernel
theorem dL_law_712 : decode cL_law 712 = .ok (.iload_n 3, 1) := by decide +kernel
theorem dL_law_713 : decode cL_law 713 = .ok (.iconst 1, 1) := by decide +kernel
theorem dL_law_714 : decode cL_law 714 = .ok (.iadd, 1) := by decide +kernel
theorem dL_law_715 : decode cL_law 715 = .ok (.iaload, 1) := by decide +kernel
theorem dL_law_716 : decode cL_law 716 = .ok (.invokevirtual 68, 3) := by decide +kernel
theorem dL_law_719 : decode cL_law 719 = .ok (.aload_n 2, 1) := by decide +kernel
theorem dL_law_720 : decode cL_law 720 = .ok (.aload_n 0, 1) := by decide +kernel
theorem dL_law_721 : decode cL_law 721 = .ok (.iload_n 3, 1) := by decide +kernel
theorem dL_law_722 : decode cL_law 722 = .ok (.iconst 1, 1) := by decide +kernel
theorem dL_law_723 : decode cL_law 723 = .ok (.iadd, 1) := by decide +kernel
theorem dL_law_724 : decode cL_law 724 = .ok (.iaload, 1) := by decide +kernel
theorem dL_law_725 : decode cL_law 725 = .ok (.invokevirtual 71, 3) := by decide +kernel
theorem dL_law_728 : decode cL_law 728 = .ok (.if_icmp .eq 842, 3) := by decide +kernel
theorem dL_law_731 : decode cL_law 731 = .ok (.iconst 0, 1) := by decide +kernel
theorem dL_law_732 : decode cL_law 732 = .ok (.ireturn, 1) := by decide +kernel
theorem dL_law_733 : decode cL_law 733 = .ok (.aload_n 1, 1) := by decide +kernel
theorem dL_law_734 : decode cL_law 734 = .ok (.aload_n 0, 1) := by decide +kernel
theorem dL_law_735 : decode cL_law 735 = .ok (.iload_n 3, 1) := by decide +kernel
theorem dL_law_736 : decode cL_law 736 = .ok (.iconst 1, 1) := by decide +kernel
theorem dL_law_737 : decode cL_law 737 = .ok (.iadd, 1) := by decide +kernel
theorem dL_law_738 : decode cL_law 738 = .ok (.iaload, 1) := by decide +kernel
theorem dL_law_739 : decode cL_law 739 = .ok (.aload_n 0, 1) := by decide +kernel
theorem dL_law_740 : decode cL_law 740 = .ok (.iload_n 3, 1) := by decide +kernel
theorem dL_law_741 : decode cL_law 741 = .ok (.iconst 2, 1) := by decide +kernel
theorem dL_law_742 : decode cL_law 742 = .ok (.iadd, 1) := by decide +kernel
theorem dL_law_743 : decode cL_law 743 = .ok (.iaload, 1) := by decide +kernel
theorem dL_law_744 : decode cL_law 744 = .ok (.aload_n 0, 1) := by decide +kernel
theorem dL_law_745 : decode cL_law 745 = .ok (.iload_n 3, 1) := by decide +kernel
theorem dL_law_746 : decode cL_law 746 = .ok (.iconst 3, 1) := by decide +kernel
theorem dL_law_747 : decode cL_law 747 = .ok (.iadd, 1) := by decide +kernel
theorem dL_law_748 : decode cL_law 748 = .ok (.iaload, 1) := by decide +kernel
theorem dL_law_749 : decode cL_law 749 = .ok (.invokevirtual 72, 3) := by decide +kernel
theorem dL_law_752 : decode cL_law 752 = .ok (.aload_n 2, 1) := by decide +kernel
theorem dL_law_753 : decode cL_law 753 = .ok (.aload_n 0, 1) := by decide +kernel
theorem dL_law_754 : decode cL_law 754 = .ok (.iload_n 3, 1) := by decide +kernel
theorem dL_law_755 : decode cL_law 755 = .ok (.iconst 1, 1) := by decide +kernel
theorem dL_law_756 : decode cL_law 756 = .ok (.iadd, 1) := by decide +kernel
theorem dL_law_757 : decode cL_law 757 = .ok (.iaload, 1) := by decide +kernel
theorem dL_law_758 : decode cL_law 758 = .ok (.aload_n 0, 1) := by decide +kernel
theorem dL_law_759 : decode cL_law 759 = .ok (.iload_n 3, 1) := by decide +kernel
theorem dL_law_760 : decode cL_law 760 = .ok (.iconst 2, 1) := by decide +kernel
theorem dL_law_761 : decode cL_law 761 = .ok (.iadd, 1) := by decide +kernel
theorem dL_law_762 : decode cL_law 762 = .ok (.iaload, 1) := by decide +kernel
theorem dL_law_763 : decode cL_law 763 = .ok (.aload_n 0, 1) := by decide +kernel
theorem dL_law_764 : decode cL_law 764 = .ok (.iload_n 3, 1) := by decide +kernel
theorem dL_law_765 : decode cL_law 765 = .ok (.iconst 3, 1) := by decide +kernel
theorem dL_law_766 : decode cL_law 766 = .ok (.iadd, 1) := by decide +kernel
theorem dL_law_767 : decode cL_law 767 = .ok (.iaload, 1) := by decide +kernel
theorem dL_law_768 : decode cL_law 768 = .ok (.invokevirtual 75, 3) := by decide +kernel
theorem dL_law_771 : decode cL_law 771 = .ok (.if_icmp .eq 799, 3) := by decide +kernel
theorem dL_law_774 : decode cL_law 774 = .ok (.iconst 0, 1) := by decide +kernel
theorem dL_law_775 : decode cL_law 775 = .ok (.ireturn, 1) := by decide +kernel
theorem dL_law_776 : decode cL_law 776 = .ok (.aload_n 1, 1) := by decide +kernel
theorem dL_law_777 : decode cL_law 777 = .ok (.aload_n 0, 1) := by decide +kernel
theorem dL_law_778 : decode cL_law 778 = .ok (.iload_n 3, 1) := by decide +kernel
theorem dL_law_779 : decode cL_law 779 = .ok (.iconst 1, 1) := by decide +kernel
theorem dL_law_780 : decode cL_law 780 = .ok (.iadd, 1) := by decide +kernel
theorem dL_law_781 : decode cL_law 781 = .ok (.iaload, 1) := by decide +kernel
theorem dL_law_782 : decode cL_law 782 = .ok (.aload_n 0, 1) := by decide +kernel
theorem dL_law_783 : decode cL_law 783 = .ok (.iload_n 3, 1) := by decide +kernel
theorem dL_law_784 : decode cL_law 784 = .ok (.iconst 2, 1) := by decide +kernel
theorem dL_law_785 : decode cL_law 785 = .ok (.iadd, 1) := by decide +kernel
theorem dL_law_786 : decode cL_law 786 = .ok (.iaload, 1) := by decide +kernel
theorem dL_law_787 : decode cL_law 787 = .ok (.aload_n 0, 1) := by decide +kernel
theorem dL_law_788 : decode cL_law 788 = .ok (.iload_n 3, 1) := by decide +kernel
theorem dL_law_789 : decode cL_law 789 = .ok (.iconst 3, 1) := by decide +kernel
theorem dL_law_790 : decode cL_law 790 = .ok (.iadd, 1) := by decide +kernel
theorem dL_law_791 : decode cL_law 791 = .ok (.iaload, 1) := by decide +kernel
theorem dL_law_792 : decode cL_law 792 = .ok (.invokevirtual 76, 3) := by decide +kernel
theorem dL_law_795 : decode cL_law 795 = .ok (.aload_n 2, 1) := by decide +kernel
theorem dL_law_796 : decode cL_law 796 = .ok (.aload_n 0, 1) := by decide +kernel
theorem dL_law_797 : decode cL_law 797 = .ok (.iload_n 3, 1) := by decide +kernel
theorem dL_law_798 : decode cL_law 798 = .ok (.iconst 1, 1) := by decide +kernel
theorem dL_law_799 : decode cL_law 799 = .ok (.iadd, 1) := by decide +kernel
theorem dL_law_800 : decode cL_law 800 = .ok (.iaload, 1) := by decide +kernel
theorem dL_law_801 : decode cL_law 801 = .ok (.aload_n 0, 1) := by decide +kernel
theorem dL_law_802 : decode cL_law 802 = .ok (.iload_n 3, 1) := by decide +kernel
theorem dL_law_803 : decode cL_law 803 = .ok (.iconst 2, 1) := by decide +kernel
theorem dL_law_804 : decode cL_law 804 = .ok (.iadd, 1) := by decide +kernel
theorem dL_law_805 : decode cL_law 805 = .ok (.iaload, 1) := by decide +kernel
theorem dL_law_806 : decode cL_law 806 = .ok (.aload_n 0, 1) := by decide +kernel
theorem dL_law_807 : decode cL_law 807 = .ok (.iload_n 3, 1) := by decide +kernel
theorem dL_law_808 : decode cL_law 808 = .ok (.iconst 3, 1) := by decide +kernel
theorem dL_law_809 : decode cL_law 809 = .ok (.iadd, 1) := by decide +kernel
theorem dL_law_810 : decode cL_law 810 = .ok (.iaload, 1) := by decide +kernel
theorem dL_law_811 : decode cL_law 811 = .ok (.invokevirtual 79, 3) := by decide +kernel
theorem dL_law_814 : decode cL_law 814 = .ok (.if_icmp .eq 756, 3) := by decide +kernel
theorem dL_law_817 : decode cL_law 817 = .ok (.iconst 0, 1) := by decide +kernel
theorem dL_law_818 : decode cL_law 818 = .ok (.ireturn, 1) := by decide +kernel
theorem dL_law_819 : decode cL_law 819 = .ok (.aload_n 1, 1) := by decide +kernel
theorem dL_law_820 : decode cL_law 820 = .ok (.aload_n 0, 1) := by decide +kernel
theorem dL_law_821 : decode cL_law 821 = .ok (.iload_n 3, 1) := by decide +kernel
theorem dL_law_822 : decode cL_law 822 = .ok (.iconst 1, 1) := by decide +kernel
theorem dL_law_823 : decode cL_law 823 = .ok (.iadd, 1) := by decide +kernel
theorem dL_law_824 : decode cL_law 824 = .ok (.iaload, 1) := by decide +kernel
theorem dL_law_825 : decode cL_law 825 = .ok (.aload_n 0, 1) := by decide +kernel
theorem dL_law_826 : decode cL_law 826 = .ok (.iload_n 3, 1) := by decide +kernel
theorem dL_law_827 : decode cL_law 827 = .ok (.iconst 2, 1) := by decide +kernel
theorem dL_law_828 : decode cL_law 828 = .ok (.iadd, 1) := by decide +kernel
theorem dL_law_829 : decode cL_law 829 = .ok (.iaload, 1) := by decide +kernel
theorem dL_law_830 : decode cL_law 830 = .ok (.aload_n 0, 1) := by decide +kernel
theorem dL_law_831 : decode cL_law 831 = .ok (.iload_n 3, 1) := by decide +kernel
theorem dL_law_832 : decode cL_law 832 = .ok (.iconst 3, 1) := by decide +kernel
theorem dL_law_833 : decode cL_law 833 = .ok (.iadd, 1) := by decide +kernel
theorem dL_law_834 : decode cL_law 834 = .ok (.iaload, 1) := by decide +kernel
theorem dL_law_835 : decode cL_law 835 = .ok (.aload_n 0, 1) := by decide +kernel
theorem dL_law_836 : decode cL_law 836 = .ok (.iload_n 3, 1) := by decide +kernel
theorem dL_law_837 : decode cL_law 837 = .ok (.iconst 4, 1) := by decide +kernel
theorem dL_law_838 : decode cL_law 838 = .ok (.iadd, 1) := by decide +kernel
theorem dL_law_839 : decode cL_law 839 = .ok (.iaload, 1) := by decide +kernel
theorem dL_law_840 : decode cL_law 840 = .ok (.invokevirtual 80, 3) := by decide +kernel
theorem dL_law_843 : decode cL_law 843 = .ok (.aload_n 2, 1) := by decide +kernel
theorem dL_law_844 : decode cL_law 844 = .ok (.aload_n 0, 1) := by decide +kernel
theorem dL_law_845 : decode cL_law 845 = .ok (.iload_n 3, 1) := by decide +kernel
theorem dL_law_846 : decode cL_law 846 = .ok (.iconst 1, 1) := by decide +kernel
theorem dL_law_847 : decode cL_law 847 = .ok (.iadd, 1) := by decide +kernel
theorem dL_law_848 : decode cL_law 848 = .ok (.iaload, 1) := by decide +kernel
theorem dL_law_849 : decode cL_law 849 = .ok (.aload_n 0, 1) := by decide +kernel
theorem dL_law_850 : decode cL_law 850 = .ok (.iload_n 3, 1) := by decide +kernel
theorem dL_law_851 : decode cL_law 851 = .ok (.iconst 2, 1) := by decide +kernel
theorem dL_law_852 : decode cL_law 852 = .ok (.iadd, 1) := by decide +kernel
theorem dL_law_853 : decode cL_law 853 = .ok (.iaload, 1) := by decide +kernel
theorem dL_law_854 : decode cL_law 854 = .ok (.aload_n 0, 1) := by decide +kernel
theorem dL_law_855 : decode cL_law 855 = .ok (.iload_n 3, 1) := by decide +kernel
theorem dL_law_856 : decode cL_law 856 = .ok (.iconst 3, 1) := by decide +kernel
theorem dL_law_857 : decode cL_law 857 = .ok (.iadd, 1) := by decide +kernel
theorem dL_law_858 : decode cL_law 858 = .ok (.iaload, 1) := by decide +kernel
theorem dL_law_859 : decode cL_law 859 = .ok (.aload_n 0, 1) := by decide +kernel
theorem dL_law_860 : decode cL_law 860 = .ok (.iload_n 3, 1) := by decide +kernel
theorem dL_law_861 : decode cL_law 861 = .ok (.iconst 4, 1) := by decide +kernel
theorem dL_law_862 : decode cL_law 862 = .ok (.iadd, 1) := by decide +kernel
theorem dL_law_863 : decode cL_law 863 = .ok (.iaload, 1) := by decide +kernel
theorem dL_law_864 : decode cL_law 864 = .ok (.invokevirtual 83, 3) := by decide +kernel
theorem dL_law_867 : decode cL_law 867 = .ok (.if_icmp .eq 703, 3) := by decide +kernel
theorem dL_law_870 : decode cL_law 870 = .ok (.iconst 0, 1) := by decide +kernel
theorem dL_law_871 : decode cL_law 871 = .ok (.ireturn, 1) := by decide +kernel
theorem dL_law_872 : decode cL_law 872 = .ok (.aload_n 1, 1) := by decide +kernel
theorem dL_law_873 : decode cL_law 873 = .ok (.aload_n 0, 1) := by decide +kernel
theorem dL_law_874 : decode cL_law 874 = .ok (.iload_n 3, 1) := by decide +kernel
theorem dL_law_875 : decode cL_law 875 = .ok (.iconst 1, 1) := by decide +kernel
theorem dL_law_876 : decode cL_law 876 = .ok (.iadd, 1) := by decide +kernel
theorem dL_law_877 : decode cL_law 877 = .ok (.iaload, 1) := by decide +kernel
theorem dL_law_878 : decode cL_law 878 = .ok (.aload_n 0, 1) := by decide +kernel
theorem dL_law_879 : decode cL_law 879 = .ok (.iload_n 3, 1) := by decide +kernel
theorem dL_law_880 : decode cL_law 880 = .ok (.iconst 2, 1) := by decide +kernel
theorem dL_law_881 : decode cL_law 881 = .ok (.iadd, 1) := by decide +kernel
theorem dL_law_882 : decode cL_law 882 = .ok (.iaload, 1) := by decide +kernel
theorem dL_law_883 : decode cL_law 883 = .ok (.invokevirtual 84, 3) := by decide +kernel
theorem dL_law_886 : decode cL_law 886 = .ok (.aload_n 2, 1) := by decide +kernel
theorem dL_law_887 : decode cL_law 887 = .ok (.aload_n 0, 1) := by decide +kernel
theorem dL_law_888 : decode cL_law 888 = .ok (.iload_n 3, 1) := by decide +kernel
theorem dL_law_889 : decode cL_law 889 = .ok (.iconst 1, 1) := by decide +kernel
theorem dL_law_890 : decode cL_law 890 = .ok (.iadd, 1) := by decide +kernel
theorem dL_law_891 : decode cL_law 891 = .ok (.iaload, 1) := by decide +kernel
theorem dL_law_892 : decode cL_law 892 = .ok (.aload_n 0, 1) := by decide +kernel
theorem dL_law_893 : decode cL_law 893 = .ok (.iload_n 3, 1) := by decide +kernel
theorem dL_law_894 : decode cL_law 894 = .ok (.iconst 2, 1) := by decide +kernel
theorem dL_law_895 : decode cL_law 895 = .ok (.iadd, 1) := by decide +kernel
theorem dL_law_896 : decode cL_law 896 = .ok (.iaload, 1) := by decide +kernel
theorem dL_law_897 : decode cL_law 897 = .ok (.invokevirtual 87, 3) := by decide +kernel
theorem dL_law_900 : decode cL_law 900 = .ok (.if_icmp .eq 670, 3) := by decide +kernel
theorem dL_law_903 : decode cL_law 903 = .ok (.iconst 0, 1) := by decide +kernel
theorem dL_law_904 : decode cL_law 904 = .ok (.ireturn, 1) := by decide +kernel
theorem dL_law_905 : decode cL_law 905 = .ok (.aload_n 1, 1) := by decide +kernel
theorem dL_law_906 : decode cL_law 906 = .ok (.aload_n 0, 1) := by decide +kernel
theorem dL_law_907 : decode cL_law 907 = .ok (.iload_n 3, 1) := by decide +kernel
theorem dL_law_908 : decode cL_law 908 = .ok (.iconst 1, 1) := by decide +kernel
theorem dL_law_909 : decode cL_law 909 = .ok (.iadd, 1) := by decide +kernel
theorem dL_law_910 : decode cL_law 910 = .ok (.iaload, 1) := by decide +kernel
theorem dL_law_911 : decode cL_law 911 = .ok (.aload_n 0, 1) := by decide +kernel
theorem dL_law_912 : decode cL_law 912 = .ok (.iload_n 3, 1) := by decide +kernel
theorem dL_law_913 : decode cL_law 913 = .ok (.iconst 2, 1) := by decide +kernel
theorem dL_law_914 : decode cL_law 914 = .ok (.iadd, 1) := by decide +kernel
theorem dL_law_915 : decode cL_law 915 = .ok (.iaload, 1) := by decide +kernel
theorem dL_law_916 : decode cL_law 916 = .ok (.invokevirtual 88, 3) := by decide +kernel
theorem dL_law_919 : decode cL_law 919 = .ok (.aload_n 2, 1) := by decide +kernel
theorem dL_law_920 : decode cL_law 920 = .ok (.aload_n 0, 1) := by decide +kernel
theorem dL_law_921 : decode cL_law 921 = .ok (.iload_n 3, 1) := by decide +kernel
theorem dL_law_922 : decode cL_law 922 = .ok (.iconst 1, 1) := by decide +kernel
theorem dL_law_923 : decode cL_law 923 = .ok (.iadd, 1) := by decide +kernel
theorem dL_law_924 : decode cL_law 924 = .ok (.iaload, 1) := by decide +kernel
theorem dL_law_925 : decode cL_law 925 = .ok (.aload_n 0, 1) := by decide +kernel
theorem dL_law_926 : decode cL_law 926 = .ok (.iload_n 3, 1) := by decide +kernel
theorem dL_law_927 : decode cL_law 927 = .ok (.iconst 2, 1) := by decide +kernel
theorem dL_law_928 : decode cL_law 928 = .ok (.iadd, 1) := by decide +kernel
theorem dL_law_929 : decode cL_law 929 = .ok (.iaload, 1) := by decide +kernel
theorem dL_law_930 : decode cL_law 930 = .ok (.invokevirtual 91, 3) := by decide +kernel
theorem dL_law_933 : decode cL_law 933 = .ok (.if_icmp .eq 637, 3) := by decide +kernel
theorem dL_law_936 : decode cL_law 936 = .ok (.iconst 0, 1) := by decide +kernel
theorem dL_law_937 : decode cL_law 937 = .ok (.ireturn, 1) := by decide +kernel
theorem dL_law_938 : decode cL_law 938 = .ok (.aload_n 1, 1) := by decide +kernel
theorem dL_law_939 : decode cL_law 939 = .ok (.aload_n 0, 1) := by decide +kernel
theorem dL_law_940 : decode cL_law 940 = .ok (.iload_n 3, 1) := by decide +kernel
theorem dL_law_941 : decode cL_law 941 = .ok (.iconst 1, 1) := by decide +kernel
theorem dL_law_942 : decode cL_law 942 = .ok (.iadd, 1) := by decide +kernel
theorem dL_law_943 : decode cL_law 943 = .ok (.iaload, 1) := by decide +kernel
theorem dL_law_944 : decode cL_law 944 = .ok (.aload_n 0, 1) := by decide +kernel
theorem dL_law_945 : decode cL_law 945 = .ok (.iload_n 3, 1) := by decide +kernel
theorem dL_law_946 : decode cL_law 946 = .ok (.iconst 2, 1) := by decide +kernel
theorem dL_law_947 : decode cL_law 947 = .ok (.iadd, 1) := by decide +kernel
theorem dL_law_948 : decode cL_law 948 = .ok (.iaload, 1) := by decide +kernel
theorem dL_law_949 : decode cL_law 949 = .ok (.aload_n 0, 1) := by decide +kernel
theorem dL_law_950 : decode cL_law 950 = .ok (.iload_n 3, 1) := by decide +kernel
theorem dL_law_951 : decode cL_law 951 = .ok (.iconst 3, 1) := by decide +kernel
theorem dL_law_952 : decode cL_law 952 = .ok (.iadd, 1) := by decide +kernel
theorem dL_law_953 : decode cL_law 953 = .ok (.iaload, 1) := by decide +kernel
theorem dL_law_954 : decode cL_law 954 = .ok (.invokevirtual 92, 3) := by decide +kernel
theorem dL_law_957 : decode cL_law 957 = .ok (.aload_n 2, 1) := by decide +kernel
theorem dL_law_958 : decode cL_law 958 = .ok (.aload_n 0, 1) := by decide +kernel
theorem dL_law_959 : decode cL_law 959 = .ok (.iload_n 3, 1) := by decide +kernel
theorem dL_law_960 : decode cL_law 960 = .ok (.iconst 1, 1) := by decide +kernel
theorem dL_law_961 : decode cL_law 961 = .ok (.iadd, 1) := by decide +kernel
theorem dL_law_962 : decode cL_law 962 = .ok (.iaload, 1) := by decide +kernel
theorem dL_law_963 : decode cL_law 963 = .ok (.aload_n 0, 1) := by decide +kernel
theorem dL_law_964 : decode cL_law 964 = .ok (.iload_n 3, 1) := by decide +kernel
theorem dL_law_965 : decode cL_law 965 = .ok (.iconst 2, 1) := by decide +kernel
theorem dL_law_966 : decode cL_law 966 = .ok (.iadd, 1) := by decide +kernel
theorem dL_law_967 : decode cL_law 967 = .ok (.iaload, 1) := by decide +kernel
theorem dL_law_968 : decode cL_law 968 = .ok (.aload_n 0, 1) := by decide +kernel
theorem dL_law_969 : decode cL_law 969 = .ok (.iload_n 3, 1) := by decide +kernel
theorem dL_law_970 : decode cL_law 970 = .ok (.iconst 3, 1) := by decide +kernel
theorem dL_law_971 : decode cL_law 971 = .ok (.iadd, 1) := by decide +kernel
theorem dL_law_972 : decode cL_law 972 = .ok (.iaload, 1) := by decide +kernel
theorem dL_law_973 : decode cL_law 973 = .ok (.invokevirtual 95, 3) := by decide +kernel
theorem dL_law_976 : decode cL_law 976 = .ok (.if_icmp .eq 594, 3) := by decide +kernel
theorem dL_law_979 : decode cL_law 979 = .ok (.iconst 0, 1) := by decide +kernel
theorem dL_law_980 : decode cL_law 980 = .ok (.ireturn, 1) := by decide +kernel
theorem dL_law_981 : decode cL_law 981 = .ok (.aload_n 1, 1) := by decide +kernel
theorem dL_law_982 : decode cL_law 982 = .ok (.aload_n 0, 1) := by decide +kernel
theorem dL_law_983 : decode cL_law 983 = .ok (.iload_n 3, 1) := by decide +kernel
theorem dL_law_984 : decode cL_law 984 = .ok (.iconst 1, 1) := by decide +kernel
theorem dL_law_985 : decode cL_law 985 = .ok (.iadd, 1) := by decide +kernel
theorem dL_law_986 : decode cL_law 986 = .ok (.iaload, 1) := by decide +kernel
theorem dL_law_987 : decode cL_law 987 = .ok (.aload_n 0, 1) := by decide +kernel
theorem dL_law_988 : decode cL_law 988 = .ok (.iload_n 3, 1) := by decide +kernel
theorem dL_law_989 : decode cL_law 989 = .ok (.iconst 2, 1) := by decide +kernel
theorem dL_law_990 : decode cL_law 990 = .ok (.iadd, 1) := by decide +kernel
theorem dL_law_991 : decode cL_law 991 = .ok (.iaload, 1) := by decide +kernel
theorem dL_law_992 : decode cL_law 992 = .ok (.aload_n 0, 1) := by decide +kernel
theorem dL_law_993 : decode cL_law 993 = .ok (.iload_n 3, 1) := by decide +kernel
theorem dL_law_994 : decode cL_law 994 = .ok (.iconst 3, 1) := by decide +kernel
theorem dL_law_995 : decode cL_law 995 = .ok (.iadd, 1) := by decide +kernel
theorem dL_law_996 : decode cL_law 996 = .ok (.iaload, 1) := by decide +kernel
theorem dL_law_997 : decode cL_law 997 = .ok (.aload_n 0, 1) := by decide +kernel
theorem dL_law_998 : decode cL_law 998 = .ok (.iload_n 3, 1) := by decide +kernel
theorem dL_law_999 : decode cL_law 999 = .ok (.iconst 4, 1) := by decide +kernel
theorem dL_law_1000 : decode cL_law 1000 = .ok (.iadd, 1) := by decide +kernel
theorem dL_law_1001 : decode cL_law 1001 = .ok (.iaload, 1) := by decide +kernel
theorem dL_law_1002 : decode cL_law 1002 = .ok (.invokevirtual 96, 3) := by decide +kernel
theorem dL_law_1005 : decode cL_law 1005 = .ok (.aload_n 2, 1) := by decide +kernel
theorem dL_law_1006 : decode cL_law 1006 = .ok (.aload_n 0, 1) := by decide +kernel
theorem dL_law_1007 : decode cL_law 1007 = .ok (.iload_n 3, 1) := by decide +kernel
theorem dL_law_1008 : decode cL_law 1008 = .ok (.iconst 1, 1) := by decide +kernel
theorem dL_law_1009 : decode cL_law 1009 = .ok (.iadd, 1) := by decide +kernel
theorem dL_law_1010 : decode cL_law 1010 = .ok (.iaload, 1) := by decide +kernel
theorem dL_law_1011 : decode cL_law 1011 = .ok (.aload_n 0, 1) := by decide +kernel
theorem dL_law_1012 : decode cL_law 1012 = .ok (.iload_n 3, 1) := by decide +kernel
theorem dL_law_1013 : decode cL_law 1013 = .ok (.iconst 2, 1) := by decide +kernel
theorem dL_law_1014 : decode cL_law 1014 = .ok (.iadd, 1) := by decide +kernel
theorem dL_law_1015 : decode cL_law 1015 = .ok (.iaload, 1) := by decide +kernel
theorem dL_law_1016 : decode cL_law 1016 = .ok (.aload_n 0, 1) := by decide +kernel
theorem dL_law_1017 : decode cL_law 1017 = .ok (.iload_n 3, 1) := by decide +kernel
theorem dL_law_1018 : decode cL_law 1018 = .ok (.iconst 3, 1) := by decide +kernel
theorem dL_law_1019 : decode cL_law 1019 = .ok (.iadd, 1) := by decide +kernel
theorem dL_law_1020 : decode cL_law 1020 = .ok (.iaload, 1) := by decide +kernel
theorem dL_law_1021 : decode cL_law 1021 = .ok (.aload_n 0, 1) := by decide +kernel
theorem dL_law_1022 : decode cL_law 1022 = .ok (.iload_n 3, 1) := by decide +kernel
theorem dL_law_1023 : decode cL_law 1023 = .ok (.iconst 4, 1) := by decide +kernel
theorem dL_law_1024 : decode cL_law 1024 = .ok (.iadd, 1) := by decide +kernel
theorem dL_law_1025 : decode cL_law 1025 = .ok (.iaload, 1) := by decide +kernel
theorem dL_law_1026 : decode cL_law 1026 = .ok (.invokevirtual 99, 3) := by decide +kernel
theorem dL_law_1029 : decode cL_law 1029 = .ok (.if_icmp .eq 541, 3) := by decide +kernel
theorem dL_law_1032 : decode cL_law 1032 = .ok (.iconst 0, 1) := by decide +kernel
theorem dL_law_1033 : decode cL_law 1033 = .ok (.ireturn, 1) := by decide +kernel
theorem dL_law_1034 : decode cL_law 1034 = .ok (.aload_n 1, 1) := by decide +kernel
theorem dL_law_1035 : decode cL_law 1035 = .ok (.aload_n 0, 1) := by decide +kernel
theorem dL_law_1036 : decode cL_law 1036 = .ok (.iload_n 3, 1) := by decide +kernel
theorem dL_law_1037 : decode cL_law 1037 = .ok (.iconst 1, 1) := by decide +kernel
theorem dL_law_1038 : decode cL_law 1038 = .ok (.iadd, 1) := by decide +kernel
theorem dL_law_1039 : decode cL_law 1039 = .ok (.iaload, 1) := by decide +kernel
theorem dL_law_1040 : decode cL_law 1040 = .ok (.aload_n 0, 1) := by decide +kernel
theorem dL_law_1041 : decode cL_law 1041 = .ok (.iload_n 3, 1) := by decide +kernel
theorem dL_law_1042 : decode cL_law 1042 = .ok (.iconst 2, 1) := by decide +kernel
theorem dL_law_1043 : decode cL_law 1043 = .ok (.iadd, 1) := by decide +kernel
theorem dL_law_1044 : decode cL_law 1044 = .ok (.iaload, 1) := by decide +kernel
theorem dL_law_1045 : decode cL_law 1045 = .ok (.aload_n 0, 1) := by decide +kernel
theorem dL_law_1046 : decode cL_law 1046 = .ok (.iload_n 3, 1) := by decide +kernel
theorem dL_law_1047 : decode cL_law 1047 = .ok (.iconst 3, 1) := by decide +kernel
theorem dL_law_1048 : decode cL_law 1048 = .ok (.iadd, 1) := by decide +kernel
theorem dL_law_1049 : decode cL_law 1049 = .ok (.iaload, 1) := by decide +kernel
theorem dL_law_1050 : decode cL_law 1050 = .ok (.invokevirtual 100, 3) := by decide +kernel
theorem dL_law_1053 : decode cL_law 1053 = .ok (.aload_n 2, 1) := by decide +kernel
theorem dL_law_1054 : decode cL_law 1054 = .ok (.aload_n 0, 1) := by decide +kernel
theorem dL_law_1055 : decode cL_law 1055 = .ok (.iload_n 3, 1) := by decide +kernel
theorem dL_law_1056 : decode cL_law 1056 = .ok (.iconst 1, 1) := by decide +kernel
theorem dL_law_1057 : decode cL_law 1057 = .ok (.iadd, 1) := by decide +kernel
theorem dL_law_1058 : decode cL_law 1058 = .ok (.iaload, 1) := by decide +kernel
theorem dL_law_1059 : decode cL_law 1059 = .ok (.aload_n 0, 1) := by decide +kernel
theorem dL_law_1060 : decode cL_law 1060 = .ok (.iload_n 3, 1) := by decide +kernel
theorem dL_law_1061 : decode cL_law 1061 = .ok (.iconst 2, 1) := by decide +kernel
theorem dL_law_1062 : decode cL_law 1062 = .ok (.iadd, 1) := by decide +kernel
theorem dL_law_1063 : decode cL_law 1063 = .ok (.iaload, 1) := by decide +kernel
theorem dL_law_1064 : decode cL_law 1064 = .ok (.aload_n 0, 1) := by decide +kernel
theorem dL_law_1065 : decode cL_law 1065 = .ok (.iload_n 3, 1) := by decide +kernel
theorem dL_law_1066 : decode cL_law 1066 = .ok (.iconst 3, 1) := by decide +kernel
theorem dL_law_1067 : decode cL_law 1067 = .ok (.iadd, 1) := by decide +kernel
theorem dL_law_1068 : decode cL_law 1068 = .ok (.iaload, 1) := by decide +kernel
theorem dL_law_1069 : decode cL_law 1069 = .ok (.invokevirtual 103, 3) := by decide +kernel
theorem dL_law_1072 : decode cL_law 1072 = .ok (.if_icmp .eq 498, 3) := by decide +kernel
theorem dL_law_1075 : decode cL_law 1075 = .ok (.iconst 0, 1) := by decide +kernel
theorem dL_law_1076 : decode cL_law 1076 = .ok (.ireturn, 1) := by decide +kernel
theorem dL_law_1077 : decode cL_law 1077 = .ok (.aload_n 1, 1) := by decide +kernel
theorem dL_law_1078 : decode cL_law 1078 = .ok (.aload_n 0, 1) := by decide +kernel
theorem dL_law_1079 : decode cL_law 1079 = .ok (.iload_n 3, 1) := by decide +kernel
theorem dL_law_1080 : decode cL_law 1080 = .ok (.iconst 1, 1) := by decide +kernel
theorem dL_law_1081 : decode cL_law 1081 = .ok (.iadd, 1) := by decide +kernel
theorem dL_law_1082 : decode cL_law 1082 = .ok (.iaload, 1) := by decide +kernel
theorem dL_law_1083 : decode cL_law 1083 = .ok (.aload_n 0, 1) := by decide +kernel
theorem dL_law_1084 : decode cL_law 1084 = .ok (.iload_n 3, 1) := by decide +kernel
theorem dL_law_1085 : decode cL_law 1085 = .ok (.iconst 2, 1) := by decide +kernel
theorem dL_law_1086 : decode cL_law 1086 = .ok (.iadd, 1) := by decide +kernel
theorem dL_law_1087 : decode cL_law 1087 = .ok (.iaload, 1) := by decide +kernel
theorem dL_law_1088 : decode cL_law 1088 = .ok (.invokevirtual 104, 3) := by decide +kernel
theorem dL_law_1091 : decode cL_law 1091 = .ok (.aload_n 2, 1) := by decide +kernel
theorem dL_law_1092 : decode cL_law 1092 = .ok (.aload_n 0, 1) := by decide +kernel
theorem dL_law_1093 : decode cL_law 1093 = .ok (.iload_n 3, 1) := by decide +kernel
theorem dL_law_1094 : decode cL_law 1094 = .ok (.iconst 1, 1) := by decide +kernel
theorem dL_law_1095 : decode cL_law 1095 = .ok (.iadd, 1) := by decide +kernel
theorem dL_law_1096 : decode cL_law 1096 = .ok (.iaload, 1) := by decide +kernel
theorem dL_law_1097 : decode cL_law 1097 = .ok (.aload_n 0, 1) := by decide +kernel
theorem dL_law_1098 : decode cL_law 1098 = .ok (.iload_n 3, 1) := by decide +kernel
theorem dL_law_1099 : decode cL_law 1099 = .ok (.iconst 2, 1) := by decide +kernel
theorem dL_law_1100 : decode cL_law 1100 = .ok (.iadd, 1) := by decide +kernel
theorem dL_law_1101 : decode cL_law 1101 = .ok (.iaload, 1) := by decide +kernel
theorem dL_law_1102 : decode cL_law 1102 = .ok (.invokevirtual 107, 3) := by decide +kernel
theorem dL_law_1105 : decode cL_law 1105 = .ok (.if_icmp .eq 465, 3) := by decide +kernel
theorem dL_law_1108 : decode cL_law 1108 = .ok (.iconst 0, 1) := by decide +kernel
theorem dL_law_1109 : decode cL_law 1109 = .ok (.ireturn, 1) := by decide +kernel
theorem dL_law_1110 : decode cL_law 1110 = .ok (.aload_n 1, 1) := by decide +kernel
theorem dL_law_1111 : decode cL_law 1111 = .ok (.invokevirtual 108, 3) := by decide +kernel
theorem dL_law_1114 : decode cL_law 1114 = .ok (.aload_n 2, 1) := by decide +kernel
theorem dL_law_1115 : decode cL_law 1115 = .ok (.invokevirtual 111, 3) := by decide +kernel
theorem dL_law_1118 : decode cL_law 1118 = .ok (.goto 452, 3) := by decide +kernel
theorem dL_law_1121 : decode cL_law 1121 = .ok (.aload_n 1, 1) := by decide +kernel
theorem dL_law_1122 : decode cL_law 1122 = .ok (.invokevirtual 112, 3) := by decide +kernel
theorem dL_law_1125 : decode cL_law 1125 = .ok (.aload_n 2, 1) := by decide +kernel
theorem dL_law_1126 : decode cL_law 1126 = .ok (.invokevirtual 115, 3) := by decide +kernel
theorem dL_law_1129 : decode cL_law 1129 = .ok (.if_icmp .eq 441, 3) := by decide +kernel
theorem dL_law_1132 : decode cL_law 1132 = .ok (.iconst 0, 1) := by decide +kernel
theorem dL_law_1133 : decode cL_law 1133 = .ok (.ireturn, 1) := by decide +kernel
theorem dL_law_1134 : decode cL_law 1134 = .ok (.aload_n 1, 1) := by decide +kernel
theorem dL_law_1135 : decode cL_law 1135 = .ok (.aload_n 0, 1) := by decide +kernel
theorem dL_law_1136 : decode cL_law 1136 = .ok (.iload_n 3, 1) := by decide +kernel
theorem dL_law_1137 : decode cL_law 1137 = .ok (.iconst 1, 1) := by decide +kernel
theorem dL_law_1138 : decode cL_law 1138 = .ok (.iadd, 1) := by decide +kernel
theorem dL_law_1139 : decode cL_law 1139 = .ok (.iaload, 1) := by decide +kernel
theorem dL_law_1140 : decode cL_law 1140 = .ok (.invokevirtual 116, 3) := by decide +kernel
theorem dL_law_1143 : decode cL_law 1143 = .ok (.aload_n 2, 1) := by decide +kernel
theorem dL_law_1144 : decode cL_law 1144 = .ok (.aload_n 0, 1) := by decide +kernel
theorem dL_law_1145 : decode cL_law 1145 = .ok (.iload_n 3, 1) := by decide +kernel
theorem dL_law_1146 : decode cL_law 1146 = .ok (.iconst 1, 1) := by decide +kernel
theorem dL_law_1147 : decode cL_law 1147 = .ok (.iadd, 1) := by decide +kernel
theorem dL_law_1148 : decode cL_law 1148 = .ok (.iaload, 1) := by decide +kernel
theorem dL_law_1149 : decode cL_law 1149 = .ok (.invokevirtual 119, 3) := by decide +kernel
theorem dL_law_1152 : decode cL_law 1152 = .ok (.if_icmp .eq 418, 3) := by decide +kernel
theorem dL_law_1155 : decode cL_law 1155 = .ok (.iconst 0, 1) := by decide +kernel
theorem dL_law_1156 : decode cL_law 1156 = .ok (.ireturn, 1) := by decide +kernel
theorem dL_law_1157 : decode cL_law 1157 = .ok (.aload_n 1, 1) := by decide +kernel
theorem dL_law_1158 : decode cL_law 1158 = .ok (.aload_n 0, 1) := by decide +kernel
theorem dL_law_1159 : decode cL_law 1159 = .ok (.iload_n 3, 1) := by decide +kernel
theorem dL_law_1160 : decode cL_law 1160 = .ok (.iconst 1, 1) := by decide +kernel
theorem dL_law_1161 : decode cL_law 1161 = .ok (.iadd, 1) := by decide +kernel
theorem dL_law_1162 : decode cL_law 1162 = .ok (.iaload, 1) := by decide +kernel
theorem dL_law_1163 : decode cL_law 1163 = .ok (.aload_n 0, 1) := by decide +kernel
theorem dL_law_1164 : decode cL_law 1164 = .ok (.iload_n 3, 1) := by decide +kernel
theorem dL_law_1165 : decode cL_law 1165 = .ok (.iconst 2, 1) := by decide +kernel
theorem dL_law_1166 : decode cL_law 1166 = .ok (.iadd, 1) := by decide +kernel
theorem dL_law_1167 : decode cL_law 1167 = .ok (.iaload, 1) := by decide +kernel
theorem dL_law_1168 : decode cL_law 1168 = .ok (.invokevirtual 120, 3) := by decide +kernel
theorem dL_law_1171 : decode cL_law 1171 = .ok (.aload_n 2, 1) := by decide +kernel
theorem dL_law_1172 : decode cL_law 1172 = .ok (.aload_n 0, 1) := by decide +kernel
theorem dL_law_1173 : decode cL_law 1173 = .ok (.iload_n 3, 1) := by decide +kernel
theorem dL_law_1174 : decode cL_law 1174 = .ok (.iconst 1, 1) := by decide +kernel
theorem dL_law_1175 : decode cL_law 1175 = .ok (.iadd, 1) := by decide +kernel
theorem dL_law_1176 : decode cL_law 1176 = .ok (.iaload, 1) := by decide +kernel
theorem dL_law_1177 : decode cL_law 1177 = .ok (.aload_n 0, 1) := by decide +kernel
theorem dL_law_1178 : decode cL_law 1178 = .ok (.iload_n 3, 1) := by decide +kernel
theorem dL_law_1179 : decode cL_law 1179 = .ok (.iconst 2, 1) := by decide +kernel
theorem dL_law_1180 : decode cL_law 1180 = .ok (.iadd, 1) := by decide +kernel
theorem dL_law_1181 : decode cL_law 1181 = .ok (.iaload, 1) := by decide +kernel
theorem dL_law_1182 : decode cL_law 1182 = .ok (.invokevirtual 123, 3) := by decide +kernel
theorem dL_law_1185 : decode cL_law 1185 = .ok (.if_icmp .eq 385, 3) := by decide +kernel
theorem dL_law_1188 : decode cL_law 1188 = .ok (.iconst 0, 1) := by decide +kernel
theorem dL_law_1189 : decode cL_law 1189 = .ok (.ireturn, 1) := by decide +kernel
theorem dL_law_1190 : decode cL_law 1190 = .ok (.aload_n 1, 1) := by decide +kernel
theorem dL_law_1191 : decode cL_law 1191 = .ok (.aload_n 0, 1) := by decide +kernel
theorem dL_law_1192 : decode cL_law 1192 = .ok (.iload_n 3, 1) := by decide +kernel
theorem dL_law_1193 : decode cL_law 1193 = .ok (.iconst 1, 1) := by decide +kernel
theorem dL_law_1194 : decode cL_law 1194 = .ok (.iadd, 1) := by decide +kernel
theorem dL_law_1195 : decode cL_law 1195 = .ok (.iaload, 1) := by decide +kernel
theorem dL_law_1196 : decode cL_law 1196 = .ok (.aload_n 0, 1) := by decide +kernel
theorem dL_law_1197 : decode cL_law 1197 = .ok (.iload_n 3, 1) := by decide +kernel
theorem dL_law_1198 : decode cL_law 1198 = .ok (.iconst 2, 1) := by decide +kernel
theorem dL_law_1199 : decode cL_law 1199 = .ok (.iadd, 1) := by decide +kernel
theorem dL_law_1200 : decode cL_law 1200 = .ok (.iaload, 1) := by decide +kernel
theorem dL_law_1201 : decode cL_law 1201 = .ok (.aload_n 0, 1) := by decide +kernel
theorem dL_law_1202 : decode cL_law 1202 = .ok (.iload_n 3, 1) := by decide +kernel
theorem dL_law_1203 : decode cL_law 1203 = .ok (.iconst 3, 1) := by decide +kernel
theorem dL_law_1204 : decode cL_law 1204 = .ok (.iadd, 1) := by decide +kernel
theorem dL_law_1205 : decode cL_law 1205 = .ok (.iaload, 1) := by decide +kernel
theorem dL_law_1206 : decode cL_law 1206 = .ok (.invokevirtual 124, 3) := by decide +kernel
theorem dL_law_1209 : decode cL_law 1209 = .ok (.aload_n 2, 1) := by decide +kernel
theorem dL_law_1210 : decode cL_law 1210 = .ok (.aload_n 0, 1) := by decide +kernel
theorem dL_law_1211 : decode cL_law 1211 = .ok (.iload_n 3, 1) := by decide +kernel
theorem dL_law_1212 : decode cL_law 1212 = .ok (.iconst 1, 1) := by decide +kernel
theorem dL_law_1213 : decode cL_law 1213 = .ok (.iadd, 1) := by decide +kernel
theorem dL_law_1214 : decode cL_law 1214 = .ok (.iaload, 1) := by decide +kernel
theorem dL_law_1215 : decode cL_law 1215 = .ok (.aload_n 0, 1) := by decide +kernel
theorem dL_law_1216 : decode cL_law 1216 = .ok (.iload_n 3, 1) := by decide +kernel
theorem dL_law_1217 : decode cL_law 1217 = .ok (.iconst 2, 1) := by decide +kernel
theorem dL_law_1218 : decode cL_law 1218 = .ok (.iadd, 1) := by decide +kernel
theorem dL_law_1219 : decode cL_law 1219 = .ok (.iaload, 1) := by decide +kernel
theorem dL_law_1220 : decode cL_law 1220 = .ok (.aload_n 0, 1) := by decide +kernel
theorem dL_law_1221 : decode cL_law 1221 = .ok (.iload_n 3, 1) := by decide +kernel
theorem dL_law_1222 : decode cL_law 1222 = .ok (.iconst 3, 1) := by decide +kernel
theorem dL_law_1223 : decode cL_law 1223 = .ok (.iadd, 1) := by decide +kernel
theorem dL_law_1224 : decode cL_law 1224 = .ok (.iaload, 1) := by decide +kernel
theorem dL_law_1225 : decode cL_law 1225 = .ok (.invokevirtual 127, 3) := by decide +kernel
theorem dL_law_1228 : decode cL_law 1228 = .ok (.if_icmp .eq 342, 3) := by decide +kernel
theorem dL_law_1231 : decode cL_law 1231 = .ok (.iconst 0, 1) := by decide +kernel
theorem dL_law_1232 : decode cL_law 1232 = .ok (.ireturn, 1) := by decide +kernel
theorem dL_law_1233 : decode cL_law 1233 = .ok (.aload_n 1, 1) := by decide +kernel
theorem dL_law_1234 : decode cL_law 1234 = .ok (.aload_n 0, 1) := by decide +kernel
theorem dL_law_1235 : decode cL_law 1235 = .ok (.iload_n 3, 1) := by decide +kernel
theorem dL_law_1236 : decode cL_law 1236 = .ok (.iconst 1, 1) := by decide +kernel
theorem dL_law_1237 : decode cL_law 1237 = .ok (.iadd, 1) := by decide +kernel
theorem dL_law_1238 : decode cL_law 1238 = .ok (.iaload, 1) := by decide +kernel
theorem dL_law_1239 : decode cL_law 1239 = .ok (.aload_n 0, 1) := by decide +kernel
theorem dL_law_1240 : decode cL_law 1240 = .ok (.iload_n 3, 1) := by decide +kernel
theorem dL_law_1241 : decode cL_law 1241 = .ok (.iconst 2, 1) := by decide +kernel
theorem dL_law_1242 : decode cL_law 1242 = .ok (.iadd, 1) := by decide +kernel
theorem dL_law_1243 : decode cL_law 1243 = .ok (.iaload, 1) := by decide +kernel
theorem dL_law_1244 : decode cL_law 1244 = .ok (.invokevirtual 128, 3) := by decide +kernel
theorem dL_law_1247 : decode cL_law 1247 = .ok (.aload_n 2, 1) := by decide +kernel
theorem dL_law_1248 : decode cL_law 1248 = .ok (.aload_n 0, 1) := by decide +kernel
theorem dL_law_1249 : decode cL_law 1249 = .ok (.iload_n 3, 1) := by decide +kernel
theorem dL_law_1250 : decode cL_law 1250 = .ok (.iconst 1, 1) := by decide +kernel
theorem dL_law_1251 : decode cL_law 1251 = .ok (.iadd, 1) := by decide +kernel
theorem dL_law_1252 : decode cL_law 1252 = .ok (.iaload, 1) := by decide +kernel
theorem dL_law_1253 : decode cL_law 1253 = .ok (.aload_n 0, 1) := by decide +kernel
theorem dL_law_1254 : decode cL_law 1254 = .ok (.iload_n 3, 1) := by decide +kernel
theorem dL_law_1255 : decode cL_law 1255 = .ok (.iconst 2, 1) := by decide +kernel
theorem dL_law_1256 : decode cL_law 1256 = .ok (.iadd, 1) := by decide +kernel
theorem dL_law_1257 : decode cL_law 1257 = .ok (.iaload, 1) := by decide +kernel
theorem dL_law_1258 : decode cL_law 1258 = .ok (.invokevirtual 131, 3) := by decide +kernel
theorem dL_law_1261 : decode cL_law 1261 = .ok (.if_icmp .eq 309, 3) := by decide +kernel
theorem dL_law_1264 : decode cL_law 1264 = .ok (.iconst 0, 1) := by decide +kernel
theorem dL_law_1265 : decode cL_law 1265 = .ok (.ireturn, 1) := by decide +kernel
theorem dL_law_1266 : decode cL_law 1266 = .ok (.aload_n 1, 1) := by decide +kernel
theorem dL_law_1267 : decode cL_law 1267 = .ok (.aload_n 0, 1) := by decide +kernel
theorem dL_law_1268 : decode cL_law 1268 = .ok (.iload_n 3, 1) := by decide +kernel
theorem dL_law_1269 : decode cL_law 1269 = .ok (.iconst 1, 1) := by decide +kernel
theorem dL_law_1270 : decode cL_law 1270 = .ok (.iadd, 1) := by decide +kernel
theorem dL_law_1271 : decode cL_law 1271 = .ok (.iaload, 1) := by decide +kernel
theorem dL_law_1272 : decode cL_law 1272 = .ok (.aload_n 0, 1) := by decide +kernel
theorem dL_law_1273 : decode cL_law 1273 = .ok (.iload_n 3, 1) := by decide +kernel
theorem dL_law_1274 : decode cL_law 1274 = .ok (.iconst 2, 1) := by decide +kernel
theorem dL_law_1275 : decode cL_law 1275 = .ok (.iadd, 1) := by decide +kernel
theorem dL_law_1276 : decode cL_law 1276 = .ok (.iaload, 1) := by decide +kernel
theorem dL_law_1277 : decode cL_law 1277 = .ok (.invokevirtual 132, 3) := by decide +kernel
theorem dL_law_1280 : decode cL_law 1280 = .ok (.aload_n 2, 1) := by decide +kernel
theorem dL_law_1281 : decode cL_law 1281 = .ok (.aload_n 0, 1) := by decide +kernel
theorem dL_law_1282 : decode cL_law 1282 = .ok (.iload_n 3, 1) := by decide +kernel
theorem dL_law_1283 : decode cL_law 1283 = .ok (.iconst 1, 1) := by decide +kernel
theorem dL_law_1284 : decode cL_law 1284 = .ok (.iadd, 1) := by decide +kernel
theorem dL_law_1285 : decode cL_law 1285 = .ok (.iaload, 1) := by decide +kernel
theorem dL_law_1286 : decode cL_law 1286 = .ok (.aload_n 0, 1) := by decide +kernel
theorem dL_law_1287 : decode cL_law 1287 = .ok (.iload_n 3, 1) := by decide +kernel
theorem dL_law_1288 : decode cL_law 1288 = .ok (.iconst 2, 1) := by decide +kernel
theorem dL_law_1289 : decode cL_law 1289 = .ok (.iadd, 1) := by decide +kernel
theorem dL_law_1290 : decode cL_law 1290 = .ok (.iaload, 1) := by decide +kernel
theorem dL_law_1291 : decode cL_law 1291 = .ok (.invokevirtual 135, 3) := by decide +kernel
theorem dL_law_1294 : decode cL_law 1294 = .ok (.if_icmp .eq 276, 3) := by decide +kernel
theorem dL_law_1297 : decode cL_law 1297 = .ok (.iconst 0, 1) := by decide +kernel
theorem dL_law_1298 : decode cL_law 1298 = .ok (.ireturn, 1) := by decide +kernel
theorem dL_law_1299 : decode cL_law 1299 = .ok (.aload_n 1, 1) := by decide +kernel
theorem dL_law_1300 : decode cL_law 1300 = .ok (.aload_n 0, 1) := by decide +kernel
theorem dL_law_1301 : decode cL_law 1301 = .ok (.iload_n 3, 1) := by decide +kernel
theorem dL_law_1302 : decode cL_law 1302 = .ok (.iconst 1, 1) := by decide +kernel
theorem dL_law_1303 : decode cL_law 1303 = .ok (.iadd, 1) := by decide +kernel
theorem dL_law_1304 : decode cL_law 1304 = .ok (.iaload, 1) := by decide +kernel
theorem dL_law_1305 : decode cL_law 1305 = .ok (.aload_n 0, 1) := by decide +kernel
theorem dL_law_1306 : decode cL_law 1306 = .ok (.iload_n 3, 1) := by decide +kernel
theorem dL_law_1307 : decode cL_law 1307 = .ok (.iconst 2, 1) := by decide +kernel
theorem dL_law_1308 : decode cL_law 1308 = .ok (.iadd, 1) := by decide +kernel
theorem dL_law_1309 : decode cL_law 1309 = .ok (.iaload, 1) := by decide +kernel
theorem dL_law_1310 : decode cL_law 1310 = .ok (.aload_n 0, 1) := by decide +kernel
theorem dL_law_1311 : decode cL_law 1311 = .ok (.iload_n 3, 1) := by decide +kernel
theorem dL_law_1312 : decode cL_law 1312 = .ok (.iconst 3, 1) := by decide +kernel
theorem dL_law_1313 : decode cL_law 1313 = .ok (.iadd, 1) := by decide +kernel
theorem dL_law_1314 : decode cL_law 1314 = .ok (.iaload, 1) := by decide +kernel
theorem dL_law_1315 : decode cL_law 1315 = .ok (.invokevirtual 136, 3) := by decide +kernel
theorem dL_law_1318 : decode cL_law 1318 = .ok (.aload_n 2, 1) := by decide +kernel
theorem dL_law_1319 : decode cL_law 1319 = .ok (.aload_n 0, 1) := by decide +kernel
theorem dL_law_1320 : decode cL_law 1320 = .ok (.iload_n 3, 1) := by decide +kernel
theorem dL_law_1321 : decode cL_law 1321 = .ok (.iconst 1, 1) := by decide +kernel
theorem dL_law_1322 : decode cL_law 1322 = .ok (.iadd, 1) := by decide +kernel
theorem dL_law_1323 : decode cL_law 1323 = .ok (.iaload, 1) := by decide +kernel
theorem dL_law_1324 : decode cL_law 1324 = .ok (.aload_n 0, 1) := by decide +kernel
theorem dL_law_1325 : decode cL_law 1325 = .ok (.iload_n 3, 1) := by decide +kernel
theorem dL_law_1326 : decode cL_law 1326 = .ok (.iconst 2, 1) := by decide +kernel
theorem dL_law_1327 : decode cL_law 1327 = .ok (.iadd, 1) := by decide +kernel
theorem dL_law_1328 : decode cL_law 1328 = .ok (.iaload, 1) := by decide +kernel
theorem dL_law_1329 : decode cL_law 1329 = .ok (.aload_n 0, 1) := by decide +kernel
theorem dL_law_1330 : decode cL_law 1330 = .ok (.iload_n 3, 1) := by decide +kernel
theorem dL_law_1331 : decode cL_law 1331 = .ok (.iconst 3, 1) := by decide +kernel
theorem dL_law_1332 : decode cL_law 1332 = .ok (.iadd, 1) := by decide +kernel
theorem dL_law_1333 : decode cL_law 1333 = .ok (.iaload, 1) := by decide +kernel
theorem dL_law_1334 : decode cL_law 1334 = .ok (.invokevirtual 140, 3) := by decide +kernel
theorem dL_law_1337 : decode cL_law 1337 = .ok (.if_icmp .eq 233, 3) := by decide +kernel
theorem dL_law_1340 : decode cL_law 1340 = .ok (.iconst 0, 1) := by decide +kernel
theorem dL_law_1341 : decode cL_law 1341 = .ok (.ireturn, 1) := by decide +kernel
theorem dL_law_1342 : decode cL_law 1342 = .ok (.aload_n 1, 1) := by decide +kernel
theorem dL_law_1343 : decode cL_law 1343 = .ok (.aload_n 0, 1) := by decide +kernel
theorem dL_law_1344 : decode cL_law 1344 = .ok (.iload_n 3, 1) := by decide +kernel
theorem dL_law_1345 : decode cL_law 1345 = .ok (.iconst 1, 1) := by decide +kernel
theorem dL_law_1346 : decode cL_law 1346 = .ok (.iadd, 1) := by decide +kernel
theorem dL_law_1347 : decode cL_law 1347 = .ok (.iaload, 1) := by decide +kernel
theorem dL_law_1348 : decode cL_law 1348 = .ok (.aload_n 0, 1) := by decide +kernel
theorem dL_law_1349 : decode cL_law 1349 = .ok (.iload_n 3, 1) := by decide +kernel
theorem dL_law_1350 : decode cL_law 1350 = .ok (.iconst 2, 1) := by decide +kernel
theorem dL_law_1351 : decode cL_law 1351 = .ok (.iadd, 1) := by decide +kernel
theorem dL_law_1352 : decode cL_law 1352 = .ok (.iaload, 1) := by decide +kernel
theorem dL_law_1353 : decode cL_law 1353 = .ok (.invokevirtual 141, 3) := by decide +kernel
theorem dL_law_1356 : decode cL_law 1356 = .ok (.aload_n 2, 1) := by decide +kernel
theorem dL_law_1357 : decode cL_law 1357 = .ok (.aload_n 0, 1) := by decide +kernel
theorem dL_law_1358 : decode cL_law 1358 = .ok (.iload_n 3, 1) := by decide +kernel
theorem dL_law_1359 : decode cL_law 1359 = .ok (.iconst 1, 1) := by decide +kernel
theorem dL_law_1360 : decode cL_law 1360 = .ok (.iadd, 1) := by decide +kernel
theorem dL_law_1361 : decode cL_law 1361 = .ok (.iaload, 1) := by decide +kernel
theorem dL_law_1362 : decode cL_law 1362 = .ok (.aload_n 0, 1) := by decide +kernel
theorem dL_law_1363 : decode cL_law 1363 = .ok (.iload_n 3, 1) := by decide +kernel
theorem dL_law_1364 : decode cL_law 1364 = .ok (.iconst 2, 1) := by decide +kernel
theorem dL_law_1365 : decode cL_law 1365 = .ok (.iadd, 1) := by decide +kernel
theorem dL_law_1366 : decode cL_law 1366 = .ok (.iaload, 1) := by decide +kernel
theorem dL_law_1367 : decode cL_law 1367 = .ok (.invokevirtual 144, 3) := by decide +kernel
theorem dL_law_1370 : decode cL_law 1370 = .ok (.if_icmp .eq 200, 3) := by decide +kernel
theorem dL_law_1373 : decode cL_law 1373 = .ok (.iconst 0, 1) := by decide +kernel
theorem dL_law_1374 : decode cL_law 1374 = .ok (.ireturn, 1) := by decide +kernel
theorem dL_law_1375 : decode cL_law 1375 = .ok (.aload_n 1, 1) := by decide +kernel
theorem dL_law_1376 : decode cL_law 1376 = .ok (.aload_n 0, 1) := by decide +kernel
theorem dL_law_1377 : decode cL_law 1377 = .ok (.iload_n 3, 1) := by decide +kernel
theorem dL_law_1378 : decode cL_law 1378 = .ok (.iconst 1, 1) := by decide +kernel
theorem dL_law_1379 : decode cL_law 1379 = .ok (.iadd, 1) := by decide +kernel
theorem dL_law_1380 : decode cL_law 1380 = .ok (.iaload, 1) := by decide +kernel
theorem dL_law_1381 : decode cL_law 1381 = .ok (.invokevirtual 145, 3) := by decide +kernel
theorem dL_law_1384 : decode cL_law 1384 = .ok (.aload_n 2, 1) := by decide +kernel
theorem dL_law_1385 : decode cL_law 1385 = .ok (.aload_n 0, 1) := by decide +kernel
theorem dL_law_1386 : decode cL_law 1386 = .ok (.iload_n 3, 1) := by decide +kernel
theorem dL_law_1387 : decode cL_law 1387 = .ok (.iconst 1, 1) := by decide +kernel
theorem dL_law_1388 : decode cL_law 1388 = .ok (.iadd, 1) := by decide +kernel
theorem dL_law_1389 : decode cL_law 1389 = .ok (.iaload, 1) := by decide +kernel
theorem dL_law_1390 : decode cL_law 1390 = .ok (.invokevirtual 148, 3) := by decide +kernel
theorem dL_law_1393 : decode cL_law 1393 = .ok (.if_icmp .eq 177, 3) := by decide +kernel
theorem dL_law_1396 : decode cL_law 1396 = .ok (.iconst 0, 1) := by decide +kernel
theorem dL_law_1397 : decode cL_law 1397 = .ok (.ireturn, 1) := by decide +kernel
theorem dL_law_1398 : decode cL_law 1398 = .ok (.aload_n 1, 1) := by decide +kernel
theorem dL_law_1399 : decode cL_law 1399 = .ok (.aload_n 0, 1) := by decide +kernel
theorem dL_law_1400 : decode cL_law 1400 = .ok (.iload_n 3, 1) := by decide +kernel
theorem dL_law_1401 : decode cL_law 1401 = .ok (.iconst 1, 1) := by decide +kernel
theorem dL_law_1402 : decode cL_law 1402 = .ok (.iadd, 1) := by decide +kernel
theorem dL_law_1403 : decode cL_law 1403 = .ok (.iaload, 1) := by decide +kernel
theorem dL_law_1404 : decode cL_law 1404 = .ok (.aload_n 0, 1) := by decide +kernel
theorem dL_law_1405 : decode cL_law 1405 = .ok (.iload_n 3, 1) := by decide +kernel
theorem dL_law_1406 : decode cL_law 1406 = .ok (.iconst 2, 1) := by decide +kernel
theorem dL_law_1407 : decode cL_law 1407 = .ok (.iadd, 1) := by decide +kernel
theorem dL_law_1408 : decode cL_law 1408 = .ok (.iaload, 1) := by decide +kernel
theorem dL_law_1409 : decode cL_law 1409 = .ok (.aload_n 0, 1) := by decide +kernel
theorem dL_law_1410 : decode cL_law 1410 = .ok (.iload_n 3, 1) := by decide +kernel
theorem dL_law_1411 : decode cL_law 1411 = .ok (.iconst 3, 1) := by decide +kernel
theorem dL_law_1412 : decode cL_law 1412 = .ok (.iadd, 1) := by decide +kernel
theorem dL_law_1413 : decode cL_law 1413 = .ok (.iaload, 1) := by decide +kernel
theorem dL_law_1414 : decode cL_law 1414 = .ok (.invokevirtual 149, 3) := by decide +kernel
theorem dL_law_1417 : decode cL_law 1417 = .ok (.aload_n 2, 1) := by decide +kernel
theorem dL_law_1418 : decode cL_law 1418 = .ok (.aload_n 0, 1) := by decide +kernel
theorem dL_law_1419 : decode cL_law 1419 = .ok (.iload_n 3, 1) := by decide +kernel
theorem dL_law_1420 : decode cL_law 1420 = .ok (.iconst 1, 1) := by decide +kernel
theorem dL_law_1421 : decode cL_law 1421 = .ok (.iadd, 1) := by decide +kernel
theorem dL_law_1422 : decode cL_law 1422 = .ok (.iaload, 1) := by decide +kernel
theorem dL_law_1423 : decode cL_law 1423 = .ok (.aload_n 0, 1) := by decide +kernel
theorem dL_law_1424 : decode cL_law 1424 = .ok (.iload_n 3, 1) := by decide +kernel
theorem dL_law_1425 : decode cL_law 1425 = .ok (.iconst 2, 1) := by decide +kernel
theorem dL_law_1426 : decode cL_law 1426 = .ok (.iadd, 1) := by decide +kernel
theorem dL_law_1427 : decode cL_law 1427 = .ok (.iaload, 1) := by decide +kernel
theorem dL_law_1428 : decode cL_law 1428 = .ok (.aload_n 0, 1) := by decide +kernel
theorem dL_law_1429 : decode cL_law 1429 = .ok (.iload_n 3, 1) := by decide +kernel
theorem dL_law_1430 : decode cL_law 1430 = .ok (.iconst 3, 1) := by decide +kernel
theorem dL_law_1431 : decode cL_law 1431 = .ok (.iadd, 1) := by decide +kernel
theorem dL_law_1432 : decode cL_law 1432 = .ok (.iaload, 1) := by decide +kernel
theorem dL_law_1433 : decode cL_law 1433 = .ok (.invokevirtual 152, 3) := by decide +kernel
theorem dL_law_1436 : decode cL_law 1436 = .ok (.if_icmp .eq 134, 3) := by decide +kernel
theorem dL_law_1439 : decode cL_law 1439 = .ok (.iconst 0, 1) := by decide +kernel
theorem dL_law_1440 : decode cL_law 1440 = .ok (.ireturn, 1) := by decide +kernel
theorem dL_law_1441 : decode cL_law 1441 = .ok (.aload_n 1, 1) := by decide +kernel
theorem dL_law_1442 : decode cL_law 1442 = .ok (.aload_n 0, 1) := by decide +kernel
theorem dL_law_1443 : decode cL_law 1443 = .ok (.iload_n 3, 1) := by decide +kernel
theorem dL_law_1444 : decode cL_law 1444 = .ok (.iconst 1, 1) := by decide +kernel
theorem dL_law_1445 : decode cL_law 1445 = .ok (.iadd, 1) := by decide +kernel
theorem dL_law_1446 : decode cL_law 1446 = .ok (.iaload, 1) := by decide +kernel
theorem dL_law_1447 : decode cL_law 1447 = .ok (.aload_n 0, 1) := by decide +kernel
theorem dL_law_1448 : decode cL_law 1448 = .ok (.iload_n 3, 1) := by decide +kernel
theorem dL_law_1449 : decode cL_law 1449 = .ok (.iconst 2, 1) := by decide +kernel
theorem dL_law_1450 : decode cL_law 1450 = .ok (.iadd, 1) := by decide +kernel
theorem dL_law_1451 : decode cL_law 1451 = .ok (.iaload, 1) := by decide +kernel
theorem dL_law_1452 : decode cL_law 1452 = .ok (.aload_n 0, 1) := by decide +kernel
theorem dL_law_1453 : decode cL_law 1453 = .ok (.iload_n 3, 1) := by decide +kernel
theorem dL_law_1454 : decode cL_law 1454 = .ok (.iconst 3, 1) := by decide +kernel
theorem dL_law_1455 : decode cL_law 1455 = .ok (.iadd, 1) := by decide +kernel
theorem dL_law_1456 : decode cL_law 1456 = .ok (.iaload, 1) := by decide +kernel
theorem dL_law_1457 : decode cL_law 1457 = .ok (.aload_n 0, 1) := by decide +kernel
theorem dL_law_1458 : decode cL_law 1458 = .ok (.iload_n 3, 1) := by decide +kernel
theorem dL_law_1459 : decode cL_law 1459 = .ok (.iconst 4, 1) := by decide +kernel
theorem dL_law_1460 : decode cL_law 1460 = .ok (.iadd, 1) := by decide +kernel
theorem dL_law_1461 : decode cL_law 1461 = .ok (.iaload, 1) := by decide +kernel
theorem dL_law_1462 : decode cL_law 1462 = .ok (.invokevirtual 153, 3) := by decide +kernel
theorem dL_law_1465 : decode cL_law 1465 = .ok (.aload_n 2, 1) := by decide +kernel
theorem dL_law_1466 : decode cL_law 1466 = .ok (.aload_n 0, 1) := by decide +kernel
theorem dL_law_1467 : decode cL_law 1467 = .ok (.iload_n 3, 1) := by decide +kernel
theorem dL_law_1468 : decode cL_law 1468 = .ok (.iconst 1, 1) := by decide +kernel
theorem dL_law_1469 : decode cL_law 1469 = .ok (.iadd, 1) := by decide +kernel
theorem dL_law_1470 : decode cL_law 1470 = .ok (.iaload, 1) := by decide +kernel
theorem dL_law_1471 : decode cL_law 1471 = .ok (.aload_n 0, 1) := by decide +kernel
theorem dL_law_1472 : decode cL_law 1472 = .ok (.iload_n 3, 1) := by decide +kernel
theorem dL_law_1473 : decode cL_law 1473 = .ok (.iconst 2, 1) := by decide +kernel
theorem dL_law_1474 : decode cL_law 1474 = .ok (.iadd, 1) := by decide +kernel
theorem dL_law_1475 : decode cL_law 1475 = .ok (.iaload, 1) := by decide +kernel
theorem dL_law_1476 : decode cL_law 1476 = .ok (.aload_n 0, 1) := by decide +kernel
theorem dL_law_1477 : decode cL_law 1477 = .ok (.iload_n 3, 1) := by decide +kernel
theorem dL_law_1478 : decode cL_law 1478 = .ok (.iconst 3, 1) := by decide +kernel
theorem dL_law_1479 : decode cL_law 1479 = .ok (.iadd, 1) := by decide +kernel
theorem dL_law_1480 : decode cL_law 1480 = .ok (.iaload, 1) := by decide +kernel
theorem dL_law_1481 : decode cL_law 1481 = .ok (.aload_n 0, 1) := by decide +kernel
theorem dL_law_1482 : decode cL_law 1482 = .ok (.iload_n 3, 1) := by decide +kernel
theorem dL_law_1483 : decode cL_law 1483 = .ok (.iconst 4, 1) := by decide +kernel
theorem dL_law_1484 : decode cL_law 1484 = .ok (.iadd, 1) := by decide +kernel
theorem dL_law_1485 : decode cL_law 1485 = .ok (.iaload, 1) := by decide +kernel
theorem dL_law_1486 : decode cL_law 1486 = .ok (.invokevirtual 156, 3) := by decide +kernel
theorem dL_law_1489 : decode cL_law 1489 = .ok (.if_icmp .eq 81, 3) := by decide +kernel
theorem dL_law_1492 : decode cL_law 1492 = .ok (.iconst 0, 1) := by decide +kernel
theorem dL_law_1493 : decode cL_law 1493 = .ok (.ireturn, 1) := by decide +kernel
theorem dL_law_1494 : decode cL_law 1494 = .ok (.aload_n 1, 1) := by decide +kernel
theorem dL_law_1495 : decode cL_law 1495 = .ok (.aload_n 0, 1) := by decide +kernel
theorem dL_law_1496 : decode cL_law 1496 = .ok (.iload_n 3, 1) := by decide +kernel
theorem dL_law_1497 : decode cL_law 1497 = .ok (.iconst 1, 1) := by decide +kernel
theorem dL_law_1498 : decode cL_law 1498 = .ok (.iadd, 1) := by decide +kernel
theorem dL_law_1499 : decode cL_law 1499 = .ok (.iaload, 1) := by decide +kernel
theorem dL_law_1500 : decode cL_law 1500 = .ok (.aload_n 0, 1) := by decide +kernel
theorem dL_law_1501 : decode cL_law 1501 = .ok (.iload_n 3, 1) := by decide +kernel
theorem dL_law_1502 : decode cL_law 1502 = .ok (.iconst 2, 1) := by decide +kernel
theorem dL_law_1503 : decode cL_law 1503 = .ok (.iadd, 1) := by decide +kernel
theorem dL_law_1504 : decode cL_law 1504 = .ok (.iaload, 1) := by decide +kernel
theorem dL_law_1505 : decode cL_law 1505 = .ok (.aload_n 0, 1) := by decide +kernel
theorem dL_law_1506 : decode cL_law 1506 = .ok (.iload_n 3, 1) := by decide +kernel
theorem dL_law_1507 : decode cL_law 1507 = .ok (.iconst 3, 1) := by decide +kernel
theorem dL_law_1508 : decode cL_law 1508 = .ok (.iadd, 1) := by decide +kernel
theorem dL_law_1509 : decode cL_law 1509 = .ok (.iaload, 1) := by decide +kernel
theorem dL_law_1510 : decode cL_law 1510 = .ok (.aload_n 0, 1) := by decide +kernel
theorem dL_law_1511 : decode cL_law 1511 = .ok (.iload_n 3, 1) := by decide +kernel
theorem dL_law_1512 : decode cL_law 1512 = .ok (.iconst 4, 1) := by decide +kernel
theorem dL_law_1513 : decode cL_law 1513 = .ok (.iadd, 1) := by decide +kernel
theorem dL_law_1514 : decode cL_law 1514 = .ok (.iaload, 1) := by decide +kernel
theorem dL_law_1515 : decode cL_law 1515 = .ok (.invokevirtual 157, 3) := by decide +kernel
theorem dL_law_1518 : decode cL_law 1518 = .ok (.aload_n 2, 1) := by decide +kernel
theorem dL_law_1519 : decode cL_law 1519 = .ok (.aload_n 0, 1) := by decide +kernel
theorem dL_law_1520 : decode cL_law 1520 = .ok (.iload_n 3, 1) := by decide +kernel
theorem dL_law_1521 : decode cL_law 1521 = .ok (.iconst 1, 1) := by decide +kernel
theorem dL_law_1522 : decode cL_law 1522 = .ok (.iadd, 1) := by decide +kernel
theorem dL_law_1523 : decode cL_law 1523 = .ok (.iaload, 1) := by decide +kernel
theorem dL_law_1524 : decode cL_law 1524 = .ok (.aload_n 0, 1) := by decide +kernel
theorem dL_law_1525 : decode cL_law 1525 = .ok (.iload_n 3, 1) := by decide +kernel
theorem dL_law_1526 : decode cL_law 1526 = .ok (.iconst 2, 1) := by decide +kernel
theorem dL_law_1527 : decode cL_law 1527 = .ok (.iadd, 1) := by decide +kernel
theorem dL_law_1528 : decode cL_law 1528 = .ok (.iaload, 1) := by decide +kernel
theorem dL_law_1529 : decode cL_law 1529 = .ok (.aload_n 0, 1) := by decide +kernel
theorem dL_law_1530 : decode cL_law 1530 = .ok (.iload_n 3, 1) := by decide +kernel
theorem dL_law_1531 : decode cL_law 1531 = .ok (.iconst 3, 1) := by decide +kernel
theorem dL_law_1532 : decode cL_law 1532 = .ok (.iadd, 1) := by decide +kernel
theorem dL_law_1533 : decode cL_law 1533 = .ok (.iaload, 1) := by decide +kernel
theorem dL_law_1534 : decode cL_law 1534 = .ok (.aload_n 0, 1) := by decide +kernel
theorem dL_law_1535 : decode cL_law 1535 = .ok (.iload_n 3, 1) := by decide +kernel
theorem dL_law_1536 : decode cL_law 1536 = .ok (.iconst 4, 1) := by decide +kernel
theorem dL_law_1537 : decode cL_law 1537 = .ok (.iadd, 1) := by decide +kernel
theorem dL_law_1538 : decode cL_law 1538 = .ok (.iaload, 1) := by decide +kernel
theorem dL_law_1539 : decode cL_law 1539 = .ok (.invokevirtual 160, 3) := by decide +kernel
theorem dL_law_1542 : decode cL_law 1542 = .ok (.if_icmp .eq 28, 3) := by decide +kernel
theorem dL_law_1545 : decode cL_law 1545 = .ok (.iconst 0, 1) := by decide +kernel
theorem dL_law_1546 : decode cL_law 1546 = .ok (.ireturn, 1) := by decide +kernel
theorem dL_law_1547 : decode cL_law 1547 = .ok (.aload_n 1, 1) := by decide +kernel
theorem dL_law_1548 : decode cL_law 1548 = .ok (.aload_n 0, 1) := by decide +kernel
theorem dL_law_1549 : decode cL_law 1549 = .ok (.iload_n 3, 1) := by decide +kernel
theorem dL_law_1550 : decode cL_law 1550 = .ok (.iconst 1, 1) := by decide +kernel
theorem dL_law_1551 : decode cL_law 1551 = .ok (.iadd, 1) := by decide +kernel
theorem dL_law_1552 : decode cL_law 1552 = .ok (.iaload, 1) := by decide +kernel
theorem dL_law_1553 : decode cL_law 1553 = .ok (.invokevirtual 161, 3) := by decide +kernel
theorem dL_law_1556 : decode cL_law 1556 = .ok (.aload_n 2, 1) := by decide +kernel
theorem dL_law_1557 : decode cL_law 1557 = .ok (.aload_n 0, 1) := by decide +kernel
theorem dL_law_1558 : decode cL_law 1558 = .ok (.iload_n 3, 1) := by decide +kernel
theorem dL_law_1559 : decode cL_law 1559 = .ok (.iconst 1, 1) := by decide +kernel
theorem dL_law_1560 : decode cL_law 1560 = .ok (.iadd, 1) := by decide +kernel
theorem dL_law_1561 : decode cL_law 1561 = .ok (.iaload, 1) := by decide +kernel
theorem dL_law_1562 : decode cL_law 1562 = .ok (.invokevirtual 164, 3) := by decide +kernel
theorem dL_law_1565 : decode cL_law 1565 = .ok (.if_icmp .eq 5, 3) := by decide +kernel
theorem dL_law_1568 : decode cL_law 1568 = .ok (.iconst 0, 1) := by decide +kernel
theorem dL_law_1569 : decode cL_law 1569 = .ok (.ireturn, 1) := by decide +kernel
theorem dL_law_1570 : decode cL_law 1570 = .ok (.iinc 3 7, 3) := by decide +kernel
theorem dL_law_1573 : decode cL_law 1573 = .ok (.goto (-1555), 3) := by decide +kernel
theorem dL_law_1576 : decode cL_law 1576 = .ok (.iconst 1, 1) := by decide +kernel
theorem dL_law_1577 : decode cL_law 1577 = .ok (.ireturn, 1) := by decide +kernel
