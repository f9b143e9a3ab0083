/-! decode rows of the methods walked by hand (laid by a program) -/
theorem dX10_feed_0 : decode cX10_feed 0 = .ok (.iload_n 3, 1) := by decide +kernel
theorem dX10_feed_1 : decode cX10_feed 1 = .ok (.iconst 1, 1) := by decide +kernel
theorem dX10_feed_2 : decode cX10_feed 2 = .ok (.if_icmp .lt 9, 3) := by decide +kernel
theorem dX10_feed_5 : decode cX10_feed 5 = .ok (.iload_n 3, 1) := by decide +kernel
theorem dX10_feed_6 : decode cX10_feed 6 = .ok (.bipush 8, 2) := by decide +kernel
theorem dX10_feed_8 : decode cX10_feed 8 = .ok (.if_icmp .le 6, 3) := by decide +kernel
theorem dX10_feed_11 : decode cX10_feed 11 = .ok (.bipush (-2), 2) := by decide +kernel
theorem dX10_feed_13 : decode cX10_feed 13 = .ok (.ireturn, 1) := by decide +kernel
theorem dX10_feed_14 : decode cX10_feed 14 = .ok (.aload_n 0, 1) := by decide +kernel
theorem dX10_feed_15 : decode cX10_feed 15 = .ok (.getfield 14, 3) := by decide +kernel
theorem dX10_feed_18 : decode cX10_feed 18 = .ok (.invokevirtual 102, 3) := by decide +kernel
theorem dX10_feed_21 : decode cX10_feed 21 = .ok (.iload_n 3, 1) := by decide +kernel
theorem dX10_feed_22 : decode cX10_feed 22 = .ok (.iadd, 1) := by decide +kernel
theorem dX10_feed_23 : decode cX10_feed 23 = .ok (.sipush 600, 3) := by decide +kernel
theorem dX10_feed_26 : decode cX10_feed 26 = .ok (.if_icmp .le 6, 3) := by decide +kernel
theorem dX10_feed_29 : decode cX10_feed 29 = .ok (.bipush (-3), 2) := by decide +kernel
theorem dX10_feed_31 : decode cX10_feed 31 = .ok (.ireturn, 1) := by decide +kernel
theorem dX10_feed_32 : decode cX10_feed 32 = .ok (.iload_n 3, 1) := by decide +kernel
theorem dX10_feed_33 : decode cX10_feed 33 = .ok (.iconst 1, 1) := by decide +kernel
theorem dX10_feed_34 : decode cX10_feed 34 = .ok (.isub, 1) := by decide +kernel
theorem dX10_feed_35 : decode cX10_feed 35 = .ok (.istore 4, 2) := by decide +kernel
theorem dX10_feed_37 : decode cX10_feed 37 = .ok (.iload 4, 2) := by decide +kernel
theorem dX10_feed_39 : decode cX10_feed 39 = .ok (.ifCond .lt 28, 3) := by decide +kernel
theorem dX10_feed_42 : decode cX10_feed 42 = .ok (.aload_n 0, 1) := by decide +kernel
theorem dX10_feed_43 : decode cX10_feed 43 = .ok (.getfield 14, 3) := by decide +kernel
theorem dX10_feed_46 : decode cX10_feed 46 = .ok (.lload_n 1, 1) := by decide +kernel
theorem dX10_feed_47 : decode cX10_feed 47 = .ok (.bipush 8, 2) := by decide +kernel
theorem dX10_feed_49 : decode cX10_feed 49 = .ok (.iload 4, 2) := by decide +kernel
theorem dX10_feed_51 : decode cX10_feed 51 = .ok (.imul, 1) := by decide +kernel
theorem dX10_feed_52 : decode cX10_feed 52 = .ok (.lushr, 1) := by decide +kernel
theorem dX10_feed_53 : decode cX10_feed 53 = .ok (.l2i, 1) := by decide +kernel
theorem dX10_feed_54 : decode cX10_feed 54 = .ok (.sipush 255, 3) := by decide +kernel
theorem dX10_feed_57 : decode cX10_feed 57 = .ok (.iand, 1) := by decide +kernel
theorem dX10_feed_58 : decode cX10_feed 58 = .ok (.invokevirtual 106, 3) := by decide +kernel
theorem dX10_feed_61 : decode cX10_feed 61 = .ok (.iinc 4 (-1), 3) := by decide +kernel
theorem dX10_feed_64 : decode cX10_feed 64 = .ok (.goto (-27), 3) := by decide +kernel
theorem dX10_feed_67 : decode cX10_feed 67 = .ok (.aload_n 0, 1) := by decide +kernel
theorem dX10_feed_68 : decode cX10_feed 68 = .ok (.getfield 14, 3) := by decide +kernel
theorem dX10_feed_71 : decode cX10_feed 71 = .ok (.invokevirtual 102, 3) := by decide +kernel
theorem dX10_feed_74 : decode cX10_feed 74 = .ok (.ireturn, 1) := by decide +kernel
theorem dX10_written_0 : decode cX10_written 0 = .ok (.iload_n 1, 1) := by decide +kernel
theorem dX10_written_1 : decode cX10_written 1 = .ok (.ifCond .lt 14, 3) := by decide +kernel
theorem dX10_written_4 : decode cX10_written 4 = .ok (.iload_n 1, 1) := by decide +kernel
theorem dX10_written_5 : decode cX10_written 5 = .ok (.aload_n 0, 1) := by decide +kernel
theorem dX10_written_6 : decode cX10_written 6 = .ok (.getfield 55, 3) := by decide +kernel
theorem dX10_written_9 : decode cX10_written 9 = .ok (.invokevirtual 138, 3) := by decide +kernel
theorem dX10_written_12 : decode cX10_written 12 = .ok (.if_icmp .lt 5, 3) := by decide +kernel
theorem dX10_written_15 : decode cX10_written 15 = .ok (.iconst (-1), 1) := by decide +kernel
theorem dX10_written_16 : decode cX10_written 16 = .ok (.ireturn, 1) := by decide +kernel
theorem dX10_written_17 : decode cX10_written 17 = .ok (.aload_n 0, 1) := by decide +kernel
theorem dX10_written_18 : decode cX10_written 18 = .ok (.getfield 64, 3) := by decide +kernel
theorem dX10_written_21 : decode cX10_written 21 = .ok (.invokevirtual 190, 3) := by decide +kernel
theorem dX10_written_24 : decode cX10_written 24 = .ok (.aload_n 0, 1) := by decide +kernel
theorem dX10_written_25 : decode cX10_written 25 = .ok (.getfield 64, 3) := by decide +kernel
theorem dX10_written_28 : decode cX10_written 28 = .ok (.iload_n 1, 1) := by decide +kernel
theorem dX10_written_29 : decode cX10_written 29 = .ok (.aload_n 0, 1) := by decide +kernel
theorem dX10_written_30 : decode cX10_written 30 = .ok (.getfield 18, 3) := by decide +kernel
theorem dX10_written_33 : decode cX10_written 33 = .ok (.invokevirtual 193, 3) := by decide +kernel
theorem dX10_written_36 : decode cX10_written 36 = .ok (.aload_n 0, 1) := by decide +kernel
theorem dX10_written_37 : decode cX10_written 37 = .ok (.getfield 18, 3) := by decide +kernel
theorem dX10_written_40 : decode cX10_written 40 = .ok (.invokevirtual 102, 3) := by decide +kernel
theorem dX10_written_43 : decode cX10_written 43 = .ok (.ireturn, 1) := by decide +kernel
theorem dX10_solution_0 : decode cX10_solution 0 = .ok (.iload_n 1, 1) := by decide +kernel
theorem dX10_solution_1 : decode cX10_solution 1 = .ok (.ifCond .lt 11, 3) := by decide +kernel
theorem dX10_solution_4 : decode cX10_solution 4 = .ok (.iload_n 1, 1) := by decide +kernel
theorem dX10_solution_5 : decode cX10_solution 5 = .ok (.aload_n 0, 1) := by decide +kernel
theorem dX10_solution_6 : decode cX10_solution 6 = .ok (.getfield 132, 3) := by decide +kernel
theorem dX10_solution_9 : decode cX10_solution 9 = .ok (.if_icmp .lt 5, 3) := by decide +kernel
theorem dX10_solution_12 : decode cX10_solution 12 = .ok (.iconst (-1), 1) := by decide +kernel
theorem dX10_solution_13 : decode cX10_solution 13 = .ok (.ireturn, 1) := by decide +kernel
theorem dX10_solution_14 : decode cX10_solution 14 = .ok (.aload_n 0, 1) := by decide +kernel
theorem dX10_solution_15 : decode cX10_solution 15 = .ok (.getfield 64, 3) := by decide +kernel
theorem dX10_solution_18 : decode cX10_solution 18 = .ok (.invokevirtual 190, 3) := by decide +kernel
theorem dX10_solution_21 : decode cX10_solution 21 = .ok (.aload_n 0, 1) := by decide +kernel
theorem dX10_solution_22 : decode cX10_solution 22 = .ok (.getfield 64, 3) := by decide +kernel
theorem dX10_solution_25 : decode cX10_solution 25 = .ok (.iload_n 1, 1) := by decide +kernel
theorem dX10_solution_26 : decode cX10_solution 26 = .ok (.aload_n 0, 1) := by decide +kernel
theorem dX10_solution_27 : decode cX10_solution 27 = .ok (.getfield 18, 3) := by decide +kernel
theorem dX10_solution_30 : decode cX10_solution 30 = .ok (.invokevirtual 221, 3) := by decide +kernel
theorem dX10_solution_33 : decode cX10_solution 33 = .ok (.ifCond .eq 13, 3) := by decide +kernel
theorem dX10_solution_36 : decode cX10_solution 36 = .ok (.aload_n 0, 1) := by decide +kernel
theorem dX10_solution_37 : decode cX10_solution 37 = .ok (.getfield 18, 3) := by decide +kernel
theorem dX10_solution_40 : decode cX10_solution 40 = .ok (.invokevirtual 102, 3) := by decide +kernel
theorem dX10_solution_43 : decode cX10_solution 43 = .ok (.goto 4, 3) := by decide +kernel
theorem dX10_solution_46 : decode cX10_solution 46 = .ok (.iconst 0, 1) := by decide +kernel
theorem dX10_solution_47 : decode cX10_solution 47 = .ok (.ireturn, 1) := by decide +kernel
theorem dX10_letter_0 : decode cX10_letter 0 = .ok (.iload_n 1, 1) := by decide +kernel
theorem dX10_letter_1 : decode cX10_letter 1 = .ok (.ifCond .lt 14, 3) := by decide +kernel
theorem dX10_letter_4 : decode cX10_letter 4 = .ok (.iload_n 1, 1) := by decide +kernel
theorem dX10_letter_5 : decode cX10_letter 5 = .ok (.aload_n 0, 1) := by decide +kernel
theorem dX10_letter_6 : decode cX10_letter 6 = .ok (.getfield 18, 3) := by decide +kernel
theorem dX10_letter_9 : decode cX10_letter 9 = .ok (.invokevirtual 102, 3) := by decide +kernel
theorem dX10_letter_12 : decode cX10_letter 12 = .ok (.if_icmp .lt 13, 3) := by decide +kernel
theorem dX10_letter_15 : decode cX10_letter 15 = .ok (.new 197, 3) := by decide +kernel
theorem dX10_letter_18 : decode cX10_letter 18 = .ok (.dup, 1) := by decide +kernel
theorem dX10_letter_19 : decode cX10_letter 19 = .ok (.ldc 199, 2) := by decide +kernel
theorem dX10_letter_21 : decode cX10_letter 21 = .ok (.invokespecial 201, 3) := by decide +kernel
theorem dX10_letter_24 : decode cX10_letter 24 = .ok (.athrow, 1) := by decide +kernel
theorem dX10_letter_25 : decode cX10_letter 25 = .ok (.aload_n 0, 1) := by decide +kernel
theorem dX10_letter_26 : decode cX10_letter 26 = .ok (.getfield 18, 3) := by decide +kernel
theorem dX10_letter_29 : decode cX10_letter 29 = .ok (.iload_n 1, 1) := by decide +kernel
theorem dX10_letter_30 : decode cX10_letter 30 = .ok (.invokevirtual 204, 3) := by decide +kernel
theorem dX10_letter_33 : decode cX10_letter 33 = .ok (.ireturn, 1) := by decide +kernel
theorem dX14_feed_0 : decode cX14_feed 0 = .ok (.aload_n 0, 1) := by decide +kernel
theorem dX14_feed_1 : decode cX14_feed 1 = .ok (.iconst 0, 1) := by decide +kernel
theorem dX14_feed_2 : decode cX14_feed 2 = .ok (.putfield 1, 3) := by decide +kernel
theorem dX14_feed_5 : decode cX14_feed 5 = .ok (.iload_n 3, 1) := by decide +kernel
theorem dX14_feed_6 : decode cX14_feed 6 = .ok (.iconst 1, 1) := by decide +kernel
theorem dX14_feed_7 : decode cX14_feed 7 = .ok (.if_icmp .lt 9, 3) := by decide +kernel
theorem dX14_feed_10 : decode cX14_feed 10 = .ok (.iload_n 3, 1) := by decide +kernel
theorem dX14_feed_11 : decode cX14_feed 11 = .ok (.bipush 8, 2) := by decide +kernel
theorem dX14_feed_13 : decode cX14_feed 13 = .ok (.if_icmp .le 6, 3) := by decide +kernel
theorem dX14_feed_16 : decode cX14_feed 16 = .ok (.bipush (-2), 2) := by decide +kernel
theorem dX14_feed_18 : decode cX14_feed 18 = .ok (.ireturn, 1) := by decide +kernel
theorem dX14_feed_19 : decode cX14_feed 19 = .ok (.aload_n 0, 1) := by decide +kernel
theorem dX14_feed_20 : decode cX14_feed 20 = .ok (.getfield 174, 3) := by decide +kernel
theorem dX14_feed_23 : decode cX14_feed 23 = .ok (.iload_n 3, 1) := by decide +kernel
theorem dX14_feed_24 : decode cX14_feed 24 = .ok (.iadd, 1) := by decide +kernel
theorem dX14_feed_25 : decode cX14_feed 25 = .ok (.sipush 600, 3) := by decide +kernel
theorem dX14_feed_28 : decode cX14_feed 28 = .ok (.if_icmp .le 6, 3) := by decide +kernel
theorem dX14_feed_31 : decode cX14_feed 31 = .ok (.bipush (-3), 2) := by decide +kernel
theorem dX14_feed_33 : decode cX14_feed 33 = .ok (.ireturn, 1) := by decide +kernel
theorem dX14_feed_34 : decode cX14_feed 34 = .ok (.iload_n 3, 1) := by decide +kernel
theorem dX14_feed_35 : decode cX14_feed 35 = .ok (.iconst 1, 1) := by decide +kernel
theorem dX14_feed_36 : decode cX14_feed 36 = .ok (.isub, 1) := by decide +kernel
theorem dX14_feed_37 : decode cX14_feed 37 = .ok (.istore 4, 2) := by decide +kernel
theorem dX14_feed_39 : decode cX14_feed 39 = .ok (.iload 4, 2) := by decide +kernel
theorem dX14_feed_41 : decode cX14_feed 41 = .ok (.ifCond .lt 37, 3) := by decide +kernel
theorem dX14_feed_44 : decode cX14_feed 44 = .ok (.aload_n 0, 1) := by decide +kernel
theorem dX14_feed_45 : decode cX14_feed 45 = .ok (.getfield 54, 3) := by decide +kernel
theorem dX14_feed_48 : decode cX14_feed 48 = .ok (.aload_n 0, 1) := by decide +kernel
theorem dX14_feed_49 : decode cX14_feed 49 = .ok (.getfield 174, 3) := by decide +kernel
theorem dX14_feed_52 : decode cX14_feed 52 = .ok (.lload_n 1, 1) := by decide +kernel
theorem dX14_feed_53 : decode cX14_feed 53 = .ok (.bipush 8, 2) := by decide +kernel
theorem dX14_feed_55 : decode cX14_feed 55 = .ok (.iload 4, 2) := by decide +kernel
theorem dX14_feed_57 : decode cX14_feed 57 = .ok (.imul, 1) := by decide +kernel
theorem dX14_feed_58 : decode cX14_feed 58 = .ok (.lshr, 1) := by decide +kernel
theorem dX14_feed_59 : decode cX14_feed 59 = .ok (.l2i, 1) := by decide +kernel
theorem dX14_feed_60 : decode cX14_feed 60 = .ok (.i2b, 1) := by decide +kernel
theorem dX14_feed_61 : decode cX14_feed 61 = .ok (.bastore, 1) := by decide +kernel
theorem dX14_feed_62 : decode cX14_feed 62 = .ok (.aload_n 0, 1) := by decide +kernel
theorem dX14_feed_63 : decode cX14_feed 63 = .ok (.dup, 1) := by decide +kernel
theorem dX14_feed_64 : decode cX14_feed 64 = .ok (.getfield 174, 3) := by decide +kernel
theorem dX14_feed_67 : decode cX14_feed 67 = .ok (.iconst 1, 1) := by decide +kernel
theorem dX14_feed_68 : decode cX14_feed 68 = .ok (.iadd, 1) := by decide +kernel
theorem dX14_feed_69 : decode cX14_feed 69 = .ok (.putfield 174, 3) := by decide +kernel
theorem dX14_feed_72 : decode cX14_feed 72 = .ok (.iinc 4 (-1), 3) := by decide +kernel
theorem dX14_feed_75 : decode cX14_feed 75 = .ok (.goto (-36), 3) := by decide +kernel
theorem dX14_feed_78 : decode cX14_feed 78 = .ok (.aload_n 0, 1) := by decide +kernel
theorem dX14_feed_79 : decode cX14_feed 79 = .ok (.getfield 174, 3) := by decide +kernel
theorem dX14_feed_82 : decode cX14_feed 82 = .ok (.ireturn, 1) := by decide +kernel
theorem dX14_written_0 : decode cX14_written 0 = .ok (.aload_n 0, 1) := by decide +kernel
theorem dX14_written_1 : decode cX14_written 1 = .ok (.iconst 0, 1) := by decide +kernel
theorem dX14_written_2 : decode cX14_written 2 = .ok (.putfield 1, 3) := by decide +kernel
theorem dX14_written_5 : decode cX14_written 5 = .ok (.iload_n 1, 1) := by decide +kernel
theorem dX14_written_6 : decode cX14_written 6 = .ok (.ifCond .lt 14, 3) := by decide +kernel
theorem dX14_written_9 : decode cX14_written 9 = .ok (.iload_n 1, 1) := by decide +kernel
theorem dX14_written_10 : decode cX14_written 10 = .ok (.aload_n 0, 1) := by decide +kernel
theorem dX14_written_11 : decode cX14_written 11 = .ok (.getfield 64, 3) := by decide +kernel
theorem dX14_written_14 : decode cX14_written 14 = .ok (.getfield 281, 3) := by decide +kernel
theorem dX14_written_17 : decode cX14_written 17 = .ok (.if_icmp .lt 5, 3) := by decide +kernel
theorem dX14_written_20 : decode cX14_written 20 = .ok (.iconst (-1), 1) := by decide +kernel
theorem dX14_written_21 : decode cX14_written 21 = .ok (.ireturn, 1) := by decide +kernel
theorem dX14_written_22 : decode cX14_written 22 = .ok (.aload_n 0, 1) := by decide +kernel
theorem dX14_written_23 : decode cX14_written 23 = .ok (.aload_n 0, 1) := by decide +kernel
theorem dX14_written_24 : decode cX14_written 24 = .ok (.getfield 77, 3) := by decide +kernel
theorem dX14_written_27 : decode cX14_written 27 = .ok (.iconst 0, 1) := by decide +kernel
theorem dX14_written_28 : decode cX14_written 28 = .ok (.aload_n 0, 1) := by decide +kernel
theorem dX14_written_29 : decode cX14_written 29 = .ok (.getfield 64, 3) := by decide +kernel
theorem dX14_written_32 : decode cX14_written 32 = .ok (.getfield 304, 3) := by decide +kernel
theorem dX14_written_35 : decode cX14_written 35 = .ok (.iload_n 1, 1) := by decide +kernel
theorem dX14_written_36 : decode cX14_written 36 = .ok (.iaload, 1) := by decide +kernel
theorem dX14_written_37 : decode cX14_written 37 = .ok (.invokevirtual 292, 3) := by decide +kernel
theorem dX14_written_40 : decode cX14_written 40 = .ok (.istore_n 2, 1) := by decide +kernel
theorem dX14_written_41 : decode cX14_written 41 = .ok (.aload_n 0, 1) := by decide +kernel
theorem dX14_written_42 : decode cX14_written 42 = .ok (.getfield 77, 3) := by decide +kernel
theorem dX14_written_45 : decode cX14_written 45 = .ok (.iload_n 2, 1) := by decide +kernel
theorem dX14_written_46 : decode cX14_written 46 = .ok (.aload_n 0, 1) := by decide +kernel
theorem dX14_written_47 : decode cX14_written 47 = .ok (.getfield 64, 3) := by decide +kernel
theorem dX14_written_50 : decode cX14_written 50 = .ok (.getfield 301, 3) := by decide +kernel
theorem dX14_written_53 : decode cX14_written 53 = .ok (.iload_n 1, 1) := by decide +kernel
theorem dX14_written_54 : decode cX14_written 54 = .ok (.baload, 1) := by decide +kernel
theorem dX14_written_55 : decode cX14_written 55 = .ok (.ifCond .eq 8, 3) := by decide +kernel
theorem dX14_written_58 : decode cX14_written 58 = .ok (.bipush 61, 2) := by decide +kernel
theorem dX14_written_60 : decode cX14_written 60 = .ok (.goto 5, 3) := by decide +kernel
theorem dX14_written_63 : decode cX14_written 63 = .ok (.bipush 58, 2) := by decide +kernel
theorem dX14_written_65 : decode cX14_written 65 = .ok (.iconst 1, 1) := by decide +kernel
theorem dX14_written_66 : decode cX14_written 66 = .ok (.invokestatic 288, 3) := by decide +kernel
theorem dX14_written_69 : decode cX14_written 69 = .ok (.istore_n 2, 1) := by decide +kernel
theorem dX14_written_70 : decode cX14_written 70 = .ok (.aload_n 0, 1) := by decide +kernel
theorem dX14_written_71 : decode cX14_written 71 = .ok (.aload_n 0, 1) := by decide +kernel
theorem dX14_written_72 : decode cX14_written 72 = .ok (.aload_n 0, 1) := by decide +kernel
theorem dX14_written_73 : decode cX14_written 73 = .ok (.getfield 77, 3) := by decide +kernel
theorem dX14_written_76 : decode cX14_written 76 = .ok (.iload_n 2, 1) := by decide +kernel
theorem dX14_written_77 : decode cX14_written 77 = .ok (.aload_n 0, 1) := by decide +kernel
theorem dX14_written_78 : decode cX14_written 78 = .ok (.getfield 64, 3) := by decide +kernel
theorem dX14_written_81 : decode cX14_written 81 = .ok (.getfield 310, 3) := by decide +kernel
theorem dX14_written_84 : decode cX14_written 84 = .ok (.iload_n 1, 1) := by decide +kernel
theorem dX14_written_85 : decode cX14_written 85 = .ok (.iaload, 1) := by decide +kernel
theorem dX14_written_86 : decode cX14_written 86 = .ok (.invokevirtual 292, 3) := by decide +kernel
theorem dX14_written_89 : decode cX14_written 89 = .ok (.putfield 440, 3) := by decide +kernel
theorem dX14_written_92 : decode cX14_written 92 = .ok (.aload_n 0, 1) := by decide +kernel
theorem dX14_written_93 : decode cX14_written 93 = .ok (.getfield 440, 3) := by decide +kernel
theorem dX14_written_96 : decode cX14_written 96 = .ok (.ireturn, 1) := by decide +kernel
theorem dX14_solution_0 : decode cX14_solution 0 = .ok (.aload_n 0, 1) := by decide +kernel
theorem dX14_solution_1 : decode cX14_solution 1 = .ok (.iconst 0, 1) := by decide +kernel
theorem dX14_solution_2 : decode cX14_solution 2 = .ok (.putfield 1, 3) := by decide +kernel
theorem dX14_solution_5 : decode cX14_solution 5 = .ok (.iload_n 1, 1) := by decide +kernel
theorem dX14_solution_6 : decode cX14_solution 6 = .ok (.ifCond .lt 11, 3) := by decide +kernel
theorem dX14_solution_9 : decode cX14_solution 9 = .ok (.iload_n 1, 1) := by decide +kernel
theorem dX14_solution_10 : decode cX14_solution 10 = .ok (.aload_n 0, 1) := by decide +kernel
theorem dX14_solution_11 : decode cX14_solution 11 = .ok (.getfield 278, 3) := by decide +kernel
theorem dX14_solution_14 : decode cX14_solution 14 = .ok (.if_icmp .lt 7, 3) := by decide +kernel
theorem dX14_solution_17 : decode cX14_solution 17 = .ok (.iconst (-1), 1) := by decide +kernel
theorem dX14_solution_18 : decode cX14_solution 18 = .ok (.goto 12, 3) := by decide +kernel
theorem dX14_solution_21 : decode cX14_solution 21 = .ok (.aload_n 0, 1) := by decide +kernel
theorem dX14_solution_22 : decode cX14_solution 22 = .ok (.aload_n 0, 1) := by decide +kernel
theorem dX14_solution_23 : decode cX14_solution 23 = .ok (.iload_n 1, 1) := by decide +kernel
theorem dX14_solution_24 : decode cX14_solution 24 = .ok (.invokevirtual 395, 3) := by decide +kernel
theorem dX14_solution_27 : decode cX14_solution 27 = .ok (.invokevirtual 443, 3) := by decide +kernel
theorem dX14_solution_30 : decode cX14_solution 30 = .ok (.ireturn, 1) := by decide +kernel
theorem dX14_letter_0 : decode cX14_letter 0 = .ok (.aload_n 0, 1) := by decide +kernel
theorem dX14_letter_1 : decode cX14_letter 1 = .ok (.iload_n 1, 1) := by decide +kernel
theorem dX14_letter_2 : decode cX14_letter 2 = .ok (.ifCond .lt 15, 3) := by decide +kernel
theorem dX14_letter_5 : decode cX14_letter 5 = .ok (.iload_n 1, 1) := by decide +kernel
theorem dX14_letter_6 : decode cX14_letter 6 = .ok (.aload_n 0, 1) := by decide +kernel
theorem dX14_letter_7 : decode cX14_letter 7 = .ok (.getfield 440, 3) := by decide +kernel
theorem dX14_letter_10 : decode cX14_letter 10 = .ok (.if_icmp .ge 7, 3) := by decide +kernel
theorem dX14_letter_13 : decode cX14_letter 13 = .ok (.iconst 0, 1) := by decide +kernel
theorem dX14_letter_14 : decode cX14_letter 14 = .ok (.goto 4, 3) := by decide +kernel
theorem dX14_letter_17 : decode cX14_letter 17 = .ok (.iconst 1, 1) := by decide +kernel
theorem dX14_letter_18 : decode cX14_letter 18 = .ok (.putfield 1, 3) := by decide +kernel
theorem dX14_letter_21 : decode cX14_letter 21 = .ok (.aload_n 0, 1) := by decide +kernel
theorem dX14_letter_22 : decode cX14_letter 22 = .ok (.getfield 1, 3) := by decide +kernel
theorem dX14_letter_25 : decode cX14_letter 25 = .ok (.ifCond .ne 12, 3) := by decide +kernel
theorem dX14_letter_28 : decode cX14_letter 28 = .ok (.aload_n 0, 1) := by decide +kernel
theorem dX14_letter_29 : decode cX14_letter 29 = .ok (.getfield 77, 3) := by decide +kernel
theorem dX14_letter_32 : decode cX14_letter 32 = .ok (.iload_n 1, 1) := by decide +kernel
theorem dX14_letter_33 : decode cX14_letter 33 = .ok (.baload, 1) := by decide +kernel
theorem dX14_letter_34 : decode cX14_letter 34 = .ok (.goto 4, 3) := by decide +kernel
theorem dX14_letter_37 : decode cX14_letter 37 = .ok (.iconst 0, 1) := by decide +kernel
theorem dX14_letter_38 : decode cX14_letter 38 = .ok (.ireturn, 1) := by decide +kernel
theorem dX14_thrown_0 : decode cX14_thrown 0 = .ok (.aload_n 0, 1) := by decide +kernel
theorem dX14_thrown_1 : decode cX14_thrown 1 = .ok (.getfield 1, 3) := by decide +kernel
theorem dX14_thrown_4 : decode cX14_thrown 4 = .ok (.ireturn, 1) := by decide +kernel
theorem dL_letter_0 : decode cL_letter 0 = .ok (.aload_n 2, 1) := by decide +kernel
theorem dL_letter_1 : decode cL_letter 1 = .ok (.iconst 0, 1) := by decide +kernel
theorem dL_letter_2 : decode cL_letter 2 = .ok (.aload_n 0, 1) := by decide +kernel
theorem dL_letter_3 : decode cL_letter 3 = .ok (.iload_n 1, 1) := by decide +kernel
theorem dL_letter_4 : decode cL_letter 4 = .ok (.invokevirtual 7, 3) := by decide +kernel
theorem dL_letter_7 : decode cL_letter 7 = .ok (.i2l, 1) := by decide +kernel
theorem dL_letter_8 : decode cL_letter 8 = .ok (.lastore, 1) := by decide +kernel
theorem dL_letter_9 : decode cL_letter 9 = .ok (.goto 6, 3) := by decide +kernel
theorem dL_letter_12 : decode cL_letter 12 = .ok (.astore_n 3, 1) := by decide +kernel
theorem dL_letter_13 : decode cL_letter 13 = .ok (.iconst 1, 1) := by decide +kernel
theorem dL_letter_14 : decode cL_letter 14 = .ok (.ireturn, 1) := by decide +kernel
theorem dL_letter_15 : decode cL_letter 15 = .ok (.iconst 0, 1) := by decide +kernel
theorem dL_letter_16 : decode cL_letter 16 = .ok (.ireturn, 1) := by decide +kernel
theorem dL_law_0 : decode cL_law 0 = .ok (.new 8, 3) := by decide +kernel
theorem dL_law_3 : decode cL_law 3 = .ok (.dup, 1) := by decide +kernel
theorem dL_law_4 : decode cL_law 4 = .ok (.invokespecial 15, 3) := by decide +kernel
theorem dL_law_7 : decode cL_law 7 = .ok (.astore_n 1, 1) := by decide +kernel
theorem dL_law_8 : decode cL_law 8 = .ok (.new 16, 3) := by decide +kernel
theorem dL_law_11 : decode cL_law 11 = .ok (.dup, 1) := by decide +kernel
theorem dL_law_12 : decode cL_law 12 = .ok (.invokespecial 18, 3) := by decide +kernel
theorem dL_law_15 : decode cL_law 15 = .ok (.astore_n 2, 1) := by decide +kernel
theorem dL_law_16 : decode cL_law 16 = .ok (.iconst 1, 1) := by decide +kernel
theorem dL_law_17 : decode cL_law 17 = .ok (.newarray .long, 2) := by decide +kernel
theorem dL_law_19 : decode cL_law 19 = .ok (.astore_n 3, 1) := by decide +kernel
theorem dL_law_20 : decode cL_law 20 = .ok (.iconst 0, 1) := by decide +kernel
theorem dL_law_21 : decode cL_law 21 = .ok (.istore 4, 2) := by decide +kernel
theorem dL_law_23 : decode cL_law 23 = .ok (.iload 4, 2) := by decide +kernel
theorem dL_law_25 : decode cL_law 25 = .ok (.aload_n 0, 1) := by decide +kernel
theorem dL_law_26 : decode cL_law 26 = .ok (.arraylength, 1) := by decide +kernel
theorem dL_law_27 : decode cL_law 27 = .ok (.iconst 4, 1) := by decide +kernel
theorem dL_law_28 : decode cL_law 28 = .ok (.isub, 1) := by decide +kernel
theorem dL_law_29 : decode cL_law 29 = .ok (.if_icmp .gt 447, 3) := by decide +kernel
theorem dL_law_32 : decode cL_law 32 = .ok (.aload_n 0, 1) := by decide +kernel
theorem dL_law_33 : decode cL_law 33 = .ok (.iload 4, 2) := by decide +kernel
theorem dL_law_35 : decode cL_law 35 = .ok (.iaload, 1) := by decide +kernel
theorem dL_law_36 : decode cL_law 36 = .ok (.bipush 15, 2) := by decide +kernel
theorem dL_law_38 : decode cL_law 38 = .ok (.iand, 1) := by decide +kernel
theorem dL_law_39 : decode cL_law 39 = .ok (.tableswitch 431 0 14 #[73, 142, 155, 168, 209, 222, 235, 248, 273, 298, 354, 367, 380, 405, 418], 73) := by decide +kernel
theorem dL_law_112 : decode cL_law 112 = .ok (.aload_n 1, 1) := by decide +kernel
theorem dL_law_113 : decode cL_law 113 = .ok (.aload_n 0, 1) := by decide +kernel
theorem dL_law_114 : decode cL_law 114 = .ok (.iload 4, 2) := by decide +kernel
theorem dL_law_116 : decode cL_law 116 = .ok (.iconst 1, 1) := by decide +kernel
theorem dL_law_117 : decode cL_law 117 = .ok (.iadd, 1) := by decide +kernel
theorem dL_law_118 : decode cL_law 118 = .ok (.iaload, 1) := by decide +kernel
theorem dL_law_119 : decode cL_law 119 = .ok (.i2l, 1) := by decide +kernel
theorem dL_law_120 : decode cL_law 120 = .ok (.bipush 32, 2) := by decide +kernel
theorem dL_law_122 : decode cL_law 122 = .ok (.lshl, 1) := by decide +kernel
theorem dL_law_123 : decode cL_law 123 = .ok (.aload_n 0, 1) := by decide +kernel
theorem dL_law_124 : decode cL_law 124 = .ok (.iload 4, 2) := by decide +kernel
theorem dL_law_126 : decode cL_law 126 = .ok (.iconst 2, 1) := by decide +kernel
theorem dL_law_127 : decode cL_law 127 = .ok (.iadd, 1) := by decide +kernel
theorem dL_law_128 : decode cL_law 128 = .ok (.iaload, 1) := by decide +kernel
theorem dL_law_129 : decode cL_law 129 = .ok (.i2l, 1) := by decide +kernel
theorem dL_law_130 : decode cL_law 130 = .ok (.ldc2_w 19, 3) := by decide +kernel
theorem dL_law_133 : decode cL_law 133 = .ok (.land, 1) := by decide +kernel
theorem dL_law_134 : decode cL_law 134 = .ok (.lor, 1) := by decide +kernel
theorem dL_law_135 : decode cL_law 135 = .ok (.aload_n 0, 1) := by decide +kernel
theorem dL_law_136 : decode cL_law 136 = .ok (.iload 4, 2) := by decide +kernel
theorem dL_law_138 : decode cL_law 138 = .ok (.iconst 3, 1) := by decide +kernel
theorem dL_law_139 : decode cL_law 139 = .ok (.iadd, 1) := by decide +kernel
theorem dL_law_140 : decode cL_law 140 = .ok (.iaload, 1) := by decide +kernel
theorem dL_law_141 : decode cL_law 141 = .ok (.invokevirtual 21, 3) := by decide +kernel
theorem dL_law_144 : decode cL_law 144 = .ok (.aload_n 2, 1) := by decide +kernel
theorem dL_law_145 : decode cL_law 145 = .ok (.aload_n 0, 1) := by decide +kernel
theorem dL_law_146 : decode cL_law 146 = .ok (.iload 4, 2) := by decide +kernel
theorem dL_law_148 : decode cL_law 148 = .ok (.iconst 1, 1) := by decide +kernel
theorem dL_law_149 : decode cL_law 149 = .ok (.iadd, 1) := by decide +kernel
theorem dL_law_150 : decode cL_law 150 = .ok (.iaload, 1) := by decide +kernel
theorem dL_law_151 : decode cL_law 151 = .ok (.i2l, 1) := by decide +kernel
theorem dL_law_152 : decode cL_law 152 = .ok (.bipush 32, 2) := by decide +kernel
theorem dL_law_154 : decode cL_law 154 = .ok (.lshl, 1) := by decide +kernel
theorem dL_law_155 : decode cL_law 155 = .ok (.aload_n 0, 1) := by decide +kernel
theorem dL_law_156 : decode cL_law 156 = .ok (.iload 4, 2) := by decide +kernel
theorem dL_law_158 : decode cL_law 158 = .ok (.iconst 2, 1) := by decide +kernel
theorem dL_law_159 : decode cL_law 159 = .ok (.iadd, 1) := by decide +kernel
theorem dL_law_160 : decode cL_law 160 = .ok (.iaload, 1) := by decide +kernel
theorem dL_law_161 : decode cL_law 161 = .ok (.i2l, 1) := by decide +kernel
theorem dL_law_162 : decode cL_law 162 = .ok (.ldc2_w 19, 3) := by decide +kernel
theorem dL_law_165 : decode cL_law 165 = .ok (.land, 1) := by decide +kernel
theorem dL_law_166 : decode cL_law 166 = .ok (.lor, 1) := by decide +kernel
theorem dL_law_167 : decode cL_law 167 = .ok (.aload_n 0, 1) := by decide +kernel
theorem dL_law_168 : decode cL_law 168 = .ok (.iload 4, 2) := by decide +kernel
theorem dL_law_170 : decode cL_law 170 = .ok (.iconst 3, 1) := by decide +kernel
theorem dL_law_171 : decode cL_law 171 = .ok (.iadd, 1) := by decide +kernel
theorem dL_law_172 : decode cL_law 172 = .ok (.iaload, 1) := by decide +kernel
theorem dL_law_173 : decode cL_law 173 = .ok (.invokevirtual 25, 3) := by decide +kernel
theorem dL_law_176 : decode cL_law 176 = .ok (.if_icmp .eq 294, 3) := by decide +kernel
theorem dL_law_179 : decode cL_law 179 = .ok (.iconst 0, 1) := by decide +kernel
theorem dL_law_180 : decode cL_law 180 = .ok (.ireturn, 1) := by decide +kernel
theorem dL_law_181 : decode cL_law 181 = .ok (.aload_n 1, 1) := by decide +kernel
theorem dL_law_182 : decode cL_law 182 = .ok (.invokevirtual 26, 3) := by decide +kernel
theorem dL_law_185 : decode cL_law 185 = .ok (.aload_n 2, 1) := by decide +kernel
theorem dL_law_186 : decode cL_law 186 = .ok (.invokevirtual 30, 3) := by decide +kernel
theorem dL_law_189 : decode cL_law 189 = .ok (.if_icmp .eq 281, 3) := by decide +kernel
theorem dL_law_192 : decode cL_law 192 = .ok (.iconst 0, 1) := by decide +kernel
theorem dL_law_193 : decode cL_law 193 = .ok (.ireturn, 1) := by decide +kernel
theorem dL_law_194 : decode cL_law 194 = .ok (.aload_n 1, 1) := by decide +kernel
theorem dL_law_195 : decode cL_law 195 = .ok (.invokevirtual 31, 3) := by decide +kernel
theorem dL_law_198 : decode cL_law 198 = .ok (.aload_n 2, 1) := by decide +kernel
theorem dL_law_199 : decode cL_law 199 = .ok (.invokevirtual 34, 3) := by decide +kernel
theorem dL_law_202 : decode cL_law 202 = .ok (.if_icmp .eq 268, 3) := by decide +kernel
theorem dL_law_205 : decode cL_law 205 = .ok (.iconst 0, 1) := by decide +kernel
theorem dL_law_206 : decode cL_law 206 = .ok (.ireturn, 1) := by decide +kernel
theorem dL_law_207 : decode cL_law 207 = .ok (.aload_n 1, 1) := by decide +kernel
theorem dL_law_208 : decode cL_law 208 = .ok (.aload_n 0, 1) := by decide +kernel
theorem dL_law_209 : decode cL_law 209 = .ok (.iload 4, 2) := by decide +kernel
theorem dL_law_211 : decode cL_law 211 = .ok (.iconst 1, 1) := by decide +kernel
theorem dL_law_212 : decode cL_law 212 = .ok (.iadd, 1) := by decide +kernel
theorem dL_law_213 : decode cL_law 213 = .ok (.iaload, 1) := by decide +kernel
theorem dL_law_214 : decode cL_law 214 = .ok (.ifCond .eq 7, 3) := by decide +kernel
theorem dL_law_217 : decode cL_law 217 = .ok (.iconst 1, 1) := by decide +kernel
theorem dL_law_218 : decode cL_law 218 = .ok (.goto 4, 3) := by decide +kernel
theorem dL_law_221 : decode cL_law 221 = .ok (.iconst 0, 1) := by decide +kernel
theorem dL_law_222 : decode cL_law 222 = .ok (.invokevirtual 35, 3) := by decide +kernel
theorem dL_law_225 : decode cL_law 225 = .ok (.aload_n 2, 1) := by decide +kernel
theorem dL_law_226 : decode cL_law 226 = .ok (.aload_n 0, 1) := by decide +kernel
theorem dL_law_227 : decode cL_law 227 = .ok (.iload 4, 2) := by decide +kernel
theorem dL_law_229 : decode cL_law 229 = .ok (.iconst 1, 1) := by decide +kernel
theorem dL_law_230 : decode cL_law 230 = .ok (.iadd, 1) := by decide +kernel
theorem dL_law_231 : decode cL_law 231 = .ok (.iaload, 1) := by decide +kernel
theorem dL_law_232 : decode cL_law 232 = .ok (.ifCond .eq 7, 3) := by decide +kernel
theorem dL_law_235 : decode cL_law 235 = .ok (.iconst 1, 1) := by decide +kernel
theorem dL_law_236 : decode cL_law 236 = .ok (.goto 4, 3) := by decide +kernel
theorem dL_law_239 : decode cL_law 239 = .ok (.iconst 0, 1) := by decide +kernel
theorem dL_law_240 : decode cL_law 240 = .ok (.invokevirtual 39, 3) := by decide +kernel
theorem dL_law_243 : decode cL_law 243 = .ok (.if_icmp .eq 227, 3) := by decide +kernel
theorem dL_law_246 : decode cL_law 246 = .ok (.iconst 0, 1) := by decide +kernel
theorem dL_law_247 : decode cL_law 247 = .ok (.ireturn, 1) := by decide +kernel
theorem dL_law_248 : decode cL_law 248 = .ok (.aload_n 1, 1) := by decide +kernel
theorem dL_law_249 : decode cL_law 249 = .ok (.invokevirtual 40, 3) := by decide +kernel
theorem dL_law_252 : decode cL_law 252 = .ok (.aload_n 2, 1) := by decide +kernel
theorem dL_law_253 : decode cL_law 253 = .ok (.invokevirtual 43, 3) := by decide +kernel
theorem dL_law_256 : decode cL_law 256 = .ok (.if_icmp .eq 214, 3) := by decide +kernel
theorem dL_law_259 : decode cL_law 259 = .ok (.iconst 0, 1) := by decide +kernel
theorem dL_law_260 : decode cL_law 260 = .ok (.ireturn, 1) := by decide +kernel
theorem dL_law_261 : decode cL_law 261 = .ok (.aload_n 1, 1) := by decide +kernel
theorem dL_law_262 : decode cL_law 262 = .ok (.invokevirtual 44, 3) := by decide +kernel
theorem dL_law_265 : decode cL_law 265 = .ok (.aload_n 2, 1) := by decide +kernel
theorem dL_law_266 : decode cL_law 266 = .ok (.invokevirtual 47, 3) := by decide +kernel
theorem dL_law_269 : decode cL_law 269 = .ok (.if_icmp .eq 201, 3) := by decide +kernel
theorem dL_law_272 : decode cL_law 272 = .ok (.iconst 0, 1) := by decide +kernel
theorem dL_law_273 : decode cL_law 273 = .ok (.ireturn, 1) := by decide +kernel
theorem dL_law_274 : decode cL_law 274 = .ok (.aload_n 1, 1) := by decide +kernel
theorem dL_law_275 : decode cL_law 275 = .ok (.invokevirtual 48, 3) := by decide +kernel
theorem dL_law_278 : decode cL_law 278 = .ok (.aload_n 2, 1) := by decide +kernel
theorem dL_law_279 : decode cL_law 279 = .ok (.invokevirtual 51, 3) := by decide +kernel
theorem dL_law_282 : decode cL_law 282 = .ok (.if_icmp .eq 188, 3) := by decide +kernel
theorem dL_law_285 : decode cL_law 285 = .ok (.iconst 0, 1) := by decide +kernel
theorem dL_law_286 : decode cL_law 286 = .ok (.ireturn, 1) := by decide +kernel
theorem dL_law_287 : decode cL_law 287 = .ok (.aload_n 1, 1) := by decide +kernel
theorem dL_law_288 : decode cL_law 288 = .ok (.aload_n 0, 1) := by decide +kernel
theorem dL_law_289 : decode cL_law 289 = .ok (.iload 4, 2) := by decide +kernel
theorem dL_law_291 : decode cL_law 291 = .ok (.iconst 1, 1) := by decide +kernel
theorem dL_law_292 : decode cL_law 292 = .ok (.iadd, 1) := by decide +kernel
theorem dL_law_293 : decode cL_law 293 = .ok (.iaload, 1) := by decide +kernel
theorem dL_law_294 : decode cL_law 294 = .ok (.invokevirtual 52, 3) := by decide +kernel
theorem dL_law_297 : decode cL_law 297 = .ok (.aload_n 2, 1) := by decide +kernel
theorem dL_law_298 : decode cL_law 298 = .ok (.aload_n 0, 1) := by decide +kernel
theorem dL_law_299 : decode cL_law 299 = .ok (.iload 4, 2) := by decide +kernel
theorem dL_law_301 : decode cL_law 301 = .ok (.iconst 1, 1) := by decide +kernel
theorem dL_law_302 : decode cL_law 302 = .ok (.iadd, 1) := by decide +kernel
theorem dL_law_303 : decode cL_law 303 = .ok (.iaload, 1) := by decide +kernel
theorem dL_law_304 : decode cL_law 304 = .ok (.invokevirtual 55, 3) := by decide +kernel
theorem dL_law_307 : decode cL_law 307 = .ok (.if_icmp .eq 163, 3) := by decide +kernel
theorem dL_law_310 : decode cL_law 310 = .ok (.iconst 0, 1) := by decide +kernel
theorem dL_law_311 : decode cL_law 311 = .ok (.ireturn, 1) := by decide +kernel
theorem dL_law_312 : decode cL_law 312 = .ok (.aload_n 1, 1) := by decide +kernel
theorem dL_law_313 : decode cL_law 313 = .ok (.aload_n 0, 1) := by decide +kernel
theorem dL_law_314 : decode cL_law 314 = .ok (.iload 4, 2) := by decide +kernel
theorem dL_law_316 : decode cL_law 316 = .ok (.iconst 1, 1) := by decide +kernel
theorem dL_law_317 : decode cL_law 317 = .ok (.iadd, 1) := by decide +kernel
theorem dL_law_318 : decode cL_law 318 = .ok (.iaload, 1) := by decide +kernel
theorem dL_law_319 : decode cL_law 319 = .ok (.invokevirtual 56, 3) := by decide +kernel
theorem dL_law_322 : decode cL_law 322 = .ok (.aload_n 2, 1) := by decide +kernel
theorem dL_law_323 : decode cL_law 323 = .ok (.aload_n 0, 1) := by decide +kernel
theorem dL_law_324 : decode cL_law 324 = .ok (.iload 4, 2) := by decide +kernel
theorem dL_law_326 : decode cL_law 326 = .ok (.iconst 1, 1) := by decide +kernel
theorem dL_law_327 : decode cL_law 327 = .ok (.iadd, 1) := by decide +kernel
theorem dL_law_328 : decode cL_law 328 = .ok (.iaload, 1) := by decide +kernel
theorem dL_law_329 : decode cL_law 329 = .ok (.invokevirtual 59, 3) := by decide +kernel
theorem dL_law_332 : decode cL_law 332 = .ok (.if_icmp .eq 138, 3) := by decide +kernel
theorem dL_law_335 : decode cL_law 335 = .ok (.iconst 0, 1) := by decide +kernel
theorem dL_law_336 : decode cL_law 336 = .ok (.ireturn, 1) := by decide +kernel
theorem dL_law_337 : decode cL_law 337 = .ok (.aload_n 1, 1) := by decide +kernel
theorem dL_law_338 : decode cL_law 338 = .ok (.aload_n 0, 1) := by decide +kernel
theorem dL_law_339 : decode cL_law 339 = .ok (.iload 4, 2) := by decide +kernel
theorem dL_law_341 : decode cL_law 341 = .ok (.iconst 1, 1) := by decide +kernel
theorem dL_law_342 : decode cL_law 342 = .ok (.iadd, 1) := by decide +kernel
theorem dL_law_343 : decode cL_law 343 = .ok (.iaload, 1) := by decide +kernel
theorem dL_law_344 : decode cL_law 344 = .ok (.aload_n 3, 1) := by decide +kernel
theorem dL_law_345 : decode cL_law 345 = .ok (.invokestatic 60, 3) := by decide +kernel
theorem dL_law_348 : decode cL_law 348 = .ok (.istore 5, 2) := by decide +kernel
theorem dL_law_350 : decode cL_law 350 = .ok (.aload_n 2, 1) := by decide +kernel
theorem dL_law_351 : decode cL_law 351 = .ok (.aload_n 0, 1) := by decide +kernel
theorem dL_law_352 : decode cL_law 352 = .ok (.iload 4, 2) := by decide +kernel
theorem dL_law_354 : decode cL_law 354 = .ok (.iconst 1, 1) := by decide +kernel
theorem dL_law_355 : decode cL_law 355 = .ok (.iadd, 1) := by decide +kernel
theorem dL_law_356 : decode cL_law 356 = .ok (.iaload, 1) := by decide +kernel
theorem dL_law_357 : decode cL_law 357 = .ok (.invokevirtual 65, 3) := by decide +kernel
theorem dL_law_360 : decode cL_law 360 = .ok (.istore 6, 2) := by decide +kernel
theorem dL_law_362 : decode cL_law 362 = .ok (.aload_n 2, 1) := by decide +kernel
theorem dL_law_363 : decode cL_law 363 = .ok (.invokevirtual 66, 3) := by decide +kernel
theorem dL_law_366 : decode cL_law 366 = .ok (.iload 5, 2) := by decide +kernel
theorem dL_law_368 : decode cL_law 368 = .ok (.if_icmp .eq 5, 3) := by decide +kernel
theorem dL_law_371 : decode cL_law 371 = .ok (.iconst 0, 1) := by decide +kernel
theorem dL_law_372 : decode cL_law 372 = .ok (.ireturn, 1) := by decide +kernel
theorem dL_law_373 : decode cL_law 373 = .ok (.iload 5, 2) := by decide +kernel
theorem dL_law_375 : decode cL_law 375 = .ok (.ifCond .ne 15, 3) := by decide +kernel
theorem dL_law_378 : decode cL_law 378 = .ok (.aload_n 3, 1) := by decide +kernel
theorem dL_law_379 : decode cL_law 379 = .ok (.iconst 0, 1) := by decide +kernel
theorem dL_law_380 : decode cL_law 380 = .ok (.laload, 1) := by decide +kernel
theorem dL_law_381 : decode cL_law 381 = .ok (.iload 6, 2) := by decide +kernel
theorem dL_law_383 : decode cL_law 383 = .ok (.i2l, 1) := by decide +kernel
theorem dL_law_384 : decode cL_law 384 = .ok (.lcmp, 1) := by decide +kernel
theorem dL_law_385 : decode cL_law 385 = .ok (.ifCond .eq 5, 3) := by decide +kernel
theorem dL_law_388 : decode cL_law 388 = .ok (.iconst 0, 1) := by decide +kernel
theorem dL_law_389 : decode cL_law 389 = .ok (.ireturn, 1) := by decide +kernel
theorem dL_law_390 : decode cL_law 390 = .ok (.goto 80, 3) := by decide +kernel
theorem dL_law_393 : decode cL_law 393 = .ok (.aload_n 1, 1) := by decide +kernel
theorem dL_law_394 : decode cL_law 394 = .ok (.invokevirtual 69, 3) := by decide +kernel
theorem dL_law_397 : decode cL_law 397 = .ok (.aload_n 2, 1) := by decide +kernel
theorem dL_law_398 : decode cL_law 398 = .ok (.invokevirtual 72, 3) := by decide +kernel
theorem dL_law_401 : decode cL_law 401 = .ok (.if_icmp .eq 69, 3) := by decide +kernel
theorem dL_law_404 : decode cL_law 404 = .ok (.iconst 0, 1) := by decide +kernel
theorem dL_law_405 : decode cL_law 405 = .ok (.ireturn, 1) := by decide +kernel
theorem dL_law_406 : decode cL_law 406 = .ok (.aload_n 1, 1) := by decide +kernel
theorem dL_law_407 : decode cL_law 407 = .ok (.invokevirtual 73, 3) := by decide +kernel
theorem dL_law_410 : decode cL_law 410 = .ok (.aload_n 2, 1) := by decide +kernel
theorem dL_law_411 : decode cL_law 411 = .ok (.invokevirtual 76, 3) := by decide +kernel
theorem dL_law_414 : decode cL_law 414 = .ok (.if_icmp .eq 56, 3) := by decide +kernel
theorem dL_law_417 : decode cL_law 417 = .ok (.iconst 0, 1) := by decide +kernel
theorem dL_law_418 : decode cL_law 418 = .ok (.ireturn, 1) := by decide +kernel
theorem dL_law_419 : decode cL_law 419 = .ok (.aload_n 1, 1) := by decide +kernel
theorem dL_law_420 : decode cL_law 420 = .ok (.aload_n 0, 1) := by decide +kernel
theorem dL_law_421 : decode cL_law 421 = .ok (.iload 4, 2) := by decide +kernel
theorem dL_law_423 : decode cL_law 423 = .ok (.iconst 1, 1) := by decide +kernel
theorem dL_law_424 : decode cL_law 424 = .ok (.iadd, 1) := by decide +kernel
theorem dL_law_425 : decode cL_law 425 = .ok (.iaload, 1) := by decide +kernel
theorem dL_law_426 : decode cL_law 426 = .ok (.invokevirtual 77, 3) := by decide +kernel
theorem dL_law_429 : decode cL_law 429 = .ok (.aload_n 2, 1) := by decide +kernel
theorem dL_law_430 : decode cL_law 430 = .ok (.aload_n 0, 1) := by decide +kernel
theorem dL_law_431 : decode cL_law 431 = .ok (.iload 4, 2) := by decide +kernel
theorem dL_law_433 : decode cL_law 433 = .ok (.iconst 1, 1) := by decide +kernel
theorem dL_law_434 : decode cL_law 434 = .ok (.iadd, 1) := by decide +kernel
theorem dL_law_435 : decode cL_law 435 = .ok (.iaload, 1) := by decide +kernel
theorem dL_law_436 : decode cL_law 436 = .ok (.invokevirtual 80, 3) := by decide +kernel
theorem dL_law_439 : decode cL_law 439 = .ok (.if_icmp .eq 31, 3) := by decide +kernel
theorem dL_law_442 : decode cL_law 442 = .ok (.iconst 0, 1) := by decide +kernel
theorem dL_law_443 : decode cL_law 443 = .ok (.ireturn, 1) := by decide +kernel
theorem dL_law_444 : decode cL_law 444 = .ok (.aload_n 1, 1) := by decide +kernel
theorem dL_law_445 : decode cL_law 445 = .ok (.invokevirtual 81, 3) := by decide +kernel
theorem dL_law_448 : decode cL_law 448 = .ok (.aload_n 2, 1) := by decide +kernel
theorem dL_law_449 : decode cL_law 449 = .ok (.invokevirtual 84, 3) := by decide +kernel
theorem dL_law_452 : decode cL_law 452 = .ok (.if_icmp .eq 18, 3) := by decide +kernel
theorem dL_law_455 : decode cL_law 455 = .ok (.iconst 0, 1) := by decide +kernel
theorem dL_law_456 : decode cL_law 456 = .ok (.ireturn, 1) := by decide +kernel
theorem dL_law_457 : decode cL_law 457 = .ok (.aload_n 1, 1) := by decide +kernel
theorem dL_law_458 : decode cL_law 458 = .ok (.invokevirtual 85, 3) := by decide +kernel
theorem dL_law_461 : decode cL_law 461 = .ok (.aload_n 2, 1) := by decide +kernel
theorem dL_law_462 : decode cL_law 462 = .ok (.invokevirtual 88, 3) := by decide +kernel
theorem dL_law_465 : decode cL_law 465 = .ok (.if_icmp .eq 5, 3) := by decide +kernel
theorem dL_law_468 : decode cL_law 468 = .ok (.iconst 0, 1) := by decide +kernel
theorem dL_law_469 : decode cL_law 469 = .ok (.ireturn, 1) := by decide +kernel
theorem dL_law_470 : decode cL_law 470 = .ok (.iinc 4 4, 3) := by decide +kernel
theorem dL_law_473 : decode cL_law 473 = .ok (.goto (-450), 3) := by decide +kernel
theorem dL_law_476 : decode cL_law 476 = .ok (.iconst 1, 1) := by decide +kernel
theorem dL_law_477 : decode cL_law 477 = .ok (.ireturn, 1) := by decide +kernel
