/-! decode rows -/
theorem dX0_init_0 : decode cX0_init 0 = .ok (.aload_n 0, 1) := by decide +kernel
theorem dX0_init_1 : decode cX0_init 1 = .ok (.invokespecial 3, 3) := by decide +kernel
theorem dX0_init_4 : decode cX0_init 4 = .ok (.aload_n 0, 1) := by decide +kernel
theorem dX0_init_5 : decode cX0_init 5 = .ok (.new 9, 3) := by decide +kernel
theorem dX0_init_8 : decode cX0_init 8 = .ok (.dup, 1) := by decide +kernel
theorem dX0_init_9 : decode cX0_init 9 = .ok (.invokespecial 11, 3) := by decide +kernel
theorem dX0_init_12 : decode cX0_init 12 = .ok (.putfield 12, 3) := by decide +kernel
theorem dX0_init_15 : decode cX0_init 15 = .ok (.aload_n 0, 1) := by decide +kernel
theorem dX0_init_16 : decode cX0_init 16 = .ok (.new 9, 3) := by decide +kernel
theorem dX0_init_19 : decode cX0_init 19 = .ok (.dup, 1) := by decide +kernel
theorem dX0_init_20 : decode cX0_init 20 = .ok (.invokespecial 11, 3) := by decide +kernel
theorem dX0_init_23 : decode cX0_init 23 = .ok (.putfield 18, 3) := by decide +kernel
theorem dX0_init_26 : decode cX0_init 26 = .ok (.aload_n 0, 1) := by decide +kernel
theorem dX0_init_27 : decode cX0_init 27 = .ok (.iconst 0, 1) := by decide +kernel
theorem dX0_init_28 : decode cX0_init 28 = .ok (.putfield 21, 3) := by decide +kernel
theorem dX0_init_31 : decode cX0_init 31 = .ok (.aload_n 0, 1) := by decide +kernel
theorem dX0_init_32 : decode cX0_init 32 = .ok (.iconst 0, 1) := by decide +kernel
theorem dX0_init_33 : decode cX0_init 33 = .ok (.putfield 25, 3) := by decide +kernel
theorem dX0_init_36 : decode cX0_init 36 = .ok (.aload_n 0, 1) := by decide +kernel
theorem dX0_init_37 : decode cX0_init 37 = .ok (.iconst 0, 1) := by decide +kernel
theorem dX0_init_38 : decode cX0_init 38 = .ok (.putfield 28, 3) := by decide +kernel
theorem dX0_init_41 : decode cX0_init 41 = .ok (.return_, 1) := by decide +kernel
theorem dX0_dealOut_0 : decode cX0_dealOut 0 = .ok (.aload_n 0, 1) := by decide +kernel
theorem dX0_dealOut_1 : decode cX0_dealOut 1 = .ok (.aload_n 1, 1) := by decide +kernel
theorem dX0_dealOut_2 : decode cX0_dealOut 2 = .ok (.aload_n 2, 1) := by decide +kernel
theorem dX0_dealOut_3 : decode cX0_dealOut 3 = .ok (.invokevirtual 31, 3) := by decide +kernel
theorem dX0_dealOut_6 : decode cX0_dealOut 6 = .ok (.aload_n 0, 1) := by decide +kernel
theorem dX0_dealOut_7 : decode cX0_dealOut 7 = .ok (.aload_n 0, 1) := by decide +kernel
theorem dX0_dealOut_8 : decode cX0_dealOut 8 = .ok (.getfield 12, 3) := by decide +kernel
theorem dX0_dealOut_11 : decode cX0_dealOut 11 = .ok (.aload_n 1, 1) := by decide +kernel
theorem dX0_dealOut_12 : decode cX0_dealOut 12 = .ok (.invokevirtual 35, 3) := by decide +kernel
theorem dX0_dealOut_15 : decode cX0_dealOut 15 = .ok (.istore_n 3, 1) := by decide +kernel
theorem dX0_dealOut_16 : decode cX0_dealOut 16 = .ok (.aload_n 0, 1) := by decide +kernel
theorem dX0_dealOut_17 : decode cX0_dealOut 17 = .ok (.aload_n 0, 1) := by decide +kernel
theorem dX0_dealOut_18 : decode cX0_dealOut 18 = .ok (.aload_n 0, 1) := by decide +kernel
theorem dX0_dealOut_19 : decode cX0_dealOut 19 = .ok (.getfield 18, 3) := by decide +kernel
theorem dX0_dealOut_22 : decode cX0_dealOut 22 = .ok (.aload_n 1, 1) := by decide +kernel
theorem dX0_dealOut_23 : decode cX0_dealOut 23 = .ok (.invokevirtual 35, 3) := by decide +kernel
theorem dX0_dealOut_26 : decode cX0_dealOut 26 = .ok (.putfield 28, 3) := by decide +kernel
theorem dX0_dealOut_29 : decode cX0_dealOut 29 = .ok (.aload_n 0, 1) := by decide +kernel
theorem dX0_dealOut_30 : decode cX0_dealOut 30 = .ok (.aload_n 0, 1) := by decide +kernel
theorem dX0_dealOut_31 : decode cX0_dealOut 31 = .ok (.getfield 21, 3) := by decide +kernel
theorem dX0_dealOut_34 : decode cX0_dealOut 34 = .ok (.aload_n 0, 1) := by decide +kernel
theorem dX0_dealOut_35 : decode cX0_dealOut 35 = .ok (.getfield 12, 3) := by decide +kernel
theorem dX0_dealOut_38 : decode cX0_dealOut 38 = .ok (.getfield 39, 3) := by decide +kernel
theorem dX0_dealOut_41 : decode cX0_dealOut 41 = .ok (.iload_n 3, 1) := by decide +kernel
theorem dX0_dealOut_42 : decode cX0_dealOut 42 = .ok (.isub, 1) := by decide +kernel
theorem dX0_dealOut_43 : decode cX0_dealOut 43 = .ok (.isub, 1) := by decide +kernel
theorem dX0_dealOut_44 : decode cX0_dealOut 44 = .ok (.aload_n 0, 1) := by decide +kernel
theorem dX0_dealOut_45 : decode cX0_dealOut 45 = .ok (.getfield 18, 3) := by decide +kernel
theorem dX0_dealOut_48 : decode cX0_dealOut 48 = .ok (.getfield 39, 3) := by decide +kernel
theorem dX0_dealOut_51 : decode cX0_dealOut 51 = .ok (.aload_n 0, 1) := by decide +kernel
theorem dX0_dealOut_52 : decode cX0_dealOut 52 = .ok (.getfield 28, 3) := by decide +kernel
theorem dX0_dealOut_55 : decode cX0_dealOut 55 = .ok (.isub, 1) := by decide +kernel
theorem dX0_dealOut_56 : decode cX0_dealOut 56 = .ok (.isub, 1) := by decide +kernel
theorem dX0_dealOut_57 : decode cX0_dealOut 57 = .ok (.putfield 25, 3) := by decide +kernel
theorem dX0_dealOut_60 : decode cX0_dealOut 60 = .ok (.return_, 1) := by decide +kernel
theorem dX0_lineUp_0 : decode cX0_lineUp 0 = .ok (.aload_n 0, 1) := by decide +kernel
theorem dX0_lineUp_1 : decode cX0_lineUp 1 = .ok (.getfield 12, 3) := by decide +kernel
theorem dX0_lineUp_4 : decode cX0_lineUp 4 = .ok (.invokevirtual 42, 3) := by decide +kernel
theorem dX0_lineUp_7 : decode cX0_lineUp 7 = .ok (.aload_n 0, 1) := by decide +kernel
theorem dX0_lineUp_8 : decode cX0_lineUp 8 = .ok (.getfield 18, 3) := by decide +kernel
theorem dX0_lineUp_11 : decode cX0_lineUp 11 = .ok (.invokevirtual 42, 3) := by decide +kernel
theorem dX0_lineUp_14 : decode cX0_lineUp 14 = .ok (.aload_n 0, 1) := by decide +kernel
theorem dX0_lineUp_15 : decode cX0_lineUp 15 = .ok (.aload_n 1, 1) := by decide +kernel
theorem dX0_lineUp_16 : decode cX0_lineUp 16 = .ok (.invokevirtual 45, 3) := by decide +kernel
theorem dX0_lineUp_19 : decode cX0_lineUp 19 = .ok (.putfield 21, 3) := by decide +kernel
theorem dX0_lineUp_22 : decode cX0_lineUp 22 = .ok (.aload_n 1, 1) := by decide +kernel
theorem dX0_lineUp_23 : decode cX0_lineUp 23 = .ok (.getfield 50, 3) := by decide +kernel
theorem dX0_lineUp_26 : decode cX0_lineUp 26 = .ok (.ifCond .eq 4, 3) := by decide +kernel
theorem dX0_lineUp_29 : decode cX0_lineUp 29 = .ok (.return_, 1) := by decide +kernel
theorem dX0_lineUp_30 : decode cX0_lineUp 30 = .ok (.iconst 0, 1) := by decide +kernel
theorem dX0_lineUp_31 : decode cX0_lineUp 31 = .ok (.istore_n 3, 1) := by decide +kernel
theorem dX0_lineUp_32 : decode cX0_lineUp 32 = .ok (.iload_n 3, 1) := by decide +kernel
theorem dX0_lineUp_33 : decode cX0_lineUp 33 = .ok (.aload_n 2, 1) := by decide +kernel
theorem dX0_lineUp_34 : decode cX0_lineUp 34 = .ok (.invokevirtual 54, 3) := by decide +kernel
theorem dX0_lineUp_37 : decode cX0_lineUp 37 = .ok (.if_icmp .ge 87, 3) := by decide +kernel
theorem dX0_lineUp_40 : decode cX0_lineUp 40 = .ok (.aload_n 2, 1) := by decide +kernel
theorem dX0_lineUp_41 : decode cX0_lineUp 41 = .ok (.iload_n 3, 1) := by decide +kernel
theorem dX0_lineUp_42 : decode cX0_lineUp 42 = .ok (.invokevirtual 59, 3) := by decide +kernel
theorem dX0_lineUp_45 : decode cX0_lineUp 45 = .ok (.checkcast 63, 3) := by decide +kernel
theorem dX0_lineUp_48 : decode cX0_lineUp 48 = .ok (.astore 4, 2) := by decide +kernel
theorem dX0_lineUp_50 : decode cX0_lineUp 50 = .ok (.aload 4, 2) := by decide +kernel
theorem dX0_lineUp_52 : decode cX0_lineUp 52 = .ok (.aload_n 1, 1) := by decide +kernel
theorem dX0_lineUp_53 : decode cX0_lineUp 53 = .ok (.getfield 65, 3) := by decide +kernel
theorem dX0_lineUp_56 : decode cX0_lineUp 56 = .ok (.invokevirtual 68, 3) := by decide +kernel
theorem dX0_lineUp_59 : decode cX0_lineUp 59 = .ok (.istore 5, 2) := by decide +kernel
theorem dX0_lineUp_61 : decode cX0_lineUp 61 = .ok (.aload_n 1, 1) := by decide +kernel
theorem dX0_lineUp_62 : decode cX0_lineUp 62 = .ok (.iload 5, 2) := by decide +kernel
theorem dX0_lineUp_64 : decode cX0_lineUp 64 = .ok (.invokevirtual 72, 3) := by decide +kernel
theorem dX0_lineUp_67 : decode cX0_lineUp 67 = .ok (.ifCond .eq 24, 3) := by decide +kernel
theorem dX0_lineUp_70 : decode cX0_lineUp 70 = .ok (.aload 4, 2) := by decide +kernel
theorem dX0_lineUp_72 : decode cX0_lineUp 72 = .ok (.invokevirtual 76, 3) := by decide +kernel
theorem dX0_lineUp_75 : decode cX0_lineUp 75 = .ok (.ifCond .eq 16, 3) := by decide +kernel
theorem dX0_lineUp_78 : decode cX0_lineUp 78 = .ok (.aload_n 0, 1) := by decide +kernel
theorem dX0_lineUp_79 : decode cX0_lineUp 79 = .ok (.getfield 12, 3) := by decide +kernel
theorem dX0_lineUp_82 : decode cX0_lineUp 82 = .ok (.iload_n 3, 1) := by decide +kernel
theorem dX0_lineUp_83 : decode cX0_lineUp 83 = .ok (.iload 5, 2) := by decide +kernel
theorem dX0_lineUp_85 : decode cX0_lineUp 85 = .ok (.invokevirtual 80, 3) := by decide +kernel
theorem dX0_lineUp_88 : decode cX0_lineUp 88 = .ok (.goto 30, 3) := by decide +kernel
theorem dX0_lineUp_91 : decode cX0_lineUp 91 = .ok (.aload_n 1, 1) := by decide +kernel
theorem dX0_lineUp_92 : decode cX0_lineUp 92 = .ok (.iload 5, 2) := by decide +kernel
theorem dX0_lineUp_94 : decode cX0_lineUp 94 = .ok (.invokevirtual 72, 3) := by decide +kernel
theorem dX0_lineUp_97 : decode cX0_lineUp 97 = .ok (.ifCond .eq 21, 3) := by decide +kernel
theorem dX0_lineUp_100 : decode cX0_lineUp 100 = .ok (.aload 4, 2) := by decide +kernel
theorem dX0_lineUp_102 : decode cX0_lineUp 102 = .ok (.invokevirtual 84, 3) := by decide +kernel
theorem dX0_lineUp_105 : decode cX0_lineUp 105 = .ok (.ifCond .eq 13, 3) := by decide +kernel
theorem dX0_lineUp_108 : decode cX0_lineUp 108 = .ok (.aload_n 0, 1) := by decide +kernel
theorem dX0_lineUp_109 : decode cX0_lineUp 109 = .ok (.getfield 18, 3) := by decide +kernel
theorem dX0_lineUp_112 : decode cX0_lineUp 112 = .ok (.iload_n 3, 1) := by decide +kernel
theorem dX0_lineUp_113 : decode cX0_lineUp 113 = .ok (.iload 5, 2) := by decide +kernel
theorem dX0_lineUp_115 : decode cX0_lineUp 115 = .ok (.invokevirtual 80, 3) := by decide +kernel
theorem dX0_lineUp_118 : decode cX0_lineUp 118 = .ok (.iinc 3 1, 3) := by decide +kernel
theorem dX0_lineUp_121 : decode cX0_lineUp 121 = .ok (.goto (-89), 3) := by decide +kernel
theorem dX0_lineUp_124 : decode cX0_lineUp 124 = .ok (.return_, 1) := by decide +kernel
theorem dX0_serve_0 : decode cX0_serve 0 = .ok (.iconst 0, 1) := by decide +kernel
theorem dX0_serve_1 : decode cX0_serve 1 = .ok (.istore_n 3, 1) := by decide +kernel
theorem dX0_serve_2 : decode cX0_serve 2 = .ok (.iconst 0, 1) := by decide +kernel
theorem dX0_serve_3 : decode cX0_serve 3 = .ok (.istore 4, 2) := by decide +kernel
theorem dX0_serve_5 : decode cX0_serve 5 = .ok (.iconst 0, 1) := by decide +kernel
theorem dX0_serve_6 : decode cX0_serve 6 = .ok (.istore 5, 2) := by decide +kernel
theorem dX0_serve_8 : decode cX0_serve 8 = .ok (.iload 5, 2) := by decide +kernel
theorem dX0_serve_10 : decode cX0_serve 10 = .ok (.aload_n 1, 1) := by decide +kernel
theorem dX0_serve_11 : decode cX0_serve 11 = .ok (.getfield 39, 3) := by decide +kernel
theorem dX0_serve_14 : decode cX0_serve 14 = .ok (.if_icmp .ge 103, 3) := by decide +kernel
theorem dX0_serve_17 : decode cX0_serve 17 = .ok (.aload_n 1, 1) := by decide +kernel
theorem dX0_serve_18 : decode cX0_serve 18 = .ok (.iload 5, 2) := by decide +kernel
theorem dX0_serve_20 : decode cX0_serve 20 = .ok (.invokevirtual 87, 3) := by decide +kernel
theorem dX0_serve_23 : decode cX0_serve 23 = .ok (.istore 6, 2) := by decide +kernel
theorem dX0_serve_25 : decode cX0_serve 25 = .ok (.iload 4, 2) := by decide +kernel
theorem dX0_serve_27 : decode cX0_serve 27 = .ok (.aload_n 0, 1) := by decide +kernel
theorem dX0_serve_28 : decode cX0_serve 28 = .ok (.getfield 21, 3) := by decide +kernel
theorem dX0_serve_31 : decode cX0_serve 31 = .ok (.if_icmp .ge 32, 3) := by decide +kernel
theorem dX0_serve_34 : decode cX0_serve 34 = .ok (.aload_n 2, 1) := by decide +kernel
theorem dX0_serve_35 : decode cX0_serve 35 = .ok (.iload 4, 2) := by decide +kernel
theorem dX0_serve_37 : decode cX0_serve 37 = .ok (.invokevirtual 90, 3) := by decide +kernel
theorem dX0_serve_40 : decode cX0_serve 40 = .ok (.iload 6, 2) := by decide +kernel
theorem dX0_serve_42 : decode cX0_serve 42 = .ok (.if_icmp .le 15, 3) := by decide +kernel
theorem dX0_serve_45 : decode cX0_serve 45 = .ok (.aload_n 0, 1) := by decide +kernel
theorem dX0_serve_46 : decode cX0_serve 46 = .ok (.getfield 12, 3) := by decide +kernel
theorem dX0_serve_49 : decode cX0_serve 49 = .ok (.iload 4, 2) := by decide +kernel
theorem dX0_serve_51 : decode cX0_serve 51 = .ok (.invokevirtual 93, 3) := by decide +kernel
theorem dX0_serve_54 : decode cX0_serve 54 = .ok (.ifCond .eq 9, 3) := by decide +kernel
theorem dX0_serve_57 : decode cX0_serve 57 = .ok (.iinc 4 1, 3) := by decide +kernel
theorem dX0_serve_60 : decode cX0_serve 60 = .ok (.goto (-35), 3) := by decide +kernel
theorem dX0_serve_63 : decode cX0_serve 63 = .ok (.iload 4, 2) := by decide +kernel
theorem dX0_serve_65 : decode cX0_serve 65 = .ok (.aload_n 0, 1) := by decide +kernel
theorem dX0_serve_66 : decode cX0_serve 66 = .ok (.getfield 21, 3) := by decide +kernel
theorem dX0_serve_69 : decode cX0_serve 69 = .ok (.if_icmp .ge 28, 3) := by decide +kernel
theorem dX0_serve_72 : decode cX0_serve 72 = .ok (.aload_n 1, 1) := by decide +kernel
theorem dX0_serve_73 : decode cX0_serve 73 = .ok (.iload 5, 2) := by decide +kernel
theorem dX0_serve_75 : decode cX0_serve 75 = .ok (.iload 4, 2) := by decide +kernel
theorem dX0_serve_77 : decode cX0_serve 77 = .ok (.iload 6, 2) := by decide +kernel
theorem dX0_serve_79 : decode cX0_serve 79 = .ok (.aload_n 2, 1) := by decide +kernel
theorem dX0_serve_80 : decode cX0_serve 80 = .ok (.iload 4, 2) := by decide +kernel
theorem dX0_serve_82 : decode cX0_serve 82 = .ok (.invokevirtual 96, 3) := by decide +kernel
theorem dX0_serve_85 : decode cX0_serve 85 = .ok (.invokestatic 99, 3) := by decide +kernel
theorem dX0_serve_88 : decode cX0_serve 88 = .ok (.invokevirtual 105, 3) := by decide +kernel
theorem dX0_serve_91 : decode cX0_serve 91 = .ok (.iinc 4 1, 3) := by decide +kernel
theorem dX0_serve_94 : decode cX0_serve 94 = .ok (.goto 17, 3) := by decide +kernel
theorem dX0_serve_97 : decode cX0_serve 97 = .ok (.aload_n 1, 1) := by decide +kernel
theorem dX0_serve_98 : decode cX0_serve 98 = .ok (.iload 5, 2) := by decide +kernel
theorem dX0_serve_100 : decode cX0_serve 100 = .ok (.iconst (-1), 1) := by decide +kernel
theorem dX0_serve_101 : decode cX0_serve 101 = .ok (.aload_n 2, 1) := by decide +kernel
theorem dX0_serve_102 : decode cX0_serve 102 = .ok (.getfield 109, 3) := by decide +kernel
theorem dX0_serve_105 : decode cX0_serve 105 = .ok (.invokevirtual 105, 3) := by decide +kernel
theorem dX0_serve_108 : decode cX0_serve 108 = .ok (.iinc 3 1, 3) := by decide +kernel
theorem dX0_serve_111 : decode cX0_serve 111 = .ok (.iinc 5 1, 3) := by decide +kernel
theorem dX0_serve_114 : decode cX0_serve 114 = .ok (.goto (-106), 3) := by decide +kernel
theorem dX0_serve_117 : decode cX0_serve 117 = .ok (.iload_n 3, 1) := by decide +kernel
theorem dX0_serve_118 : decode cX0_serve 118 = .ok (.ireturn, 1) := by decide +kernel
theorem dX0_penaltyBySlots_0 : decode cX0_penaltyBySlots 0 = .ok (.aload_n 0, 1) := by decide +kernel
theorem dX0_penaltyBySlots_1 : decode cX0_penaltyBySlots 1 = .ok (.aload_n 1, 1) := by decide +kernel
theorem dX0_penaltyBySlots_2 : decode cX0_penaltyBySlots 2 = .ok (.aload_n 2, 1) := by decide +kernel
theorem dX0_penaltyBySlots_3 : decode cX0_penaltyBySlots 3 = .ok (.invokevirtual 31, 3) := by decide +kernel
theorem dX0_penaltyBySlots_6 : decode cX0_penaltyBySlots 6 = .ok (.aload_n 0, 1) := by decide +kernel
theorem dX0_penaltyBySlots_7 : decode cX0_penaltyBySlots 7 = .ok (.getfield 18, 3) := by decide +kernel
theorem dX0_penaltyBySlots_10 : decode cX0_penaltyBySlots 10 = .ok (.iload_n 3, 1) := by decide +kernel
theorem dX0_penaltyBySlots_11 : decode cX0_penaltyBySlots 11 = .ok (.invokevirtual 112, 3) := by decide +kernel
theorem dX0_penaltyBySlots_14 : decode cX0_penaltyBySlots 14 = .ok (.istore 4, 2) := by decide +kernel
theorem dX0_penaltyBySlots_16 : decode cX0_penaltyBySlots 16 = .ok (.iload 4, 2) := by decide +kernel
theorem dX0_penaltyBySlots_18 : decode cX0_penaltyBySlots 18 = .ok (.iconst (-1), 1) := by decide +kernel
theorem dX0_penaltyBySlots_19 : decode cX0_penaltyBySlots 19 = .ok (.if_icmp .ne 5, 3) := by decide +kernel
theorem dX0_penaltyBySlots_22 : decode cX0_penaltyBySlots 22 = .ok (.iconst (-1), 1) := by decide +kernel
theorem dX0_penaltyBySlots_23 : decode cX0_penaltyBySlots 23 = .ok (.ireturn, 1) := by decide +kernel
theorem dX0_penaltyBySlots_24 : decode cX0_penaltyBySlots 24 = .ok (.aload_n 0, 1) := by decide +kernel
theorem dX0_penaltyBySlots_25 : decode cX0_penaltyBySlots 25 = .ok (.getfield 18, 3) := by decide +kernel
theorem dX0_penaltyBySlots_28 : decode cX0_penaltyBySlots 28 = .ok (.iload 4, 2) := by decide +kernel
theorem dX0_penaltyBySlots_30 : decode cX0_penaltyBySlots 30 = .ok (.invokevirtual 87, 3) := by decide +kernel
theorem dX0_penaltyBySlots_33 : decode cX0_penaltyBySlots 33 = .ok (.istore 5, 2) := by decide +kernel
theorem dX0_penaltyBySlots_35 : decode cX0_penaltyBySlots 35 = .ok (.iconst 0, 1) := by decide +kernel
theorem dX0_penaltyBySlots_36 : decode cX0_penaltyBySlots 36 = .ok (.istore 6, 2) := by decide +kernel
theorem dX0_penaltyBySlots_38 : decode cX0_penaltyBySlots 38 = .ok (.iconst 0, 1) := by decide +kernel
theorem dX0_penaltyBySlots_39 : decode cX0_penaltyBySlots 39 = .ok (.istore 7, 2) := by decide +kernel
theorem dX0_penaltyBySlots_41 : decode cX0_penaltyBySlots 41 = .ok (.iconst 0, 1) := by decide +kernel
theorem dX0_penaltyBySlots_42 : decode cX0_penaltyBySlots 42 = .ok (.istore 8, 2) := by decide +kernel
theorem dX0_penaltyBySlots_44 : decode cX0_penaltyBySlots 44 = .ok (.iload 8, 2) := by decide +kernel
theorem dX0_penaltyBySlots_46 : decode cX0_penaltyBySlots 46 = .ok (.aload_n 0, 1) := by decide +kernel
theorem dX0_penaltyBySlots_47 : decode cX0_penaltyBySlots 47 = .ok (.getfield 21, 3) := by decide +kernel
theorem dX0_penaltyBySlots_50 : decode cX0_penaltyBySlots 50 = .ok (.if_icmp .ge 75, 3) := by decide +kernel
theorem dX0_penaltyBySlots_53 : decode cX0_penaltyBySlots 53 = .ok (.aload_n 1, 1) := by decide +kernel
theorem dX0_penaltyBySlots_54 : decode cX0_penaltyBySlots 54 = .ok (.iload 8, 2) := by decide +kernel
theorem dX0_penaltyBySlots_56 : decode cX0_penaltyBySlots 56 = .ok (.invokevirtual 90, 3) := by decide +kernel
theorem dX0_penaltyBySlots_59 : decode cX0_penaltyBySlots 59 = .ok (.istore 9, 2) := by decide +kernel
theorem dX0_penaltyBySlots_61 : decode cX0_penaltyBySlots 61 = .ok (.aload_n 0, 1) := by decide +kernel
theorem dX0_penaltyBySlots_62 : decode cX0_penaltyBySlots 62 = .ok (.getfield 12, 3) := by decide +kernel
theorem dX0_penaltyBySlots_65 : decode cX0_penaltyBySlots 65 = .ok (.iload 6, 2) := by decide +kernel
theorem dX0_penaltyBySlots_67 : decode cX0_penaltyBySlots 67 = .ok (.iload 9, 2) := by decide +kernel
theorem dX0_penaltyBySlots_69 : decode cX0_penaltyBySlots 69 = .ok (.invokevirtual 115, 3) := by decide +kernel
theorem dX0_penaltyBySlots_72 : decode cX0_penaltyBySlots 72 = .ok (.ifCond .eq 9, 3) := by decide +kernel
theorem dX0_penaltyBySlots_75 : decode cX0_penaltyBySlots 75 = .ok (.iinc 6 1, 3) := by decide +kernel
theorem dX0_penaltyBySlots_78 : decode cX0_penaltyBySlots 78 = .ok (.goto 41, 3) := by decide +kernel
theorem dX0_penaltyBySlots_81 : decode cX0_penaltyBySlots 81 = .ok (.aload_n 0, 1) := by decide +kernel
theorem dX0_penaltyBySlots_82 : decode cX0_penaltyBySlots 82 = .ok (.getfield 18, 3) := by decide +kernel
theorem dX0_penaltyBySlots_85 : decode cX0_penaltyBySlots 85 = .ok (.iload 7, 2) := by decide +kernel
theorem dX0_penaltyBySlots_87 : decode cX0_penaltyBySlots 87 = .ok (.iload 9, 2) := by decide +kernel
theorem dX0_penaltyBySlots_89 : decode cX0_penaltyBySlots 89 = .ok (.invokevirtual 115, 3) := by decide +kernel
theorem dX0_penaltyBySlots_92 : decode cX0_penaltyBySlots 92 = .ok (.ifCond .eq 27, 3) := by decide +kernel
theorem dX0_penaltyBySlots_95 : decode cX0_penaltyBySlots 95 = .ok (.iload 7, 2) := by decide +kernel
theorem dX0_penaltyBySlots_97 : decode cX0_penaltyBySlots 97 = .ok (.iload 4, 2) := by decide +kernel
theorem dX0_penaltyBySlots_99 : decode cX0_penaltyBySlots 99 = .ok (.if_icmp .ne 17, 3) := by decide +kernel
theorem dX0_penaltyBySlots_102 : decode cX0_penaltyBySlots 102 = .ok (.iconst 0, 1) := by decide +kernel
theorem dX0_penaltyBySlots_103 : decode cX0_penaltyBySlots 103 = .ok (.aload_n 1, 1) := by decide +kernel
theorem dX0_penaltyBySlots_104 : decode cX0_penaltyBySlots 104 = .ok (.iload 8, 2) := by decide +kernel
theorem dX0_penaltyBySlots_106 : decode cX0_penaltyBySlots 106 = .ok (.invokevirtual 96, 3) := by decide +kernel
theorem dX0_penaltyBySlots_109 : decode cX0_penaltyBySlots 109 = .ok (.iload 5, 2) := by decide +kernel
theorem dX0_penaltyBySlots_111 : decode cX0_penaltyBySlots 111 = .ok (.isub, 1) := by decide +kernel
theorem dX0_penaltyBySlots_112 : decode cX0_penaltyBySlots 112 = .ok (.invokestatic 99, 3) := by decide +kernel
theorem dX0_penaltyBySlots_115 : decode cX0_penaltyBySlots 115 = .ok (.ireturn, 1) := by decide +kernel
theorem dX0_penaltyBySlots_116 : decode cX0_penaltyBySlots 116 = .ok (.iinc 7 1, 3) := by decide +kernel
theorem dX0_penaltyBySlots_119 : decode cX0_penaltyBySlots 119 = .ok (.iinc 8 1, 3) := by decide +kernel
theorem dX0_penaltyBySlots_122 : decode cX0_penaltyBySlots 122 = .ok (.goto (-78), 3) := by decide +kernel
theorem dX0_penaltyBySlots_125 : decode cX0_penaltyBySlots 125 = .ok (.aload_n 1, 1) := by decide +kernel
theorem dX0_penaltyBySlots_126 : decode cX0_penaltyBySlots 126 = .ok (.getfield 109, 3) := by decide +kernel
theorem dX0_penaltyBySlots_129 : decode cX0_penaltyBySlots 129 = .ok (.iload 5, 2) := by decide +kernel
theorem dX0_penaltyBySlots_131 : decode cX0_penaltyBySlots 131 = .ok (.isub, 1) := by decide +kernel
theorem dX0_penaltyBySlots_132 : decode cX0_penaltyBySlots 132 = .ok (.ireturn, 1) := by decide +kernel
theorem dX1_init_0 : decode cX1_init 0 = .ok (.aload_n 0, 1) := by decide +kernel
theorem dX1_init_1 : decode cX1_init 1 = .ok (.invokespecial 3, 3) := by decide +kernel
theorem dX1_init_4 : decode cX1_init 4 = .ok (.aload_n 0, 1) := by decide +kernel
theorem dX1_init_5 : decode cX1_init 5 = .ok (.iconst 0, 1) := by decide +kernel
theorem dX1_init_6 : decode cX1_init 6 = .ok (.putfield 9, 3) := by decide +kernel
theorem dX1_init_9 : decode cX1_init 9 = .ok (.aload_n 0, 1) := by decide +kernel
theorem dX1_init_10 : decode cX1_init 10 = .ok (.iconst 0, 1) := by decide +kernel
theorem dX1_init_11 : decode cX1_init 11 = .ok (.putfield 15, 3) := by decide +kernel
theorem dX1_init_14 : decode cX1_init 14 = .ok (.aload_n 0, 1) := by decide +kernel
theorem dX1_init_15 : decode cX1_init 15 = .ok (.iconst (-1), 1) := by decide +kernel
theorem dX1_init_16 : decode cX1_init 16 = .ok (.putfield 19, 3) := by decide +kernel
theorem dX1_init_19 : decode cX1_init 19 = .ok (.aload_n 0, 1) := by decide +kernel
theorem dX1_init_20 : decode cX1_init 20 = .ok (.iconst (-1), 1) := by decide +kernel
theorem dX1_init_21 : decode cX1_init 21 = .ok (.putfield 22, 3) := by decide +kernel
theorem dX1_init_24 : decode cX1_init 24 = .ok (.aload_n 0, 1) := by decide +kernel
theorem dX1_init_25 : decode cX1_init 25 = .ok (.iconst (-1), 1) := by decide +kernel
theorem dX1_init_26 : decode cX1_init 26 = .ok (.putfield 25, 3) := by decide +kernel
theorem dX1_init_29 : decode cX1_init 29 = .ok (.aload_n 0, 1) := by decide +kernel
theorem dX1_init_30 : decode cX1_init 30 = .ok (.iconst 0, 1) := by decide +kernel
theorem dX1_init_31 : decode cX1_init 31 = .ok (.putfield 28, 3) := by decide +kernel
theorem dX1_init_34 : decode cX1_init 34 = .ok (.aload_n 0, 1) := by decide +kernel
theorem dX1_init_35 : decode cX1_init 35 = .ok (.iconst 0, 1) := by decide +kernel
theorem dX1_init_36 : decode cX1_init 36 = .ok (.putfield 31, 3) := by decide +kernel
theorem dX1_init_39 : decode cX1_init 39 = .ok (.aload_n 0, 1) := by decide +kernel
theorem dX1_init_40 : decode cX1_init 40 = .ok (.iconst (-1), 1) := by decide +kernel
theorem dX1_init_41 : decode cX1_init 41 = .ok (.putfield 34, 3) := by decide +kernel
theorem dX1_init_44 : decode cX1_init 44 = .ok (.aload_n 0, 1) := by decide +kernel
theorem dX1_init_45 : decode cX1_init 45 = .ok (.bipush 6, 2) := by decide +kernel
theorem dX1_init_47 : decode cX1_init 47 = .ok (.newarray .int, 2) := by decide +kernel
theorem dX1_init_49 : decode cX1_init 49 = .ok (.putfield 37, 3) := by decide +kernel
theorem dX1_init_52 : decode cX1_init 52 = .ok (.aload_n 0, 1) := by decide +kernel
theorem dX1_init_53 : decode cX1_init 53 = .ok (.bipush 6, 2) := by decide +kernel
theorem dX1_init_55 : decode cX1_init 55 = .ok (.newarray .int, 2) := by decide +kernel
theorem dX1_init_57 : decode cX1_init 57 = .ok (.putfield 41, 3) := by decide +kernel
theorem dX1_init_60 : decode cX1_init 60 = .ok (.aload_n 0, 1) := by decide +kernel
theorem dX1_init_61 : decode cX1_init 61 = .ok (.iconst 0, 1) := by decide +kernel
theorem dX1_init_62 : decode cX1_init 62 = .ok (.putfield 44, 3) := by decide +kernel
theorem dX1_init_65 : decode cX1_init 65 = .ok (.aload_n 0, 1) := by decide +kernel
theorem dX1_init_66 : decode cX1_init 66 = .ok (.iconst (-1), 1) := by decide +kernel
theorem dX1_init_67 : decode cX1_init 67 = .ok (.putfield 47, 3) := by decide +kernel
theorem dX1_init_70 : decode cX1_init 70 = .ok (.aload_n 0, 1) := by decide +kernel
theorem dX1_init_71 : decode cX1_init 71 = .ok (.iload_n 1, 1) := by decide +kernel
theorem dX1_init_72 : decode cX1_init 72 = .ok (.putfield 50, 3) := by decide +kernel
theorem dX1_init_75 : decode cX1_init 75 = .ok (.aload_n 0, 1) := by decide +kernel
theorem dX1_init_76 : decode cX1_init 76 = .ok (.iload_n 2, 1) := by decide +kernel
theorem dX1_init_77 : decode cX1_init 77 = .ok (.putfield 53, 3) := by decide +kernel
theorem dX1_init_80 : decode cX1_init 80 = .ok (.iconst 0, 1) := by decide +kernel
theorem dX1_init_81 : decode cX1_init 81 = .ok (.istore_n 3, 1) := by decide +kernel
theorem dX1_init_82 : decode cX1_init 82 = .ok (.iload_n 3, 1) := by decide +kernel
theorem dX1_init_83 : decode cX1_init 83 = .ok (.aload_n 0, 1) := by decide +kernel
theorem dX1_init_84 : decode cX1_init 84 = .ok (.getfield 37, 3) := by decide +kernel
theorem dX1_init_87 : decode cX1_init 87 = .ok (.arraylength, 1) := by decide +kernel
theorem dX1_init_88 : decode cX1_init 88 = .ok (.if_icmp .ge 16, 3) := by decide +kernel
theorem dX1_init_91 : decode cX1_init 91 = .ok (.aload_n 0, 1) := by decide +kernel
theorem dX1_init_92 : decode cX1_init 92 = .ok (.getfield 37, 3) := by decide +kernel
theorem dX1_init_95 : decode cX1_init 95 = .ok (.iload_n 3, 1) := by decide +kernel
theorem dX1_init_96 : decode cX1_init 96 = .ok (.iconst (-1), 1) := by decide +kernel
theorem dX1_init_97 : decode cX1_init 97 = .ok (.iastore, 1) := by decide +kernel
theorem dX1_init_98 : decode cX1_init 98 = .ok (.iinc 3 1, 3) := by decide +kernel
theorem dX1_init_101 : decode cX1_init 101 = .ok (.goto (-19), 3) := by decide +kernel
theorem dX1_init_104 : decode cX1_init 104 = .ok (.return_, 1) := by decide +kernel
theorem dX1_canEnterNext_0 : decode cX1_canEnterNext 0 = .ok (.aload_n 0, 1) := by decide +kernel
theorem dX1_canEnterNext_1 : decode cX1_canEnterNext 1 = .ok (.getfield 9, 3) := by decide +kernel
theorem dX1_canEnterNext_4 : decode cX1_canEnterNext 4 = .ok (.ifCond .ne 39, 3) := by decide +kernel
theorem dX1_canEnterNext_7 : decode cX1_canEnterNext 7 = .ok (.aload_n 0, 1) := by decide +kernel
theorem dX1_canEnterNext_8 : decode cX1_canEnterNext 8 = .ok (.getfield 19, 3) := by decide +kernel
theorem dX1_canEnterNext_11 : decode cX1_canEnterNext 11 = .ok (.iconst (-1), 1) := by decide +kernel
theorem dX1_canEnterNext_12 : decode cX1_canEnterNext 12 = .ok (.if_icmp .ne 31, 3) := by decide +kernel
theorem dX1_canEnterNext_15 : decode cX1_canEnterNext 15 = .ok (.aload_n 0, 1) := by decide +kernel
theorem dX1_canEnterNext_16 : decode cX1_canEnterNext 16 = .ok (.getfield 31, 3) := by decide +kernel
theorem dX1_canEnterNext_19 : decode cX1_canEnterNext 19 = .ok (.iconst 5, 1) := by decide +kernel
theorem dX1_canEnterNext_20 : decode cX1_canEnterNext 20 = .ok (.if_icmp .ge 23, 3) := by decide +kernel
theorem dX1_canEnterNext_23 : decode cX1_canEnterNext 23 = .ok (.aload_n 0, 1) := by decide +kernel
theorem dX1_canEnterNext_24 : decode cX1_canEnterNext 24 = .ok (.iload_n 1, 1) := by decide +kernel
theorem dX1_canEnterNext_25 : decode cX1_canEnterNext 25 = .ok (.invokevirtual 56, 3) := by decide +kernel
theorem dX1_canEnterNext_28 : decode cX1_canEnterNext 28 = .ok (.ifCond .ne 15, 3) := by decide +kernel
theorem dX1_canEnterNext_31 : decode cX1_canEnterNext 31 = .ok (.aload_n 0, 1) := by decide +kernel
theorem dX1_canEnterNext_32 : decode cX1_canEnterNext 32 = .ok (.getfield 34, 3) := by decide +kernel
theorem dX1_canEnterNext_35 : decode cX1_canEnterNext 35 = .ok (.iload_n 2, 1) := by decide +kernel
theorem dX1_canEnterNext_36 : decode cX1_canEnterNext 36 = .ok (.if_icmp .ge 7, 3) := by decide +kernel
theorem dX1_canEnterNext_39 : decode cX1_canEnterNext 39 = .ok (.iconst 1, 1) := by decide +kernel
theorem dX1_canEnterNext_40 : decode cX1_canEnterNext 40 = .ok (.goto 4, 3) := by decide +kernel
theorem dX1_canEnterNext_43 : decode cX1_canEnterNext 43 = .ok (.iconst 0, 1) := by decide +kernel
theorem dX1_canEnterNext_44 : decode cX1_canEnterNext 44 = .ok (.ireturn, 1) := by decide +kernel
theorem dX1_addEntry_0 : decode cX1_addEntry 0 = .ok (.iload_n 1, 1) := by decide +kernel
theorem dX1_addEntry_1 : decode cX1_addEntry 1 = .ok (.ifCond .lt 21, 3) := by decide +kernel
theorem dX1_addEntry_4 : decode cX1_addEntry 4 = .ok (.iload_n 1, 1) := by decide +kernel
theorem dX1_addEntry_5 : decode cX1_addEntry 5 = .ok (.aload_n 0, 1) := by decide +kernel
theorem dX1_addEntry_6 : decode cX1_addEntry 6 = .ok (.getfield 37, 3) := by decide +kernel
theorem dX1_addEntry_9 : decode cX1_addEntry 9 = .ok (.arraylength, 1) := by decide +kernel
theorem dX1_addEntry_10 : decode cX1_addEntry 10 = .ok (.if_icmp .ge 12, 3) := by decide +kernel
theorem dX1_addEntry_13 : decode cX1_addEntry 13 = .ok (.iload_n 1, 1) := by decide +kernel
theorem dX1_addEntry_14 : decode cX1_addEntry 14 = .ok (.aload_n 0, 1) := by decide +kernel
theorem dX1_addEntry_15 : decode cX1_addEntry 15 = .ok (.getfield 41, 3) := by decide +kernel
theorem dX1_addEntry_18 : decode cX1_addEntry 18 = .ok (.arraylength, 1) := by decide +kernel
theorem dX1_addEntry_19 : decode cX1_addEntry 19 = .ok (.if_icmp .lt 4, 3) := by decide +kernel
theorem dX1_addEntry_22 : decode cX1_addEntry 22 = .ok (.return_, 1) := by decide +kernel
theorem dX1_addEntry_23 : decode cX1_addEntry 23 = .ok (.aload_n 0, 1) := by decide +kernel
theorem dX1_addEntry_24 : decode cX1_addEntry 24 = .ok (.getfield 37, 3) := by decide +kernel
theorem dX1_addEntry_27 : decode cX1_addEntry 27 = .ok (.iload_n 1, 1) := by decide +kernel
theorem dX1_addEntry_28 : decode cX1_addEntry 28 = .ok (.iload_n 2, 1) := by decide +kernel
theorem dX1_addEntry_29 : decode cX1_addEntry 29 = .ok (.iastore, 1) := by decide +kernel
theorem dX1_addEntry_30 : decode cX1_addEntry 30 = .ok (.aload_n 0, 1) := by decide +kernel
theorem dX1_addEntry_31 : decode cX1_addEntry 31 = .ok (.getfield 41, 3) := by decide +kernel
theorem dX1_addEntry_34 : decode cX1_addEntry 34 = .ok (.iload_n 1, 1) := by decide +kernel
theorem dX1_addEntry_35 : decode cX1_addEntry 35 = .ok (.iload_n 3, 1) := by decide +kernel
theorem dX1_addEntry_36 : decode cX1_addEntry 36 = .ok (.iastore, 1) := by decide +kernel
theorem dX1_addEntry_37 : decode cX1_addEntry 37 = .ok (.aload_n 0, 1) := by decide +kernel
theorem dX1_addEntry_38 : decode cX1_addEntry 38 = .ok (.iload_n 2, 1) := by decide +kernel
theorem dX1_addEntry_39 : decode cX1_addEntry 39 = .ok (.putfield 34, 3) := by decide +kernel
theorem dX1_addEntry_42 : decode cX1_addEntry 42 = .ok (.aload_n 0, 1) := by decide +kernel
theorem dX1_addEntry_43 : decode cX1_addEntry 43 = .ok (.dup, 1) := by decide +kernel
theorem dX1_addEntry_44 : decode cX1_addEntry 44 = .ok (.getfield 31, 3) := by decide +kernel
theorem dX1_addEntry_47 : decode cX1_addEntry 47 = .ok (.iconst 1, 1) := by decide +kernel
theorem dX1_addEntry_48 : decode cX1_addEntry 48 = .ok (.iadd, 1) := by decide +kernel
theorem dX1_addEntry_49 : decode cX1_addEntry 49 = .ok (.putfield 31, 3) := by decide +kernel
theorem dX1_addEntry_52 : decode cX1_addEntry 52 = .ok (.return_, 1) := by decide +kernel
theorem dX1_behindAt_0 : decode cX1_behindAt 0 = .ok (.iload_n 1, 1) := by decide +kernel
theorem dX1_behindAt_1 : decode cX1_behindAt 1 = .ok (.ifCond .lt 21, 3) := by decide +kernel
theorem dX1_behindAt_4 : decode cX1_behindAt 4 = .ok (.iload_n 1, 1) := by decide +kernel
theorem dX1_behindAt_5 : decode cX1_behindAt 5 = .ok (.aload_n 0, 1) := by decide +kernel
theorem dX1_behindAt_6 : decode cX1_behindAt 6 = .ok (.getfield 37, 3) := by decide +kernel
theorem dX1_behindAt_9 : decode cX1_behindAt 9 = .ok (.arraylength, 1) := by decide +kernel
theorem dX1_behindAt_10 : decode cX1_behindAt 10 = .ok (.if_icmp .ge 12, 3) := by decide +kernel
theorem dX1_behindAt_13 : decode cX1_behindAt 13 = .ok (.aload_n 0, 1) := by decide +kernel
theorem dX1_behindAt_14 : decode cX1_behindAt 14 = .ok (.getfield 37, 3) := by decide +kernel
theorem dX1_behindAt_17 : decode cX1_behindAt 17 = .ok (.iload_n 1, 1) := by decide +kernel
theorem dX1_behindAt_18 : decode cX1_behindAt 18 = .ok (.iaload, 1) := by decide +kernel
theorem dX1_behindAt_19 : decode cX1_behindAt 19 = .ok (.goto 4, 3) := by decide +kernel
theorem dX1_behindAt_22 : decode cX1_behindAt 22 = .ok (.iconst (-1), 1) := by decide +kernel
theorem dX1_behindAt_23 : decode cX1_behindAt 23 = .ok (.ireturn, 1) := by decide +kernel
theorem dX1_stayAt_0 : decode cX1_stayAt 0 = .ok (.iload_n 1, 1) := by decide +kernel
theorem dX1_stayAt_1 : decode cX1_stayAt 1 = .ok (.ifCond .lt 21, 3) := by decide +kernel
theorem dX1_stayAt_4 : decode cX1_stayAt 4 = .ok (.iload_n 1, 1) := by decide +kernel
theorem dX1_stayAt_5 : decode cX1_stayAt 5 = .ok (.aload_n 0, 1) := by decide +kernel
theorem dX1_stayAt_6 : decode cX1_stayAt 6 = .ok (.getfield 41, 3) := by decide +kernel
theorem dX1_stayAt_9 : decode cX1_stayAt 9 = .ok (.arraylength, 1) := by decide +kernel
theorem dX1_stayAt_10 : decode cX1_stayAt 10 = .ok (.if_icmp .ge 12, 3) := by decide +kernel
theorem dX1_stayAt_13 : decode cX1_stayAt 13 = .ok (.aload_n 0, 1) := by decide +kernel
theorem dX1_stayAt_14 : decode cX1_stayAt 14 = .ok (.getfield 41, 3) := by decide +kernel
theorem dX1_stayAt_17 : decode cX1_stayAt 17 = .ok (.iload_n 1, 1) := by decide +kernel
theorem dX1_stayAt_18 : decode cX1_stayAt 18 = .ok (.iaload, 1) := by decide +kernel
theorem dX1_stayAt_19 : decode cX1_stayAt 19 = .ok (.goto 4, 3) := by decide +kernel
theorem dX1_stayAt_22 : decode cX1_stayAt 22 = .ok (.iconst 0, 1) := by decide +kernel
theorem dX1_stayAt_23 : decode cX1_stayAt 23 = .ok (.ireturn, 1) := by decide +kernel
theorem dX1_enters_0 : decode cX1_enters 0 = .ok (.aload_n 0, 1) := by decide +kernel
theorem dX1_enters_1 : decode cX1_enters 1 = .ok (.iload_n 1, 1) := by decide +kernel
theorem dX1_enters_2 : decode cX1_enters 2 = .ok (.invokevirtual 60, 3) := by decide +kernel
theorem dX1_enters_5 : decode cX1_enters 5 = .ok (.iconst (-1), 1) := by decide +kernel
theorem dX1_enters_6 : decode cX1_enters 6 = .ok (.if_icmp .eq 7, 3) := by decide +kernel
theorem dX1_enters_9 : decode cX1_enters 9 = .ok (.iconst 1, 1) := by decide +kernel
theorem dX1_enters_10 : decode cX1_enters 10 = .ok (.goto 4, 3) := by decide +kernel
theorem dX1_enters_13 : decode cX1_enters 13 = .ok (.iconst 0, 1) := by decide +kernel
theorem dX1_enters_14 : decode cX1_enters 14 = .ok (.ireturn, 1) := by decide +kernel
theorem dX1_departure_0 : decode cX1_departure 0 = .ok (.aload_n 0, 1) := by decide +kernel
theorem dX1_departure_1 : decode cX1_departure 1 = .ok (.getfield 9, 3) := by decide +kernel
theorem dX1_departure_4 : decode cX1_departure 4 = .ok (.iconst 1, 1) := by decide +kernel
theorem dX1_departure_5 : decode cX1_departure 5 = .ok (.if_icmp .ne 8, 3) := by decide +kernel
theorem dX1_departure_8 : decode cX1_departure 8 = .ok (.aload_n 0, 1) := by decide +kernel
theorem dX1_departure_9 : decode cX1_departure 9 = .ok (.getfield 25, 3) := by decide +kernel
theorem dX1_departure_12 : decode cX1_departure 12 = .ok (.ireturn, 1) := by decide +kernel
theorem dX1_departure_13 : decode cX1_departure 13 = .ok (.aload_n 0, 1) := by decide +kernel
theorem dX1_departure_14 : decode cX1_departure 14 = .ok (.getfield 19, 3) := by decide +kernel
theorem dX1_departure_17 : decode cX1_departure 17 = .ok (.iconst (-1), 1) := by decide +kernel
theorem dX1_departure_18 : decode cX1_departure 18 = .ok (.if_icmp .eq 10, 3) := by decide +kernel
theorem dX1_departure_21 : decode cX1_departure 21 = .ok (.aload_n 0, 1) := by decide +kernel
theorem dX1_departure_22 : decode cX1_departure 22 = .ok (.getfield 19, 3) := by decide +kernel
theorem dX1_departure_25 : decode cX1_departure 25 = .ok (.goto 7, 3) := by decide +kernel
theorem dX1_departure_28 : decode cX1_departure 28 = .ok (.aload_n 0, 1) := by decide +kernel
theorem dX1_departure_29 : decode cX1_departure 29 = .ok (.getfield 53, 3) := by decide +kernel
theorem dX1_departure_32 : decode cX1_departure 32 = .ok (.ireturn, 1) := by decide +kernel
theorem dX1_timeOver_0 : decode cX1_timeOver 0 = .ok (.aload_n 0, 1) := by decide +kernel
theorem dX1_timeOver_1 : decode cX1_timeOver 1 = .ok (.iload_n 1, 1) := by decide +kernel
theorem dX1_timeOver_2 : decode cX1_timeOver 2 = .ok (.invokevirtual 60, 3) := by decide +kernel
theorem dX1_timeOver_5 : decode cX1_timeOver 5 = .ok (.istore_n 2, 1) := by decide +kernel
theorem dX1_timeOver_6 : decode cX1_timeOver 6 = .ok (.iload_n 2, 1) := by decide +kernel
theorem dX1_timeOver_7 : decode cX1_timeOver 7 = .ok (.iconst (-1), 1) := by decide +kernel
theorem dX1_timeOver_8 : decode cX1_timeOver 8 = .ok (.if_icmp .eq 12, 3) := by decide +kernel
theorem dX1_timeOver_11 : decode cX1_timeOver 11 = .ok (.aload_n 0, 1) := by decide +kernel
theorem dX1_timeOver_12 : decode cX1_timeOver 12 = .ok (.invokevirtual 64, 3) := by decide +kernel
theorem dX1_timeOver_15 : decode cX1_timeOver 15 = .ok (.iload_n 2, 1) := by decide +kernel
theorem dX1_timeOver_16 : decode cX1_timeOver 16 = .ok (.iadd, 1) := by decide +kernel
theorem dX1_timeOver_17 : decode cX1_timeOver 17 = .ok (.goto 4, 3) := by decide +kernel
theorem dX1_timeOver_20 : decode cX1_timeOver 20 = .ok (.iconst (-1), 1) := by decide +kernel
theorem dX1_timeOver_21 : decode cX1_timeOver 21 = .ok (.ireturn, 1) := by decide +kernel
theorem dX1_loads_0 : decode cX1_loads 0 = .ok (.aload_n 0, 1) := by decide +kernel
theorem dX1_loads_1 : decode cX1_loads 1 = .ok (.getfield 9, 3) := by decide +kernel
theorem dX1_loads_4 : decode cX1_loads 4 = .ok (.iconst 2, 1) := by decide +kernel
theorem dX1_loads_5 : decode cX1_loads 5 = .ok (.if_icmp .eq 15, 3) := by decide +kernel
theorem dX1_loads_8 : decode cX1_loads 8 = .ok (.aload_n 0, 1) := by decide +kernel
theorem dX1_loads_9 : decode cX1_loads 9 = .ok (.iload_n 1, 1) := by decide +kernel
theorem dX1_loads_10 : decode cX1_loads 10 = .ok (.invokevirtual 56, 3) := by decide +kernel
theorem dX1_loads_13 : decode cX1_loads 13 = .ok (.ifCond .eq 7, 3) := by decide +kernel
theorem dX1_loads_16 : decode cX1_loads 16 = .ok (.iconst 1, 1) := by decide +kernel
theorem dX1_loads_17 : decode cX1_loads 17 = .ok (.goto 4, 3) := by decide +kernel
theorem dX1_loads_20 : decode cX1_loads 20 = .ok (.iconst 0, 1) := by decide +kernel
theorem dX1_loads_21 : decode cX1_loads 21 = .ok (.ireturn, 1) := by decide +kernel
theorem dX1_isInside_0 : decode cX1_isInside 0 = .ok (.aload_n 0, 1) := by decide +kernel
theorem dX1_isInside_1 : decode cX1_isInside 1 = .ok (.iload_n 1, 1) := by decide +kernel
theorem dX1_isInside_2 : decode cX1_isInside 2 = .ok (.invokevirtual 68, 3) := by decide +kernel
theorem dX1_isInside_5 : decode cX1_isInside 5 = .ok (.istore_n 3, 1) := by decide +kernel
theorem dX1_isInside_6 : decode cX1_isInside 6 = .ok (.aload_n 0, 1) := by decide +kernel
theorem dX1_isInside_7 : decode cX1_isInside 7 = .ok (.iload_n 1, 1) := by decide +kernel
theorem dX1_isInside_8 : decode cX1_isInside 8 = .ok (.invokevirtual 71, 3) := by decide +kernel
theorem dX1_isInside_11 : decode cX1_isInside 11 = .ok (.ifCond .eq 23, 3) := by decide +kernel
theorem dX1_isInside_14 : decode cX1_isInside 14 = .ok (.iload_n 3, 1) := by decide +kernel
theorem dX1_isInside_15 : decode cX1_isInside 15 = .ok (.iload_n 2, 1) := by decide +kernel
theorem dX1_isInside_16 : decode cX1_isInside 16 = .ok (.if_icmp .gt 18, 3) := by decide +kernel
theorem dX1_isInside_19 : decode cX1_isInside 19 = .ok (.iload_n 2, 1) := by decide +kernel
theorem dX1_isInside_20 : decode cX1_isInside 20 = .ok (.iload_n 3, 1) := by decide +kernel
theorem dX1_isInside_21 : decode cX1_isInside 21 = .ok (.aload_n 0, 1) := by decide +kernel
theorem dX1_isInside_22 : decode cX1_isInside 22 = .ok (.iload_n 1, 1) := by decide +kernel
theorem dX1_isInside_23 : decode cX1_isInside 23 = .ok (.invokevirtual 74, 3) := by decide +kernel
theorem dX1_isInside_26 : decode cX1_isInside 26 = .ok (.iadd, 1) := by decide +kernel
theorem dX1_isInside_27 : decode cX1_isInside 27 = .ok (.if_icmp .ge 7, 3) := by decide +kernel
theorem dX1_isInside_30 : decode cX1_isInside 30 = .ok (.iconst 1, 1) := by decide +kernel
theorem dX1_isInside_31 : decode cX1_isInside 31 = .ok (.goto 4, 3) := by decide +kernel
theorem dX1_isInside_34 : decode cX1_isInside 34 = .ok (.iconst 0, 1) := by decide +kernel
theorem dX1_isInside_35 : decode cX1_isInside 35 = .ok (.ireturn, 1) := by decide +kernel
theorem dX1_isFixed_0 : decode cX1_isFixed 0 = .ok (.aload_n 0, 1) := by decide +kernel
theorem dX1_isFixed_1 : decode cX1_isFixed 1 = .ok (.getfield 9, 3) := by decide +kernel
theorem dX1_isFixed_4 : decode cX1_isFixed 4 = .ok (.iconst 1, 1) := by decide +kernel
theorem dX1_isFixed_5 : decode cX1_isFixed 5 = .ok (.if_icmp .eq 17, 3) := by decide +kernel
theorem dX1_isFixed_8 : decode cX1_isFixed 8 = .ok (.aload_n 0, 1) := by decide +kernel
theorem dX1_isFixed_9 : decode cX1_isFixed 9 = .ok (.getfield 9, 3) := by decide +kernel
theorem dX1_isFixed_12 : decode cX1_isFixed 12 = .ok (.ifCond .ne 14, 3) := by decide +kernel
theorem dX1_isFixed_15 : decode cX1_isFixed 15 = .ok (.aload_n 0, 1) := by decide +kernel
theorem dX1_isFixed_16 : decode cX1_isFixed 16 = .ok (.getfield 15, 3) := by decide +kernel
theorem dX1_isFixed_19 : decode cX1_isFixed 19 = .ok (.ifCond .eq 7, 3) := by decide +kernel
theorem dX1_isFixed_22 : decode cX1_isFixed 22 = .ok (.iconst 1, 1) := by decide +kernel
theorem dX1_isFixed_23 : decode cX1_isFixed 23 = .ok (.goto 4, 3) := by decide +kernel
theorem dX1_isFixed_26 : decode cX1_isFixed 26 = .ok (.iconst 0, 1) := by decide +kernel
theorem dX1_isFixed_27 : decode cX1_isFixed 27 = .ok (.ireturn, 1) := by decide +kernel
theorem dX1_isListed_0 : decode cX1_isListed 0 = .ok (.aload_n 0, 1) := by decide +kernel
theorem dX1_isListed_1 : decode cX1_isListed 1 = .ok (.getfield 9, 3) := by decide +kernel
theorem dX1_isListed_4 : decode cX1_isListed 4 = .ok (.ifCond .ne 14, 3) := by decide +kernel
theorem dX1_isListed_7 : decode cX1_isListed 7 = .ok (.aload_n 0, 1) := by decide +kernel
theorem dX1_isListed_8 : decode cX1_isListed 8 = .ok (.getfield 15, 3) := by decide +kernel
theorem dX1_isListed_11 : decode cX1_isListed 11 = .ok (.ifCond .ne 7, 3) := by decide +kernel
theorem dX1_isListed_14 : decode cX1_isListed 14 = .ok (.iconst 1, 1) := by decide +kernel
theorem dX1_isListed_15 : decode cX1_isListed 15 = .ok (.goto 4, 3) := by decide +kernel
theorem dX1_isListed_18 : decode cX1_isListed 18 = .ok (.iconst 0, 1) := by decide +kernel
theorem dX1_isListed_19 : decode cX1_isListed 19 = .ok (.ireturn, 1) := by decide +kernel
theorem dX1_lineTime_0 : decode cX1_lineTime 0 = .ok (.aload_n 0, 1) := by decide +kernel
theorem dX1_lineTime_1 : decode cX1_lineTime 1 = .ok (.iload_n 1, 1) := by decide +kernel
theorem dX1_lineTime_2 : decode cX1_lineTime 2 = .ok (.invokevirtual 60, 3) := by decide +kernel
theorem dX1_lineTime_5 : decode cX1_lineTime 5 = .ok (.istore_n 2, 1) := by decide +kernel
theorem dX1_lineTime_6 : decode cX1_lineTime 6 = .ok (.iload_n 2, 1) := by decide +kernel
theorem dX1_lineTime_7 : decode cX1_lineTime 7 = .ok (.iconst (-1), 1) := by decide +kernel
theorem dX1_lineTime_8 : decode cX1_lineTime 8 = .ok (.if_icmp .ne 5, 3) := by decide +kernel
theorem dX1_lineTime_11 : decode cX1_lineTime 11 = .ok (.iconst (-1), 1) := by decide +kernel
theorem dX1_lineTime_12 : decode cX1_lineTime 12 = .ok (.ireturn, 1) := by decide +kernel
theorem dX1_lineTime_13 : decode cX1_lineTime 13 = .ok (.aload_n 0, 1) := by decide +kernel
theorem dX1_lineTime_14 : decode cX1_lineTime 14 = .ok (.getfield 9, 3) := by decide +kernel
theorem dX1_lineTime_17 : decode cX1_lineTime 17 = .ok (.iconst 1, 1) := by decide +kernel
theorem dX1_lineTime_18 : decode cX1_lineTime 18 = .ok (.if_icmp .ne 10, 3) := by decide +kernel
theorem dX1_lineTime_21 : decode cX1_lineTime 21 = .ok (.aload_n 0, 1) := by decide +kernel
theorem dX1_lineTime_22 : decode cX1_lineTime 22 = .ok (.getfield 25, 3) := by decide +kernel
theorem dX1_lineTime_25 : decode cX1_lineTime 25 = .ok (.goto 7, 3) := by decide +kernel
theorem dX1_lineTime_28 : decode cX1_lineTime 28 = .ok (.aload_n 0, 1) := by decide +kernel
theorem dX1_lineTime_29 : decode cX1_lineTime 29 = .ok (.getfield 53, 3) := by decide +kernel
theorem dX1_lineTime_32 : decode cX1_lineTime 32 = .ok (.iload_n 2, 1) := by decide +kernel
theorem dX1_lineTime_33 : decode cX1_lineTime 33 = .ok (.iadd, 1) := by decide +kernel
theorem dX1_lineTime_34 : decode cX1_lineTime 34 = .ok (.ireturn, 1) := by decide +kernel
theorem dX1_loseSlotTime_0 : decode cX1_loseSlotTime 0 = .ok (.aload_n 0, 1) := by decide +kernel
theorem dX1_loseSlotTime_1 : decode cX1_loseSlotTime 1 = .ok (.iconst (-1), 1) := by decide +kernel
theorem dX1_loseSlotTime_2 : decode cX1_loseSlotTime 2 = .ok (.putfield 19, 3) := by decide +kernel
theorem dX1_loseSlotTime_5 : decode cX1_loseSlotTime 5 = .ok (.aload_n 0, 1) := by decide +kernel
theorem dX1_loseSlotTime_6 : decode cX1_loseSlotTime 6 = .ok (.iconst (-1), 1) := by decide +kernel
theorem dX1_loseSlotTime_7 : decode cX1_loseSlotTime 7 = .ok (.putfield 22, 3) := by decide +kernel
theorem dX1_loseSlotTime_10 : decode cX1_loseSlotTime 10 = .ok (.return_, 1) := by decide +kernel
theorem dX1_delay_0 : decode cX1_delay 0 = .ok (.aload_n 0, 1) := by decide +kernel
theorem dX1_delay_1 : decode cX1_delay 1 = .ok (.getfield 19, 3) := by decide +kernel
theorem dX1_delay_4 : decode cX1_delay 4 = .ok (.iconst (-1), 1) := by decide +kernel
theorem dX1_delay_5 : decode cX1_delay 5 = .ok (.if_icmp .eq 15, 3) := by decide +kernel
theorem dX1_delay_8 : decode cX1_delay 8 = .ok (.aload_n 0, 1) := by decide +kernel
theorem dX1_delay_9 : decode cX1_delay 9 = .ok (.getfield 19, 3) := by decide +kernel
theorem dX1_delay_12 : decode cX1_delay 12 = .ok (.aload_n 0, 1) := by decide +kernel
theorem dX1_delay_13 : decode cX1_delay 13 = .ok (.getfield 53, 3) := by decide +kernel
theorem dX1_delay_16 : decode cX1_delay 16 = .ok (.isub, 1) := by decide +kernel
theorem dX1_delay_17 : decode cX1_delay 17 = .ok (.goto 4, 3) := by decide +kernel
theorem dX1_delay_20 : decode cX1_delay 20 = .ok (.iconst 0, 1) := by decide +kernel
theorem dX1_delay_21 : decode cX1_delay 21 = .ok (.ireturn, 1) := by decide +kernel
theorem dX1_charge_0 : decode cX1_charge 0 = .ok (.aload_n 0, 1) := by decide +kernel
theorem dX1_charge_1 : decode cX1_charge 1 = .ok (.getfield 9, 3) := by decide +kernel
theorem dX1_charge_4 : decode cX1_charge 4 = .ok (.iconst 1, 1) := by decide +kernel
theorem dX1_charge_5 : decode cX1_charge 5 = .ok (.if_icmp .ne 10, 3) := by decide +kernel
theorem dX1_charge_8 : decode cX1_charge 8 = .ok (.aload_n 0, 1) := by decide +kernel
theorem dX1_charge_9 : decode cX1_charge 9 = .ok (.invokevirtual 77, 3) := by decide +kernel
theorem dX1_charge_12 : decode cX1_charge 12 = .ok (.goto 4, 3) := by decide +kernel
theorem dX1_charge_15 : decode cX1_charge 15 = .ok (.iconst 0, 1) := by decide +kernel
theorem dX1_charge_16 : decode cX1_charge 16 = .ok (.ireturn, 1) := by decide +kernel
theorem dX1_wentOutOfWindow_0 : decode cX1_wentOutOfWindow 0 = .ok (.aload_n 0, 1) := by decide +kernel
theorem dX1_wentOutOfWindow_1 : decode cX1_wentOutOfWindow 1 = .ok (.getfield 9, 3) := by decide +kernel
theorem dX1_wentOutOfWindow_4 : decode cX1_wentOutOfWindow 4 = .ok (.iconst 1, 1) := by decide +kernel
theorem dX1_wentOutOfWindow_5 : decode cX1_wentOutOfWindow 5 = .ok (.if_icmp .ne 42, 3) := by decide +kernel
theorem dX1_wentOutOfWindow_8 : decode cX1_wentOutOfWindow 8 = .ok (.aload_n 0, 1) := by decide +kernel
theorem dX1_wentOutOfWindow_9 : decode cX1_wentOutOfWindow 9 = .ok (.getfield 19, 3) := by decide +kernel
theorem dX1_wentOutOfWindow_12 : decode cX1_wentOutOfWindow 12 = .ok (.iconst (-1), 1) := by decide +kernel
theorem dX1_wentOutOfWindow_13 : decode cX1_wentOutOfWindow 13 = .ok (.if_icmp .eq 34, 3) := by decide +kernel
theorem dX1_wentOutOfWindow_16 : decode cX1_wentOutOfWindow 16 = .ok (.aload_n 0, 1) := by decide +kernel
theorem dX1_wentOutOfWindow_17 : decode cX1_wentOutOfWindow 17 = .ok (.getfield 25, 3) := by decide +kernel
theorem dX1_wentOutOfWindow_20 : decode cX1_wentOutOfWindow 20 = .ok (.aload_n 0, 1) := by decide +kernel
theorem dX1_wentOutOfWindow_21 : decode cX1_wentOutOfWindow 21 = .ok (.getfield 19, 3) := by decide +kernel
theorem dX1_wentOutOfWindow_24 : decode cX1_wentOutOfWindow 24 = .ok (.iconst 5, 1) := by decide +kernel
theorem dX1_wentOutOfWindow_25 : decode cX1_wentOutOfWindow 25 = .ok (.isub, 1) := by decide +kernel
theorem dX1_wentOutOfWindow_26 : decode cX1_wentOutOfWindow 26 = .ok (.if_icmp .lt 17, 3) := by decide +kernel
theorem dX1_wentOutOfWindow_29 : decode cX1_wentOutOfWindow 29 = .ok (.aload_n 0, 1) := by decide +kernel
theorem dX1_wentOutOfWindow_30 : decode cX1_wentOutOfWindow 30 = .ok (.getfield 25, 3) := by decide +kernel
theorem dX1_wentOutOfWindow_33 : decode cX1_wentOutOfWindow 33 = .ok (.aload_n 0, 1) := by decide +kernel
theorem dX1_wentOutOfWindow_34 : decode cX1_wentOutOfWindow 34 = .ok (.getfield 19, 3) := by decide +kernel
theorem dX1_wentOutOfWindow_37 : decode cX1_wentOutOfWindow 37 = .ok (.bipush 10, 2) := by decide +kernel
theorem dX1_wentOutOfWindow_39 : decode cX1_wentOutOfWindow 39 = .ok (.iadd, 1) := by decide +kernel
theorem dX1_wentOutOfWindow_40 : decode cX1_wentOutOfWindow 40 = .ok (.if_icmp .le 7, 3) := by decide +kernel
theorem dX1_wentOutOfWindow_43 : decode cX1_wentOutOfWindow 43 = .ok (.iconst 1, 1) := by decide +kernel
theorem dX1_wentOutOfWindow_44 : decode cX1_wentOutOfWindow 44 = .ok (.goto 4, 3) := by decide +kernel
theorem dX1_wentOutOfWindow_47 : decode cX1_wentOutOfWindow 47 = .ok (.iconst 0, 1) := by decide +kernel
theorem dX1_wentOutOfWindow_48 : decode cX1_wentOutOfWindow 48 = .ok (.ireturn, 1) := by decide +kernel
theorem dX1_ledgerLine_0 : decode cX1_ledgerLine 0 = .ok (.iload_n 1, 1) := by decide +kernel
theorem dX1_ledgerLine_1 : decode cX1_ledgerLine 1 = .ok (.lookupswitch 45 #[(0, 27), (1, 32)], 27) := by decide +kernel
theorem dX1_ledgerLine_28 : decode cX1_ledgerLine 28 = .ok (.aload_n 0, 1) := by decide +kernel
theorem dX1_ledgerLine_29 : decode cX1_ledgerLine 29 = .ok (.invokevirtual 80, 3) := by decide +kernel
theorem dX1_ledgerLine_32 : decode cX1_ledgerLine 32 = .ok (.ireturn, 1) := by decide +kernel
theorem dX1_ledgerLine_33 : decode cX1_ledgerLine 33 = .ok (.aload_n 0, 1) := by decide +kernel
theorem dX1_ledgerLine_34 : decode cX1_ledgerLine 34 = .ok (.invokevirtual 83, 3) := by decide +kernel
theorem dX1_ledgerLine_37 : decode cX1_ledgerLine 37 = .ok (.ifCond .eq 7, 3) := by decide +kernel
theorem dX1_ledgerLine_40 : decode cX1_ledgerLine 40 = .ok (.iconst 1, 1) := by decide +kernel
theorem dX1_ledgerLine_41 : decode cX1_ledgerLine 41 = .ok (.goto 4, 3) := by decide +kernel
theorem dX1_ledgerLine_44 : decode cX1_ledgerLine 44 = .ok (.iconst 0, 1) := by decide +kernel
theorem dX1_ledgerLine_45 : decode cX1_ledgerLine 45 = .ok (.ireturn, 1) := by decide +kernel
theorem dX1_ledgerLine_46 : decode cX1_ledgerLine 46 = .ok (.aload_n 0, 1) := by decide +kernel
theorem dX1_ledgerLine_47 : decode cX1_ledgerLine 47 = .ok (.getfield 9, 3) := by decide +kernel
theorem dX1_ledgerLine_50 : decode cX1_ledgerLine 50 = .ok (.iconst 1, 1) := by decide +kernel
theorem dX1_ledgerLine_51 : decode cX1_ledgerLine 51 = .ok (.if_icmp .ne 7, 3) := by decide +kernel
theorem dX1_ledgerLine_54 : decode cX1_ledgerLine 54 = .ok (.iconst 1, 1) := by decide +kernel
theorem dX1_ledgerLine_55 : decode cX1_ledgerLine 55 = .ok (.goto 4, 3) := by decide +kernel
theorem dX1_ledgerLine_58 : decode cX1_ledgerLine 58 = .ok (.iconst 0, 1) := by decide +kernel
theorem dX1_ledgerLine_59 : decode cX1_ledgerLine 59 = .ok (.ireturn, 1) := by decide +kernel
theorem dX1_forgetReckoned_0 : decode cX1_forgetReckoned 0 = .ok (.aload_n 0, 1) := by decide +kernel
theorem dX1_forgetReckoned_1 : decode cX1_forgetReckoned 1 = .ok (.iconst 0, 1) := by decide +kernel
theorem dX1_forgetReckoned_2 : decode cX1_forgetReckoned 2 = .ok (.putfield 44, 3) := by decide +kernel
theorem dX1_forgetReckoned_5 : decode cX1_forgetReckoned 5 = .ok (.aload_n 0, 1) := by decide +kernel
theorem dX1_forgetReckoned_6 : decode cX1_forgetReckoned 6 = .ok (.iconst (-1), 1) := by decide +kernel
theorem dX1_forgetReckoned_7 : decode cX1_forgetReckoned 7 = .ok (.putfield 47, 3) := by decide +kernel
theorem dX1_forgetReckoned_10 : decode cX1_forgetReckoned 10 = .ok (.return_, 1) := by decide +kernel
theorem dX1_reckon_0 : decode cX1_reckon 0 = .ok (.iload_n 1, 1) := by decide +kernel
theorem dX1_reckon_1 : decode cX1_reckon 1 = .ok (.aload_n 0, 1) := by decide +kernel
theorem dX1_reckon_2 : decode cX1_reckon 2 = .ok (.getfield 44, 3) := by decide +kernel
theorem dX1_reckon_5 : decode cX1_reckon 5 = .ok (.if_icmp .le 13, 3) := by decide +kernel
theorem dX1_reckon_8 : decode cX1_reckon 8 = .ok (.aload_n 0, 1) := by decide +kernel
theorem dX1_reckon_9 : decode cX1_reckon 9 = .ok (.iload_n 1, 1) := by decide +kernel
theorem dX1_reckon_10 : decode cX1_reckon 10 = .ok (.putfield 44, 3) := by decide +kernel
theorem dX1_reckon_13 : decode cX1_reckon 13 = .ok (.aload_n 0, 1) := by decide +kernel
theorem dX1_reckon_14 : decode cX1_reckon 14 = .ok (.iload_n 2, 1) := by decide +kernel
theorem dX1_reckon_15 : decode cX1_reckon 15 = .ok (.putfield 47, 3) := by decide +kernel
theorem dX1_reckon_18 : decode cX1_reckon 18 = .ok (.return_, 1) := by decide +kernel
theorem dX1_takeReckoned_0 : decode cX1_takeReckoned 0 = .ok (.aload_n 0, 1) := by decide +kernel
theorem dX1_takeReckoned_1 : decode cX1_takeReckoned 1 = .ok (.invokevirtual 87, 3) := by decide +kernel
theorem dX1_takeReckoned_4 : decode cX1_takeReckoned 4 = .ok (.ifCond .ne 4, 3) := by decide +kernel
theorem dX1_takeReckoned_7 : decode cX1_takeReckoned 7 = .ok (.return_, 1) := by decide +kernel
theorem dX1_takeReckoned_8 : decode cX1_takeReckoned 8 = .ok (.aload_n 0, 1) := by decide +kernel
theorem dX1_takeReckoned_9 : decode cX1_takeReckoned 9 = .ok (.getfield 44, 3) := by decide +kernel
theorem dX1_takeReckoned_12 : decode cX1_takeReckoned 12 = .ok (.ifCond .ne 8, 3) := by decide +kernel
theorem dX1_takeReckoned_15 : decode cX1_takeReckoned 15 = .ok (.aload_n 0, 1) := by decide +kernel
theorem dX1_takeReckoned_16 : decode cX1_takeReckoned 16 = .ok (.invokevirtual 90, 3) := by decide +kernel
theorem dX1_takeReckoned_19 : decode cX1_takeReckoned 19 = .ok (.return_, 1) := by decide +kernel
theorem dX1_takeReckoned_20 : decode cX1_takeReckoned 20 = .ok (.aload_n 0, 1) := by decide +kernel
theorem dX1_takeReckoned_21 : decode cX1_takeReckoned 21 = .ok (.getfield 53, 3) := by decide +kernel
theorem dX1_takeReckoned_24 : decode cX1_takeReckoned 24 = .ok (.aload_n 0, 1) := by decide +kernel
theorem dX1_takeReckoned_25 : decode cX1_takeReckoned 25 = .ok (.getfield 44, 3) := by decide +kernel
theorem dX1_takeReckoned_28 : decode cX1_takeReckoned 28 = .ok (.iadd, 1) := by decide +kernel
theorem dX1_takeReckoned_29 : decode cX1_takeReckoned 29 = .ok (.istore_n 2, 1) := by decide +kernel
theorem dX1_takeReckoned_30 : decode cX1_takeReckoned 30 = .ok (.iload_n 1, 1) := by decide +kernel
theorem dX1_takeReckoned_31 : decode cX1_takeReckoned 31 = .ok (.ifCond .ne 19, 3) := by decide +kernel
theorem dX1_takeReckoned_34 : decode cX1_takeReckoned 34 = .ok (.aload_n 0, 1) := by decide +kernel
theorem dX1_takeReckoned_35 : decode cX1_takeReckoned 35 = .ok (.getfield 19, 3) := by decide +kernel
theorem dX1_takeReckoned_38 : decode cX1_takeReckoned 38 = .ok (.iconst (-1), 1) := by decide +kernel
theorem dX1_takeReckoned_39 : decode cX1_takeReckoned 39 = .ok (.if_icmp .eq 11, 3) := by decide +kernel
theorem dX1_takeReckoned_42 : decode cX1_takeReckoned 42 = .ok (.iload_n 2, 1) := by decide +kernel
theorem dX1_takeReckoned_43 : decode cX1_takeReckoned 43 = .ok (.aload_n 0, 1) := by decide +kernel
theorem dX1_takeReckoned_44 : decode cX1_takeReckoned 44 = .ok (.getfield 19, 3) := by decide +kernel
theorem dX1_takeReckoned_47 : decode cX1_takeReckoned 47 = .ok (.if_icmp .gt 16, 3) := by decide +kernel
theorem dX1_takeReckoned_50 : decode cX1_takeReckoned 50 = .ok (.aload_n 0, 1) := by decide +kernel
theorem dX1_takeReckoned_51 : decode cX1_takeReckoned 51 = .ok (.iload_n 2, 1) := by decide +kernel
theorem dX1_takeReckoned_52 : decode cX1_takeReckoned 52 = .ok (.putfield 19, 3) := by decide +kernel
theorem dX1_takeReckoned_55 : decode cX1_takeReckoned 55 = .ok (.aload_n 0, 1) := by decide +kernel
theorem dX1_takeReckoned_56 : decode cX1_takeReckoned 56 = .ok (.aload_n 0, 1) := by decide +kernel
theorem dX1_takeReckoned_57 : decode cX1_takeReckoned 57 = .ok (.getfield 47, 3) := by decide +kernel
theorem dX1_takeReckoned_60 : decode cX1_takeReckoned 60 = .ok (.putfield 22, 3) := by decide +kernel
theorem dX1_takeReckoned_63 : decode cX1_takeReckoned 63 = .ok (.return_, 1) := by decide +kernel
theorem dX1_sharesRuling_0 : decode cX1_sharesRuling 0 = .ok (.aload_n 0, 1) := by decide +kernel
theorem dX1_sharesRuling_1 : decode cX1_sharesRuling 1 = .ok (.getfield 9, 3) := by decide +kernel
theorem dX1_sharesRuling_4 : decode cX1_sharesRuling 4 = .ok (.ifCond .ne 52, 3) := by decide +kernel
theorem dX1_sharesRuling_7 : decode cX1_sharesRuling 7 = .ok (.aload_n 1, 1) := by decide +kernel
theorem dX1_sharesRuling_8 : decode cX1_sharesRuling 8 = .ok (.getfield 9, 3) := by decide +kernel
theorem dX1_sharesRuling_11 : decode cX1_sharesRuling 11 = .ok (.ifCond .ne 45, 3) := by decide +kernel
theorem dX1_sharesRuling_14 : decode cX1_sharesRuling 14 = .ok (.aload_n 0, 1) := by decide +kernel
theorem dX1_sharesRuling_15 : decode cX1_sharesRuling 15 = .ok (.getfield 50, 3) := by decide +kernel
theorem dX1_sharesRuling_18 : decode cX1_sharesRuling 18 = .ok (.aload_n 1, 1) := by decide +kernel
theorem dX1_sharesRuling_19 : decode cX1_sharesRuling 19 = .ok (.getfield 50, 3) := by decide +kernel
theorem dX1_sharesRuling_22 : decode cX1_sharesRuling 22 = .ok (.if_icmp .ne 34, 3) := by decide +kernel
theorem dX1_sharesRuling_25 : decode cX1_sharesRuling 25 = .ok (.aload_n 0, 1) := by decide +kernel
theorem dX1_sharesRuling_26 : decode cX1_sharesRuling 26 = .ok (.getfield 19, 3) := by decide +kernel
theorem dX1_sharesRuling_29 : decode cX1_sharesRuling 29 = .ok (.iconst (-1), 1) := by decide +kernel
theorem dX1_sharesRuling_30 : decode cX1_sharesRuling 30 = .ok (.if_icmp .eq 26, 3) := by decide +kernel
theorem dX1_sharesRuling_33 : decode cX1_sharesRuling 33 = .ok (.aload_n 1, 1) := by decide +kernel
theorem dX1_sharesRuling_34 : decode cX1_sharesRuling 34 = .ok (.getfield 19, 3) := by decide +kernel
theorem dX1_sharesRuling_37 : decode cX1_sharesRuling 37 = .ok (.iconst (-1), 1) := by decide +kernel
theorem dX1_sharesRuling_38 : decode cX1_sharesRuling 38 = .ok (.if_icmp .eq 18, 3) := by decide +kernel
theorem dX1_sharesRuling_41 : decode cX1_sharesRuling 41 = .ok (.aload_n 0, 1) := by decide +kernel
theorem dX1_sharesRuling_42 : decode cX1_sharesRuling 42 = .ok (.getfield 22, 3) := by decide +kernel
theorem dX1_sharesRuling_45 : decode cX1_sharesRuling 45 = .ok (.aload_n 1, 1) := by decide +kernel
theorem dX1_sharesRuling_46 : decode cX1_sharesRuling 46 = .ok (.getfield 22, 3) := by decide +kernel
theorem dX1_sharesRuling_49 : decode cX1_sharesRuling 49 = .ok (.if_icmp .ne 7, 3) := by decide +kernel
theorem dX1_sharesRuling_52 : decode cX1_sharesRuling 52 = .ok (.iconst 1, 1) := by decide +kernel
theorem dX1_sharesRuling_53 : decode cX1_sharesRuling 53 = .ok (.goto 4, 3) := by decide +kernel
theorem dX1_sharesRuling_56 : decode cX1_sharesRuling 56 = .ok (.iconst 0, 1) := by decide +kernel
theorem dX1_sharesRuling_57 : decode cX1_sharesRuling 57 = .ok (.ireturn, 1) := by decide +kernel
theorem dX1_follow_0 : decode cX1_follow 0 = .ok (.iload_n 1, 1) := by decide +kernel
theorem dX1_follow_1 : decode cX1_follow 1 = .ok (.ifCond .ne 23, 3) := by decide +kernel
theorem dX1_follow_4 : decode cX1_follow 4 = .ok (.aload_n 0, 1) := by decide +kernel
theorem dX1_follow_5 : decode cX1_follow 5 = .ok (.iload_n 2, 1) := by decide +kernel
theorem dX1_follow_6 : decode cX1_follow 6 = .ok (.putfield 53, 3) := by decide +kernel
theorem dX1_follow_9 : decode cX1_follow 9 = .ok (.aload_n 0, 1) := by decide +kernel
theorem dX1_follow_10 : decode cX1_follow 10 = .ok (.getfield 19, 3) := by decide +kernel
theorem dX1_follow_13 : decode cX1_follow 13 = .ok (.iload_n 2, 1) := by decide +kernel
theorem dX1_follow_14 : decode cX1_follow 14 = .ok (.if_icmp .ge 33, 3) := by decide +kernel
theorem dX1_follow_17 : decode cX1_follow 17 = .ok (.aload_n 0, 1) := by decide +kernel
theorem dX1_follow_18 : decode cX1_follow 18 = .ok (.invokevirtual 90, 3) := by decide +kernel
theorem dX1_follow_21 : decode cX1_follow 21 = .ok (.goto 26, 3) := by decide +kernel
theorem dX1_follow_24 : decode cX1_follow 24 = .ok (.iload_n 1, 1) := by decide +kernel
theorem dX1_follow_25 : decode cX1_follow 25 = .ok (.iconst 1, 1) := by decide +kernel
theorem dX1_follow_26 : decode cX1_follow 26 = .ok (.if_icmp .ne 11, 3) := by decide +kernel
theorem dX1_follow_29 : decode cX1_follow 29 = .ok (.aload_n 0, 1) := by decide +kernel
theorem dX1_follow_30 : decode cX1_follow 30 = .ok (.iconst 2, 1) := by decide +kernel
theorem dX1_follow_31 : decode cX1_follow 31 = .ok (.putfield 9, 3) := by decide +kernel
theorem dX1_follow_34 : decode cX1_follow 34 = .ok (.goto 13, 3) := by decide +kernel
theorem dX1_follow_37 : decode cX1_follow 37 = .ok (.aload_n 0, 1) := by decide +kernel
theorem dX1_follow_38 : decode cX1_follow 38 = .ok (.iconst 1, 1) := by decide +kernel
theorem dX1_follow_39 : decode cX1_follow 39 = .ok (.putfield 9, 3) := by decide +kernel
theorem dX1_follow_42 : decode cX1_follow 42 = .ok (.aload_n 0, 1) := by decide +kernel
theorem dX1_follow_43 : decode cX1_follow 43 = .ok (.iload_n 2, 1) := by decide +kernel
theorem dX1_follow_44 : decode cX1_follow 44 = .ok (.putfield 25, 3) := by decide +kernel
theorem dX1_follow_47 : decode cX1_follow 47 = .ok (.return_, 1) := by decide +kernel
theorem dX2_init_0 : decode cX2_init 0 = .ok (.aload_n 0, 1) := by decide +kernel
theorem dX2_init_1 : decode cX2_init 1 = .ok (.invokespecial 3, 3) := by decide +kernel
theorem dX2_init_4 : decode cX2_init 4 = .ok (.aload_n 0, 1) := by decide +kernel
theorem dX2_init_5 : decode cX2_init 5 = .ok (.bipush 24, 2) := by decide +kernel
theorem dX2_init_7 : decode cX2_init 7 = .ok (.newarray .int, 2) := by decide +kernel
theorem dX2_init_9 : decode cX2_init 9 = .ok (.putfield 9, 3) := by decide +kernel
theorem dX2_init_12 : decode cX2_init 12 = .ok (.aload_n 0, 1) := by decide +kernel
theorem dX2_init_13 : decode cX2_init 13 = .ok (.bipush 24, 2) := by decide +kernel
theorem dX2_init_15 : decode cX2_init 15 = .ok (.newarray .int, 2) := by decide +kernel
theorem dX2_init_17 : decode cX2_init 17 = .ok (.putfield 15, 3) := by decide +kernel
theorem dX2_init_20 : decode cX2_init 20 = .ok (.aload_n 0, 1) := by decide +kernel
theorem dX2_init_21 : decode cX2_init 21 = .ok (.bipush 24, 2) := by decide +kernel
theorem dX2_init_23 : decode cX2_init 23 = .ok (.newarray .int, 2) := by decide +kernel
theorem dX2_init_25 : decode cX2_init 25 = .ok (.putfield 18, 3) := by decide +kernel
theorem dX2_init_28 : decode cX2_init 28 = .ok (.aload_n 0, 1) := by decide +kernel
theorem dX2_init_29 : decode cX2_init 29 = .ok (.bipush 24, 2) := by decide +kernel
theorem dX2_init_31 : decode cX2_init 31 = .ok (.newarray .int, 2) := by decide +kernel
theorem dX2_init_33 : decode cX2_init 33 = .ok (.putfield 21, 3) := by decide +kernel
theorem dX2_init_36 : decode cX2_init 36 = .ok (.aload_n 0, 1) := by decide +kernel
theorem dX2_init_37 : decode cX2_init 37 = .ok (.iconst 0, 1) := by decide +kernel
theorem dX2_init_38 : decode cX2_init 38 = .ok (.putfield 24, 3) := by decide +kernel
theorem dX2_init_41 : decode cX2_init 41 = .ok (.return_, 1) := by decide +kernel
theorem dX2_clear_0 : decode cX2_clear 0 = .ok (.aload_n 0, 1) := by decide +kernel
theorem dX2_clear_1 : decode cX2_clear 1 = .ok (.iconst 0, 1) := by decide +kernel
theorem dX2_clear_2 : decode cX2_clear 2 = .ok (.putfield 24, 3) := by decide +kernel
theorem dX2_clear_5 : decode cX2_clear 5 = .ok (.return_, 1) := by decide +kernel
theorem dX2_add_0 : decode cX2_add 0 = .ok (.aload_n 0, 1) := by decide +kernel
theorem dX2_add_1 : decode cX2_add 1 = .ok (.getfield 24, 3) := by decide +kernel
theorem dX2_add_4 : decode cX2_add 4 = .ok (.bipush 24, 2) := by decide +kernel
theorem dX2_add_6 : decode cX2_add 6 = .ok (.if_icmp .lt 4, 3) := by decide +kernel
theorem dX2_add_9 : decode cX2_add 9 = .ok (.return_, 1) := by decide +kernel
theorem dX2_add_10 : decode cX2_add 10 = .ok (.aload_n 0, 1) := by decide +kernel
theorem dX2_add_11 : decode cX2_add 11 = .ok (.getfield 24, 3) := by decide +kernel
theorem dX2_add_14 : decode cX2_add 14 = .ok (.istore_n 3, 1) := by decide +kernel
theorem dX2_add_15 : decode cX2_add 15 = .ok (.iload_n 3, 1) := by decide +kernel
theorem dX2_add_16 : decode cX2_add 16 = .ok (.ifCond .le 49, 3) := by decide +kernel
theorem dX2_add_19 : decode cX2_add 19 = .ok (.aload_n 0, 1) := by decide +kernel
theorem dX2_add_20 : decode cX2_add 20 = .ok (.getfield 15, 3) := by decide +kernel
theorem dX2_add_23 : decode cX2_add 23 = .ok (.iload_n 3, 1) := by decide +kernel
theorem dX2_add_24 : decode cX2_add 24 = .ok (.iconst 1, 1) := by decide +kernel
theorem dX2_add_25 : decode cX2_add 25 = .ok (.isub, 1) := by decide +kernel
theorem dX2_add_26 : decode cX2_add 26 = .ok (.iaload, 1) := by decide +kernel
theorem dX2_add_27 : decode cX2_add 27 = .ok (.iload_n 2, 1) := by decide +kernel
theorem dX2_add_28 : decode cX2_add 28 = .ok (.if_icmp .le 37, 3) := by decide +kernel
theorem dX2_add_31 : decode cX2_add 31 = .ok (.aload_n 0, 1) := by decide +kernel
theorem dX2_add_32 : decode cX2_add 32 = .ok (.getfield 9, 3) := by decide +kernel
theorem dX2_add_35 : decode cX2_add 35 = .ok (.iload_n 3, 1) := by decide +kernel
theorem dX2_add_36 : decode cX2_add 36 = .ok (.aload_n 0, 1) := by decide +kernel
theorem dX2_add_37 : decode cX2_add 37 = .ok (.getfield 9, 3) := by decide +kernel
theorem dX2_add_40 : decode cX2_add 40 = .ok (.iload_n 3, 1) := by decide +kernel
theorem dX2_add_41 : decode cX2_add 41 = .ok (.iconst 1, 1) := by decide +kernel
theorem dX2_add_42 : decode cX2_add 42 = .ok (.isub, 1) := by decide +kernel
theorem dX2_add_43 : decode cX2_add 43 = .ok (.iaload, 1) := by decide +kernel
theorem dX2_add_44 : decode cX2_add 44 = .ok (.iastore, 1) := by decide +kernel
theorem dX2_add_45 : decode cX2_add 45 = .ok (.aload_n 0, 1) := by decide +kernel
theorem dX2_add_46 : decode cX2_add 46 = .ok (.getfield 15, 3) := by decide +kernel
theorem dX2_add_49 : decode cX2_add 49 = .ok (.iload_n 3, 1) := by decide +kernel
theorem dX2_add_50 : decode cX2_add 50 = .ok (.aload_n 0, 1) := by decide +kernel
theorem dX2_add_51 : decode cX2_add 51 = .ok (.getfield 15, 3) := by decide +kernel
theorem dX2_add_54 : decode cX2_add 54 = .ok (.iload_n 3, 1) := by decide +kernel
theorem dX2_add_55 : decode cX2_add 55 = .ok (.iconst 1, 1) := by decide +kernel
theorem dX2_add_56 : decode cX2_add 56 = .ok (.isub, 1) := by decide +kernel
theorem dX2_add_57 : decode cX2_add 57 = .ok (.iaload, 1) := by decide +kernel
theorem dX2_add_58 : decode cX2_add 58 = .ok (.iastore, 1) := by decide +kernel
theorem dX2_add_59 : decode cX2_add 59 = .ok (.iinc 3 (-1), 3) := by decide +kernel
theorem dX2_add_62 : decode cX2_add 62 = .ok (.goto (-47), 3) := by decide +kernel
theorem dX2_add_65 : decode cX2_add 65 = .ok (.aload_n 0, 1) := by decide +kernel
theorem dX2_add_66 : decode cX2_add 66 = .ok (.getfield 9, 3) := by decide +kernel
theorem dX2_add_69 : decode cX2_add 69 = .ok (.iload_n 3, 1) := by decide +kernel
theorem dX2_add_70 : decode cX2_add 70 = .ok (.iload_n 1, 1) := by decide +kernel
theorem dX2_add_71 : decode cX2_add 71 = .ok (.iastore, 1) := by decide +kernel
theorem dX2_add_72 : decode cX2_add 72 = .ok (.aload_n 0, 1) := by decide +kernel
theorem dX2_add_73 : decode cX2_add 73 = .ok (.getfield 15, 3) := by decide +kernel
theorem dX2_add_76 : decode cX2_add 76 = .ok (.iload_n 3, 1) := by decide +kernel
theorem dX2_add_77 : decode cX2_add 77 = .ok (.iload_n 2, 1) := by decide +kernel
theorem dX2_add_78 : decode cX2_add 78 = .ok (.iastore, 1) := by decide +kernel
theorem dX2_add_79 : decode cX2_add 79 = .ok (.aload_n 0, 1) := by decide +kernel
theorem dX2_add_80 : decode cX2_add 80 = .ok (.getfield 18, 3) := by decide +kernel
theorem dX2_add_83 : decode cX2_add 83 = .ok (.aload_n 0, 1) := by decide +kernel
theorem dX2_add_84 : decode cX2_add 84 = .ok (.getfield 24, 3) := by decide +kernel
theorem dX2_add_87 : decode cX2_add 87 = .ok (.iconst (-1), 1) := by decide +kernel
theorem dX2_add_88 : decode cX2_add 88 = .ok (.iastore, 1) := by decide +kernel
theorem dX2_add_89 : decode cX2_add 89 = .ok (.aload_n 0, 1) := by decide +kernel
theorem dX2_add_90 : decode cX2_add 90 = .ok (.getfield 21, 3) := by decide +kernel
theorem dX2_add_93 : decode cX2_add 93 = .ok (.aload_n 0, 1) := by decide +kernel
theorem dX2_add_94 : decode cX2_add 94 = .ok (.getfield 24, 3) := by decide +kernel
theorem dX2_add_97 : decode cX2_add 97 = .ok (.iconst (-1), 1) := by decide +kernel
theorem dX2_add_98 : decode cX2_add 98 = .ok (.iastore, 1) := by decide +kernel
theorem dX2_add_99 : decode cX2_add 99 = .ok (.aload_n 0, 1) := by decide +kernel
theorem dX2_add_100 : decode cX2_add 100 = .ok (.dup, 1) := by decide +kernel
theorem dX2_add_101 : decode cX2_add 101 = .ok (.getfield 24, 3) := by decide +kernel
theorem dX2_add_104 : decode cX2_add 104 = .ok (.iconst 1, 1) := by decide +kernel
theorem dX2_add_105 : decode cX2_add 105 = .ok (.iadd, 1) := by decide +kernel
theorem dX2_add_106 : decode cX2_add 106 = .ok (.putfield 24, 3) := by decide +kernel
theorem dX2_add_109 : decode cX2_add 109 = .ok (.return_, 1) := by decide +kernel
theorem dX2_has_0 : decode cX2_has 0 = .ok (.iload_n 1, 1) := by decide +kernel
theorem dX2_has_1 : decode cX2_has 1 = .ok (.ifCond .lt 21, 3) := by decide +kernel
theorem dX2_has_4 : decode cX2_has 4 = .ok (.iload_n 1, 1) := by decide +kernel
theorem dX2_has_5 : decode cX2_has 5 = .ok (.aload_n 0, 1) := by decide +kernel
theorem dX2_has_6 : decode cX2_has 6 = .ok (.getfield 24, 3) := by decide +kernel
theorem dX2_has_9 : decode cX2_has 9 = .ok (.if_icmp .ge 13, 3) := by decide +kernel
theorem dX2_has_12 : decode cX2_has 12 = .ok (.iload_n 1, 1) := by decide +kernel
theorem dX2_has_13 : decode cX2_has 13 = .ok (.bipush 24, 2) := by decide +kernel
theorem dX2_has_15 : decode cX2_has 15 = .ok (.if_icmp .ge 7, 3) := by decide +kernel
theorem dX2_has_18 : decode cX2_has 18 = .ok (.iconst 1, 1) := by decide +kernel
theorem dX2_has_19 : decode cX2_has 19 = .ok (.goto 4, 3) := by decide +kernel
theorem dX2_has_22 : decode cX2_has 22 = .ok (.iconst 0, 1) := by decide +kernel
theorem dX2_has_23 : decode cX2_has 23 = .ok (.ireturn, 1) := by decide +kernel
theorem dX2_timeAt_0 : decode cX2_timeAt 0 = .ok (.aload_n 0, 1) := by decide +kernel
theorem dX2_timeAt_1 : decode cX2_timeAt 1 = .ok (.iload_n 1, 1) := by decide +kernel
theorem dX2_timeAt_2 : decode cX2_timeAt 2 = .ok (.invokevirtual 28, 3) := by decide +kernel
theorem dX2_timeAt_5 : decode cX2_timeAt 5 = .ok (.ifCond .eq 12, 3) := by decide +kernel
theorem dX2_timeAt_8 : decode cX2_timeAt 8 = .ok (.aload_n 0, 1) := by decide +kernel
theorem dX2_timeAt_9 : decode cX2_timeAt 9 = .ok (.getfield 15, 3) := by decide +kernel
theorem dX2_timeAt_12 : decode cX2_timeAt 12 = .ok (.iload_n 1, 1) := by decide +kernel
theorem dX2_timeAt_13 : decode cX2_timeAt 13 = .ok (.iaload, 1) := by decide +kernel
theorem dX2_timeAt_14 : decode cX2_timeAt 14 = .ok (.goto 4, 3) := by decide +kernel
theorem dX2_timeAt_17 : decode cX2_timeAt 17 = .ok (.iconst (-1), 1) := by decide +kernel
theorem dX2_timeAt_18 : decode cX2_timeAt 18 = .ok (.ireturn, 1) := by decide +kernel
theorem dX2_give_0 : decode cX2_give 0 = .ok (.aload_n 0, 1) := by decide +kernel
theorem dX2_give_1 : decode cX2_give 1 = .ok (.iload_n 1, 1) := by decide +kernel
theorem dX2_give_2 : decode cX2_give 2 = .ok (.invokevirtual 28, 3) := by decide +kernel
theorem dX2_give_5 : decode cX2_give 5 = .ok (.ifCond .eq 17, 3) := by decide +kernel
theorem dX2_give_8 : decode cX2_give 8 = .ok (.aload_n 0, 1) := by decide +kernel
theorem dX2_give_9 : decode cX2_give 9 = .ok (.getfield 18, 3) := by decide +kernel
theorem dX2_give_12 : decode cX2_give 12 = .ok (.iload_n 1, 1) := by decide +kernel
theorem dX2_give_13 : decode cX2_give 13 = .ok (.iload_n 2, 1) := by decide +kernel
theorem dX2_give_14 : decode cX2_give 14 = .ok (.iastore, 1) := by decide +kernel
theorem dX2_give_15 : decode cX2_give 15 = .ok (.aload_n 0, 1) := by decide +kernel
theorem dX2_give_16 : decode cX2_give 16 = .ok (.getfield 21, 3) := by decide +kernel
theorem dX2_give_19 : decode cX2_give 19 = .ok (.iload_n 1, 1) := by decide +kernel
theorem dX2_give_20 : decode cX2_give 20 = .ok (.iload_n 3, 1) := by decide +kernel
theorem dX2_give_21 : decode cX2_give 21 = .ok (.iastore, 1) := by decide +kernel
theorem dX2_give_22 : decode cX2_give 22 = .ok (.return_, 1) := by decide +kernel
theorem dX2_hasGiven_0 : decode cX2_hasGiven 0 = .ok (.iconst 0, 1) := by decide +kernel
theorem dX2_hasGiven_1 : decode cX2_hasGiven 1 = .ok (.istore_n 2, 1) := by decide +kernel
theorem dX2_hasGiven_2 : decode cX2_hasGiven 2 = .ok (.iload_n 2, 1) := by decide +kernel
theorem dX2_hasGiven_3 : decode cX2_hasGiven 3 = .ok (.aload_n 0, 1) := by decide +kernel
theorem dX2_hasGiven_4 : decode cX2_hasGiven 4 = .ok (.getfield 24, 3) := by decide +kernel
theorem dX2_hasGiven_7 : decode cX2_hasGiven 7 = .ok (.if_icmp .ge 30, 3) := by decide +kernel
theorem dX2_hasGiven_10 : decode cX2_hasGiven 10 = .ok (.iload_n 2, 1) := by decide +kernel
theorem dX2_hasGiven_11 : decode cX2_hasGiven 11 = .ok (.aload_n 0, 1) := by decide +kernel
theorem dX2_hasGiven_12 : decode cX2_hasGiven 12 = .ok (.getfield 18, 3) := by decide +kernel
theorem dX2_hasGiven_15 : decode cX2_hasGiven 15 = .ok (.arraylength, 1) := by decide +kernel
theorem dX2_hasGiven_16 : decode cX2_hasGiven 16 = .ok (.if_icmp .ge 21, 3) := by decide +kernel
theorem dX2_hasGiven_19 : decode cX2_hasGiven 19 = .ok (.aload_n 0, 1) := by decide +kernel
theorem dX2_hasGiven_20 : decode cX2_hasGiven 20 = .ok (.getfield 18, 3) := by decide +kernel
theorem dX2_hasGiven_23 : decode cX2_hasGiven 23 = .ok (.iload_n 2, 1) := by decide +kernel
theorem dX2_hasGiven_24 : decode cX2_hasGiven 24 = .ok (.iaload, 1) := by decide +kernel
theorem dX2_hasGiven_25 : decode cX2_hasGiven 25 = .ok (.iload_n 1, 1) := by decide +kernel
theorem dX2_hasGiven_26 : decode cX2_hasGiven 26 = .ok (.if_icmp .ne 5, 3) := by decide +kernel
theorem dX2_hasGiven_29 : decode cX2_hasGiven 29 = .ok (.iconst 1, 1) := by decide +kernel
theorem dX2_hasGiven_30 : decode cX2_hasGiven 30 = .ok (.ireturn, 1) := by decide +kernel
theorem dX2_hasGiven_31 : decode cX2_hasGiven 31 = .ok (.iinc 2 1, 3) := by decide +kernel
theorem dX2_hasGiven_34 : decode cX2_hasGiven 34 = .ok (.goto (-32), 3) := by decide +kernel
theorem dX2_hasGiven_37 : decode cX2_hasGiven 37 = .ok (.iconst 0, 1) := by decide +kernel
theorem dX2_hasGiven_38 : decode cX2_hasGiven 38 = .ok (.ireturn, 1) := by decide +kernel
theorem dX2_placeOf_0 : decode cX2_placeOf 0 = .ok (.iconst 0, 1) := by decide +kernel
theorem dX2_placeOf_1 : decode cX2_placeOf 1 = .ok (.istore_n 2, 1) := by decide +kernel
theorem dX2_placeOf_2 : decode cX2_placeOf 2 = .ok (.iload_n 2, 1) := by decide +kernel
theorem dX2_placeOf_3 : decode cX2_placeOf 3 = .ok (.aload_n 0, 1) := by decide +kernel
theorem dX2_placeOf_4 : decode cX2_placeOf 4 = .ok (.getfield 24, 3) := by decide +kernel
theorem dX2_placeOf_7 : decode cX2_placeOf 7 = .ok (.if_icmp .ge 30, 3) := by decide +kernel
theorem dX2_placeOf_10 : decode cX2_placeOf 10 = .ok (.iload_n 2, 1) := by decide +kernel
theorem dX2_placeOf_11 : decode cX2_placeOf 11 = .ok (.aload_n 0, 1) := by decide +kernel
theorem dX2_placeOf_12 : decode cX2_placeOf 12 = .ok (.getfield 9, 3) := by decide +kernel
theorem dX2_placeOf_15 : decode cX2_placeOf 15 = .ok (.arraylength, 1) := by decide +kernel
theorem dX2_placeOf_16 : decode cX2_placeOf 16 = .ok (.if_icmp .ge 21, 3) := by decide +kernel
theorem dX2_placeOf_19 : decode cX2_placeOf 19 = .ok (.aload_n 0, 1) := by decide +kernel
theorem dX2_placeOf_20 : decode cX2_placeOf 20 = .ok (.getfield 9, 3) := by decide +kernel
theorem dX2_placeOf_23 : decode cX2_placeOf 23 = .ok (.iload_n 2, 1) := by decide +kernel
theorem dX2_placeOf_24 : decode cX2_placeOf 24 = .ok (.iaload, 1) := by decide +kernel
theorem dX2_placeOf_25 : decode cX2_placeOf 25 = .ok (.iload_n 1, 1) := by decide +kernel
theorem dX2_placeOf_26 : decode cX2_placeOf 26 = .ok (.if_icmp .ne 5, 3) := by decide +kernel
theorem dX2_placeOf_29 : decode cX2_placeOf 29 = .ok (.iload_n 2, 1) := by decide +kernel
theorem dX2_placeOf_30 : decode cX2_placeOf 30 = .ok (.ireturn, 1) := by decide +kernel
theorem dX2_placeOf_31 : decode cX2_placeOf 31 = .ok (.iinc 2 1, 3) := by decide +kernel
theorem dX2_placeOf_34 : decode cX2_placeOf 34 = .ok (.goto (-32), 3) := by decide +kernel
theorem dX2_placeOf_37 : decode cX2_placeOf 37 = .ok (.iconst (-1), 1) := by decide +kernel
theorem dX2_placeOf_38 : decode cX2_placeOf 38 = .ok (.ireturn, 1) := by decide +kernel
theorem dX2_penaltyOf_0 : decode cX2_penaltyOf 0 = .ok (.aload_n 0, 1) := by decide +kernel
theorem dX2_penaltyOf_1 : decode cX2_penaltyOf 1 = .ok (.iload_n 1, 1) := by decide +kernel
theorem dX2_penaltyOf_2 : decode cX2_penaltyOf 2 = .ok (.invokevirtual 32, 3) := by decide +kernel
theorem dX2_penaltyOf_5 : decode cX2_penaltyOf 5 = .ok (.istore_n 2, 1) := by decide +kernel
theorem dX2_penaltyOf_6 : decode cX2_penaltyOf 6 = .ok (.aload_n 0, 1) := by decide +kernel
theorem dX2_penaltyOf_7 : decode cX2_penaltyOf 7 = .ok (.iload_n 2, 1) := by decide +kernel
theorem dX2_penaltyOf_8 : decode cX2_penaltyOf 8 = .ok (.invokevirtual 28, 3) := by decide +kernel
theorem dX2_penaltyOf_11 : decode cX2_penaltyOf 11 = .ok (.ifCond .eq 19, 3) := by decide +kernel
theorem dX2_penaltyOf_14 : decode cX2_penaltyOf 14 = .ok (.aload_n 0, 1) := by decide +kernel
theorem dX2_penaltyOf_15 : decode cX2_penaltyOf 15 = .ok (.getfield 21, 3) := by decide +kernel
theorem dX2_penaltyOf_18 : decode cX2_penaltyOf 18 = .ok (.iload_n 2, 1) := by decide +kernel
theorem dX2_penaltyOf_19 : decode cX2_penaltyOf 19 = .ok (.iaload, 1) := by decide +kernel
theorem dX2_penaltyOf_20 : decode cX2_penaltyOf 20 = .ok (.aload_n 0, 1) := by decide +kernel
theorem dX2_penaltyOf_21 : decode cX2_penaltyOf 21 = .ok (.getfield 15, 3) := by decide +kernel
theorem dX2_penaltyOf_24 : decode cX2_penaltyOf 24 = .ok (.iload_n 2, 1) := by decide +kernel
theorem dX2_penaltyOf_25 : decode cX2_penaltyOf 25 = .ok (.iaload, 1) := by decide +kernel
theorem dX2_penaltyOf_26 : decode cX2_penaltyOf 26 = .ok (.isub, 1) := by decide +kernel
theorem dX2_penaltyOf_27 : decode cX2_penaltyOf 27 = .ok (.goto 4, 3) := by decide +kernel
theorem dX2_penaltyOf_30 : decode cX2_penaltyOf 30 = .ok (.iconst (-1), 1) := by decide +kernel
theorem dX2_penaltyOf_31 : decode cX2_penaltyOf 31 = .ok (.ireturn, 1) := by decide +kernel
theorem dX2_countAheadOf_0 : decode cX2_countAheadOf 0 = .ok (.iload_n 2, 1) := by decide +kernel
theorem dX2_countAheadOf_1 : decode cX2_countAheadOf 1 = .ok (.istore_n 3, 1) := by decide +kernel
theorem dX2_countAheadOf_2 : decode cX2_countAheadOf 2 = .ok (.iload_n 3, 1) := by decide +kernel
theorem dX2_countAheadOf_3 : decode cX2_countAheadOf 3 = .ok (.aload_n 0, 1) := by decide +kernel
theorem dX2_countAheadOf_4 : decode cX2_countAheadOf 4 = .ok (.getfield 24, 3) := by decide +kernel
theorem dX2_countAheadOf_7 : decode cX2_countAheadOf 7 = .ok (.if_icmp .ge 18, 3) := by decide +kernel
theorem dX2_countAheadOf_10 : decode cX2_countAheadOf 10 = .ok (.aload_n 0, 1) := by decide +kernel
theorem dX2_countAheadOf_11 : decode cX2_countAheadOf 11 = .ok (.iload_n 3, 1) := by decide +kernel
theorem dX2_countAheadOf_12 : decode cX2_countAheadOf 12 = .ok (.invokevirtual 36, 3) := by decide +kernel
theorem dX2_countAheadOf_15 : decode cX2_countAheadOf 15 = .ok (.iload_n 1, 1) := by decide +kernel
theorem dX2_countAheadOf_16 : decode cX2_countAheadOf 16 = .ok (.if_icmp .ge 9, 3) := by decide +kernel
theorem dX2_countAheadOf_19 : decode cX2_countAheadOf 19 = .ok (.iinc 3 1, 3) := by decide +kernel
theorem dX2_countAheadOf_22 : decode cX2_countAheadOf 22 = .ok (.goto (-20), 3) := by decide +kernel
theorem dX2_countAheadOf_25 : decode cX2_countAheadOf 25 = .ok (.iload_n 3, 1) := by decide +kernel
theorem dX2_countAheadOf_26 : decode cX2_countAheadOf 26 = .ok (.ireturn, 1) := by decide +kernel
theorem dX2_canTake_0 : decode cX2_canTake 0 = .ok (.aload_n 0, 1) := by decide +kernel
theorem dX2_canTake_1 : decode cX2_canTake 1 = .ok (.iload_n 1, 1) := by decide +kernel
theorem dX2_canTake_2 : decode cX2_canTake 2 = .ok (.invokevirtual 28, 3) := by decide +kernel
theorem dX2_canTake_5 : decode cX2_canTake 5 = .ok (.ifCond .eq 17, 3) := by decide +kernel
theorem dX2_canTake_8 : decode cX2_canTake 8 = .ok (.aload_n 0, 1) := by decide +kernel
theorem dX2_canTake_9 : decode cX2_canTake 9 = .ok (.getfield 15, 3) := by decide +kernel
theorem dX2_canTake_12 : decode cX2_canTake 12 = .ok (.iload_n 1, 1) := by decide +kernel
theorem dX2_canTake_13 : decode cX2_canTake 13 = .ok (.iaload, 1) := by decide +kernel
theorem dX2_canTake_14 : decode cX2_canTake 14 = .ok (.iload_n 2, 1) := by decide +kernel
theorem dX2_canTake_15 : decode cX2_canTake 15 = .ok (.if_icmp .ge 7, 3) := by decide +kernel
theorem dX2_canTake_18 : decode cX2_canTake 18 = .ok (.iconst 1, 1) := by decide +kernel
theorem dX2_canTake_19 : decode cX2_canTake 19 = .ok (.goto 4, 3) := by decide +kernel
theorem dX2_canTake_22 : decode cX2_canTake 22 = .ok (.iconst 0, 1) := by decide +kernel
theorem dX2_canTake_23 : decode cX2_canTake 23 = .ok (.ireturn, 1) := by decide +kernel
theorem dX3_init_0 : decode cX3_init 0 = .ok (.aload_n 0, 1) := by decide +kernel
theorem dX3_init_1 : decode cX3_init 1 = .ok (.invokespecial 3, 3) := by decide +kernel
theorem dX3_init_4 : decode cX3_init 4 = .ok (.aload_n 0, 1) := by decide +kernel
theorem dX3_init_5 : decode cX3_init 5 = .ok (.iconst 0, 1) := by decide +kernel
theorem dX3_init_6 : decode cX3_init 6 = .ok (.putfield 9, 3) := by decide +kernel
theorem dX3_init_9 : decode cX3_init 9 = .ok (.aload_n 0, 1) := by decide +kernel
theorem dX3_init_10 : decode cX3_init 10 = .ok (.iload_n 1, 1) := by decide +kernel
theorem dX3_init_11 : decode cX3_init 11 = .ok (.putfield 15, 3) := by decide +kernel
theorem dX3_init_14 : decode cX3_init 14 = .ok (.aload_n 0, 1) := by decide +kernel
theorem dX3_init_15 : decode cX3_init 15 = .ok (.iload_n 2, 1) := by decide +kernel
theorem dX3_init_16 : decode cX3_init 16 = .ok (.putfield 19, 3) := by decide +kernel
theorem dX3_init_19 : decode cX3_init 19 = .ok (.aload_n 0, 1) := by decide +kernel
theorem dX3_init_20 : decode cX3_init 20 = .ok (.iload_n 3, 1) := by decide +kernel
theorem dX3_init_21 : decode cX3_init 21 = .ok (.putfield 22, 3) := by decide +kernel
theorem dX3_init_24 : decode cX3_init 24 = .ok (.aload_n 0, 1) := by decide +kernel
theorem dX3_init_25 : decode cX3_init 25 = .ok (.iload 4, 2) := by decide +kernel
theorem dX3_init_27 : decode cX3_init 27 = .ok (.putfield 25, 3) := by decide +kernel
theorem dX3_init_30 : decode cX3_init 30 = .ok (.return_, 1) := by decide +kernel
theorem dX3_holdsAt_0 : decode cX3_holdsAt 0 = .ok (.iload_n 1, 1) := by decide +kernel
theorem dX3_holdsAt_1 : decode cX3_holdsAt 1 = .ok (.aload_n 0, 1) := by decide +kernel
theorem dX3_holdsAt_2 : decode cX3_holdsAt 2 = .ok (.getfield 19, 3) := by decide +kernel
theorem dX3_holdsAt_5 : decode cX3_holdsAt 5 = .ok (.if_icmp .lt 15, 3) := by decide +kernel
theorem dX3_holdsAt_8 : decode cX3_holdsAt 8 = .ok (.iload_n 1, 1) := by decide +kernel
theorem dX3_holdsAt_9 : decode cX3_holdsAt 9 = .ok (.aload_n 0, 1) := by decide +kernel
theorem dX3_holdsAt_10 : decode cX3_holdsAt 10 = .ok (.getfield 22, 3) := by decide +kernel
theorem dX3_holdsAt_13 : decode cX3_holdsAt 13 = .ok (.if_icmp .ge 7, 3) := by decide +kernel
theorem dX3_holdsAt_16 : decode cX3_holdsAt 16 = .ok (.iconst 1, 1) := by decide +kernel
theorem dX3_holdsAt_17 : decode cX3_holdsAt 17 = .ok (.goto 4, 3) := by decide +kernel
theorem dX3_holdsAt_20 : decode cX3_holdsAt 20 = .ok (.iconst 0, 1) := by decide +kernel
theorem dX3_holdsAt_21 : decode cX3_holdsAt 21 = .ok (.ireturn, 1) := by decide +kernel
theorem dX3_slotCount_0 : decode cX3_slotCount 0 = .ok (.aload_n 0, 1) := by decide +kernel
theorem dX3_slotCount_1 : decode cX3_slotCount 1 = .ok (.getfield 9, 3) := by decide +kernel
theorem dX3_slotCount_4 : decode cX3_slotCount 4 = .ok (.ifCond .eq 7, 3) := by decide +kernel
theorem dX3_slotCount_7 : decode cX3_slotCount 7 = .ok (.iconst 0, 1) := by decide +kernel
theorem dX3_slotCount_8 : decode cX3_slotCount 8 = .ok (.goto 25, 3) := by decide +kernel
theorem dX3_slotCount_11 : decode cX3_slotCount 11 = .ok (.aload_n 0, 1) := by decide +kernel
theorem dX3_slotCount_12 : decode cX3_slotCount 12 = .ok (.getfield 22, 3) := by decide +kernel
theorem dX3_slotCount_15 : decode cX3_slotCount 15 = .ok (.aload_n 0, 1) := by decide +kernel
theorem dX3_slotCount_16 : decode cX3_slotCount 16 = .ok (.getfield 19, 3) := by decide +kernel
theorem dX3_slotCount_19 : decode cX3_slotCount 19 = .ok (.isub, 1) := by decide +kernel
theorem dX3_slotCount_20 : decode cX3_slotCount 20 = .ok (.aload_n 0, 1) := by decide +kernel
theorem dX3_slotCount_21 : decode cX3_slotCount 21 = .ok (.getfield 25, 3) := by decide +kernel
theorem dX3_slotCount_24 : decode cX3_slotCount 24 = .ok (.imul, 1) := by decide +kernel
theorem dX3_slotCount_25 : decode cX3_slotCount 25 = .ok (.bipush 60, 2) := by decide +kernel
theorem dX3_slotCount_27 : decode cX3_slotCount 27 = .ok (.iadd, 1) := by decide +kernel
theorem dX3_slotCount_28 : decode cX3_slotCount 28 = .ok (.iconst 1, 1) := by decide +kernel
theorem dX3_slotCount_29 : decode cX3_slotCount 29 = .ok (.isub, 1) := by decide +kernel
theorem dX3_slotCount_30 : decode cX3_slotCount 30 = .ok (.bipush 60, 2) := by decide +kernel
theorem dX3_slotCount_32 : decode cX3_slotCount 32 = .ok (.idiv, 1) := by decide +kernel
theorem dX3_slotCount_33 : decode cX3_slotCount 33 = .ok (.ireturn, 1) := by decide +kernel
theorem dX3_slotBegin_0 : decode cX3_slotBegin 0 = .ok (.aload_n 0, 1) := by decide +kernel
theorem dX3_slotBegin_1 : decode cX3_slotBegin 1 = .ok (.getfield 25, 3) := by decide +kernel
theorem dX3_slotBegin_4 : decode cX3_slotBegin 4 = .ok (.ifCond .le 20, 3) := by decide +kernel
theorem dX3_slotBegin_7 : decode cX3_slotBegin 7 = .ok (.aload_n 0, 1) := by decide +kernel
theorem dX3_slotBegin_8 : decode cX3_slotBegin 8 = .ok (.getfield 19, 3) := by decide +kernel
theorem dX3_slotBegin_11 : decode cX3_slotBegin 11 = .ok (.bipush 60, 2) := by decide +kernel
theorem dX3_slotBegin_13 : decode cX3_slotBegin 13 = .ok (.iload_n 1, 1) := by decide +kernel
theorem dX3_slotBegin_14 : decode cX3_slotBegin 14 = .ok (.imul, 1) := by decide +kernel
theorem dX3_slotBegin_15 : decode cX3_slotBegin 15 = .ok (.aload_n 0, 1) := by decide +kernel
theorem dX3_slotBegin_16 : decode cX3_slotBegin 16 = .ok (.getfield 25, 3) := by decide +kernel
theorem dX3_slotBegin_19 : decode cX3_slotBegin 19 = .ok (.idiv, 1) := by decide +kernel
theorem dX3_slotBegin_20 : decode cX3_slotBegin 20 = .ok (.iadd, 1) := by decide +kernel
theorem dX3_slotBegin_21 : decode cX3_slotBegin 21 = .ok (.goto 7, 3) := by decide +kernel
theorem dX3_slotBegin_24 : decode cX3_slotBegin 24 = .ok (.aload_n 0, 1) := by decide +kernel
theorem dX3_slotBegin_25 : decode cX3_slotBegin 25 = .ok (.getfield 22, 3) := by decide +kernel
theorem dX3_slotBegin_28 : decode cX3_slotBegin 28 = .ok (.ireturn, 1) := by decide +kernel
theorem dX3_slotEnd_0 : decode cX3_slotEnd 0 = .ok (.aload_n 0, 1) := by decide +kernel
theorem dX3_slotEnd_1 : decode cX3_slotEnd 1 = .ok (.iload_n 1, 1) := by decide +kernel
theorem dX3_slotEnd_2 : decode cX3_slotEnd 2 = .ok (.iconst 1, 1) := by decide +kernel
theorem dX3_slotEnd_3 : decode cX3_slotEnd 3 = .ok (.iadd, 1) := by decide +kernel
theorem dX3_slotEnd_4 : decode cX3_slotEnd 4 = .ok (.invokevirtual 28, 3) := by decide +kernel
theorem dX3_slotEnd_7 : decode cX3_slotEnd 7 = .ok (.aload_n 0, 1) := by decide +kernel
theorem dX3_slotEnd_8 : decode cX3_slotEnd 8 = .ok (.getfield 22, 3) := by decide +kernel
theorem dX3_slotEnd_11 : decode cX3_slotEnd 11 = .ok (.invokestatic 32, 3) := by decide +kernel
theorem dX3_slotEnd_14 : decode cX3_slotEnd 14 = .ok (.ireturn, 1) := by decide +kernel
theorem dX4_init_0 : decode cX4_init 0 = .ok (.aload_n 0, 1) := by decide +kernel
theorem dX4_init_1 : decode cX4_init 1 = .ok (.invokespecial 1, 3) := by decide +kernel
theorem dX4_init_4 : decode cX4_init 4 = .ok (.aload_n 0, 1) := by decide +kernel
theorem dX4_init_5 : decode cX4_init 5 = .ok (.new 7, 3) := by decide +kernel
theorem dX4_init_8 : decode cX4_init 8 = .ok (.dup, 1) := by decide +kernel
theorem dX4_init_9 : decode cX4_init 9 = .ok (.invokespecial 9, 3) := by decide +kernel
theorem dX4_init_12 : decode cX4_init 12 = .ok (.putfield 10, 3) := by decide +kernel
theorem dX4_init_15 : decode cX4_init 15 = .ok (.aload_n 0, 1) := by decide +kernel
theorem dX4_init_16 : decode cX4_init 16 = .ok (.new 7, 3) := by decide +kernel
theorem dX4_init_19 : decode cX4_init 19 = .ok (.dup, 1) := by decide +kernel
theorem dX4_init_20 : decode cX4_init 20 = .ok (.invokespecial 9, 3) := by decide +kernel
theorem dX4_init_23 : decode cX4_init 23 = .ok (.putfield 16, 3) := by decide +kernel
theorem dX4_init_26 : decode cX4_init 26 = .ok (.aload_n 0, 1) := by decide +kernel
theorem dX4_init_27 : decode cX4_init 27 = .ok (.new 19, 3) := by decide +kernel
theorem dX4_init_30 : decode cX4_init 30 = .ok (.dup, 1) := by decide +kernel
theorem dX4_init_31 : decode cX4_init 31 = .ok (.invokespecial 21, 3) := by decide +kernel
theorem dX4_init_34 : decode cX4_init 34 = .ok (.putfield 22, 3) := by decide +kernel
theorem dX4_init_37 : decode cX4_init 37 = .ok (.aload_n 0, 1) := by decide +kernel
theorem dX4_init_38 : decode cX4_init 38 = .ok (.new 26, 3) := by decide +kernel
theorem dX4_init_41 : decode cX4_init 41 = .ok (.dup, 1) := by decide +kernel
theorem dX4_init_42 : decode cX4_init 42 = .ok (.invokespecial 28, 3) := by decide +kernel
theorem dX4_init_45 : decode cX4_init 45 = .ok (.putfield 29, 3) := by decide +kernel
theorem dX4_init_48 : decode cX4_init 48 = .ok (.return_, 1) := by decide +kernel
theorem dX4_flight_0 : decode cX4_flight 0 = .ok (.iload_n 1, 1) := by decide +kernel
theorem dX4_flight_1 : decode cX4_flight 1 = .ok (.invokestatic 33, 3) := by decide +kernel
theorem dX4_flight_4 : decode cX4_flight 4 = .ok (.iload_n 2, 1) := by decide +kernel
theorem dX4_flight_5 : decode cX4_flight 5 = .ok (.iconst 0, 1) := by decide +kernel
theorem dX4_flight_6 : decode cX4_flight 6 = .ok (.sipush 1439, 3) := by decide +kernel
theorem dX4_flight_9 : decode cX4_flight 9 = .ok (.invokestatic 37, 3) := by decide +kernel
theorem dX4_flight_12 : decode cX4_flight 12 = .ok (.aload_n 0, 1) := by decide +kernel
theorem dX4_flight_13 : decode cX4_flight 13 = .ok (.getfield 10, 3) := by decide +kernel
theorem dX4_flight_16 : decode cX4_flight 16 = .ok (.invokevirtual 41, 3) := by decide +kernel
theorem dX4_flight_19 : decode cX4_flight 19 = .ok (.bipush 24, 2) := by decide +kernel
theorem dX4_flight_21 : decode cX4_flight 21 = .ok (.if_icmp .lt 13, 3) := by decide +kernel
theorem dX4_flight_24 : decode cX4_flight 24 = .ok (.new 45, 3) := by decide +kernel
theorem dX4_flight_27 : decode cX4_flight 27 = .ok (.dup, 1) := by decide +kernel
theorem dX4_flight_28 : decode cX4_flight 28 = .ok (.ldc 47, 2) := by decide +kernel
theorem dX4_flight_30 : decode cX4_flight 30 = .ok (.invokespecial 49, 3) := by decide +kernel
theorem dX4_flight_33 : decode cX4_flight 33 = .ok (.athrow, 1) := by decide +kernel
theorem dX4_flight_34 : decode cX4_flight 34 = .ok (.aload_n 0, 1) := by decide +kernel
theorem dX4_flight_35 : decode cX4_flight 35 = .ok (.getfield 10, 3) := by decide +kernel
theorem dX4_flight_38 : decode cX4_flight 38 = .ok (.new 52, 3) := by decide +kernel
theorem dX4_flight_41 : decode cX4_flight 41 = .ok (.dup, 1) := by decide +kernel
theorem dX4_flight_42 : decode cX4_flight 42 = .ok (.iload_n 1, 1) := by decide +kernel
theorem dX4_flight_43 : decode cX4_flight 43 = .ok (.iload_n 2, 1) := by decide +kernel
theorem dX4_flight_44 : decode cX4_flight 44 = .ok (.invokespecial 54, 3) := by decide +kernel
theorem dX4_flight_47 : decode cX4_flight 47 = .ok (.invokevirtual 57, 3) := by decide +kernel
theorem dX4_flight_50 : decode cX4_flight 50 = .ok (.pop, 1) := by decide +kernel
theorem dX4_flight_51 : decode cX4_flight 51 = .ok (.aload_n 0, 1) := by decide +kernel
theorem dX4_flight_52 : decode cX4_flight 52 = .ok (.getfield 10, 3) := by decide +kernel
theorem dX4_flight_55 : decode cX4_flight 55 = .ok (.invokevirtual 41, 3) := by decide +kernel
theorem dX4_flight_58 : decode cX4_flight 58 = .ok (.iconst 1, 1) := by decide +kernel
theorem dX4_flight_59 : decode cX4_flight 59 = .ok (.isub, 1) := by decide +kernel
theorem dX4_flight_60 : decode cX4_flight 60 = .ok (.ireturn, 1) := by decide +kernel
theorem dX4_entry_0 : decode cX4_entry 0 = .ok (.aload_n 0, 1) := by decide +kernel
theorem dX4_entry_1 : decode cX4_entry 1 = .ok (.iload_n 1, 1) := by decide +kernel
theorem dX4_entry_2 : decode cX4_entry 2 = .ok (.invokevirtual 61, 3) := by decide +kernel
theorem dX4_entry_5 : decode cX4_entry 5 = .ok (.astore 5, 2) := by decide +kernel
theorem dX4_entry_7 : decode cX4_entry 7 = .ok (.iload_n 2, 1) := by decide +kernel
theorem dX4_entry_8 : decode cX4_entry 8 = .ok (.invokestatic 65, 3) := by decide +kernel
theorem dX4_entry_11 : decode cX4_entry 11 = .ok (.iload_n 3, 1) := by decide +kernel
theorem dX4_entry_12 : decode cX4_entry 12 = .ok (.iconst 0, 1) := by decide +kernel
theorem dX4_entry_13 : decode cX4_entry 13 = .ok (.sipush 600, 3) := by decide +kernel
theorem dX4_entry_16 : decode cX4_entry 16 = .ok (.invokestatic 37, 3) := by decide +kernel
theorem dX4_entry_19 : decode cX4_entry 19 = .ok (.iload 4, 2) := by decide +kernel
theorem dX4_entry_21 : decode cX4_entry 21 = .ok (.iconst 1, 1) := by decide +kernel
theorem dX4_entry_22 : decode cX4_entry 22 = .ok (.bipush 120, 2) := by decide +kernel
theorem dX4_entry_24 : decode cX4_entry 24 = .ok (.invokestatic 37, 3) := by decide +kernel
theorem dX4_entry_27 : decode cX4_entry 27 = .ok (.aload 5, 2) := by decide +kernel
theorem dX4_entry_29 : decode cX4_entry 29 = .ok (.iload_n 2, 1) := by decide +kernel
theorem dX4_entry_30 : decode cX4_entry 30 = .ok (.iload_n 3, 1) := by decide +kernel
theorem dX4_entry_31 : decode cX4_entry 31 = .ok (.invokevirtual 68, 3) := by decide +kernel
theorem dX4_entry_34 : decode cX4_entry 34 = .ok (.ifCond .ne 13, 3) := by decide +kernel
theorem dX4_entry_37 : decode cX4_entry 37 = .ok (.new 45, 3) := by decide +kernel
theorem dX4_entry_40 : decode cX4_entry 40 = .ok (.dup, 1) := by decide +kernel
theorem dX4_entry_41 : decode cX4_entry 41 = .ok (.ldc 72, 2) := by decide +kernel
theorem dX4_entry_43 : decode cX4_entry 43 = .ok (.invokespecial 49, 3) := by decide +kernel
theorem dX4_entry_46 : decode cX4_entry 46 = .ok (.athrow, 1) := by decide +kernel
theorem dX4_entry_47 : decode cX4_entry 47 = .ok (.aload 5, 2) := by decide +kernel
theorem dX4_entry_49 : decode cX4_entry 49 = .ok (.iload_n 2, 1) := by decide +kernel
theorem dX4_entry_50 : decode cX4_entry 50 = .ok (.iload_n 3, 1) := by decide +kernel
theorem dX4_entry_51 : decode cX4_entry 51 = .ok (.iload 4, 2) := by decide +kernel
theorem dX4_entry_53 : decode cX4_entry 53 = .ok (.invokevirtual 74, 3) := by decide +kernel
theorem dX4_entry_56 : decode cX4_entry 56 = .ok (.aload 5, 2) := by decide +kernel
theorem dX4_entry_58 : decode cX4_entry 58 = .ok (.getfield 77, 3) := by decide +kernel
theorem dX4_entry_61 : decode cX4_entry 61 = .ok (.ireturn, 1) := by decide +kernel
theorem dX4_exempt_0 : decode cX4_exempt 0 = .ok (.aload_n 0, 1) := by decide +kernel
theorem dX4_exempt_1 : decode cX4_exempt 1 = .ok (.iload_n 1, 1) := by decide +kernel
theorem dX4_exempt_2 : decode cX4_exempt 2 = .ok (.invokevirtual 61, 3) := by decide +kernel
theorem dX4_exempt_5 : decode cX4_exempt 5 = .ok (.astore_n 3, 1) := by decide +kernel
theorem dX4_exempt_6 : decode cX4_exempt 6 = .ok (.aload_n 3, 1) := by decide +kernel
theorem dX4_exempt_7 : decode cX4_exempt 7 = .ok (.getfield 81, 3) := by decide +kernel
theorem dX4_exempt_10 : decode cX4_exempt 10 = .ok (.ifCond .eq 13, 3) := by decide +kernel
theorem dX4_exempt_13 : decode cX4_exempt 13 = .ok (.new 45, 3) := by decide +kernel
theorem dX4_exempt_16 : decode cX4_exempt 16 = .ok (.dup, 1) := by decide +kernel
theorem dX4_exempt_17 : decode cX4_exempt 17 = .ok (.ldc 84, 2) := by decide +kernel
theorem dX4_exempt_19 : decode cX4_exempt 19 = .ok (.invokespecial 49, 3) := by decide +kernel
theorem dX4_exempt_22 : decode cX4_exempt 22 = .ok (.athrow, 1) := by decide +kernel
theorem dX4_exempt_23 : decode cX4_exempt 23 = .ok (.aload_n 3, 1) := by decide +kernel
theorem dX4_exempt_24 : decode cX4_exempt 24 = .ok (.getfield 86, 3) := by decide +kernel
theorem dX4_exempt_27 : decode cX4_exempt 27 = .ok (.istore 4, 2) := by decide +kernel
theorem dX4_exempt_29 : decode cX4_exempt 29 = .ok (.aload_n 3, 1) := by decide +kernel
theorem dX4_exempt_30 : decode cX4_exempt 30 = .ok (.iload_n 2, 1) := by decide +kernel
theorem dX4_exempt_31 : decode cX4_exempt 31 = .ok (.putfield 86, 3) := by decide +kernel
theorem dX4_exempt_34 : decode cX4_exempt 34 = .ok (.iload_n 2, 1) := by decide +kernel
theorem dX4_exempt_35 : decode cX4_exempt 35 = .ok (.ifCond .eq 7, 3) := by decide +kernel
theorem dX4_exempt_38 : decode cX4_exempt 38 = .ok (.aload_n 3, 1) := by decide +kernel
theorem dX4_exempt_39 : decode cX4_exempt 39 = .ok (.invokevirtual 90, 3) := by decide +kernel
theorem dX4_exempt_42 : decode cX4_exempt 42 = .ok (.iload 4, 2) := by decide +kernel
theorem dX4_exempt_44 : decode cX4_exempt 44 = .ok (.ireturn, 1) := by decide +kernel
theorem dX4_flightIs_0 : decode cX4_flightIs 0 = .ok (.aload_n 0, 1) := by decide +kernel
theorem dX4_flightIs_1 : decode cX4_flightIs 1 = .ok (.iload_n 1, 1) := by decide +kernel
theorem dX4_flightIs_2 : decode cX4_flightIs 2 = .ok (.invokevirtual 61, 3) := by decide +kernel
theorem dX4_flightIs_5 : decode cX4_flightIs 5 = .ok (.astore_n 3, 1) := by decide +kernel
theorem dX4_flightIs_6 : decode cX4_flightIs 6 = .ok (.iload_n 2, 1) := by decide +kernel
theorem dX4_flightIs_7 : decode cX4_flightIs 7 = .ok (.iconst 0, 1) := by decide +kernel
theorem dX4_flightIs_8 : decode cX4_flightIs 8 = .ok (.bipush 7, 2) := by decide +kernel
theorem dX4_flightIs_10 : decode cX4_flightIs 10 = .ok (.invokestatic 37, 3) := by decide +kernel
theorem dX4_flightIs_13 : decode cX4_flightIs 13 = .ok (.iload_n 2, 1) := by decide +kernel
theorem dX4_flightIs_14 : decode cX4_flightIs 14 = .ok (.tableswitch 77 0 6 #[42, 47, 52, 57, 62, 67, 72], 42) := by decide +kernel
theorem dX4_flightIs_56 : decode cX4_flightIs 56 = .ok (.aload_n 3, 1) := by decide +kernel
theorem dX4_flightIs_57 : decode cX4_flightIs 57 = .ok (.getfield 81, 3) := by decide +kernel
theorem dX4_flightIs_60 : decode cX4_flightIs 60 = .ok (.ireturn, 1) := by decide +kernel
theorem dX4_flightIs_61 : decode cX4_flightIs 61 = .ok (.aload_n 3, 1) := by decide +kernel
theorem dX4_flightIs_62 : decode cX4_flightIs 62 = .ok (.getfield 93, 3) := by decide +kernel
theorem dX4_flightIs_65 : decode cX4_flightIs 65 = .ok (.ireturn, 1) := by decide +kernel
theorem dX4_flightIs_66 : decode cX4_flightIs 66 = .ok (.aload_n 3, 1) := by decide +kernel
theorem dX4_flightIs_67 : decode cX4_flightIs 67 = .ok (.getfield 96, 3) := by decide +kernel
theorem dX4_flightIs_70 : decode cX4_flightIs 70 = .ok (.ireturn, 1) := by decide +kernel
theorem dX4_flightIs_71 : decode cX4_flightIs 71 = .ok (.aload_n 3, 1) := by decide +kernel
theorem dX4_flightIs_72 : decode cX4_flightIs 72 = .ok (.getfield 99, 3) := by decide +kernel
theorem dX4_flightIs_75 : decode cX4_flightIs 75 = .ok (.ireturn, 1) := by decide +kernel
theorem dX4_flightIs_76 : decode cX4_flightIs 76 = .ok (.aload_n 3, 1) := by decide +kernel
theorem dX4_flightIs_77 : decode cX4_flightIs 77 = .ok (.invokevirtual 102, 3) := by decide +kernel
theorem dX4_flightIs_80 : decode cX4_flightIs 80 = .ok (.ireturn, 1) := by decide +kernel
theorem dX4_flightIs_81 : decode cX4_flightIs 81 = .ok (.aload_n 3, 1) := by decide +kernel
theorem dX4_flightIs_82 : decode cX4_flightIs 82 = .ok (.getfield 77, 3) := by decide +kernel
theorem dX4_flightIs_85 : decode cX4_flightIs 85 = .ok (.ireturn, 1) := by decide +kernel
theorem dX4_flightIs_86 : decode cX4_flightIs 86 = .ok (.aload_n 3, 1) := by decide +kernel
theorem dX4_flightIs_87 : decode cX4_flightIs 87 = .ok (.getfield 105, 3) := by decide +kernel
theorem dX4_flightIs_90 : decode cX4_flightIs 90 = .ok (.ireturn, 1) := by decide +kernel
theorem dX4_flightIs_91 : decode cX4_flightIs 91 = .ok (.aload_n 3, 1) := by decide +kernel
theorem dX4_flightIs_92 : decode cX4_flightIs 92 = .ok (.getfield 86, 3) := by decide +kernel
theorem dX4_flightIs_95 : decode cX4_flightIs 95 = .ok (.ifCond .eq 7, 3) := by decide +kernel
theorem dX4_flightIs_98 : decode cX4_flightIs 98 = .ok (.iconst 1, 1) := by decide +kernel
theorem dX4_flightIs_99 : decode cX4_flightIs 99 = .ok (.goto 4, 3) := by decide +kernel
theorem dX4_flightIs_102 : decode cX4_flightIs 102 = .ok (.iconst 0, 1) := by decide +kernel
theorem dX4_flightIs_103 : decode cX4_flightIs 103 = .ok (.ireturn, 1) := by decide +kernel
theorem dX4_over_0 : decode cX4_over 0 = .ok (.aload_n 0, 1) := by decide +kernel
theorem dX4_over_1 : decode cX4_over 1 = .ok (.iload_n 1, 1) := by decide +kernel
theorem dX4_over_2 : decode cX4_over 2 = .ok (.invokevirtual 61, 3) := by decide +kernel
theorem dX4_over_5 : decode cX4_over 5 = .ok (.astore_n 3, 1) := by decide +kernel
theorem dX4_over_6 : decode cX4_over 6 = .ok (.iload_n 2, 1) := by decide +kernel
theorem dX4_over_7 : decode cX4_over 7 = .ok (.invokestatic 65, 3) := by decide +kernel
theorem dX4_over_10 : decode cX4_over 10 = .ok (.aload_n 3, 1) := by decide +kernel
theorem dX4_over_11 : decode cX4_over 11 = .ok (.iload_n 2, 1) := by decide +kernel
theorem dX4_over_12 : decode cX4_over 12 = .ok (.invokevirtual 108, 3) := by decide +kernel
theorem dX4_over_15 : decode cX4_over 15 = .ok (.ireturn, 1) := by decide +kernel
theorem dX4_load_0 : decode cX4_load 0 = .ok (.iload_n 1, 1) := by decide +kernel
theorem dX4_load_1 : decode cX4_load 1 = .ok (.invokestatic 65, 3) := by decide +kernel
theorem dX4_load_4 : decode cX4_load 4 = .ok (.iload_n 2, 1) := by decide +kernel
theorem dX4_load_5 : decode cX4_load 5 = .ok (.iconst 0, 1) := by decide +kernel
theorem dX4_load_6 : decode cX4_load 6 = .ok (.sipush 2999, 3) := by decide +kernel
theorem dX4_load_9 : decode cX4_load 9 = .ok (.invokestatic 37, 3) := by decide +kernel
theorem dX4_load_12 : decode cX4_load 12 = .ok (.iload_n 3, 1) := by decide +kernel
theorem dX4_load_13 : decode cX4_load 13 = .ok (.iconst 1, 1) := by decide +kernel
theorem dX4_load_14 : decode cX4_load 14 = .ok (.sipush 240, 3) := by decide +kernel
theorem dX4_load_17 : decode cX4_load 17 = .ok (.invokestatic 37, 3) := by decide +kernel
theorem dX4_load_20 : decode cX4_load 20 = .ok (.aload_n 0, 1) := by decide +kernel
theorem dX4_load_21 : decode cX4_load 21 = .ok (.iload_n 1, 1) := by decide +kernel
theorem dX4_load_22 : decode cX4_load 22 = .ok (.iload_n 2, 1) := by decide +kernel
theorem dX4_load_23 : decode cX4_load 23 = .ok (.iload_n 3, 1) := by decide +kernel
theorem dX4_load_24 : decode cX4_load 24 = .ok (.invokevirtual 112, 3) := by decide +kernel
theorem dX4_load_27 : decode cX4_load 27 = .ok (.ireturn, 1) := by decide +kernel
theorem dX4_inside_0 : decode cX4_inside 0 = .ok (.iload_n 1, 1) := by decide +kernel
theorem dX4_inside_1 : decode cX4_inside 1 = .ok (.invokestatic 65, 3) := by decide +kernel
theorem dX4_inside_4 : decode cX4_inside 4 = .ok (.iload_n 2, 1) := by decide +kernel
theorem dX4_inside_5 : decode cX4_inside 5 = .ok (.iconst 0, 1) := by decide +kernel
theorem dX4_inside_6 : decode cX4_inside 6 = .ok (.sipush 2999, 3) := by decide +kernel
theorem dX4_inside_9 : decode cX4_inside 9 = .ok (.invokestatic 37, 3) := by decide +kernel
theorem dX4_inside_12 : decode cX4_inside 12 = .ok (.iconst 0, 1) := by decide +kernel
theorem dX4_inside_13 : decode cX4_inside 13 = .ok (.istore_n 3, 1) := by decide +kernel
theorem dX4_inside_14 : decode cX4_inside 14 = .ok (.iconst 0, 1) := by decide +kernel
theorem dX4_inside_15 : decode cX4_inside 15 = .ok (.istore 4, 2) := by decide +kernel
theorem dX4_inside_17 : decode cX4_inside 17 = .ok (.iload 4, 2) := by decide +kernel
theorem dX4_inside_19 : decode cX4_inside 19 = .ok (.aload_n 0, 1) := by decide +kernel
theorem dX4_inside_20 : decode cX4_inside 20 = .ok (.getfield 10, 3) := by decide +kernel
theorem dX4_inside_23 : decode cX4_inside 23 = .ok (.invokevirtual 41, 3) := by decide +kernel
theorem dX4_inside_26 : decode cX4_inside 26 = .ok (.if_icmp .ge 32, 3) := by decide +kernel
theorem dX4_inside_29 : decode cX4_inside 29 = .ok (.aload_n 0, 1) := by decide +kernel
theorem dX4_inside_30 : decode cX4_inside 30 = .ok (.getfield 10, 3) := by decide +kernel
theorem dX4_inside_33 : decode cX4_inside 33 = .ok (.iload 4, 2) := by decide +kernel
theorem dX4_inside_35 : decode cX4_inside 35 = .ok (.invokevirtual 116, 3) := by decide +kernel
theorem dX4_inside_38 : decode cX4_inside 38 = .ok (.checkcast 52, 3) := by decide +kernel
theorem dX4_inside_41 : decode cX4_inside 41 = .ok (.iload_n 1, 1) := by decide +kernel
theorem dX4_inside_42 : decode cX4_inside 42 = .ok (.iload_n 2, 1) := by decide +kernel
theorem dX4_inside_43 : decode cX4_inside 43 = .ok (.invokevirtual 120, 3) := by decide +kernel
theorem dX4_inside_46 : decode cX4_inside 46 = .ok (.ifCond .eq 6, 3) := by decide +kernel
theorem dX4_inside_49 : decode cX4_inside 49 = .ok (.iinc 3 1, 3) := by decide +kernel
theorem dX4_inside_52 : decode cX4_inside 52 = .ok (.iinc 4 1, 3) := by decide +kernel
theorem dX4_inside_55 : decode cX4_inside 55 = .ok (.goto (-38), 3) := by decide +kernel
theorem dX4_inside_58 : decode cX4_inside 58 = .ok (.iload_n 3, 1) := by decide +kernel
theorem dX4_inside_59 : decode cX4_inside 59 = .ok (.ireturn, 1) := by decide +kernel
theorem dX4_peak_0 : decode cX4_peak 0 = .ok (.iload_n 1, 1) := by decide +kernel
theorem dX4_peak_1 : decode cX4_peak 1 = .ok (.invokestatic 65, 3) := by decide +kernel
theorem dX4_peak_4 : decode cX4_peak 4 = .ok (.iload_n 2, 1) := by decide +kernel
theorem dX4_peak_5 : decode cX4_peak 5 = .ok (.iconst 1, 1) := by decide +kernel
theorem dX4_peak_6 : decode cX4_peak 6 = .ok (.sipush 240, 3) := by decide +kernel
theorem dX4_peak_9 : decode cX4_peak 9 = .ok (.invokestatic 37, 3) := by decide +kernel
theorem dX4_peak_12 : decode cX4_peak 12 = .ok (.aload_n 0, 1) := by decide +kernel
theorem dX4_peak_13 : decode cX4_peak 13 = .ok (.iload_n 1, 1) := by decide +kernel
theorem dX4_peak_14 : decode cX4_peak 14 = .ok (.invokevirtual 123, 3) := by decide +kernel
theorem dX4_peak_17 : decode cX4_peak 17 = .ok (.iconst 0, 1) := by decide +kernel
theorem dX4_peak_18 : decode cX4_peak 18 = .ok (.istore_n 3, 1) := by decide +kernel
theorem dX4_peak_19 : decode cX4_peak 19 = .ok (.iconst 0, 1) := by decide +kernel
theorem dX4_peak_20 : decode cX4_peak 20 = .ok (.istore 4, 2) := by decide +kernel
theorem dX4_peak_22 : decode cX4_peak 22 = .ok (.iconst 0, 1) := by decide +kernel
theorem dX4_peak_23 : decode cX4_peak 23 = .ok (.istore 5, 2) := by decide +kernel
theorem dX4_peak_25 : decode cX4_peak 25 = .ok (.iconst 0, 1) := by decide +kernel
theorem dX4_peak_26 : decode cX4_peak 26 = .ok (.istore 6, 2) := by decide +kernel
theorem dX4_peak_28 : decode cX4_peak 28 = .ok (.iload 6, 2) := by decide +kernel
theorem dX4_peak_30 : decode cX4_peak 30 = .ok (.sipush 2999, 3) := by decide +kernel
theorem dX4_peak_33 : decode cX4_peak 33 = .ok (.if_icmp .gt 46, 3) := by decide +kernel
theorem dX4_peak_36 : decode cX4_peak 36 = .ok (.aload_n 0, 1) := by decide +kernel
theorem dX4_peak_37 : decode cX4_peak 37 = .ok (.getfield 29, 3) := by decide +kernel
theorem dX4_peak_40 : decode cX4_peak 40 = .ok (.iload 6, 2) := by decide +kernel
theorem dX4_peak_42 : decode cX4_peak 42 = .ok (.iload_n 3, 1) := by decide +kernel
theorem dX4_peak_43 : decode cX4_peak 43 = .ok (.invokevirtual 126, 3) := by decide +kernel
theorem dX4_peak_46 : decode cX4_peak 46 = .ok (.istore_n 3, 1) := by decide +kernel
theorem dX4_peak_47 : decode cX4_peak 47 = .ok (.aload_n 0, 1) := by decide +kernel
theorem dX4_peak_48 : decode cX4_peak 48 = .ok (.getfield 29, 3) := by decide +kernel
theorem dX4_peak_51 : decode cX4_peak 51 = .ok (.iload 6, 2) := by decide +kernel
theorem dX4_peak_53 : decode cX4_peak 53 = .ok (.iload_n 2, 1) := by decide +kernel
theorem dX4_peak_54 : decode cX4_peak 54 = .ok (.iadd, 1) := by decide +kernel
theorem dX4_peak_55 : decode cX4_peak 55 = .ok (.iload 4, 2) := by decide +kernel
theorem dX4_peak_57 : decode cX4_peak 57 = .ok (.invokevirtual 126, 3) := by decide +kernel
theorem dX4_peak_60 : decode cX4_peak 60 = .ok (.istore 4, 2) := by decide +kernel
theorem dX4_peak_62 : decode cX4_peak 62 = .ok (.iload 5, 2) := by decide +kernel
theorem dX4_peak_64 : decode cX4_peak 64 = .ok (.iload 4, 2) := by decide +kernel
theorem dX4_peak_66 : decode cX4_peak 66 = .ok (.iload_n 3, 1) := by decide +kernel
theorem dX4_peak_67 : decode cX4_peak 67 = .ok (.isub, 1) := by decide +kernel
theorem dX4_peak_68 : decode cX4_peak 68 = .ok (.invokestatic 130, 3) := by decide +kernel
theorem dX4_peak_71 : decode cX4_peak 71 = .ok (.istore 5, 2) := by decide +kernel
theorem dX4_peak_73 : decode cX4_peak 73 = .ok (.iinc 6 1, 3) := by decide +kernel
theorem dX4_peak_76 : decode cX4_peak 76 = .ok (.goto (-48), 3) := by decide +kernel
theorem dX4_peak_79 : decode cX4_peak 79 = .ok (.iload 5, 2) := by decide +kernel
theorem dX4_peak_81 : decode cX4_peak 81 = .ok (.ireturn, 1) := by decide +kernel
theorem dX4_peakAnew_0 : decode cX4_peakAnew 0 = .ok (.iload_n 1, 1) := by decide +kernel
theorem dX4_peakAnew_1 : decode cX4_peakAnew 1 = .ok (.invokestatic 65, 3) := by decide +kernel
theorem dX4_peakAnew_4 : decode cX4_peakAnew 4 = .ok (.iload_n 2, 1) := by decide +kernel
theorem dX4_peakAnew_5 : decode cX4_peakAnew 5 = .ok (.iconst 1, 1) := by decide +kernel
theorem dX4_peakAnew_6 : decode cX4_peakAnew 6 = .ok (.sipush 240, 3) := by decide +kernel
theorem dX4_peakAnew_9 : decode cX4_peakAnew 9 = .ok (.invokestatic 37, 3) := by decide +kernel
theorem dX4_peakAnew_12 : decode cX4_peakAnew 12 = .ok (.iconst 0, 1) := by decide +kernel
theorem dX4_peakAnew_13 : decode cX4_peakAnew 13 = .ok (.istore_n 3, 1) := by decide +kernel
theorem dX4_peakAnew_14 : decode cX4_peakAnew 14 = .ok (.iconst 0, 1) := by decide +kernel
theorem dX4_peakAnew_15 : decode cX4_peakAnew 15 = .ok (.istore 4, 2) := by decide +kernel
theorem dX4_peakAnew_17 : decode cX4_peakAnew 17 = .ok (.iload 4, 2) := by decide +kernel
theorem dX4_peakAnew_19 : decode cX4_peakAnew 19 = .ok (.aload_n 0, 1) := by decide +kernel
theorem dX4_peakAnew_20 : decode cX4_peakAnew 20 = .ok (.getfield 10, 3) := by decide +kernel
theorem dX4_peakAnew_23 : decode cX4_peakAnew 23 = .ok (.invokevirtual 41, 3) := by decide +kernel
theorem dX4_peakAnew_26 : decode cX4_peakAnew 26 = .ok (.if_icmp .ge 49, 3) := by decide +kernel
theorem dX4_peakAnew_29 : decode cX4_peakAnew 29 = .ok (.aload_n 0, 1) := by decide +kernel
theorem dX4_peakAnew_30 : decode cX4_peakAnew 30 = .ok (.getfield 10, 3) := by decide +kernel
theorem dX4_peakAnew_33 : decode cX4_peakAnew 33 = .ok (.iload 4, 2) := by decide +kernel
theorem dX4_peakAnew_35 : decode cX4_peakAnew 35 = .ok (.invokevirtual 116, 3) := by decide +kernel
theorem dX4_peakAnew_38 : decode cX4_peakAnew 38 = .ok (.checkcast 52, 3) := by decide +kernel
theorem dX4_peakAnew_41 : decode cX4_peakAnew 41 = .ok (.astore 5, 2) := by decide +kernel
theorem dX4_peakAnew_43 : decode cX4_peakAnew 43 = .ok (.aload 5, 2) := by decide +kernel
theorem dX4_peakAnew_45 : decode cX4_peakAnew 45 = .ok (.iload_n 1, 1) := by decide +kernel
theorem dX4_peakAnew_46 : decode cX4_peakAnew 46 = .ok (.invokevirtual 135, 3) := by decide +kernel
theorem dX4_peakAnew_49 : decode cX4_peakAnew 49 = .ok (.ifCond .eq 20, 3) := by decide +kernel
theorem dX4_peakAnew_52 : decode cX4_peakAnew 52 = .ok (.iload_n 3, 1) := by decide +kernel
theorem dX4_peakAnew_53 : decode cX4_peakAnew 53 = .ok (.aload_n 0, 1) := by decide +kernel
theorem dX4_peakAnew_54 : decode cX4_peakAnew 54 = .ok (.iload_n 1, 1) := by decide +kernel
theorem dX4_peakAnew_55 : decode cX4_peakAnew 55 = .ok (.aload 5, 2) := by decide +kernel
theorem dX4_peakAnew_57 : decode cX4_peakAnew 57 = .ok (.iload_n 1, 1) := by decide +kernel
theorem dX4_peakAnew_58 : decode cX4_peakAnew 58 = .ok (.invokevirtual 108, 3) := by decide +kernel
theorem dX4_peakAnew_61 : decode cX4_peakAnew 61 = .ok (.iload_n 2, 1) := by decide +kernel
theorem dX4_peakAnew_62 : decode cX4_peakAnew 62 = .ok (.invokevirtual 112, 3) := by decide +kernel
theorem dX4_peakAnew_65 : decode cX4_peakAnew 65 = .ok (.invokestatic 130, 3) := by decide +kernel
theorem dX4_peakAnew_68 : decode cX4_peakAnew 68 = .ok (.istore_n 3, 1) := by decide +kernel
theorem dX4_peakAnew_69 : decode cX4_peakAnew 69 = .ok (.iinc 4 1, 3) := by decide +kernel
theorem dX4_peakAnew_72 : decode cX4_peakAnew 72 = .ok (.goto (-55), 3) := by decide +kernel
theorem dX4_peakAnew_75 : decode cX4_peakAnew 75 = .ok (.iload_n 3, 1) := by decide +kernel
theorem dX4_peakAnew_76 : decode cX4_peakAnew 76 = .ok (.ireturn, 1) := by decide +kernel
theorem dX4_regulation_0 : decode cX4_regulation 0 = .ok (.iload_n 1, 1) := by decide +kernel
theorem dX4_regulation_1 : decode cX4_regulation 1 = .ok (.invokestatic 65, 3) := by decide +kernel
theorem dX4_regulation_4 : decode cX4_regulation 4 = .ok (.iload_n 2, 1) := by decide +kernel
theorem dX4_regulation_5 : decode cX4_regulation 5 = .ok (.iload_n 3, 1) := by decide +kernel
theorem dX4_regulation_6 : decode cX4_regulation 6 = .ok (.iload 4, 2) := by decide +kernel
theorem dX4_regulation_8 : decode cX4_regulation 8 = .ok (.invokestatic 139, 3) := by decide +kernel
theorem dX4_regulation_11 : decode cX4_regulation 11 = .ok (.aload_n 0, 1) := by decide +kernel
theorem dX4_regulation_12 : decode cX4_regulation 12 = .ok (.getfield 16, 3) := by decide +kernel
theorem dX4_regulation_15 : decode cX4_regulation 15 = .ok (.invokevirtual 41, 3) := by decide +kernel
theorem dX4_regulation_18 : decode cX4_regulation 18 = .ok (.bipush 6, 2) := by decide +kernel
theorem dX4_regulation_20 : decode cX4_regulation 20 = .ok (.if_icmp .lt 13, 3) := by decide +kernel
theorem dX4_regulation_23 : decode cX4_regulation 23 = .ok (.new 45, 3) := by decide +kernel
theorem dX4_regulation_26 : decode cX4_regulation 26 = .ok (.dup, 1) := by decide +kernel
theorem dX4_regulation_27 : decode cX4_regulation 27 = .ok (.ldc 142, 2) := by decide +kernel
theorem dX4_regulation_29 : decode cX4_regulation 29 = .ok (.invokespecial 49, 3) := by decide +kernel
theorem dX4_regulation_32 : decode cX4_regulation 32 = .ok (.athrow, 1) := by decide +kernel
theorem dX4_regulation_33 : decode cX4_regulation 33 = .ok (.aload_n 0, 1) := by decide +kernel
theorem dX4_regulation_34 : decode cX4_regulation 34 = .ok (.getfield 16, 3) := by decide +kernel
theorem dX4_regulation_37 : decode cX4_regulation 37 = .ok (.new 144, 3) := by decide +kernel
theorem dX4_regulation_40 : decode cX4_regulation 40 = .ok (.dup, 1) := by decide +kernel
theorem dX4_regulation_41 : decode cX4_regulation 41 = .ok (.iload_n 1, 1) := by decide +kernel
theorem dX4_regulation_42 : decode cX4_regulation 42 = .ok (.iload_n 2, 1) := by decide +kernel
theorem dX4_regulation_43 : decode cX4_regulation 43 = .ok (.iload_n 3, 1) := by decide +kernel
theorem dX4_regulation_44 : decode cX4_regulation 44 = .ok (.iload 4, 2) := by decide +kernel
theorem dX4_regulation_46 : decode cX4_regulation 46 = .ok (.invokespecial 146, 3) := by decide +kernel
theorem dX4_regulation_49 : decode cX4_regulation 49 = .ok (.invokevirtual 57, 3) := by decide +kernel
theorem dX4_regulation_52 : decode cX4_regulation 52 = .ok (.pop, 1) := by decide +kernel
theorem dX4_regulation_53 : decode cX4_regulation 53 = .ok (.aload_n 0, 1) := by decide +kernel
theorem dX4_regulation_54 : decode cX4_regulation 54 = .ok (.getfield 16, 3) := by decide +kernel
theorem dX4_regulation_57 : decode cX4_regulation 57 = .ok (.invokevirtual 41, 3) := by decide +kernel
theorem dX4_regulation_60 : decode cX4_regulation 60 = .ok (.iconst 1, 1) := by decide +kernel
theorem dX4_regulation_61 : decode cX4_regulation 61 = .ok (.isub, 1) := by decide +kernel
theorem dX4_regulation_62 : decode cX4_regulation 62 = .ok (.ireturn, 1) := by decide +kernel
theorem dX4_rate_0 : decode cX4_rate 0 = .ok (.aload_n 0, 1) := by decide +kernel
theorem dX4_rate_1 : decode cX4_rate 1 = .ok (.iload_n 1, 1) := by decide +kernel
theorem dX4_rate_2 : decode cX4_rate 2 = .ok (.invokevirtual 149, 3) := by decide +kernel
theorem dX4_rate_5 : decode cX4_rate 5 = .ok (.astore_n 3, 1) := by decide +kernel
theorem dX4_rate_6 : decode cX4_rate 6 = .ok (.iload_n 2, 1) := by decide +kernel
theorem dX4_rate_7 : decode cX4_rate 7 = .ok (.iconst 0, 1) := by decide +kernel
theorem dX4_rate_8 : decode cX4_rate 8 = .ok (.bipush 60, 2) := by decide +kernel
theorem dX4_rate_10 : decode cX4_rate 10 = .ok (.invokestatic 37, 3) := by decide +kernel
theorem dX4_rate_13 : decode cX4_rate 13 = .ok (.aload_n 3, 1) := by decide +kernel
theorem dX4_rate_14 : decode cX4_rate 14 = .ok (.invokestatic 153, 3) := by decide +kernel
theorem dX4_rate_17 : decode cX4_rate 17 = .ok (.aload_n 3, 1) := by decide +kernel
theorem dX4_rate_18 : decode cX4_rate 18 = .ok (.getfield 157, 3) := by decide +kernel
theorem dX4_rate_21 : decode cX4_rate 21 = .ok (.istore 4, 2) := by decide +kernel
theorem dX4_rate_23 : decode cX4_rate 23 = .ok (.aload_n 3, 1) := by decide +kernel
theorem dX4_rate_24 : decode cX4_rate 24 = .ok (.iload_n 2, 1) := by decide +kernel
theorem dX4_rate_25 : decode cX4_rate 25 = .ok (.putfield 157, 3) := by decide +kernel
theorem dX4_rate_28 : decode cX4_rate 28 = .ok (.iload 4, 2) := by decide +kernel
theorem dX4_rate_30 : decode cX4_rate 30 = .ok (.ireturn, 1) := by decide +kernel
theorem dX4_end_0 : decode cX4_end 0 = .ok (.aload_n 0, 1) := by decide +kernel
theorem dX4_end_1 : decode cX4_end 1 = .ok (.iload_n 1, 1) := by decide +kernel
theorem dX4_end_2 : decode cX4_end 2 = .ok (.invokevirtual 149, 3) := by decide +kernel
theorem dX4_end_5 : decode cX4_end 5 = .ok (.astore_n 2, 1) := by decide +kernel
theorem dX4_end_6 : decode cX4_end 6 = .ok (.aload_n 2, 1) := by decide +kernel
theorem dX4_end_7 : decode cX4_end 7 = .ok (.invokestatic 153, 3) := by decide +kernel
theorem dX4_end_10 : decode cX4_end 10 = .ok (.aload_n 2, 1) := by decide +kernel
theorem dX4_end_11 : decode cX4_end 11 = .ok (.iconst 1, 1) := by decide +kernel
theorem dX4_end_12 : decode cX4_end 12 = .ok (.putfield 160, 3) := by decide +kernel
theorem dX4_end_15 : decode cX4_end 15 = .ok (.return_, 1) := by decide +kernel
theorem dX4_regulationIs_0 : decode cX4_regulationIs 0 = .ok (.aload_n 0, 1) := by decide +kernel
theorem dX4_regulationIs_1 : decode cX4_regulationIs 1 = .ok (.iload_n 1, 1) := by decide +kernel
theorem dX4_regulationIs_2 : decode cX4_regulationIs 2 = .ok (.invokevirtual 149, 3) := by decide +kernel
theorem dX4_regulationIs_5 : decode cX4_regulationIs 5 = .ok (.astore_n 3, 1) := by decide +kernel
theorem dX4_regulationIs_6 : decode cX4_regulationIs 6 = .ok (.iload_n 2, 1) := by decide +kernel
theorem dX4_regulationIs_7 : decode cX4_regulationIs 7 = .ok (.iconst 0, 1) := by decide +kernel
theorem dX4_regulationIs_8 : decode cX4_regulationIs 8 = .ok (.bipush 6, 2) := by decide +kernel
theorem dX4_regulationIs_10 : decode cX4_regulationIs 10 = .ok (.invokestatic 37, 3) := by decide +kernel
theorem dX4_regulationIs_13 : decode cX4_regulationIs 13 = .ok (.aload_n 0, 1) := by decide +kernel
theorem dX4_regulationIs_14 : decode cX4_regulationIs 14 = .ok (.getfield 22, 3) := by decide +kernel
theorem dX4_regulationIs_17 : decode cX4_regulationIs 17 = .ok (.aload_n 3, 1) := by decide +kernel
theorem dX4_regulationIs_18 : decode cX4_regulationIs 18 = .ok (.aload_n 0, 1) := by decide +kernel
theorem dX4_regulationIs_19 : decode cX4_regulationIs 19 = .ok (.getfield 10, 3) := by decide +kernel
theorem dX4_regulationIs_22 : decode cX4_regulationIs 22 = .ok (.invokevirtual 163, 3) := by decide +kernel
theorem dX4_regulationIs_25 : decode cX4_regulationIs 25 = .ok (.iload_n 2, 1) := by decide +kernel
theorem dX4_regulationIs_26 : decode cX4_regulationIs 26 = .ok (.tableswitch 89 0 5 #[38, 46, 54, 65, 76, 84], 38) := by decide +kernel
theorem dX4_regulationIs_64 : decode cX4_regulationIs 64 = .ok (.aload_n 0, 1) := by decide +kernel
theorem dX4_regulationIs_65 : decode cX4_regulationIs 65 = .ok (.getfield 22, 3) := by decide +kernel
theorem dX4_regulationIs_68 : decode cX4_regulationIs 68 = .ok (.getfield 167, 3) := by decide +kernel
theorem dX4_regulationIs_71 : decode cX4_regulationIs 71 = .ok (.ireturn, 1) := by decide +kernel
theorem dX4_regulationIs_72 : decode cX4_regulationIs 72 = .ok (.aload_n 0, 1) := by decide +kernel
theorem dX4_regulationIs_73 : decode cX4_regulationIs 73 = .ok (.getfield 22, 3) := by decide +kernel
theorem dX4_regulationIs_76 : decode cX4_regulationIs 76 = .ok (.getfield 170, 3) := by decide +kernel
theorem dX4_regulationIs_79 : decode cX4_regulationIs 79 = .ok (.ireturn, 1) := by decide +kernel
theorem dX4_regulationIs_80 : decode cX4_regulationIs 80 = .ok (.aload_n 0, 1) := by decide +kernel
theorem dX4_regulationIs_81 : decode cX4_regulationIs 81 = .ok (.getfield 22, 3) := by decide +kernel
theorem dX4_regulationIs_84 : decode cX4_regulationIs 84 = .ok (.getfield 173, 3) := by decide +kernel
theorem dX4_regulationIs_87 : decode cX4_regulationIs 87 = .ok (.getfield 176, 3) := by decide +kernel
theorem dX4_regulationIs_90 : decode cX4_regulationIs 90 = .ok (.ireturn, 1) := by decide +kernel
theorem dX4_regulationIs_91 : decode cX4_regulationIs 91 = .ok (.aload_n 0, 1) := by decide +kernel
theorem dX4_regulationIs_92 : decode cX4_regulationIs 92 = .ok (.getfield 22, 3) := by decide +kernel
theorem dX4_regulationIs_95 : decode cX4_regulationIs 95 = .ok (.getfield 179, 3) := by decide +kernel
theorem dX4_regulationIs_98 : decode cX4_regulationIs 98 = .ok (.getfield 176, 3) := by decide +kernel
theorem dX4_regulationIs_101 : decode cX4_regulationIs 101 = .ok (.ireturn, 1) := by decide +kernel
theorem dX4_regulationIs_102 : decode cX4_regulationIs 102 = .ok (.aload_n 0, 1) := by decide +kernel
theorem dX4_regulationIs_103 : decode cX4_regulationIs 103 = .ok (.getfield 22, 3) := by decide +kernel
theorem dX4_regulationIs_106 : decode cX4_regulationIs 106 = .ok (.getfield 182, 3) := by decide +kernel
theorem dX4_regulationIs_109 : decode cX4_regulationIs 109 = .ok (.ireturn, 1) := by decide +kernel
theorem dX4_regulationIs_110 : decode cX4_regulationIs 110 = .ok (.aload_n 3, 1) := by decide +kernel
theorem dX4_regulationIs_111 : decode cX4_regulationIs 111 = .ok (.getfield 157, 3) := by decide +kernel
theorem dX4_regulationIs_114 : decode cX4_regulationIs 114 = .ok (.ireturn, 1) := by decide +kernel
theorem dX4_regulationIs_115 : decode cX4_regulationIs 115 = .ok (.aload_n 0, 1) := by decide +kernel
theorem dX4_regulationIs_116 : decode cX4_regulationIs 116 = .ok (.iload_n 1, 1) := by decide +kernel
theorem dX4_regulationIs_117 : decode cX4_regulationIs 117 = .ok (.invokevirtual 185, 3) := by decide +kernel
theorem dX4_regulationIs_120 : decode cX4_regulationIs 120 = .ok (.ireturn, 1) := by decide +kernel
theorem dX4_slot_0 : decode cX4_slot 0 = .ok (.aload_n 0, 1) := by decide +kernel
theorem dX4_slot_1 : decode cX4_slot 1 = .ok (.iload_n 1, 1) := by decide +kernel
theorem dX4_slot_2 : decode cX4_slot 2 = .ok (.invokevirtual 149, 3) := by decide +kernel
theorem dX4_slot_5 : decode cX4_slot 5 = .ok (.astore_n 3, 1) := by decide +kernel
theorem dX4_slot_6 : decode cX4_slot 6 = .ok (.iload_n 2, 1) := by decide +kernel
theorem dX4_slot_7 : decode cX4_slot 7 = .ok (.ifCond .ge 13, 3) := by decide +kernel
theorem dX4_slot_10 : decode cX4_slot 10 = .ok (.new 188, 3) := by decide +kernel
theorem dX4_slot_13 : decode cX4_slot 13 = .ok (.dup, 1) := by decide +kernel
theorem dX4_slot_14 : decode cX4_slot 14 = .ok (.ldc 190, 2) := by decide +kernel
theorem dX4_slot_16 : decode cX4_slot 16 = .ok (.invokespecial 192, 3) := by decide +kernel
theorem dX4_slot_19 : decode cX4_slot 19 = .ok (.athrow, 1) := by decide +kernel
theorem dX4_slot_20 : decode cX4_slot 20 = .ok (.iload_n 2, 1) := by decide +kernel
theorem dX4_slot_21 : decode cX4_slot 21 = .ok (.aload_n 3, 1) := by decide +kernel
theorem dX4_slot_22 : decode cX4_slot 22 = .ok (.invokevirtual 193, 3) := by decide +kernel
theorem dX4_slot_25 : decode cX4_slot 25 = .ok (.if_icmp .ge 11, 3) := by decide +kernel
theorem dX4_slot_28 : decode cX4_slot 28 = .ok (.aload_n 3, 1) := by decide +kernel
theorem dX4_slot_29 : decode cX4_slot 29 = .ok (.iload_n 2, 1) := by decide +kernel
theorem dX4_slot_30 : decode cX4_slot 30 = .ok (.invokevirtual 195, 3) := by decide +kernel
theorem dX4_slot_33 : decode cX4_slot 33 = .ok (.goto 4, 3) := by decide +kernel
theorem dX4_slot_36 : decode cX4_slot 36 = .ok (.iconst (-1), 1) := by decide +kernel
theorem dX4_slot_37 : decode cX4_slot 37 = .ok (.ireturn, 1) := by decide +kernel
theorem dX4_penalty_0 : decode cX4_penalty 0 = .ok (.aload_n 0, 1) := by decide +kernel
theorem dX4_penalty_1 : decode cX4_penalty 1 = .ok (.iload_n 1, 1) := by decide +kernel
theorem dX4_penalty_2 : decode cX4_penalty 2 = .ok (.invokevirtual 61, 3) := by decide +kernel
theorem dX4_penalty_5 : decode cX4_penalty 5 = .ok (.pop, 1) := by decide +kernel
theorem dX4_penalty_6 : decode cX4_penalty 6 = .ok (.aload_n 0, 1) := by decide +kernel
theorem dX4_penalty_7 : decode cX4_penalty 7 = .ok (.iload_n 2, 1) := by decide +kernel
theorem dX4_penalty_8 : decode cX4_penalty 8 = .ok (.invokevirtual 149, 3) := by decide +kernel
theorem dX4_penalty_11 : decode cX4_penalty 11 = .ok (.astore_n 3, 1) := by decide +kernel
theorem dX4_penalty_12 : decode cX4_penalty 12 = .ok (.aload_n 0, 1) := by decide +kernel
theorem dX4_penalty_13 : decode cX4_penalty 13 = .ok (.getfield 22, 3) := by decide +kernel
theorem dX4_penalty_16 : decode cX4_penalty 16 = .ok (.aload_n 3, 1) := by decide +kernel
theorem dX4_penalty_17 : decode cX4_penalty 17 = .ok (.aload_n 0, 1) := by decide +kernel
theorem dX4_penalty_18 : decode cX4_penalty 18 = .ok (.getfield 10, 3) := by decide +kernel
theorem dX4_penalty_21 : decode cX4_penalty 21 = .ok (.invokevirtual 163, 3) := by decide +kernel
theorem dX4_penalty_24 : decode cX4_penalty 24 = .ok (.aload_n 0, 1) := by decide +kernel
theorem dX4_penalty_25 : decode cX4_penalty 25 = .ok (.getfield 22, 3) := by decide +kernel
theorem dX4_penalty_28 : decode cX4_penalty 28 = .ok (.getfield 179, 3) := by decide +kernel
theorem dX4_penalty_31 : decode cX4_penalty 31 = .ok (.iload_n 1, 1) := by decide +kernel
theorem dX4_penalty_32 : decode cX4_penalty 32 = .ok (.invokevirtual 198, 3) := by decide +kernel
theorem dX4_penalty_35 : decode cX4_penalty 35 = .ok (.ireturn, 1) := by decide +kernel
theorem dX4_due_0 : decode cX4_due 0 = .ok (.aload_n 0, 1) := by decide +kernel
theorem dX4_due_1 : decode cX4_due 1 = .ok (.iload_n 1, 1) := by decide +kernel
theorem dX4_due_2 : decode cX4_due 2 = .ok (.invokevirtual 61, 3) := by decide +kernel
theorem dX4_due_5 : decode cX4_due 5 = .ok (.astore_n 2, 1) := by decide +kernel
theorem dX4_due_6 : decode cX4_due 6 = .ok (.aload_n 0, 1) := by decide +kernel
theorem dX4_due_7 : decode cX4_due 7 = .ok (.invokevirtual 201, 3) := by decide +kernel
theorem dX4_due_10 : decode cX4_due 10 = .ok (.aload_n 2, 1) := by decide +kernel
theorem dX4_due_11 : decode cX4_due 11 = .ok (.getfield 204, 3) := by decide +kernel
theorem dX4_due_14 : decode cX4_due 14 = .ok (.ireturn, 1) := by decide +kernel
theorem dX4_dueAnew_0 : decode cX4_dueAnew 0 = .ok (.aload_n 0, 1) := by decide +kernel
theorem dX4_dueAnew_1 : decode cX4_dueAnew 1 = .ok (.iload_n 1, 1) := by decide +kernel
theorem dX4_dueAnew_2 : decode cX4_dueAnew 2 = .ok (.invokevirtual 61, 3) := by decide +kernel
theorem dX4_dueAnew_5 : decode cX4_dueAnew 5 = .ok (.pop, 1) := by decide +kernel
theorem dX4_dueAnew_6 : decode cX4_dueAnew 6 = .ok (.iconst 0, 1) := by decide +kernel
theorem dX4_dueAnew_7 : decode cX4_dueAnew 7 = .ok (.istore_n 2, 1) := by decide +kernel
theorem dX4_dueAnew_8 : decode cX4_dueAnew 8 = .ok (.iconst 0, 1) := by decide +kernel
theorem dX4_dueAnew_9 : decode cX4_dueAnew 9 = .ok (.istore_n 3, 1) := by decide +kernel
theorem dX4_dueAnew_10 : decode cX4_dueAnew 10 = .ok (.iload_n 3, 1) := by decide +kernel
theorem dX4_dueAnew_11 : decode cX4_dueAnew 11 = .ok (.aload_n 0, 1) := by decide +kernel
theorem dX4_dueAnew_12 : decode cX4_dueAnew 12 = .ok (.getfield 16, 3) := by decide +kernel
theorem dX4_dueAnew_15 : decode cX4_dueAnew 15 = .ok (.invokevirtual 41, 3) := by decide +kernel
theorem dX4_dueAnew_18 : decode cX4_dueAnew 18 = .ok (.if_icmp .ge 37, 3) := by decide +kernel
theorem dX4_dueAnew_21 : decode cX4_dueAnew 21 = .ok (.iload_n 2, 1) := by decide +kernel
theorem dX4_dueAnew_22 : decode cX4_dueAnew 22 = .ok (.aload_n 0, 1) := by decide +kernel
theorem dX4_dueAnew_23 : decode cX4_dueAnew 23 = .ok (.getfield 22, 3) := by decide +kernel
theorem dX4_dueAnew_26 : decode cX4_dueAnew 26 = .ok (.aload_n 0, 1) := by decide +kernel
theorem dX4_dueAnew_27 : decode cX4_dueAnew 27 = .ok (.getfield 16, 3) := by decide +kernel
theorem dX4_dueAnew_30 : decode cX4_dueAnew 30 = .ok (.iload_n 3, 1) := by decide +kernel
theorem dX4_dueAnew_31 : decode cX4_dueAnew 31 = .ok (.invokevirtual 116, 3) := by decide +kernel
theorem dX4_dueAnew_34 : decode cX4_dueAnew 34 = .ok (.checkcast 144, 3) := by decide +kernel
theorem dX4_dueAnew_37 : decode cX4_dueAnew 37 = .ok (.aload_n 0, 1) := by decide +kernel
theorem dX4_dueAnew_38 : decode cX4_dueAnew 38 = .ok (.getfield 10, 3) := by decide +kernel
theorem dX4_dueAnew_41 : decode cX4_dueAnew 41 = .ok (.iload_n 1, 1) := by decide +kernel
theorem dX4_dueAnew_42 : decode cX4_dueAnew 42 = .ok (.invokevirtual 207, 3) := by decide +kernel
theorem dX4_dueAnew_45 : decode cX4_dueAnew 45 = .ok (.invokestatic 130, 3) := by decide +kernel
theorem dX4_dueAnew_48 : decode cX4_dueAnew 48 = .ok (.istore_n 2, 1) := by decide +kernel
theorem dX4_dueAnew_49 : decode cX4_dueAnew 49 = .ok (.iinc 3 1, 3) := by decide +kernel
theorem dX4_dueAnew_52 : decode cX4_dueAnew 52 = .ok (.goto (-42), 3) := by decide +kernel
theorem dX4_dueAnew_55 : decode cX4_dueAnew 55 = .ok (.iload_n 2, 1) := by decide +kernel
theorem dX4_dueAnew_56 : decode cX4_dueAnew 56 = .ok (.ireturn, 1) := by decide +kernel
theorem dX4_allDue_0 : decode cX4_allDue 0 = .ok (.aload_n 0, 1) := by decide +kernel
theorem dX4_allDue_1 : decode cX4_allDue 1 = .ok (.invokevirtual 201, 3) := by decide +kernel
theorem dX4_allDue_4 : decode cX4_allDue 4 = .ok (.aload_n 0, 1) := by decide +kernel
theorem dX4_allDue_5 : decode cX4_allDue 5 = .ok (.invokevirtual 211, 3) := by decide +kernel
theorem dX4_allDue_8 : decode cX4_allDue 8 = .ok (.ireturn, 1) := by decide +kernel
theorem dX4_would_0 : decode cX4_would 0 = .ok (.iload_n 1, 1) := by decide +kernel
theorem dX4_would_1 : decode cX4_would 1 = .ok (.invokestatic 65, 3) := by decide +kernel
theorem dX4_would_4 : decode cX4_would 4 = .ok (.iload_n 2, 1) := by decide +kernel
theorem dX4_would_5 : decode cX4_would 5 = .ok (.iload_n 3, 1) := by decide +kernel
theorem dX4_would_6 : decode cX4_would 6 = .ok (.iload 4, 2) := by decide +kernel
theorem dX4_would_8 : decode cX4_would 8 = .ok (.invokestatic 139, 3) := by decide +kernel
theorem dX4_would_11 : decode cX4_would 11 = .ok (.aload_n 0, 1) := by decide +kernel
theorem dX4_would_12 : decode cX4_would 12 = .ok (.invokevirtual 201, 3) := by decide +kernel
theorem dX4_would_15 : decode cX4_would 15 = .ok (.aload_n 0, 1) := by decide +kernel
theorem dX4_would_16 : decode cX4_would 16 = .ok (.new 144, 3) := by decide +kernel
theorem dX4_would_19 : decode cX4_would 19 = .ok (.dup, 1) := by decide +kernel
theorem dX4_would_20 : decode cX4_would 20 = .ok (.iload_n 1, 1) := by decide +kernel
theorem dX4_would_21 : decode cX4_would 21 = .ok (.iload_n 2, 1) := by decide +kernel
theorem dX4_would_22 : decode cX4_would 22 = .ok (.iload_n 3, 1) := by decide +kernel
theorem dX4_would_23 : decode cX4_would 23 = .ok (.iload 4, 2) := by decide +kernel
theorem dX4_would_25 : decode cX4_would 25 = .ok (.invokespecial 146, 3) := by decide +kernel
theorem dX4_would_28 : decode cX4_would 28 = .ok (.aload_n 0, 1) := by decide +kernel
theorem dX4_would_29 : decode cX4_would 29 = .ok (.getfield 16, 3) := by decide +kernel
theorem dX4_would_32 : decode cX4_would 32 = .ok (.invokevirtual 41, 3) := by decide +kernel
theorem dX4_would_35 : decode cX4_would 35 = .ok (.invokevirtual 214, 3) := by decide +kernel
theorem dX4_would_38 : decode cX4_would 38 = .ok (.aload_n 0, 1) := by decide +kernel
theorem dX4_would_39 : decode cX4_would 39 = .ok (.invokevirtual 211, 3) := by decide +kernel
theorem dX4_would_42 : decode cX4_would 42 = .ok (.ireturn, 1) := by decide +kernel
theorem dX4_deal_0 : decode cX4_deal 0 = .ok (.aload_n 0, 1) := by decide +kernel
theorem dX4_deal_1 : decode cX4_deal 1 = .ok (.invokevirtual 201, 3) := by decide +kernel
theorem dX4_deal_4 : decode cX4_deal 4 = .ok (.iconst 0, 1) := by decide +kernel
theorem dX4_deal_5 : decode cX4_deal 5 = .ok (.istore_n 2, 1) := by decide +kernel
theorem dX4_deal_6 : decode cX4_deal 6 = .ok (.iconst 0, 1) := by decide +kernel
theorem dX4_deal_7 : decode cX4_deal 7 = .ok (.istore_n 3, 1) := by decide +kernel
theorem dX4_deal_8 : decode cX4_deal 8 = .ok (.iload_n 3, 1) := by decide +kernel
theorem dX4_deal_9 : decode cX4_deal 9 = .ok (.aload_n 0, 1) := by decide +kernel
theorem dX4_deal_10 : decode cX4_deal 10 = .ok (.getfield 10, 3) := by decide +kernel
theorem dX4_deal_13 : decode cX4_deal 13 = .ok (.invokevirtual 41, 3) := by decide +kernel
theorem dX4_deal_16 : decode cX4_deal 16 = .ok (.if_icmp .ge 44, 3) := by decide +kernel
theorem dX4_deal_19 : decode cX4_deal 19 = .ok (.aload_n 0, 1) := by decide +kernel
theorem dX4_deal_20 : decode cX4_deal 20 = .ok (.getfield 10, 3) := by decide +kernel
theorem dX4_deal_23 : decode cX4_deal 23 = .ok (.iload_n 3, 1) := by decide +kernel
theorem dX4_deal_24 : decode cX4_deal 24 = .ok (.invokevirtual 116, 3) := by decide +kernel
theorem dX4_deal_27 : decode cX4_deal 27 = .ok (.checkcast 52, 3) := by decide +kernel
theorem dX4_deal_30 : decode cX4_deal 30 = .ok (.astore 4, 2) := by decide +kernel
theorem dX4_deal_32 : decode cX4_deal 32 = .ok (.aload 4, 2) := by decide +kernel
theorem dX4_deal_34 : decode cX4_deal 34 = .ok (.getfield 81, 3) := by decide +kernel
theorem dX4_deal_37 : decode cX4_deal 37 = .ok (.ifCond .ne 17, 3) := by decide +kernel
theorem dX4_deal_40 : decode cX4_deal 40 = .ok (.aload 4, 2) := by decide +kernel
theorem dX4_deal_42 : decode cX4_deal 42 = .ok (.iload_n 1, 1) := by decide +kernel
theorem dX4_deal_43 : decode cX4_deal 43 = .ok (.invokevirtual 218, 3) := by decide +kernel
theorem dX4_deal_46 : decode cX4_deal 46 = .ok (.iload_n 2, 1) := by decide +kernel
theorem dX4_deal_47 : decode cX4_deal 47 = .ok (.aload 4, 2) := by decide +kernel
theorem dX4_deal_49 : decode cX4_deal 49 = .ok (.invokevirtual 222, 3) := by decide +kernel
theorem dX4_deal_52 : decode cX4_deal 52 = .ok (.iadd, 1) := by decide +kernel
theorem dX4_deal_53 : decode cX4_deal 53 = .ok (.istore_n 2, 1) := by decide +kernel
theorem dX4_deal_54 : decode cX4_deal 54 = .ok (.iinc 3 1, 3) := by decide +kernel
theorem dX4_deal_57 : decode cX4_deal 57 = .ok (.goto (-49), 3) := by decide +kernel
theorem dX4_deal_60 : decode cX4_deal 60 = .ok (.iload_n 2, 1) := by decide +kernel
theorem dX4_deal_61 : decode cX4_deal 61 = .ok (.ireturn, 1) := by decide +kernel
theorem dX4_swap_0 : decode cX4_swap 0 = .ok (.aload_n 0, 1) := by decide +kernel
theorem dX4_swap_1 : decode cX4_swap 1 = .ok (.iload_n 1, 1) := by decide +kernel
theorem dX4_swap_2 : decode cX4_swap 2 = .ok (.invokevirtual 61, 3) := by decide +kernel
theorem dX4_swap_5 : decode cX4_swap 5 = .ok (.astore_n 3, 1) := by decide +kernel
theorem dX4_swap_6 : decode cX4_swap 6 = .ok (.aload_n 0, 1) := by decide +kernel
theorem dX4_swap_7 : decode cX4_swap 7 = .ok (.iload_n 2, 1) := by decide +kernel
theorem dX4_swap_8 : decode cX4_swap 8 = .ok (.invokevirtual 61, 3) := by decide +kernel
theorem dX4_swap_11 : decode cX4_swap 11 = .ok (.astore 4, 2) := by decide +kernel
theorem dX4_swap_13 : decode cX4_swap 13 = .ok (.iload_n 1, 1) := by decide +kernel
theorem dX4_swap_14 : decode cX4_swap 14 = .ok (.iload_n 2, 1) := by decide +kernel
theorem dX4_swap_15 : decode cX4_swap 15 = .ok (.if_icmp .ne 13, 3) := by decide +kernel
theorem dX4_swap_18 : decode cX4_swap 18 = .ok (.new 225, 3) := by decide +kernel
theorem dX4_swap_21 : decode cX4_swap 21 = .ok (.dup, 1) := by decide +kernel
theorem dX4_swap_22 : decode cX4_swap 22 = .ok (.ldc 227, 2) := by decide +kernel
theorem dX4_swap_24 : decode cX4_swap 24 = .ok (.invokespecial 229, 3) := by decide +kernel
theorem dX4_swap_27 : decode cX4_swap 27 = .ok (.athrow, 1) := by decide +kernel
theorem dX4_swap_28 : decode cX4_swap 28 = .ok (.aload_n 3, 1) := by decide +kernel
theorem dX4_swap_29 : decode cX4_swap 29 = .ok (.aload 4, 2) := by decide +kernel
theorem dX4_swap_31 : decode cX4_swap 31 = .ok (.invokevirtual 230, 3) := by decide +kernel
theorem dX4_swap_34 : decode cX4_swap 34 = .ok (.ifCond .ne 13, 3) := by decide +kernel
theorem dX4_swap_37 : decode cX4_swap 37 = .ok (.new 45, 3) := by decide +kernel
theorem dX4_swap_40 : decode cX4_swap 40 = .ok (.dup, 1) := by decide +kernel
theorem dX4_swap_41 : decode cX4_swap 41 = .ok (.ldc 234, 2) := by decide +kernel
theorem dX4_swap_43 : decode cX4_swap 43 = .ok (.invokespecial 49, 3) := by decide +kernel
theorem dX4_swap_46 : decode cX4_swap 46 = .ok (.athrow, 1) := by decide +kernel
theorem dX4_swap_47 : decode cX4_swap 47 = .ok (.aload_n 0, 1) := by decide +kernel
theorem dX4_swap_48 : decode cX4_swap 48 = .ok (.aload_n 3, 1) := by decide +kernel
theorem dX4_swap_49 : decode cX4_swap 49 = .ok (.getfield 99, 3) := by decide +kernel
theorem dX4_swap_52 : decode cX4_swap 52 = .ok (.invokevirtual 149, 3) := by decide +kernel
theorem dX4_swap_55 : decode cX4_swap 55 = .ok (.getfield 236, 3) := by decide +kernel
theorem dX4_swap_58 : decode cX4_swap 58 = .ok (.istore 5, 2) := by decide +kernel
theorem dX4_swap_60 : decode cX4_swap 60 = .ok (.aload 4, 2) := by decide +kernel
theorem dX4_swap_62 : decode cX4_swap 62 = .ok (.iload 5, 2) := by decide +kernel
theorem dX4_swap_64 : decode cX4_swap 64 = .ok (.invokevirtual 108, 3) := by decide +kernel
theorem dX4_swap_67 : decode cX4_swap 67 = .ok (.aload_n 3, 1) := by decide +kernel
theorem dX4_swap_68 : decode cX4_swap 68 = .ok (.iload 5, 2) := by decide +kernel
theorem dX4_swap_70 : decode cX4_swap 70 = .ok (.invokevirtual 239, 3) := by decide +kernel
theorem dX4_swap_73 : decode cX4_swap 73 = .ok (.isub, 1) := by decide +kernel
theorem dX4_swap_74 : decode cX4_swap 74 = .ok (.istore 6, 2) := by decide +kernel
theorem dX4_swap_76 : decode cX4_swap 76 = .ok (.aload_n 3, 1) := by decide +kernel
theorem dX4_swap_77 : decode cX4_swap 77 = .ok (.iload 5, 2) := by decide +kernel
theorem dX4_swap_79 : decode cX4_swap 79 = .ok (.invokevirtual 108, 3) := by decide +kernel
theorem dX4_swap_82 : decode cX4_swap 82 = .ok (.aload 4, 2) := by decide +kernel
theorem dX4_swap_84 : decode cX4_swap 84 = .ok (.iload 5, 2) := by decide +kernel
theorem dX4_swap_86 : decode cX4_swap 86 = .ok (.invokevirtual 239, 3) := by decide +kernel
theorem dX4_swap_89 : decode cX4_swap 89 = .ok (.isub, 1) := by decide +kernel
theorem dX4_swap_90 : decode cX4_swap 90 = .ok (.istore 7, 2) := by decide +kernel
theorem dX4_swap_92 : decode cX4_swap 92 = .ok (.iload 6, 2) := by decide +kernel
theorem dX4_swap_94 : decode cX4_swap 94 = .ok (.aload_n 3, 1) := by decide +kernel
theorem dX4_swap_95 : decode cX4_swap 95 = .ok (.getfield 93, 3) := by decide +kernel
theorem dX4_swap_98 : decode cX4_swap 98 = .ok (.if_icmp .lt 13, 3) := by decide +kernel
theorem dX4_swap_101 : decode cX4_swap 101 = .ok (.iload 7, 2) := by decide +kernel
theorem dX4_swap_103 : decode cX4_swap 103 = .ok (.aload 4, 2) := by decide +kernel
theorem dX4_swap_105 : decode cX4_swap 105 = .ok (.getfield 93, 3) := by decide +kernel
theorem dX4_swap_108 : decode cX4_swap 108 = .ok (.if_icmp .ge 13, 3) := by decide +kernel
theorem dX4_swap_111 : decode cX4_swap 111 = .ok (.new 45, 3) := by decide +kernel
theorem dX4_swap_114 : decode cX4_swap 114 = .ok (.dup, 1) := by decide +kernel
theorem dX4_swap_115 : decode cX4_swap 115 = .ok (.ldc 242, 2) := by decide +kernel
theorem dX4_swap_117 : decode cX4_swap 117 = .ok (.invokespecial 49, 3) := by decide +kernel
theorem dX4_swap_120 : decode cX4_swap 120 = .ok (.athrow, 1) := by decide +kernel
theorem dX4_swap_121 : decode cX4_swap 121 = .ok (.aload_n 3, 1) := by decide +kernel
theorem dX4_swap_122 : decode cX4_swap 122 = .ok (.iload 6, 2) := by decide +kernel
theorem dX4_swap_124 : decode cX4_swap 124 = .ok (.putfield 96, 3) := by decide +kernel
theorem dX4_swap_127 : decode cX4_swap 127 = .ok (.aload 4, 2) := by decide +kernel
theorem dX4_swap_129 : decode cX4_swap 129 = .ok (.iload 7, 2) := by decide +kernel
theorem dX4_swap_131 : decode cX4_swap 131 = .ok (.putfield 96, 3) := by decide +kernel
theorem dX4_swap_134 : decode cX4_swap 134 = .ok (.return_, 1) := by decide +kernel
theorem dX4_message_0 : decode cX4_message 0 = .ok (.aload_n 0, 1) := by decide +kernel
theorem dX4_message_1 : decode cX4_message 1 = .ok (.iload_n 1, 1) := by decide +kernel
theorem dX4_message_2 : decode cX4_message 2 = .ok (.invokevirtual 61, 3) := by decide +kernel
theorem dX4_message_5 : decode cX4_message 5 = .ok (.astore 5, 2) := by decide +kernel
theorem dX4_message_7 : decode cX4_message 7 = .ok (.iload_n 2, 1) := by decide +kernel
theorem dX4_message_8 : decode cX4_message 8 = .ok (.iconst 1, 1) := by decide +kernel
theorem dX4_message_9 : decode cX4_message 9 = .ok (.bipush 99, 2) := by decide +kernel
theorem dX4_message_11 : decode cX4_message 11 = .ok (.invokestatic 37, 3) := by decide +kernel
theorem dX4_message_14 : decode cX4_message 14 = .ok (.iload_n 3, 1) := by decide +kernel
theorem dX4_message_15 : decode cX4_message 15 = .ok (.iconst 0, 1) := by decide +kernel
theorem dX4_message_16 : decode cX4_message 16 = .ok (.iconst 2, 1) := by decide +kernel
theorem dX4_message_17 : decode cX4_message 17 = .ok (.invokestatic 37, 3) := by decide +kernel
theorem dX4_message_20 : decode cX4_message 20 = .ok (.iload 4, 2) := by decide +kernel
theorem dX4_message_22 : decode cX4_message 22 = .ok (.iconst 0, 1) := by decide +kernel
theorem dX4_message_23 : decode cX4_message 23 = .ok (.iload_n 3, 1) := by decide +kernel
theorem dX4_message_24 : decode cX4_message 24 = .ok (.iconst 1, 1) := by decide +kernel
theorem dX4_message_25 : decode cX4_message 25 = .ok (.if_icmp .ne 7, 3) := by decide +kernel
theorem dX4_message_28 : decode cX4_message 28 = .ok (.iconst 0, 1) := by decide +kernel
theorem dX4_message_29 : decode cX4_message 29 = .ok (.goto 6, 3) := by decide +kernel
theorem dX4_message_32 : decode cX4_message 32 = .ok (.sipush 1439, 3) := by decide +kernel
theorem dX4_message_35 : decode cX4_message 35 = .ok (.invokestatic 37, 3) := by decide +kernel
theorem dX4_message_38 : decode cX4_message 38 = .ok (.aload 5, 2) := by decide +kernel
theorem dX4_message_40 : decode cX4_message 40 = .ok (.getfield 81, 3) := by decide +kernel
theorem dX4_message_43 : decode cX4_message 43 = .ok (.ifCond .ne 12, 3) := by decide +kernel
theorem dX4_message_46 : decode cX4_message 46 = .ok (.iload_n 2, 1) := by decide +kernel
theorem dX4_message_47 : decode cX4_message 47 = .ok (.aload 5, 2) := by decide +kernel
theorem dX4_message_49 : decode cX4_message 49 = .ok (.getfield 105, 3) := by decide +kernel
theorem dX4_message_52 : decode cX4_message 52 = .ok (.if_icmp .gt 5, 3) := by decide +kernel
theorem dX4_message_55 : decode cX4_message 55 = .ok (.iconst 0, 1) := by decide +kernel
theorem dX4_message_56 : decode cX4_message 56 = .ok (.ireturn, 1) := by decide +kernel
theorem dX4_message_57 : decode cX4_message 57 = .ok (.aload 5, 2) := by decide +kernel
theorem dX4_message_59 : decode cX4_message 59 = .ok (.iload_n 2, 1) := by decide +kernel
theorem dX4_message_60 : decode cX4_message 60 = .ok (.putfield 105, 3) := by decide +kernel
theorem dX4_message_63 : decode cX4_message 63 = .ok (.aload 5, 2) := by decide +kernel
theorem dX4_message_65 : decode cX4_message 65 = .ok (.iload_n 3, 1) := by decide +kernel
theorem dX4_message_66 : decode cX4_message 66 = .ok (.iload 4, 2) := by decide +kernel
theorem dX4_message_68 : decode cX4_message 68 = .ok (.invokevirtual 244, 3) := by decide +kernel
theorem dX4_message_71 : decode cX4_message 71 = .ok (.iconst 1, 1) := by decide +kernel
theorem dX4_message_72 : decode cX4_message 72 = .ok (.ireturn, 1) := by decide +kernel
theorem dX4_companyIs_0 : decode cX4_companyIs 0 = .ok (.iload_n 1, 1) := by decide +kernel
theorem dX4_companyIs_1 : decode cX4_companyIs 1 = .ok (.invokestatic 33, 3) := by decide +kernel
theorem dX4_companyIs_4 : decode cX4_companyIs 4 = .ok (.iload_n 2, 1) := by decide +kernel
theorem dX4_companyIs_5 : decode cX4_companyIs 5 = .ok (.iconst 0, 1) := by decide +kernel
theorem dX4_companyIs_6 : decode cX4_companyIs 6 = .ok (.iconst 2, 1) := by decide +kernel
theorem dX4_companyIs_7 : decode cX4_companyIs 7 = .ok (.invokestatic 37, 3) := by decide +kernel
theorem dX4_companyIs_10 : decode cX4_companyIs 10 = .ok (.iconst 0, 1) := by decide +kernel
theorem dX4_companyIs_11 : decode cX4_companyIs 11 = .ok (.istore_n 3, 1) := by decide +kernel
theorem dX4_companyIs_12 : decode cX4_companyIs 12 = .ok (.iconst 0, 1) := by decide +kernel
theorem dX4_companyIs_13 : decode cX4_companyIs 13 = .ok (.istore 4, 2) := by decide +kernel
theorem dX4_companyIs_15 : decode cX4_companyIs 15 = .ok (.iload 4, 2) := by decide +kernel
theorem dX4_companyIs_17 : decode cX4_companyIs 17 = .ok (.aload_n 0, 1) := by decide +kernel
theorem dX4_companyIs_18 : decode cX4_companyIs 18 = .ok (.getfield 10, 3) := by decide +kernel
theorem dX4_companyIs_21 : decode cX4_companyIs 21 = .ok (.invokevirtual 41, 3) := by decide +kernel
theorem dX4_companyIs_24 : decode cX4_companyIs 24 = .ok (.if_icmp .ge 41, 3) := by decide +kernel
theorem dX4_companyIs_27 : decode cX4_companyIs 27 = .ok (.aload_n 0, 1) := by decide +kernel
theorem dX4_companyIs_28 : decode cX4_companyIs 28 = .ok (.getfield 10, 3) := by decide +kernel
theorem dX4_companyIs_31 : decode cX4_companyIs 31 = .ok (.iload 4, 2) := by decide +kernel
theorem dX4_companyIs_33 : decode cX4_companyIs 33 = .ok (.invokevirtual 116, 3) := by decide +kernel
theorem dX4_companyIs_36 : decode cX4_companyIs 36 = .ok (.checkcast 52, 3) := by decide +kernel
theorem dX4_companyIs_39 : decode cX4_companyIs 39 = .ok (.astore 5, 2) := by decide +kernel
theorem dX4_companyIs_41 : decode cX4_companyIs 41 = .ok (.aload 5, 2) := by decide +kernel
theorem dX4_companyIs_43 : decode cX4_companyIs 43 = .ok (.getfield 247, 3) := by decide +kernel
theorem dX4_companyIs_46 : decode cX4_companyIs 46 = .ok (.iload_n 1, 1) := by decide +kernel
theorem dX4_companyIs_47 : decode cX4_companyIs 47 = .ok (.if_icmp .ne 12, 3) := by decide +kernel
theorem dX4_companyIs_50 : decode cX4_companyIs 50 = .ok (.iload_n 3, 1) := by decide +kernel
theorem dX4_companyIs_51 : decode cX4_companyIs 51 = .ok (.aload 5, 2) := by decide +kernel
theorem dX4_companyIs_53 : decode cX4_companyIs 53 = .ok (.iload_n 2, 1) := by decide +kernel
theorem dX4_companyIs_54 : decode cX4_companyIs 54 = .ok (.invokevirtual 250, 3) := by decide +kernel
theorem dX4_companyIs_57 : decode cX4_companyIs 57 = .ok (.iadd, 1) := by decide +kernel
theorem dX4_companyIs_58 : decode cX4_companyIs 58 = .ok (.istore_n 3, 1) := by decide +kernel
theorem dX4_companyIs_59 : decode cX4_companyIs 59 = .ok (.iinc 4 1, 3) := by decide +kernel
theorem dX4_companyIs_62 : decode cX4_companyIs 62 = .ok (.goto (-47), 3) := by decide +kernel
theorem dX4_companyIs_65 : decode cX4_companyIs 65 = .ok (.iload_n 3, 1) := by decide +kernel
theorem dX4_companyIs_66 : decode cX4_companyIs 66 = .ok (.ireturn, 1) := by decide +kernel
theorem dX4_flightAt_0 : decode cX4_flightAt 0 = .ok (.iload_n 1, 1) := by decide +kernel
theorem dX4_flightAt_1 : decode cX4_flightAt 1 = .ok (.ifCond .lt 14, 3) := by decide +kernel
theorem dX4_flightAt_4 : decode cX4_flightAt 4 = .ok (.iload_n 1, 1) := by decide +kernel
theorem dX4_flightAt_5 : decode cX4_flightAt 5 = .ok (.aload_n 0, 1) := by decide +kernel
theorem dX4_flightAt_6 : decode cX4_flightAt 6 = .ok (.getfield 10, 3) := by decide +kernel
theorem dX4_flightAt_9 : decode cX4_flightAt 9 = .ok (.invokevirtual 41, 3) := by decide +kernel
theorem dX4_flightAt_12 : decode cX4_flightAt 12 = .ok (.if_icmp .lt 13, 3) := by decide +kernel
theorem dX4_flightAt_15 : decode cX4_flightAt 15 = .ok (.new 188, 3) := by decide +kernel
theorem dX4_flightAt_18 : decode cX4_flightAt 18 = .ok (.dup, 1) := by decide +kernel
theorem dX4_flightAt_19 : decode cX4_flightAt 19 = .ok (.ldc 253, 2) := by decide +kernel
theorem dX4_flightAt_21 : decode cX4_flightAt 21 = .ok (.invokespecial 192, 3) := by decide +kernel
theorem dX4_flightAt_24 : decode cX4_flightAt 24 = .ok (.athrow, 1) := by decide +kernel
theorem dX4_flightAt_25 : decode cX4_flightAt 25 = .ok (.aload_n 0, 1) := by decide +kernel
theorem dX4_flightAt_26 : decode cX4_flightAt 26 = .ok (.getfield 10, 3) := by decide +kernel
theorem dX4_flightAt_29 : decode cX4_flightAt 29 = .ok (.iload_n 1, 1) := by decide +kernel
theorem dX4_flightAt_30 : decode cX4_flightAt 30 = .ok (.invokevirtual 116, 3) := by decide +kernel
theorem dX4_flightAt_33 : decode cX4_flightAt 33 = .ok (.checkcast 52, 3) := by decide +kernel
theorem dX4_flightAt_36 : decode cX4_flightAt 36 = .ok (.areturn, 1) := by decide +kernel
theorem dX4_regulationAt_0 : decode cX4_regulationAt 0 = .ok (.iload_n 1, 1) := by decide +kernel
theorem dX4_regulationAt_1 : decode cX4_regulationAt 1 = .ok (.ifCond .lt 14, 3) := by decide +kernel
theorem dX4_regulationAt_4 : decode cX4_regulationAt 4 = .ok (.iload_n 1, 1) := by decide +kernel
theorem dX4_regulationAt_5 : decode cX4_regulationAt 5 = .ok (.aload_n 0, 1) := by decide +kernel
theorem dX4_regulationAt_6 : decode cX4_regulationAt 6 = .ok (.getfield 16, 3) := by decide +kernel
theorem dX4_regulationAt_9 : decode cX4_regulationAt 9 = .ok (.invokevirtual 41, 3) := by decide +kernel
theorem dX4_regulationAt_12 : decode cX4_regulationAt 12 = .ok (.if_icmp .lt 13, 3) := by decide +kernel
theorem dX4_regulationAt_15 : decode cX4_regulationAt 15 = .ok (.new 188, 3) := by decide +kernel
theorem dX4_regulationAt_18 : decode cX4_regulationAt 18 = .ok (.dup, 1) := by decide +kernel
theorem dX4_regulationAt_19 : decode cX4_regulationAt 19 = .ok (.ldc 255, 2) := by decide +kernel
theorem dX4_regulationAt_21 : decode cX4_regulationAt 21 = .ok (.invokespecial 192, 3) := by decide +kernel
theorem dX4_regulationAt_24 : decode cX4_regulationAt 24 = .ok (.athrow, 1) := by decide +kernel
theorem dX4_regulationAt_25 : decode cX4_regulationAt 25 = .ok (.aload_n 0, 1) := by decide +kernel
theorem dX4_regulationAt_26 : decode cX4_regulationAt 26 = .ok (.getfield 16, 3) := by decide +kernel
theorem dX4_regulationAt_29 : decode cX4_regulationAt 29 = .ok (.iload_n 1, 1) := by decide +kernel
theorem dX4_regulationAt_30 : decode cX4_regulationAt 30 = .ok (.invokevirtual 116, 3) := by decide +kernel
theorem dX4_regulationAt_33 : decode cX4_regulationAt 33 = .ok (.checkcast 144, 3) := by decide +kernel
theorem dX4_regulationAt_36 : decode cX4_regulationAt 36 = .ok (.areturn, 1) := by decide +kernel
theorem dX4_checkSector_0 : decode cX4_checkSector 0 = .ok (.iload_n 0, 1) := by decide +kernel
theorem dX4_checkSector_1 : decode cX4_checkSector 1 = .ok (.ifCond .lt 9, 3) := by decide +kernel
theorem dX4_checkSector_4 : decode cX4_checkSector 4 = .ok (.iload_n 0, 1) := by decide +kernel
theorem dX4_checkSector_5 : decode cX4_checkSector 5 = .ok (.bipush 6, 2) := by decide +kernel
theorem dX4_checkSector_7 : decode cX4_checkSector 7 = .ok (.if_icmp .lt 14, 3) := by decide +kernel
theorem dX4_checkSector_10 : decode cX4_checkSector 10 = .ok (.new 188, 3) := by decide +kernel
theorem dX4_checkSector_13 : decode cX4_checkSector 13 = .ok (.dup, 1) := by decide +kernel
theorem dX4_checkSector_14 : decode cX4_checkSector 14 = .ok (.ldc_w 257, 3) := by decide +kernel
theorem dX4_checkSector_17 : decode cX4_checkSector 17 = .ok (.invokespecial 192, 3) := by decide +kernel
theorem dX4_checkSector_20 : decode cX4_checkSector 20 = .ok (.athrow, 1) := by decide +kernel
theorem dX4_checkSector_21 : decode cX4_checkSector 21 = .ok (.return_, 1) := by decide +kernel
theorem dX4_checkCompany_0 : decode cX4_checkCompany 0 = .ok (.iload_n 0, 1) := by decide +kernel
theorem dX4_checkCompany_1 : decode cX4_checkCompany 1 = .ok (.ifCond .lt 8, 3) := by decide +kernel
theorem dX4_checkCompany_4 : decode cX4_checkCompany 4 = .ok (.iload_n 0, 1) := by decide +kernel
theorem dX4_checkCompany_5 : decode cX4_checkCompany 5 = .ok (.iconst 4, 1) := by decide +kernel
theorem dX4_checkCompany_6 : decode cX4_checkCompany 6 = .ok (.if_icmp .lt 14, 3) := by decide +kernel
theorem dX4_checkCompany_9 : decode cX4_checkCompany 9 = .ok (.new 188, 3) := by decide +kernel
theorem dX4_checkCompany_12 : decode cX4_checkCompany 12 = .ok (.dup, 1) := by decide +kernel
theorem dX4_checkCompany_13 : decode cX4_checkCompany 13 = .ok (.ldc_w 259, 3) := by decide +kernel
theorem dX4_checkCompany_16 : decode cX4_checkCompany 16 = .ok (.invokespecial 192, 3) := by decide +kernel
theorem dX4_checkCompany_19 : decode cX4_checkCompany 19 = .ok (.athrow, 1) := by decide +kernel
theorem dX4_checkCompany_20 : decode cX4_checkCompany 20 = .ok (.return_, 1) := by decide +kernel
theorem dX4_checkRange_0 : decode cX4_checkRange 0 = .ok (.iload_n 0, 1) := by decide +kernel
theorem dX4_checkRange_1 : decode cX4_checkRange 1 = .ok (.iload_n 1, 1) := by decide +kernel
theorem dX4_checkRange_2 : decode cX4_checkRange 2 = .ok (.if_icmp .lt 8, 3) := by decide +kernel
theorem dX4_checkRange_5 : decode cX4_checkRange 5 = .ok (.iload_n 0, 1) := by decide +kernel
theorem dX4_checkRange_6 : decode cX4_checkRange 6 = .ok (.iload_n 2, 1) := by decide +kernel
theorem dX4_checkRange_7 : decode cX4_checkRange 7 = .ok (.if_icmp .le 14, 3) := by decide +kernel
theorem dX4_checkRange_10 : decode cX4_checkRange 10 = .ok (.new 225, 3) := by decide +kernel
theorem dX4_checkRange_13 : decode cX4_checkRange 13 = .ok (.dup, 1) := by decide +kernel
theorem dX4_checkRange_14 : decode cX4_checkRange 14 = .ok (.ldc_w 261, 3) := by decide +kernel
theorem dX4_checkRange_17 : decode cX4_checkRange 17 = .ok (.invokespecial 229, 3) := by decide +kernel
theorem dX4_checkRange_20 : decode cX4_checkRange 20 = .ok (.athrow, 1) := by decide +kernel
theorem dX4_checkRange_21 : decode cX4_checkRange 21 = .ok (.return_, 1) := by decide +kernel
theorem dX4_checkTerm_0 : decode cX4_checkTerm 0 = .ok (.iload_n 0, 1) := by decide +kernel
theorem dX4_checkTerm_1 : decode cX4_checkTerm 1 = .ok (.iconst 0, 1) := by decide +kernel
theorem dX4_checkTerm_2 : decode cX4_checkTerm 2 = .ok (.sipush 1439, 3) := by decide +kernel
theorem dX4_checkTerm_5 : decode cX4_checkTerm 5 = .ok (.invokestatic 37, 3) := by decide +kernel
theorem dX4_checkTerm_8 : decode cX4_checkTerm 8 = .ok (.iload_n 1, 1) := by decide +kernel
theorem dX4_checkTerm_9 : decode cX4_checkTerm 9 = .ok (.iload_n 0, 1) := by decide +kernel
theorem dX4_checkTerm_10 : decode cX4_checkTerm 10 = .ok (.iconst 1, 1) := by decide +kernel
theorem dX4_checkTerm_11 : decode cX4_checkTerm 11 = .ok (.iadd, 1) := by decide +kernel
theorem dX4_checkTerm_12 : decode cX4_checkTerm 12 = .ok (.sipush 1440, 3) := by decide +kernel
theorem dX4_checkTerm_15 : decode cX4_checkTerm 15 = .ok (.invokestatic 37, 3) := by decide +kernel
theorem dX4_checkTerm_18 : decode cX4_checkTerm 18 = .ok (.iload_n 2, 1) := by decide +kernel
theorem dX4_checkTerm_19 : decode cX4_checkTerm 19 = .ok (.iconst 0, 1) := by decide +kernel
theorem dX4_checkTerm_20 : decode cX4_checkTerm 20 = .ok (.bipush 60, 2) := by decide +kernel
theorem dX4_checkTerm_22 : decode cX4_checkTerm 22 = .ok (.invokestatic 37, 3) := by decide +kernel
theorem dX4_checkTerm_25 : decode cX4_checkTerm 25 = .ok (.return_, 1) := by decide +kernel
theorem dX4_checkNotEnded_0 : decode cX4_checkNotEnded 0 = .ok (.aload_n 0, 1) := by decide +kernel
theorem dX4_checkNotEnded_1 : decode cX4_checkNotEnded 1 = .ok (.getfield 160, 3) := by decide +kernel
theorem dX4_checkNotEnded_4 : decode cX4_checkNotEnded 4 = .ok (.ifCond .eq 14, 3) := by decide +kernel
theorem dX4_checkNotEnded_7 : decode cX4_checkNotEnded 7 = .ok (.new 45, 3) := by decide +kernel
theorem dX4_checkNotEnded_10 : decode cX4_checkNotEnded 10 = .ok (.dup, 1) := by decide +kernel
theorem dX4_checkNotEnded_11 : decode cX4_checkNotEnded 11 = .ok (.ldc_w 263, 3) := by decide +kernel
theorem dX4_checkNotEnded_14 : decode cX4_checkNotEnded 14 = .ok (.invokespecial 49, 3) := by decide +kernel
theorem dX4_checkNotEnded_17 : decode cX4_checkNotEnded 17 = .ok (.athrow, 1) := by decide +kernel
theorem dX4_checkNotEnded_18 : decode cX4_checkNotEnded 18 = .ok (.return_, 1) := by decide +kernel
theorem dX4_loadOf_0 : decode cX4_loadOf 0 = .ok (.iconst 0, 1) := by decide +kernel
theorem dX4_loadOf_1 : decode cX4_loadOf 1 = .ok (.istore 4, 2) := by decide +kernel
theorem dX4_loadOf_3 : decode cX4_loadOf 3 = .ok (.iconst 0, 1) := by decide +kernel
theorem dX4_loadOf_4 : decode cX4_loadOf 4 = .ok (.istore 5, 2) := by decide +kernel
theorem dX4_loadOf_6 : decode cX4_loadOf 6 = .ok (.iload 5, 2) := by decide +kernel
theorem dX4_loadOf_8 : decode cX4_loadOf 8 = .ok (.aload_n 0, 1) := by decide +kernel
theorem dX4_loadOf_9 : decode cX4_loadOf 9 = .ok (.getfield 10, 3) := by decide +kernel
theorem dX4_loadOf_12 : decode cX4_loadOf 12 = .ok (.invokevirtual 41, 3) := by decide +kernel
theorem dX4_loadOf_15 : decode cX4_loadOf 15 = .ok (.if_icmp .ge 57, 3) := by decide +kernel
theorem dX4_loadOf_18 : decode cX4_loadOf 18 = .ok (.aload_n 0, 1) := by decide +kernel
theorem dX4_loadOf_19 : decode cX4_loadOf 19 = .ok (.getfield 10, 3) := by decide +kernel
theorem dX4_loadOf_22 : decode cX4_loadOf 22 = .ok (.iload 5, 2) := by decide +kernel
theorem dX4_loadOf_24 : decode cX4_loadOf 24 = .ok (.invokevirtual 116, 3) := by decide +kernel
theorem dX4_loadOf_27 : decode cX4_loadOf 27 = .ok (.checkcast 52, 3) := by decide +kernel
theorem dX4_loadOf_30 : decode cX4_loadOf 30 = .ok (.astore 6, 2) := by decide +kernel
theorem dX4_loadOf_32 : decode cX4_loadOf 32 = .ok (.aload 6, 2) := by decide +kernel
theorem dX4_loadOf_34 : decode cX4_loadOf 34 = .ok (.iload_n 1, 1) := by decide +kernel
theorem dX4_loadOf_35 : decode cX4_loadOf 35 = .ok (.invokevirtual 108, 3) := by decide +kernel
theorem dX4_loadOf_38 : decode cX4_loadOf 38 = .ok (.istore 7, 2) := by decide +kernel
theorem dX4_loadOf_40 : decode cX4_loadOf 40 = .ok (.aload 6, 2) := by decide +kernel
theorem dX4_loadOf_42 : decode cX4_loadOf 42 = .ok (.iload_n 1, 1) := by decide +kernel
theorem dX4_loadOf_43 : decode cX4_loadOf 43 = .ok (.invokevirtual 135, 3) := by decide +kernel
theorem dX4_loadOf_46 : decode cX4_loadOf 46 = .ok (.ifCond .eq 20, 3) := by decide +kernel
theorem dX4_loadOf_49 : decode cX4_loadOf 49 = .ok (.iload 7, 2) := by decide +kernel
theorem dX4_loadOf_51 : decode cX4_loadOf 51 = .ok (.iload_n 2, 1) := by decide +kernel
theorem dX4_loadOf_52 : decode cX4_loadOf 52 = .ok (.if_icmp .lt 14, 3) := by decide +kernel
theorem dX4_loadOf_55 : decode cX4_loadOf 55 = .ok (.iload 7, 2) := by decide +kernel
theorem dX4_loadOf_57 : decode cX4_loadOf 57 = .ok (.iload_n 2, 1) := by decide +kernel
theorem dX4_loadOf_58 : decode cX4_loadOf 58 = .ok (.iload_n 3, 1) := by decide +kernel
theorem dX4_loadOf_59 : decode cX4_loadOf 59 = .ok (.iadd, 1) := by decide +kernel
theorem dX4_loadOf_60 : decode cX4_loadOf 60 = .ok (.if_icmp .ge 6, 3) := by decide +kernel
theorem dX4_loadOf_63 : decode cX4_loadOf 63 = .ok (.iinc 4 1, 3) := by decide +kernel
theorem dX4_loadOf_66 : decode cX4_loadOf 66 = .ok (.iinc 5 1, 3) := by decide +kernel
theorem dX4_loadOf_69 : decode cX4_loadOf 69 = .ok (.goto (-63), 3) := by decide +kernel
theorem dX4_loadOf_72 : decode cX4_loadOf 72 = .ok (.iload 4, 2) := by decide +kernel
theorem dX4_loadOf_74 : decode cX4_loadOf 74 = .ok (.ireturn, 1) := by decide +kernel
theorem dX4_lineUpEntering_0 : decode cX4_lineUpEntering 0 = .ok (.aload_n 0, 1) := by decide +kernel
theorem dX4_lineUpEntering_1 : decode cX4_lineUpEntering 1 = .ok (.getfield 29, 3) := by decide +kernel
theorem dX4_lineUpEntering_4 : decode cX4_lineUpEntering 4 = .ok (.invokevirtual 265, 3) := by decide +kernel
theorem dX4_lineUpEntering_7 : decode cX4_lineUpEntering 7 = .ok (.iconst 0, 1) := by decide +kernel
theorem dX4_lineUpEntering_8 : decode cX4_lineUpEntering 8 = .ok (.istore_n 2, 1) := by decide +kernel
theorem dX4_lineUpEntering_9 : decode cX4_lineUpEntering 9 = .ok (.iload_n 2, 1) := by decide +kernel
theorem dX4_lineUpEntering_10 : decode cX4_lineUpEntering 10 = .ok (.aload_n 0, 1) := by decide +kernel
theorem dX4_lineUpEntering_11 : decode cX4_lineUpEntering 11 = .ok (.getfield 10, 3) := by decide +kernel
theorem dX4_lineUpEntering_14 : decode cX4_lineUpEntering 14 = .ok (.invokevirtual 41, 3) := by decide +kernel
theorem dX4_lineUpEntering_17 : decode cX4_lineUpEntering 17 = .ok (.if_icmp .ge 42, 3) := by decide +kernel
theorem dX4_lineUpEntering_20 : decode cX4_lineUpEntering 20 = .ok (.aload_n 0, 1) := by decide +kernel
theorem dX4_lineUpEntering_21 : decode cX4_lineUpEntering 21 = .ok (.getfield 10, 3) := by decide +kernel
theorem dX4_lineUpEntering_24 : decode cX4_lineUpEntering 24 = .ok (.iload_n 2, 1) := by decide +kernel
theorem dX4_lineUpEntering_25 : decode cX4_lineUpEntering 25 = .ok (.invokevirtual 116, 3) := by decide +kernel
theorem dX4_lineUpEntering_28 : decode cX4_lineUpEntering 28 = .ok (.checkcast 52, 3) := by decide +kernel
theorem dX4_lineUpEntering_31 : decode cX4_lineUpEntering 31 = .ok (.astore_n 3, 1) := by decide +kernel
theorem dX4_lineUpEntering_32 : decode cX4_lineUpEntering 32 = .ok (.aload_n 3, 1) := by decide +kernel
theorem dX4_lineUpEntering_33 : decode cX4_lineUpEntering 33 = .ok (.iload_n 1, 1) := by decide +kernel
theorem dX4_lineUpEntering_34 : decode cX4_lineUpEntering 34 = .ok (.invokevirtual 135, 3) := by decide +kernel
theorem dX4_lineUpEntering_37 : decode cX4_lineUpEntering 37 = .ok (.ifCond .eq 16, 3) := by decide +kernel
theorem dX4_lineUpEntering_40 : decode cX4_lineUpEntering 40 = .ok (.aload_n 0, 1) := by decide +kernel
theorem dX4_lineUpEntering_41 : decode cX4_lineUpEntering 41 = .ok (.getfield 29, 3) := by decide +kernel
theorem dX4_lineUpEntering_44 : decode cX4_lineUpEntering 44 = .ok (.iload_n 2, 1) := by decide +kernel
theorem dX4_lineUpEntering_45 : decode cX4_lineUpEntering 45 = .ok (.aload_n 3, 1) := by decide +kernel
theorem dX4_lineUpEntering_46 : decode cX4_lineUpEntering 46 = .ok (.iload_n 1, 1) := by decide +kernel
theorem dX4_lineUpEntering_47 : decode cX4_lineUpEntering 47 = .ok (.invokevirtual 108, 3) := by decide +kernel
theorem dX4_lineUpEntering_50 : decode cX4_lineUpEntering 50 = .ok (.invokevirtual 268, 3) := by decide +kernel
theorem dX4_lineUpEntering_53 : decode cX4_lineUpEntering 53 = .ok (.iinc 2 1, 3) := by decide +kernel
theorem dX4_lineUpEntering_56 : decode cX4_lineUpEntering 56 = .ok (.goto (-47), 3) := by decide +kernel
theorem dX4_lineUpEntering_59 : decode cX4_lineUpEntering 59 = .ok (.return_, 1) := by decide +kernel
theorem dX4_reckonDues_0 : decode cX4_reckonDues 0 = .ok (.iconst 0, 1) := by decide +kernel
theorem dX4_reckonDues_1 : decode cX4_reckonDues 1 = .ok (.istore_n 1, 1) := by decide +kernel
theorem dX4_reckonDues_2 : decode cX4_reckonDues 2 = .ok (.iload_n 1, 1) := by decide +kernel
theorem dX4_reckonDues_3 : decode cX4_reckonDues 3 = .ok (.aload_n 0, 1) := by decide +kernel
theorem dX4_reckonDues_4 : decode cX4_reckonDues 4 = .ok (.getfield 10, 3) := by decide +kernel
theorem dX4_reckonDues_7 : decode cX4_reckonDues 7 = .ok (.invokevirtual 41, 3) := by decide +kernel
theorem dX4_reckonDues_10 : decode cX4_reckonDues 10 = .ok (.if_icmp .ge 23, 3) := by decide +kernel
theorem dX4_reckonDues_13 : decode cX4_reckonDues 13 = .ok (.aload_n 0, 1) := by decide +kernel
theorem dX4_reckonDues_14 : decode cX4_reckonDues 14 = .ok (.getfield 10, 3) := by decide +kernel
theorem dX4_reckonDues_17 : decode cX4_reckonDues 17 = .ok (.iload_n 1, 1) := by decide +kernel
theorem dX4_reckonDues_18 : decode cX4_reckonDues 18 = .ok (.invokevirtual 116, 3) := by decide +kernel
theorem dX4_reckonDues_21 : decode cX4_reckonDues 21 = .ok (.checkcast 52, 3) := by decide +kernel
theorem dX4_reckonDues_24 : decode cX4_reckonDues 24 = .ok (.invokevirtual 270, 3) := by decide +kernel
theorem dX4_reckonDues_27 : decode cX4_reckonDues 27 = .ok (.iinc 1 1, 3) := by decide +kernel
theorem dX4_reckonDues_30 : decode cX4_reckonDues 30 = .ok (.goto (-28), 3) := by decide +kernel
theorem dX4_reckonDues_33 : decode cX4_reckonDues 33 = .ok (.iconst 0, 1) := by decide +kernel
theorem dX4_reckonDues_34 : decode cX4_reckonDues 34 = .ok (.istore_n 1, 1) := by decide +kernel
theorem dX4_reckonDues_35 : decode cX4_reckonDues 35 = .ok (.iload_n 1, 1) := by decide +kernel
theorem dX4_reckonDues_36 : decode cX4_reckonDues 36 = .ok (.aload_n 0, 1) := by decide +kernel
theorem dX4_reckonDues_37 : decode cX4_reckonDues 37 = .ok (.getfield 16, 3) := by decide +kernel
theorem dX4_reckonDues_40 : decode cX4_reckonDues 40 = .ok (.invokevirtual 41, 3) := by decide +kernel
theorem dX4_reckonDues_43 : decode cX4_reckonDues 43 = .ok (.if_icmp .ge 25, 3) := by decide +kernel
theorem dX4_reckonDues_46 : decode cX4_reckonDues 46 = .ok (.aload_n 0, 1) := by decide +kernel
theorem dX4_reckonDues_47 : decode cX4_reckonDues 47 = .ok (.aload_n 0, 1) := by decide +kernel
theorem dX4_reckonDues_48 : decode cX4_reckonDues 48 = .ok (.getfield 16, 3) := by decide +kernel
theorem dX4_reckonDues_51 : decode cX4_reckonDues 51 = .ok (.iload_n 1, 1) := by decide +kernel
theorem dX4_reckonDues_52 : decode cX4_reckonDues 52 = .ok (.invokevirtual 116, 3) := by decide +kernel
theorem dX4_reckonDues_55 : decode cX4_reckonDues 55 = .ok (.checkcast 144, 3) := by decide +kernel
theorem dX4_reckonDues_58 : decode cX4_reckonDues 58 = .ok (.iload_n 1, 1) := by decide +kernel
theorem dX4_reckonDues_59 : decode cX4_reckonDues 59 = .ok (.invokevirtual 214, 3) := by decide +kernel
theorem dX4_reckonDues_62 : decode cX4_reckonDues 62 = .ok (.iinc 1 1, 3) := by decide +kernel
theorem dX4_reckonDues_65 : decode cX4_reckonDues 65 = .ok (.goto (-30), 3) := by decide +kernel
theorem dX4_reckonDues_68 : decode cX4_reckonDues 68 = .ok (.return_, 1) := by decide +kernel
theorem dX4_reckonPenalties_0 : decode cX4_reckonPenalties 0 = .ok (.aload_n 0, 1) := by decide +kernel
theorem dX4_reckonPenalties_1 : decode cX4_reckonPenalties 1 = .ok (.getfield 22, 3) := by decide +kernel
theorem dX4_reckonPenalties_4 : decode cX4_reckonPenalties 4 = .ok (.aload_n 1, 1) := by decide +kernel
theorem dX4_reckonPenalties_5 : decode cX4_reckonPenalties 5 = .ok (.aload_n 0, 1) := by decide +kernel
theorem dX4_reckonPenalties_6 : decode cX4_reckonPenalties 6 = .ok (.getfield 10, 3) := by decide +kernel
theorem dX4_reckonPenalties_9 : decode cX4_reckonPenalties 9 = .ok (.invokevirtual 163, 3) := by decide +kernel
theorem dX4_reckonPenalties_12 : decode cX4_reckonPenalties 12 = .ok (.iconst 0, 1) := by decide +kernel
theorem dX4_reckonPenalties_13 : decode cX4_reckonPenalties 13 = .ok (.istore_n 3, 1) := by decide +kernel
theorem dX4_reckonPenalties_14 : decode cX4_reckonPenalties 14 = .ok (.iload_n 3, 1) := by decide +kernel
theorem dX4_reckonPenalties_15 : decode cX4_reckonPenalties 15 = .ok (.aload_n 0, 1) := by decide +kernel
theorem dX4_reckonPenalties_16 : decode cX4_reckonPenalties 16 = .ok (.getfield 10, 3) := by decide +kernel
theorem dX4_reckonPenalties_19 : decode cX4_reckonPenalties 19 = .ok (.invokevirtual 41, 3) := by decide +kernel
theorem dX4_reckonPenalties_22 : decode cX4_reckonPenalties 22 = .ok (.if_icmp .ge 35, 3) := by decide +kernel
theorem dX4_reckonPenalties_25 : decode cX4_reckonPenalties 25 = .ok (.aload_n 0, 1) := by decide +kernel
theorem dX4_reckonPenalties_26 : decode cX4_reckonPenalties 26 = .ok (.getfield 10, 3) := by decide +kernel
theorem dX4_reckonPenalties_29 : decode cX4_reckonPenalties 29 = .ok (.iload_n 3, 1) := by decide +kernel
theorem dX4_reckonPenalties_30 : decode cX4_reckonPenalties 30 = .ok (.invokevirtual 116, 3) := by decide +kernel
theorem dX4_reckonPenalties_33 : decode cX4_reckonPenalties 33 = .ok (.checkcast 52, 3) := by decide +kernel
theorem dX4_reckonPenalties_36 : decode cX4_reckonPenalties 36 = .ok (.aload_n 0, 1) := by decide +kernel
theorem dX4_reckonPenalties_37 : decode cX4_reckonPenalties 37 = .ok (.getfield 22, 3) := by decide +kernel
theorem dX4_reckonPenalties_40 : decode cX4_reckonPenalties 40 = .ok (.getfield 179, 3) := by decide +kernel
theorem dX4_reckonPenalties_43 : decode cX4_reckonPenalties 43 = .ok (.iload_n 3, 1) := by decide +kernel
theorem dX4_reckonPenalties_44 : decode cX4_reckonPenalties 44 = .ok (.invokevirtual 198, 3) := by decide +kernel
theorem dX4_reckonPenalties_47 : decode cX4_reckonPenalties 47 = .ok (.iload_n 2, 1) := by decide +kernel
theorem dX4_reckonPenalties_48 : decode cX4_reckonPenalties 48 = .ok (.invokevirtual 273, 3) := by decide +kernel
theorem dX4_reckonPenalties_51 : decode cX4_reckonPenalties 51 = .ok (.iinc 3 1, 3) := by decide +kernel
theorem dX4_reckonPenalties_54 : decode cX4_reckonPenalties 54 = .ok (.goto (-40), 3) := by decide +kernel
theorem dX4_reckonPenalties_57 : decode cX4_reckonPenalties 57 = .ok (.return_, 1) := by decide +kernel
theorem dX4_sumOfDues_0 : decode cX4_sumOfDues 0 = .ok (.iconst 0, 1) := by decide +kernel
theorem dX4_sumOfDues_1 : decode cX4_sumOfDues 1 = .ok (.istore_n 1, 1) := by decide +kernel
theorem dX4_sumOfDues_2 : decode cX4_sumOfDues 2 = .ok (.iconst 0, 1) := by decide +kernel
theorem dX4_sumOfDues_3 : decode cX4_sumOfDues 3 = .ok (.istore_n 2, 1) := by decide +kernel
theorem dX4_sumOfDues_4 : decode cX4_sumOfDues 4 = .ok (.iload_n 2, 1) := by decide +kernel
theorem dX4_sumOfDues_5 : decode cX4_sumOfDues 5 = .ok (.aload_n 0, 1) := by decide +kernel
theorem dX4_sumOfDues_6 : decode cX4_sumOfDues 6 = .ok (.getfield 10, 3) := by decide +kernel
theorem dX4_sumOfDues_9 : decode cX4_sumOfDues 9 = .ok (.invokevirtual 41, 3) := by decide +kernel
theorem dX4_sumOfDues_12 : decode cX4_sumOfDues 12 = .ok (.if_icmp .ge 26, 3) := by decide +kernel
theorem dX4_sumOfDues_15 : decode cX4_sumOfDues 15 = .ok (.iload_n 1, 1) := by decide +kernel
theorem dX4_sumOfDues_16 : decode cX4_sumOfDues 16 = .ok (.aload_n 0, 1) := by decide +kernel
theorem dX4_sumOfDues_17 : decode cX4_sumOfDues 17 = .ok (.getfield 10, 3) := by decide +kernel
theorem dX4_sumOfDues_20 : decode cX4_sumOfDues 20 = .ok (.iload_n 2, 1) := by decide +kernel
theorem dX4_sumOfDues_21 : decode cX4_sumOfDues 21 = .ok (.invokevirtual 116, 3) := by decide +kernel
theorem dX4_sumOfDues_24 : decode cX4_sumOfDues 24 = .ok (.checkcast 52, 3) := by decide +kernel
theorem dX4_sumOfDues_27 : decode cX4_sumOfDues 27 = .ok (.getfield 204, 3) := by decide +kernel
theorem dX4_sumOfDues_30 : decode cX4_sumOfDues 30 = .ok (.iadd, 1) := by decide +kernel
theorem dX4_sumOfDues_31 : decode cX4_sumOfDues 31 = .ok (.istore_n 1, 1) := by decide +kernel
theorem dX4_sumOfDues_32 : decode cX4_sumOfDues 32 = .ok (.iinc 2 1, 3) := by decide +kernel
theorem dX4_sumOfDues_35 : decode cX4_sumOfDues 35 = .ok (.goto (-31), 3) := by decide +kernel
theorem dX4_sumOfDues_38 : decode cX4_sumOfDues 38 = .ok (.iload_n 1, 1) := by decide +kernel
theorem dX4_sumOfDues_39 : decode cX4_sumOfDues 39 = .ok (.ireturn, 1) := by decide +kernel
theorem dX4_chargedToRegulation_0 : decode cX4_chargedToRegulation 0 = .ok (.iconst 0, 1) := by decide +kernel
theorem dX4_chargedToRegulation_1 : decode cX4_chargedToRegulation 1 = .ok (.istore_n 2, 1) := by decide +kernel
theorem dX4_chargedToRegulation_2 : decode cX4_chargedToRegulation 2 = .ok (.iconst 0, 1) := by decide +kernel
theorem dX4_chargedToRegulation_3 : decode cX4_chargedToRegulation 3 = .ok (.istore_n 3, 1) := by decide +kernel
theorem dX4_chargedToRegulation_4 : decode cX4_chargedToRegulation 4 = .ok (.iload_n 3, 1) := by decide +kernel
theorem dX4_chargedToRegulation_5 : decode cX4_chargedToRegulation 5 = .ok (.aload_n 0, 1) := by decide +kernel
theorem dX4_chargedToRegulation_6 : decode cX4_chargedToRegulation 6 = .ok (.getfield 10, 3) := by decide +kernel
theorem dX4_chargedToRegulation_9 : decode cX4_chargedToRegulation 9 = .ok (.invokevirtual 41, 3) := by decide +kernel
theorem dX4_chargedToRegulation_12 : decode cX4_chargedToRegulation 12 = .ok (.if_icmp .ge 39, 3) := by decide +kernel
theorem dX4_chargedToRegulation_15 : decode cX4_chargedToRegulation 15 = .ok (.aload_n 0, 1) := by decide +kernel
theorem dX4_chargedToRegulation_16 : decode cX4_chargedToRegulation 16 = .ok (.getfield 10, 3) := by decide +kernel
theorem dX4_chargedToRegulation_19 : decode cX4_chargedToRegulation 19 = .ok (.iload_n 3, 1) := by decide +kernel
theorem dX4_chargedToRegulation_20 : decode cX4_chargedToRegulation 20 = .ok (.invokevirtual 116, 3) := by decide +kernel
theorem dX4_chargedToRegulation_23 : decode cX4_chargedToRegulation 23 = .ok (.checkcast 52, 3) := by decide +kernel
theorem dX4_chargedToRegulation_26 : decode cX4_chargedToRegulation 26 = .ok (.astore 4, 2) := by decide +kernel
theorem dX4_chargedToRegulation_28 : decode cX4_chargedToRegulation 28 = .ok (.aload 4, 2) := by decide +kernel
theorem dX4_chargedToRegulation_30 : decode cX4_chargedToRegulation 30 = .ok (.getfield 99, 3) := by decide +kernel
theorem dX4_chargedToRegulation_33 : decode cX4_chargedToRegulation 33 = .ok (.iload_n 1, 1) := by decide +kernel
theorem dX4_chargedToRegulation_34 : decode cX4_chargedToRegulation 34 = .ok (.if_icmp .ne 11, 3) := by decide +kernel
theorem dX4_chargedToRegulation_37 : decode cX4_chargedToRegulation 37 = .ok (.iload_n 2, 1) := by decide +kernel
theorem dX4_chargedToRegulation_38 : decode cX4_chargedToRegulation 38 = .ok (.aload 4, 2) := by decide +kernel
theorem dX4_chargedToRegulation_40 : decode cX4_chargedToRegulation 40 = .ok (.invokevirtual 276, 3) := by decide +kernel
theorem dX4_chargedToRegulation_43 : decode cX4_chargedToRegulation 43 = .ok (.iadd, 1) := by decide +kernel
theorem dX4_chargedToRegulation_44 : decode cX4_chargedToRegulation 44 = .ok (.istore_n 2, 1) := by decide +kernel
theorem dX4_chargedToRegulation_45 : decode cX4_chargedToRegulation 45 = .ok (.iinc 3 1, 3) := by decide +kernel
theorem dX4_chargedToRegulation_48 : decode cX4_chargedToRegulation 48 = .ok (.goto (-44), 3) := by decide +kernel
theorem dX4_chargedToRegulation_51 : decode cX4_chargedToRegulation 51 = .ok (.iload_n 2, 1) := by decide +kernel
theorem dX4_chargedToRegulation_52 : decode cX4_chargedToRegulation 52 = .ok (.ireturn, 1) := by decide +kernel
theorem dJ9_max_7cf53_0 : decode cJ9_max_7cf53 0 = .ok (.iload_n 0, 1) := by decide +kernel
theorem dJ9_max_7cf53_1 : decode cJ9_max_7cf53 1 = .ok (.iload_n 1, 1) := by decide +kernel
theorem dJ9_max_7cf53_2 : decode cJ9_max_7cf53 2 = .ok (.if_icmp .lt 7, 3) := by decide +kernel
theorem dJ9_max_7cf53_5 : decode cJ9_max_7cf53 5 = .ok (.iload_n 0, 1) := by decide +kernel
theorem dJ9_max_7cf53_6 : decode cJ9_max_7cf53 6 = .ok (.goto 4, 3) := by decide +kernel
theorem dJ9_max_7cf53_9 : decode cJ9_max_7cf53 9 = .ok (.iload_n 1, 1) := by decide +kernel
theorem dJ9_max_7cf53_10 : decode cJ9_max_7cf53 10 = .ok (.ireturn, 1) := by decide +kernel
theorem dJ9_min_7cf53_0 : decode cJ9_min_7cf53 0 = .ok (.iload_n 0, 1) := by decide +kernel
theorem dJ9_min_7cf53_1 : decode cJ9_min_7cf53 1 = .ok (.iload_n 1, 1) := by decide +kernel
theorem dJ9_min_7cf53_2 : decode cJ9_min_7cf53 2 = .ok (.if_icmp .gt 7, 3) := by decide +kernel
theorem dJ9_min_7cf53_5 : decode cJ9_min_7cf53 5 = .ok (.iload_n 0, 1) := by decide +kernel
theorem dJ9_min_7cf53_6 : decode cJ9_min_7cf53 6 = .ok (.goto 4, 3) := by decide +kernel
theorem dJ9_min_7cf53_9 : decode cJ9_min_7cf53 9 = .ok (.iload_n 1, 1) := by decide +kernel
theorem dJ9_min_7cf53_10 : decode cJ9_min_7cf53 10 = .ok (.ireturn, 1) := by decide +kernel
theorem dJxa1e45_init_da8c8_0 : decode cJxa1e45_init_da8c8 0 = .ok (.aload_n 0, 1) := by decide +kernel
theorem dJxa1e45_init_da8c8_1 : decode cJxa1e45_init_da8c8 1 = .ok (.invokespecial 1, 3) := by decide +kernel
theorem dJxa1e45_init_da8c8_4 : decode cJxa1e45_init_da8c8 4 = .ok (.return_, 1) := by decide +kernel
theorem dJxc12de_init_da8c8_0 : decode cJxc12de_init_da8c8 0 = .ok (.aload_n 0, 1) := by decide +kernel
theorem dJxc12de_init_da8c8_1 : decode cJxc12de_init_da8c8 1 = .ok (.invokespecial 1, 3) := by decide +kernel
theorem dJxc12de_init_da8c8_4 : decode cJxc12de_init_da8c8 4 = .ok (.aload_n 0, 1) := by decide +kernel
theorem dJxc12de_init_da8c8_5 : decode cJxc12de_init_da8c8 5 = .ok (.iconst 0, 1) := by decide +kernel
theorem dJxc12de_init_da8c8_6 : decode cJxc12de_init_da8c8 6 = .ok (.putfield 7, 3) := by decide +kernel
theorem dJxc12de_init_da8c8_9 : decode cJxc12de_init_da8c8 9 = .ok (.return_, 1) := by decide +kernel
theorem dJx4a65c_init_da8c8_0 : decode cJx4a65c_init_da8c8 0 = .ok (.aload_n 0, 1) := by decide +kernel
theorem dJx4a65c_init_da8c8_1 : decode cJx4a65c_init_da8c8 1 = .ok (.invokespecial 1, 3) := by decide +kernel
theorem dJx4a65c_init_da8c8_4 : decode cJx4a65c_init_da8c8 4 = .ok (.aload_n 0, 1) := by decide +kernel
theorem dJx4a65c_init_da8c8_5 : decode cJx4a65c_init_da8c8 5 = .ok (.getstatic 39, 3) := by decide +kernel
theorem dJx4a65c_init_da8c8_8 : decode cJx4a65c_init_da8c8 8 = .ok (.putfield 9, 3) := by decide +kernel
theorem dJx4a65c_init_da8c8_11 : decode cJx4a65c_init_da8c8 11 = .ok (.return_, 1) := by decide +kernel
theorem dJx4a65c_grow_92f84_0 : decode cJx4a65c_grow_92f84 0 = .ok (.aload_n 0, 1) := by decide +kernel
theorem dJx4a65c_grow_92f84_1 : decode cJx4a65c_grow_92f84 1 = .ok (.getfield 9, 3) := by decide +kernel
theorem dJx4a65c_grow_92f84_4 : decode cJx4a65c_grow_92f84 4 = .ok (.arraylength, 1) := by decide +kernel
theorem dJx4a65c_grow_92f84_5 : decode cJx4a65c_grow_92f84 5 = .ok (.istore_n 2, 1) := by decide +kernel
theorem dJx4a65c_grow_92f84_6 : decode cJx4a65c_grow_92f84 6 = .ok (.iload_n 2, 1) := by decide +kernel
theorem dJx4a65c_grow_92f84_7 : decode cJx4a65c_grow_92f84 7 = .ok (.ifCond .gt 13, 3) := by decide +kernel
theorem dJx4a65c_grow_92f84_10 : decode cJx4a65c_grow_92f84 10 = .ok (.aload_n 0, 1) := by decide +kernel
theorem dJx4a65c_grow_92f84_11 : decode cJx4a65c_grow_92f84 11 = .ok (.getfield 9, 3) := by decide +kernel
theorem dJx4a65c_grow_92f84_14 : decode cJx4a65c_grow_92f84 14 = .ok (.getstatic 39, 3) := by decide +kernel
theorem dJx4a65c_grow_92f84_17 : decode cJx4a65c_grow_92f84 17 = .ok (.if_acmp .eq 28, 3) := by decide +kernel
theorem dJx4a65c_grow_92f84_20 : decode cJx4a65c_grow_92f84 20 = .ok (.iload_n 2, 1) := by decide +kernel
theorem dJx4a65c_grow_92f84_21 : decode cJx4a65c_grow_92f84 21 = .ok (.iload_n 1, 1) := by decide +kernel
theorem dJx4a65c_grow_92f84_22 : decode cJx4a65c_grow_92f84 22 = .ok (.iload_n 2, 1) := by decide +kernel
theorem dJx4a65c_grow_92f84_23 : decode cJx4a65c_grow_92f84 23 = .ok (.isub, 1) := by decide +kernel
theorem dJx4a65c_grow_92f84_24 : decode cJx4a65c_grow_92f84 24 = .ok (.iload_n 2, 1) := by decide +kernel
theorem dJx4a65c_grow_92f84_25 : decode cJx4a65c_grow_92f84 25 = .ok (.iconst 1, 1) := by decide +kernel
theorem dJx4a65c_grow_92f84_26 : decode cJx4a65c_grow_92f84 26 = .ok (.ishr, 1) := by decide +kernel
theorem dJx4a65c_grow_92f84_27 : decode cJx4a65c_grow_92f84 27 = .ok (.invokestatic 73, 3) := by decide +kernel
theorem dJx4a65c_grow_92f84_30 : decode cJx4a65c_grow_92f84 30 = .ok (.istore_n 3, 1) := by decide +kernel
theorem dJx4a65c_grow_92f84_31 : decode cJx4a65c_grow_92f84 31 = .ok (.aload_n 0, 1) := by decide +kernel
theorem dJx4a65c_grow_92f84_32 : decode cJx4a65c_grow_92f84 32 = .ok (.aload_n 0, 1) := by decide +kernel
theorem dJx4a65c_grow_92f84_33 : decode cJx4a65c_grow_92f84 33 = .ok (.getfield 9, 3) := by decide +kernel
theorem dJx4a65c_grow_92f84_36 : decode cJx4a65c_grow_92f84 36 = .ok (.iload_n 3, 1) := by decide +kernel
theorem dJx4a65c_grow_92f84_37 : decode cJx4a65c_grow_92f84 37 = .ok (.invokestatic 66, 3) := by decide +kernel
theorem dJx4a65c_grow_92f84_40 : decode cJx4a65c_grow_92f84 40 = .ok (.dup_x1, 1) := by decide +kernel
theorem dJx4a65c_grow_92f84_41 : decode cJx4a65c_grow_92f84 41 = .ok (.putfield 9, 3) := by decide +kernel
theorem dJx4a65c_grow_92f84_44 : decode cJx4a65c_grow_92f84 44 = .ok (.areturn, 1) := by decide +kernel
theorem dJx4a65c_grow_92f84_45 : decode cJx4a65c_grow_92f84 45 = .ok (.aload_n 0, 1) := by decide +kernel
theorem dJx4a65c_grow_92f84_46 : decode cJx4a65c_grow_92f84 46 = .ok (.bipush 10, 2) := by decide +kernel
theorem dJx4a65c_grow_92f84_48 : decode cJx4a65c_grow_92f84 48 = .ok (.iload_n 1, 1) := by decide +kernel
theorem dJx4a65c_grow_92f84_49 : decode cJx4a65c_grow_92f84 49 = .ok (.invokestatic 79, 3) := by decide +kernel
theorem dJx4a65c_grow_92f84_52 : decode cJx4a65c_grow_92f84 52 = .ok (.anewarray 7, 3) := by decide +kernel
theorem dJx4a65c_grow_92f84_55 : decode cJx4a65c_grow_92f84 55 = .ok (.dup_x1, 1) := by decide +kernel
theorem dJx4a65c_grow_92f84_56 : decode cJx4a65c_grow_92f84 56 = .ok (.putfield 9, 3) := by decide +kernel
theorem dJx4a65c_grow_92f84_59 : decode cJx4a65c_grow_92f84 59 = .ok (.areturn, 1) := by decide +kernel
theorem dJx4a65c_grow_d5877_0 : decode cJx4a65c_grow_d5877 0 = .ok (.aload_n 0, 1) := by decide +kernel
theorem dJx4a65c_grow_d5877_1 : decode cJx4a65c_grow_d5877 1 = .ok (.aload_n 0, 1) := by decide +kernel
theorem dJx4a65c_grow_d5877_2 : decode cJx4a65c_grow_d5877 2 = .ok (.getfield 48, 3) := by decide +kernel
theorem dJx4a65c_grow_d5877_5 : decode cJx4a65c_grow_d5877 5 = .ok (.iconst 1, 1) := by decide +kernel
theorem dJx4a65c_grow_d5877_6 : decode cJx4a65c_grow_d5877 6 = .ok (.iadd, 1) := by decide +kernel
theorem dJx4a65c_grow_d5877_7 : decode cJx4a65c_grow_d5877 7 = .ok (.invokevirtual 69, 3) := by decide +kernel
