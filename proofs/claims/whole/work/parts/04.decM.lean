theorem dX6_init_0 : decode cX6_init 0 = .ok (.aload_n 0, 1) := by decide +kernel
theorem dX6_init_1 : decode cX6_init 1 = .ok (.invokespecial 1, 3) := by decide +kernel
theorem dX6_init_4 : decode cX6_init 4 = .ok (.aload_n 0, 1) := by decide +kernel
theorem dX6_init_5 : decode cX6_init 5 = .ok (.iconst 5, 1) := by decide +kernel
theorem dX6_init_6 : decode cX6_init 6 = .ok (.newarray .int, 2) := by decide +kernel
theorem dX6_init_8 : decode cX6_init 8 = .ok (.putfield 7, 3) := by decide +kernel
theorem dX6_init_11 : decode cX6_init 11 = .ok (.aload_n 0, 1) := by decide +kernel
theorem dX6_init_12 : decode cX6_init 12 = .ok (.iconst 5, 1) := by decide +kernel
theorem dX6_init_13 : decode cX6_init 13 = .ok (.newarray .boolean, 2) := by decide +kernel
theorem dX6_init_15 : decode cX6_init 15 = .ok (.putfield 13, 3) := by decide +kernel
theorem dX6_init_18 : decode cX6_init 18 = .ok (.aload_n 0, 1) := by decide +kernel
theorem dX6_init_19 : decode cX6_init 19 = .ok (.iconst 5, 1) := by decide +kernel
theorem dX6_init_20 : decode cX6_init 20 = .ok (.newarray .int, 2) := by decide +kernel
theorem dX6_init_22 : decode cX6_init 22 = .ok (.putfield 17, 3) := by decide +kernel
theorem dX6_init_25 : decode cX6_init 25 = .ok (.aload_n 0, 1) := by decide +kernel
theorem dX6_init_26 : decode cX6_init 26 = .ok (.bipush 40, 2) := by decide +kernel
theorem dX6_init_28 : decode cX6_init 28 = .ok (.newarray .int, 2) := by decide +kernel
theorem dX6_init_30 : decode cX6_init 30 = .ok (.putfield 20, 3) := by decide +kernel
theorem dX6_init_33 : decode cX6_init 33 = .ok (.aload_n 0, 1) := by decide +kernel
theorem dX6_init_34 : decode cX6_init 34 = .ok (.bipush 40, 2) := by decide +kernel
theorem dX6_init_36 : decode cX6_init 36 = .ok (.newarray .int, 2) := by decide +kernel
theorem dX6_init_38 : decode cX6_init 38 = .ok (.putfield 23, 3) := by decide +kernel
theorem dX6_init_41 : decode cX6_init 41 = .ok (.aload_n 0, 1) := by decide +kernel
theorem dX6_init_42 : decode cX6_init 42 = .ok (.bipush 40, 2) := by decide +kernel
theorem dX6_init_44 : decode cX6_init 44 = .ok (.newarray .int, 2) := by decide +kernel
theorem dX6_init_46 : decode cX6_init 46 = .ok (.putfield 26, 3) := by decide +kernel
theorem dX6_init_49 : decode cX6_init 49 = .ok (.aload_n 0, 1) := by decide +kernel
theorem dX6_init_50 : decode cX6_init 50 = .ok (.bipush 40, 2) := by decide +kernel
theorem dX6_init_52 : decode cX6_init 52 = .ok (.newarray .int, 2) := by decide +kernel
theorem dX6_init_54 : decode cX6_init 54 = .ok (.putfield 29, 3) := by decide +kernel
theorem dX6_init_57 : decode cX6_init 57 = .ok (.aload_n 0, 1) := by decide +kernel
theorem dX6_init_58 : decode cX6_init 58 = .ok (.bipush 40, 2) := by decide +kernel
theorem dX6_init_60 : decode cX6_init 60 = .ok (.newarray .int, 2) := by decide +kernel
theorem dX6_init_62 : decode cX6_init 62 = .ok (.putfield 32, 3) := by decide +kernel
theorem dX6_init_65 : decode cX6_init 65 = .ok (.aload_n 0, 1) := by decide +kernel
theorem dX6_init_66 : decode cX6_init 66 = .ok (.ldc 35, 2) := by decide +kernel
theorem dX6_init_68 : decode cX6_init 68 = .ok (.newarray .int, 2) := by decide +kernel
theorem dX6_init_70 : decode cX6_init 70 = .ok (.putfield 36, 3) := by decide +kernel
theorem dX6_init_73 : decode cX6_init 73 = .ok (.aload_n 0, 1) := by decide +kernel
theorem dX6_init_74 : decode cX6_init 74 = .ok (.ldc 35, 2) := by decide +kernel
theorem dX6_init_76 : decode cX6_init 76 = .ok (.newarray .int, 2) := by decide +kernel
theorem dX6_init_78 : decode cX6_init 78 = .ok (.putfield 39, 3) := by decide +kernel
theorem dX6_init_81 : decode cX6_init 81 = .ok (.aload_n 0, 1) := by decide +kernel
theorem dX6_init_82 : decode cX6_init 82 = .ok (.ldc 35, 2) := by decide +kernel
theorem dX6_init_84 : decode cX6_init 84 = .ok (.newarray .boolean, 2) := by decide +kernel
theorem dX6_init_86 : decode cX6_init 86 = .ok (.putfield 42, 3) := by decide +kernel
theorem dX6_init_89 : decode cX6_init 89 = .ok (.aload_n 0, 1) := by decide +kernel
theorem dX6_init_90 : decode cX6_init 90 = .ok (.bipush 25, 2) := by decide +kernel
theorem dX6_init_92 : decode cX6_init 92 = .ok (.newarray .int, 2) := by decide +kernel
theorem dX6_init_94 : decode cX6_init 94 = .ok (.putfield 45, 3) := by decide +kernel
theorem dX6_init_97 : decode cX6_init 97 = .ok (.aload_n 0, 1) := by decide +kernel
theorem dX6_init_98 : decode cX6_init 98 = .ok (.bipush 100, 2) := by decide +kernel
theorem dX6_init_100 : decode cX6_init 100 = .ok (.newarray .int, 2) := by decide +kernel
theorem dX6_init_102 : decode cX6_init 102 = .ok (.putfield 48, 3) := by decide +kernel
theorem dX6_init_105 : decode cX6_init 105 = .ok (.return_, 1) := by decide +kernel
theorem dX6_in_0 : decode cX6_in 0 = .ok (.iload_n 0, 1) := by decide +kernel
theorem dX6_in_1 : decode cX6_in 1 = .ok (.iload_n 1, 1) := by decide +kernel
theorem dX6_in_2 : decode cX6_in 2 = .ok (.if_icmp .lt 12, 3) := by decide +kernel
theorem dX6_in_5 : decode cX6_in 5 = .ok (.iload_n 0, 1) := by decide +kernel
theorem dX6_in_6 : decode cX6_in 6 = .ok (.iload_n 2, 1) := by decide +kernel
theorem dX6_in_7 : decode cX6_in 7 = .ok (.if_icmp .gt 7, 3) := by decide +kernel
theorem dX6_in_10 : decode cX6_in 10 = .ok (.iconst 1, 1) := by decide +kernel
theorem dX6_in_11 : decode cX6_in 11 = .ok (.goto 4, 3) := by decide +kernel
theorem dX6_in_14 : decode cX6_in 14 = .ok (.iconst 0, 1) := by decide +kernel
theorem dX6_in_15 : decode cX6_in 15 = .ok (.ireturn, 1) := by decide +kernel
theorem dX6_isThing_0 : decode cX6_isThing 0 = .ok (.iload_n 1, 1) := by decide +kernel
theorem dX6_isThing_1 : decode cX6_isThing 1 = .ok (.iconst 0, 1) := by decide +kernel
theorem dX6_isThing_2 : decode cX6_isThing 2 = .ok (.aload_n 0, 1) := by decide +kernel
theorem dX6_isThing_3 : decode cX6_isThing 3 = .ok (.getfield 51, 3) := by decide +kernel
theorem dX6_isThing_6 : decode cX6_isThing 6 = .ok (.iconst 1, 1) := by decide +kernel
theorem dX6_isThing_7 : decode cX6_isThing 7 = .ok (.isub, 1) := by decide +kernel
theorem dX6_isThing_8 : decode cX6_isThing 8 = .ok (.invokestatic 55, 3) := by decide +kernel
theorem dX6_isThing_11 : decode cX6_isThing 11 = .ok (.ireturn, 1) := by decide +kernel
theorem dX6_thing_0 : decode cX6_thing 0 = .ok (.iload_n 3, 1) := by decide +kernel
theorem dX6_thing_1 : decode cX6_thing 1 = .ok (.iconst (-1), 1) := by decide +kernel
theorem dX6_thing_2 : decode cX6_thing 2 = .ok (.if_icmp .eq 14, 3) := by decide +kernel
theorem dX6_thing_5 : decode cX6_thing 5 = .ok (.aload_n 0, 1) := by decide +kernel
theorem dX6_thing_6 : decode cX6_thing 6 = .ok (.iload_n 3, 1) := by decide +kernel
theorem dX6_thing_7 : decode cX6_thing 7 = .ok (.invokevirtual 59, 3) := by decide +kernel
theorem dX6_thing_10 : decode cX6_thing 10 = .ok (.ifCond .ne 6, 3) := by decide +kernel
theorem dX6_thing_13 : decode cX6_thing 13 = .ok (.bipush (-101), 2) := by decide +kernel
theorem dX6_thing_15 : decode cX6_thing 15 = .ok (.ireturn, 1) := by decide +kernel
theorem dX6_thing_16 : decode cX6_thing 16 = .ok (.iload_n 1, 1) := by decide +kernel
theorem dX6_thing_17 : decode cX6_thing 17 = .ok (.iconst 0, 1) := by decide +kernel
theorem dX6_thing_18 : decode cX6_thing 18 = .ok (.iconst 1, 1) := by decide +kernel
theorem dX6_thing_19 : decode cX6_thing 19 = .ok (.invokestatic 55, 3) := by decide +kernel
theorem dX6_thing_22 : decode cX6_thing 22 = .ok (.ifCond .eq 23, 3) := by decide +kernel
theorem dX6_thing_25 : decode cX6_thing 25 = .ok (.iload_n 3, 1) := by decide +kernel
theorem dX6_thing_26 : decode cX6_thing 26 = .ok (.iconst (-1), 1) := by decide +kernel
theorem dX6_thing_27 : decode cX6_thing 27 = .ok (.if_icmp .eq 21, 3) := by decide +kernel
theorem dX6_thing_30 : decode cX6_thing 30 = .ok (.iload_n 1, 1) := by decide +kernel
theorem dX6_thing_31 : decode cX6_thing 31 = .ok (.iconst 1, 1) := by decide +kernel
theorem dX6_thing_32 : decode cX6_thing 32 = .ok (.if_icmp .eq 13, 3) := by decide +kernel
theorem dX6_thing_35 : decode cX6_thing 35 = .ok (.aload_n 0, 1) := by decide +kernel
theorem dX6_thing_36 : decode cX6_thing 36 = .ok (.getfield 7, 3) := by decide +kernel
theorem dX6_thing_39 : decode cX6_thing 39 = .ok (.iload_n 3, 1) := by decide +kernel
theorem dX6_thing_40 : decode cX6_thing 40 = .ok (.iaload, 1) := by decide +kernel
theorem dX6_thing_41 : decode cX6_thing 41 = .ok (.iconst 1, 1) := by decide +kernel
theorem dX6_thing_42 : decode cX6_thing 42 = .ok (.if_icmp .ne 6, 3) := by decide +kernel
theorem dX6_thing_45 : decode cX6_thing 45 = .ok (.bipush (-102), 2) := by decide +kernel
theorem dX6_thing_47 : decode cX6_thing 47 = .ok (.ireturn, 1) := by decide +kernel
theorem dX6_thing_48 : decode cX6_thing 48 = .ok (.aload_n 0, 1) := by decide +kernel
theorem dX6_thing_49 : decode cX6_thing 49 = .ok (.getfield 51, 3) := by decide +kernel
theorem dX6_thing_52 : decode cX6_thing 52 = .ok (.iconst 5, 1) := by decide +kernel
theorem dX6_thing_53 : decode cX6_thing 53 = .ok (.if_icmp .ne 6, 3) := by decide +kernel
theorem dX6_thing_56 : decode cX6_thing 56 = .ok (.bipush (-104), 2) := by decide +kernel
theorem dX6_thing_58 : decode cX6_thing 58 = .ok (.ireturn, 1) := by decide +kernel
theorem dX6_thing_59 : decode cX6_thing 59 = .ok (.aload_n 0, 1) := by decide +kernel
theorem dX6_thing_60 : decode cX6_thing 60 = .ok (.getfield 7, 3) := by decide +kernel
theorem dX6_thing_63 : decode cX6_thing 63 = .ok (.aload_n 0, 1) := by decide +kernel
theorem dX6_thing_64 : decode cX6_thing 64 = .ok (.getfield 51, 3) := by decide +kernel
theorem dX6_thing_67 : decode cX6_thing 67 = .ok (.iload_n 1, 1) := by decide +kernel
theorem dX6_thing_68 : decode cX6_thing 68 = .ok (.iastore, 1) := by decide +kernel
theorem dX6_thing_69 : decode cX6_thing 69 = .ok (.aload_n 0, 1) := by decide +kernel
theorem dX6_thing_70 : decode cX6_thing 70 = .ok (.getfield 13, 3) := by decide +kernel
theorem dX6_thing_73 : decode cX6_thing 73 = .ok (.aload_n 0, 1) := by decide +kernel
theorem dX6_thing_74 : decode cX6_thing 74 = .ok (.getfield 51, 3) := by decide +kernel
theorem dX6_thing_77 : decode cX6_thing 77 = .ok (.iload_n 2, 1) := by decide +kernel
theorem dX6_thing_78 : decode cX6_thing 78 = .ok (.bastore, 1) := by decide +kernel
theorem dX6_thing_79 : decode cX6_thing 79 = .ok (.aload_n 0, 1) := by decide +kernel
theorem dX6_thing_80 : decode cX6_thing 80 = .ok (.getfield 17, 3) := by decide +kernel
theorem dX6_thing_83 : decode cX6_thing 83 = .ok (.aload_n 0, 1) := by decide +kernel
theorem dX6_thing_84 : decode cX6_thing 84 = .ok (.getfield 51, 3) := by decide +kernel
theorem dX6_thing_87 : decode cX6_thing 87 = .ok (.iload_n 3, 1) := by decide +kernel
theorem dX6_thing_88 : decode cX6_thing 88 = .ok (.iastore, 1) := by decide +kernel
theorem dX6_thing_89 : decode cX6_thing 89 = .ok (.aload_n 0, 1) := by decide +kernel
theorem dX6_thing_90 : decode cX6_thing 90 = .ok (.dup, 1) := by decide +kernel
theorem dX6_thing_91 : decode cX6_thing 91 = .ok (.getfield 51, 3) := by decide +kernel
theorem dX6_thing_94 : decode cX6_thing 94 = .ok (.iconst 1, 1) := by decide +kernel
theorem dX6_thing_95 : decode cX6_thing 95 = .ok (.iadd, 1) := by decide +kernel
theorem dX6_thing_96 : decode cX6_thing 96 = .ok (.putfield 51, 3) := by decide +kernel
theorem dX6_thing_99 : decode cX6_thing 99 = .ok (.aload_n 0, 1) := by decide +kernel
theorem dX6_thing_100 : decode cX6_thing 100 = .ok (.iconst 0, 1) := by decide +kernel
theorem dX6_thing_101 : decode cX6_thing 101 = .ok (.putfield 63, 3) := by decide +kernel
theorem dX6_thing_104 : decode cX6_thing 104 = .ok (.aload_n 0, 1) := by decide +kernel
theorem dX6_thing_105 : decode cX6_thing 105 = .ok (.getfield 51, 3) := by decide +kernel
theorem dX6_thing_108 : decode cX6_thing 108 = .ok (.iconst 1, 1) := by decide +kernel
theorem dX6_thing_109 : decode cX6_thing 109 = .ok (.isub, 1) := by decide +kernel
theorem dX6_thing_110 : decode cX6_thing 110 = .ok (.ireturn, 1) := by decide +kernel
theorem dX6_bars_0 : decode cX6_bars 0 = .ok (.iload_n 1, 1) := by decide +kernel
theorem dX6_bars_1 : decode cX6_bars 1 = .ok (.iconst 0, 1) := by decide +kernel
theorem dX6_bars_2 : decode cX6_bars 2 = .ok (.iconst 3, 1) := by decide +kernel
theorem dX6_bars_3 : decode cX6_bars 3 = .ok (.invokestatic 55, 3) := by decide +kernel
theorem dX6_bars_6 : decode cX6_bars 6 = .ok (.ifCond .ne 9, 3) := by decide +kernel
theorem dX6_bars_9 : decode cX6_bars 9 = .ok (.iload_n 1, 1) := by decide +kernel
theorem dX6_bars_10 : decode cX6_bars 10 = .ok (.bipush 8, 2) := by decide +kernel
theorem dX6_bars_12 : decode cX6_bars 12 = .ok (.if_icmp .ne 7, 3) := by decide +kernel
theorem dX6_bars_15 : decode cX6_bars 15 = .ok (.iconst 1, 1) := by decide +kernel
theorem dX6_bars_16 : decode cX6_bars 16 = .ok (.goto 4, 3) := by decide +kernel
theorem dX6_bars_19 : decode cX6_bars 19 = .ok (.iconst 0, 1) := by decide +kernel
theorem dX6_bars_20 : decode cX6_bars 20 = .ok (.istore 5, 2) := by decide +kernel
theorem dX6_bars_22 : decode cX6_bars 22 = .ok (.iload 5, 2) := by decide +kernel
theorem dX6_bars_24 : decode cX6_bars 24 = .ok (.ifCond .eq 14, 3) := by decide +kernel
theorem dX6_bars_27 : decode cX6_bars 27 = .ok (.aload_n 0, 1) := by decide +kernel
theorem dX6_bars_28 : decode cX6_bars 28 = .ok (.iload_n 2, 1) := by decide +kernel
theorem dX6_bars_29 : decode cX6_bars 29 = .ok (.invokevirtual 59, 3) := by decide +kernel
theorem dX6_bars_32 : decode cX6_bars 32 = .ok (.ifCond .ne 6, 3) := by decide +kernel
theorem dX6_bars_35 : decode cX6_bars 35 = .ok (.bipush (-101), 2) := by decide +kernel
theorem dX6_bars_37 : decode cX6_bars 37 = .ok (.ireturn, 1) := by decide +kernel
theorem dX6_bars_38 : decode cX6_bars 38 = .ok (.iload_n 1, 1) := by decide +kernel
theorem dX6_bars_39 : decode cX6_bars 39 = .ok (.iconst 4, 1) := by decide +kernel
theorem dX6_bars_40 : decode cX6_bars 40 = .ok (.if_icmp .eq 14, 3) := by decide +kernel
theorem dX6_bars_43 : decode cX6_bars 43 = .ok (.iload_n 1, 1) := by decide +kernel
theorem dX6_bars_44 : decode cX6_bars 44 = .ok (.iconst 5, 1) := by decide +kernel
theorem dX6_bars_45 : decode cX6_bars 45 = .ok (.if_icmp .eq 9, 3) := by decide +kernel
theorem dX6_bars_48 : decode cX6_bars 48 = .ok (.iload_n 1, 1) := by decide +kernel
theorem dX6_bars_49 : decode cX6_bars 49 = .ok (.bipush 8, 2) := by decide +kernel
theorem dX6_bars_51 : decode cX6_bars 51 = .ok (.if_icmp .ne 7, 3) := by decide +kernel
theorem dX6_bars_54 : decode cX6_bars 54 = .ok (.iconst 1, 1) := by decide +kernel
theorem dX6_bars_55 : decode cX6_bars 55 = .ok (.goto 4, 3) := by decide +kernel
theorem dX6_bars_58 : decode cX6_bars 58 = .ok (.iconst 0, 1) := by decide +kernel
theorem dX6_bars_59 : decode cX6_bars 59 = .ok (.istore 6, 2) := by decide +kernel
theorem dX6_bars_61 : decode cX6_bars 61 = .ok (.iload_n 1, 1) := by decide +kernel
theorem dX6_bars_62 : decode cX6_bars 62 = .ok (.iconst 0, 1) := by decide +kernel
theorem dX6_bars_63 : decode cX6_bars 63 = .ok (.bipush 8, 2) := by decide +kernel
theorem dX6_bars_65 : decode cX6_bars 65 = .ok (.invokestatic 55, 3) := by decide +kernel
theorem dX6_bars_68 : decode cX6_bars 68 = .ok (.ifCond .eq 50, 3) := by decide +kernel
theorem dX6_bars_71 : decode cX6_bars 71 = .ok (.iload 6, 2) := by decide +kernel
theorem dX6_bars_73 : decode cX6_bars 73 = .ok (.ifCond .eq 13, 3) := by decide +kernel
theorem dX6_bars_76 : decode cX6_bars 76 = .ok (.iload_n 3, 1) := by decide +kernel
theorem dX6_bars_77 : decode cX6_bars 77 = .ok (.iconst 0, 1) := by decide +kernel
theorem dX6_bars_78 : decode cX6_bars 78 = .ok (.bipush 39, 2) := by decide +kernel
theorem dX6_bars_80 : decode cX6_bars 80 = .ok (.invokestatic 55, 3) := by decide +kernel
theorem dX6_bars_83 : decode cX6_bars 83 = .ok (.ifCond .eq 35, 3) := by decide +kernel
theorem dX6_bars_86 : decode cX6_bars 86 = .ok (.iload 4, 2) := by decide +kernel
theorem dX6_bars_88 : decode cX6_bars 88 = .ok (.iconst (-1), 1) := by decide +kernel
theorem dX6_bars_89 : decode cX6_bars 89 = .ok (.if_icmp .eq 14, 3) := by decide +kernel
theorem dX6_bars_92 : decode cX6_bars 92 = .ok (.iload 4, 2) := by decide +kernel
theorem dX6_bars_94 : decode cX6_bars 94 = .ok (.iconst 0, 1) := by decide +kernel
theorem dX6_bars_95 : decode cX6_bars 95 = .ok (.bipush 39, 2) := by decide +kernel
theorem dX6_bars_97 : decode cX6_bars 97 = .ok (.invokestatic 55, 3) := by decide +kernel
theorem dX6_bars_100 : decode cX6_bars 100 = .ok (.ifCond .eq 18, 3) := by decide +kernel
theorem dX6_bars_103 : decode cX6_bars 103 = .ok (.iload_n 1, 1) := by decide +kernel
theorem dX6_bars_104 : decode cX6_bars 104 = .ok (.iconst 3, 1) := by decide +kernel
theorem dX6_bars_105 : decode cX6_bars 105 = .ok (.if_icmp .ne 16, 3) := by decide +kernel
theorem dX6_bars_108 : decode cX6_bars 108 = .ok (.aload_n 0, 1) := by decide +kernel
theorem dX6_bars_109 : decode cX6_bars 109 = .ok (.getfield 7, 3) := by decide +kernel
theorem dX6_bars_112 : decode cX6_bars 112 = .ok (.iload_n 2, 1) := by decide +kernel
theorem dX6_bars_113 : decode cX6_bars 113 = .ok (.iaload, 1) := by decide +kernel
theorem dX6_bars_114 : decode cX6_bars 114 = .ok (.iconst 1, 1) := by decide +kernel
theorem dX6_bars_115 : decode cX6_bars 115 = .ok (.if_icmp .ne 6, 3) := by decide +kernel
theorem dX6_bars_118 : decode cX6_bars 118 = .ok (.bipush (-102), 2) := by decide +kernel
theorem dX6_bars_120 : decode cX6_bars 120 = .ok (.ireturn, 1) := by decide +kernel
theorem dX6_bars_121 : decode cX6_bars 121 = .ok (.iconst 0, 1) := by decide +kernel
theorem dX6_bars_122 : decode cX6_bars 122 = .ok (.ireturn, 1) := by decide +kernel
theorem dX6_lay_0 : decode cX6_lay 0 = .ok (.aload_n 0, 1) := by decide +kernel
theorem dX6_lay_1 : decode cX6_lay 1 = .ok (.getfield 20, 3) := by decide +kernel
theorem dX6_lay_4 : decode cX6_lay 4 = .ok (.iload_n 1, 1) := by decide +kernel
theorem dX6_lay_5 : decode cX6_lay 5 = .ok (.iload_n 2, 1) := by decide +kernel
theorem dX6_lay_6 : decode cX6_lay 6 = .ok (.iastore, 1) := by decide +kernel
theorem dX6_lay_7 : decode cX6_lay 7 = .ok (.aload_n 0, 1) := by decide +kernel
theorem dX6_lay_8 : decode cX6_lay 8 = .ok (.getfield 23, 3) := by decide +kernel
theorem dX6_lay_11 : decode cX6_lay 11 = .ok (.iload_n 1, 1) := by decide +kernel
theorem dX6_lay_12 : decode cX6_lay 12 = .ok (.iload_n 3, 1) := by decide +kernel
theorem dX6_lay_13 : decode cX6_lay 13 = .ok (.iastore, 1) := by decide +kernel
theorem dX6_lay_14 : decode cX6_lay 14 = .ok (.aload_n 0, 1) := by decide +kernel
theorem dX6_lay_15 : decode cX6_lay 15 = .ok (.getfield 26, 3) := by decide +kernel
theorem dX6_lay_18 : decode cX6_lay 18 = .ok (.iload_n 1, 1) := by decide +kernel
theorem dX6_lay_19 : decode cX6_lay 19 = .ok (.iload 4, 2) := by decide +kernel
theorem dX6_lay_21 : decode cX6_lay 21 = .ok (.iastore, 1) := by decide +kernel
theorem dX6_lay_22 : decode cX6_lay 22 = .ok (.aload_n 0, 1) := by decide +kernel
theorem dX6_lay_23 : decode cX6_lay 23 = .ok (.getfield 29, 3) := by decide +kernel
theorem dX6_lay_26 : decode cX6_lay 26 = .ok (.iload_n 1, 1) := by decide +kernel
theorem dX6_lay_27 : decode cX6_lay 27 = .ok (.iload 5, 2) := by decide +kernel
theorem dX6_lay_29 : decode cX6_lay 29 = .ok (.ifCond .eq 7, 3) := by decide +kernel
theorem dX6_lay_32 : decode cX6_lay 32 = .ok (.iconst 1, 1) := by decide +kernel
theorem dX6_lay_33 : decode cX6_lay 33 = .ok (.goto 4, 3) := by decide +kernel
theorem dX6_lay_36 : decode cX6_lay 36 = .ok (.iconst 0, 1) := by decide +kernel
theorem dX6_lay_37 : decode cX6_lay 37 = .ok (.iastore, 1) := by decide +kernel
theorem dX6_lay_38 : decode cX6_lay 38 = .ok (.aload_n 0, 1) := by decide +kernel
theorem dX6_lay_39 : decode cX6_lay 39 = .ok (.getfield 32, 3) := by decide +kernel
theorem dX6_lay_42 : decode cX6_lay 42 = .ok (.iload_n 1, 1) := by decide +kernel
theorem dX6_lay_43 : decode cX6_lay 43 = .ok (.iload 6, 2) := by decide +kernel
theorem dX6_lay_45 : decode cX6_lay 45 = .ok (.iastore, 1) := by decide +kernel
theorem dX6_lay_46 : decode cX6_lay 46 = .ok (.aload_n 0, 1) := by decide +kernel
theorem dX6_lay_47 : decode cX6_lay 47 = .ok (.iconst 0, 1) := by decide +kernel
theorem dX6_lay_48 : decode cX6_lay 48 = .ok (.putfield 63, 3) := by decide +kernel
theorem dX6_lay_51 : decode cX6_lay 51 = .ok (.return_, 1) := by decide +kernel
theorem dX6_step_0 : decode cX6_step 0 = .ok (.aload_n 0, 1) := by decide +kernel
theorem dX6_step_1 : decode cX6_step 1 = .ok (.iload_n 1, 1) := by decide +kernel
theorem dX6_step_2 : decode cX6_step 2 = .ok (.iload_n 2, 1) := by decide +kernel
theorem dX6_step_3 : decode cX6_step 3 = .ok (.iload_n 3, 1) := by decide +kernel
theorem dX6_step_4 : decode cX6_step 4 = .ok (.iload 5, 2) := by decide +kernel
theorem dX6_step_6 : decode cX6_step 6 = .ok (.invokevirtual 67, 3) := by decide +kernel
theorem dX6_step_9 : decode cX6_step 9 = .ok (.istore 6, 2) := by decide +kernel
theorem dX6_step_11 : decode cX6_step 11 = .ok (.iload 6, 2) := by decide +kernel
theorem dX6_step_13 : decode cX6_step 13 = .ok (.ifCond .ge 6, 3) := by decide +kernel
theorem dX6_step_16 : decode cX6_step 16 = .ok (.iload 6, 2) := by decide +kernel
theorem dX6_step_18 : decode cX6_step 18 = .ok (.ireturn, 1) := by decide +kernel
theorem dX6_step_19 : decode cX6_step 19 = .ok (.aload_n 0, 1) := by decide +kernel
theorem dX6_step_20 : decode cX6_step 20 = .ok (.getfield 71, 3) := by decide +kernel
theorem dX6_step_23 : decode cX6_step 23 = .ok (.bipush 40, 2) := by decide +kernel
theorem dX6_step_25 : decode cX6_step 25 = .ok (.if_icmp .ne 6, 3) := by decide +kernel
theorem dX6_step_28 : decode cX6_step 28 = .ok (.bipush (-104), 2) := by decide +kernel
theorem dX6_step_30 : decode cX6_step 30 = .ok (.ireturn, 1) := by decide +kernel
theorem dX6_step_31 : decode cX6_step 31 = .ok (.aload_n 0, 1) := by decide +kernel
theorem dX6_step_32 : decode cX6_step 32 = .ok (.aload_n 0, 1) := by decide +kernel
theorem dX6_step_33 : decode cX6_step 33 = .ok (.getfield 71, 3) := by decide +kernel
theorem dX6_step_36 : decode cX6_step 36 = .ok (.iload_n 1, 1) := by decide +kernel
theorem dX6_step_37 : decode cX6_step 37 = .ok (.iload_n 2, 1) := by decide +kernel
theorem dX6_step_38 : decode cX6_step 38 = .ok (.iload_n 3, 1) := by decide +kernel
theorem dX6_step_39 : decode cX6_step 39 = .ok (.iload 4, 2) := by decide +kernel
theorem dX6_step_41 : decode cX6_step 41 = .ok (.iload 5, 2) := by decide +kernel
theorem dX6_step_43 : decode cX6_step 43 = .ok (.invokevirtual 74, 3) := by decide +kernel
theorem dX6_step_46 : decode cX6_step 46 = .ok (.aload_n 0, 1) := by decide +kernel
theorem dX6_step_47 : decode cX6_step 47 = .ok (.dup, 1) := by decide +kernel
theorem dX6_step_48 : decode cX6_step 48 = .ok (.getfield 71, 3) := by decide +kernel
theorem dX6_step_51 : decode cX6_step 51 = .ok (.iconst 1, 1) := by decide +kernel
theorem dX6_step_52 : decode cX6_step 52 = .ok (.iadd, 1) := by decide +kernel
theorem dX6_step_53 : decode cX6_step 53 = .ok (.putfield 71, 3) := by decide +kernel
theorem dX6_step_56 : decode cX6_step 56 = .ok (.aload_n 0, 1) := by decide +kernel
theorem dX6_step_57 : decode cX6_step 57 = .ok (.getfield 71, 3) := by decide +kernel
theorem dX6_step_60 : decode cX6_step 60 = .ok (.iconst 1, 1) := by decide +kernel
theorem dX6_step_61 : decode cX6_step 61 = .ok (.isub, 1) := by decide +kernel
theorem dX6_step_62 : decode cX6_step 62 = .ok (.ireturn, 1) := by decide +kernel
theorem dX6_change_0 : decode cX6_change 0 = .ok (.aload_n 0, 1) := by decide +kernel
theorem dX6_change_1 : decode cX6_change 1 = .ok (.iload_n 2, 1) := by decide +kernel
theorem dX6_change_2 : decode cX6_change 2 = .ok (.iload_n 3, 1) := by decide +kernel
theorem dX6_change_3 : decode cX6_change 3 = .ok (.iload 4, 2) := by decide +kernel
theorem dX6_change_5 : decode cX6_change 5 = .ok (.iload 6, 2) := by decide +kernel
theorem dX6_change_7 : decode cX6_change 7 = .ok (.invokevirtual 67, 3) := by decide +kernel
theorem dX6_change_10 : decode cX6_change 10 = .ok (.istore 7, 2) := by decide +kernel
theorem dX6_change_12 : decode cX6_change 12 = .ok (.iload 7, 2) := by decide +kernel
theorem dX6_change_14 : decode cX6_change 14 = .ok (.ifCond .ge 6, 3) := by decide +kernel
theorem dX6_change_17 : decode cX6_change 17 = .ok (.iload 7, 2) := by decide +kernel
theorem dX6_change_19 : decode cX6_change 19 = .ok (.ireturn, 1) := by decide +kernel
theorem dX6_change_20 : decode cX6_change 20 = .ok (.iload_n 1, 1) := by decide +kernel
theorem dX6_change_21 : decode cX6_change 21 = .ok (.iconst 0, 1) := by decide +kernel
theorem dX6_change_22 : decode cX6_change 22 = .ok (.aload_n 0, 1) := by decide +kernel
theorem dX6_change_23 : decode cX6_change 23 = .ok (.getfield 71, 3) := by decide +kernel
theorem dX6_change_26 : decode cX6_change 26 = .ok (.iconst 1, 1) := by decide +kernel
theorem dX6_change_27 : decode cX6_change 27 = .ok (.isub, 1) := by decide +kernel
theorem dX6_change_28 : decode cX6_change 28 = .ok (.invokestatic 55, 3) := by decide +kernel
theorem dX6_change_31 : decode cX6_change 31 = .ok (.ifCond .ne 6, 3) := by decide +kernel
theorem dX6_change_34 : decode cX6_change 34 = .ok (.bipush (-102), 2) := by decide +kernel
theorem dX6_change_36 : decode cX6_change 36 = .ok (.ireturn, 1) := by decide +kernel
theorem dX6_change_37 : decode cX6_change 37 = .ok (.aload_n 0, 1) := by decide +kernel
theorem dX6_change_38 : decode cX6_change 38 = .ok (.getfield 20, 3) := by decide +kernel
theorem dX6_change_41 : decode cX6_change 41 = .ok (.iload_n 1, 1) := by decide +kernel
theorem dX6_change_42 : decode cX6_change 42 = .ok (.iaload, 1) := by decide +kernel
theorem dX6_change_43 : decode cX6_change 43 = .ok (.istore 8, 2) := by decide +kernel
theorem dX6_change_45 : decode cX6_change 45 = .ok (.aload_n 0, 1) := by decide +kernel
theorem dX6_change_46 : decode cX6_change 46 = .ok (.iload_n 1, 1) := by decide +kernel
theorem dX6_change_47 : decode cX6_change 47 = .ok (.iload_n 2, 1) := by decide +kernel
theorem dX6_change_48 : decode cX6_change 48 = .ok (.iload_n 3, 1) := by decide +kernel
theorem dX6_change_49 : decode cX6_change 49 = .ok (.iload 4, 2) := by decide +kernel
theorem dX6_change_51 : decode cX6_change 51 = .ok (.iload 5, 2) := by decide +kernel
theorem dX6_change_53 : decode cX6_change 53 = .ok (.iload 6, 2) := by decide +kernel
theorem dX6_change_55 : decode cX6_change 55 = .ok (.invokevirtual 74, 3) := by decide +kernel
theorem dX6_change_58 : decode cX6_change 58 = .ok (.iload 8, 2) := by decide +kernel
theorem dX6_change_60 : decode cX6_change 60 = .ok (.ireturn, 1) := by decide +kernel
theorem dX6_place_0 : decode cX6_place 0 = .ok (.iload_n 0, 1) := by decide +kernel
theorem dX6_place_1 : decode cX6_place 1 = .ok (.sipush 1024, 3) := by decide +kernel
theorem dX6_place_4 : decode cX6_place 4 = .ok (.idiv, 1) := by decide +kernel
theorem dX6_place_5 : decode cX6_place 5 = .ok (.ireturn, 1) := by decide +kernel
theorem dX6_what_0 : decode cX6_what 0 = .ok (.iload_n 0, 1) := by decide +kernel
theorem dX6_what_1 : decode cX6_what 1 = .ok (.iconst 2, 1) := by decide +kernel
theorem dX6_what_2 : decode cX6_what 2 = .ok (.iload_n 1, 1) := by decide +kernel
theorem dX6_what_3 : decode cX6_what 3 = .ok (.imul, 1) := by decide +kernel
theorem dX6_what_4 : decode cX6_what 4 = .ok (.ishr, 1) := by decide +kernel
theorem dX6_what_5 : decode cX6_what 5 = .ok (.iconst 3, 1) := by decide +kernel
theorem dX6_what_6 : decode cX6_what 6 = .ok (.iand, 1) := by decide +kernel
theorem dX6_what_7 : decode cX6_what 7 = .ok (.ireturn, 1) := by decide +kernel
theorem dX6_with_0 : decode cX6_with 0 = .ok (.iload_n 0, 1) := by decide +kernel
theorem dX6_with_1 : decode cX6_with 1 = .ok (.iload_n 0, 1) := by decide +kernel
theorem dX6_with_2 : decode cX6_with 2 = .ok (.iload_n 1, 1) := by decide +kernel
theorem dX6_with_3 : decode cX6_with 3 = .ok (.invokestatic 78, 3) := by decide +kernel
theorem dX6_with_6 : decode cX6_with 6 = .ok (.iconst 2, 1) := by decide +kernel
theorem dX6_with_7 : decode cX6_with 7 = .ok (.iload_n 1, 1) := by decide +kernel
theorem dX6_with_8 : decode cX6_with 8 = .ok (.imul, 1) := by decide +kernel
theorem dX6_with_9 : decode cX6_with 9 = .ok (.ishl, 1) := by decide +kernel
theorem dX6_with_10 : decode cX6_with 10 = .ok (.isub, 1) := by decide +kernel
theorem dX6_with_11 : decode cX6_with 11 = .ok (.iload_n 2, 1) := by decide +kernel
theorem dX6_with_12 : decode cX6_with 12 = .ok (.iconst 2, 1) := by decide +kernel
theorem dX6_with_13 : decode cX6_with 13 = .ok (.iload_n 1, 1) := by decide +kernel
theorem dX6_with_14 : decode cX6_with 14 = .ok (.imul, 1) := by decide +kernel
theorem dX6_with_15 : decode cX6_with 15 = .ok (.ishl, 1) := by decide +kernel
theorem dX6_with_16 : decode cX6_with 16 = .ok (.iadd, 1) := by decide +kernel
theorem dX6_with_17 : decode cX6_with 17 = .ok (.ireturn, 1) := by decide +kernel
theorem dX6_isHeld_0 : decode cX6_isHeld 0 = .ok (.aload_n 0, 1) := by decide +kernel
theorem dX6_isHeld_1 : decode cX6_isHeld 1 = .ok (.getfield 7, 3) := by decide +kernel
theorem dX6_isHeld_4 : decode cX6_isHeld 4 = .ok (.iload_n 2, 1) := by decide +kernel
theorem dX6_isHeld_5 : decode cX6_isHeld 5 = .ok (.iaload, 1) := by decide +kernel
theorem dX6_isHeld_6 : decode cX6_isHeld 6 = .ok (.iconst 1, 1) := by decide +kernel
theorem dX6_isHeld_7 : decode cX6_isHeld 7 = .ok (.if_icmp .ne 19, 3) := by decide +kernel
theorem dX6_isHeld_10 : decode cX6_isHeld 10 = .ok (.iload_n 1, 1) := by decide +kernel
theorem dX6_isHeld_11 : decode cX6_isHeld 11 = .ok (.iload_n 2, 1) := by decide +kernel
theorem dX6_isHeld_12 : decode cX6_isHeld 12 = .ok (.invokestatic 78, 3) := by decide +kernel
theorem dX6_isHeld_15 : decode cX6_isHeld 15 = .ok (.ifCond .le 7, 3) := by decide +kernel
theorem dX6_isHeld_18 : decode cX6_isHeld 18 = .ok (.iconst 1, 1) := by decide +kernel
theorem dX6_isHeld_19 : decode cX6_isHeld 19 = .ok (.goto 21, 3) := by decide +kernel
theorem dX6_isHeld_22 : decode cX6_isHeld 22 = .ok (.iconst 0, 1) := by decide +kernel
theorem dX6_isHeld_23 : decode cX6_isHeld 23 = .ok (.goto 17, 3) := by decide +kernel
theorem dX6_isHeld_26 : decode cX6_isHeld 26 = .ok (.iload_n 1, 1) := by decide +kernel
theorem dX6_isHeld_27 : decode cX6_isHeld 27 = .ok (.iload_n 2, 1) := by decide +kernel
theorem dX6_isHeld_28 : decode cX6_isHeld 28 = .ok (.invokestatic 78, 3) := by decide +kernel
theorem dX6_isHeld_31 : decode cX6_isHeld 31 = .ok (.iconst 1, 1) := by decide +kernel
theorem dX6_isHeld_32 : decode cX6_isHeld 32 = .ok (.if_icmp .ne 7, 3) := by decide +kernel
theorem dX6_isHeld_35 : decode cX6_isHeld 35 = .ok (.iconst 1, 1) := by decide +kernel
theorem dX6_isHeld_36 : decode cX6_isHeld 36 = .ok (.goto 4, 3) := by decide +kernel
theorem dX6_isHeld_39 : decode cX6_isHeld 39 = .ok (.iconst 0, 1) := by decide +kernel
theorem dX6_isHeld_40 : decode cX6_isHeld 40 = .ok (.ireturn, 1) := by decide +kernel
theorem dX6_at_0 : decode cX6_at 0 = .ok (.iload_n 2, 1) := by decide +kernel
theorem dX6_at_1 : decode cX6_at 1 = .ok (.bipush 41, 2) := by decide +kernel
theorem dX6_at_3 : decode cX6_at 3 = .ok (.if_icmp .eq 11, 3) := by decide +kernel
theorem dX6_at_6 : decode cX6_at 6 = .ok (.iload_n 2, 1) := by decide +kernel
theorem dX6_at_7 : decode cX6_at 7 = .ok (.aload_n 0, 1) := by decide +kernel
theorem dX6_at_8 : decode cX6_at 8 = .ok (.getfield 71, 3) := by decide +kernel
theorem dX6_at_11 : decode cX6_at 11 = .ok (.if_icmp .ge 7, 3) := by decide +kernel
theorem dX6_at_14 : decode cX6_at 14 = .ok (.iload_n 2, 1) := by decide +kernel
theorem dX6_at_15 : decode cX6_at 15 = .ok (.goto 5, 3) := by decide +kernel
theorem dX6_at_18 : decode cX6_at 18 = .ok (.bipush 40, 2) := by decide +kernel
theorem dX6_at_20 : decode cX6_at 20 = .ok (.istore_n 3, 1) := by decide +kernel
theorem dX6_at_21 : decode cX6_at 21 = .ok (.sipush 1024, 3) := by decide +kernel
theorem dX6_at_24 : decode cX6_at 24 = .ok (.iload_n 3, 1) := by decide +kernel
theorem dX6_at_25 : decode cX6_at 25 = .ok (.imul, 1) := by decide +kernel
theorem dX6_at_26 : decode cX6_at 26 = .ok (.iload_n 1, 1) := by decide +kernel
theorem dX6_at_27 : decode cX6_at 27 = .ok (.sipush 1024, 3) := by decide +kernel
theorem dX6_at_30 : decode cX6_at 30 = .ok (.irem, 1) := by decide +kernel
theorem dX6_at_31 : decode cX6_at 31 = .ok (.iadd, 1) := by decide +kernel
theorem dX6_at_32 : decode cX6_at 32 = .ok (.ireturn, 1) := by decide +kernel
theorem dX6_faultOf_0 : decode cX6_faultOf 0 = .ok (.iload_n 1, 1) := by decide +kernel
theorem dX6_faultOf_1 : decode cX6_faultOf 1 = .ok (.invokestatic 82, 3) := by decide +kernel
theorem dX6_faultOf_4 : decode cX6_faultOf 4 = .ok (.istore_n 2, 1) := by decide +kernel
theorem dX6_faultOf_5 : decode cX6_faultOf 5 = .ok (.aload_n 0, 1) := by decide +kernel
theorem dX6_faultOf_6 : decode cX6_faultOf 6 = .ok (.getfield 23, 3) := by decide +kernel
theorem dX6_faultOf_9 : decode cX6_faultOf 9 = .ok (.iload_n 2, 1) := by decide +kernel
theorem dX6_faultOf_10 : decode cX6_faultOf 10 = .ok (.iaload, 1) := by decide +kernel
theorem dX6_faultOf_11 : decode cX6_faultOf 11 = .ok (.istore_n 3, 1) := by decide +kernel
theorem dX6_faultOf_12 : decode cX6_faultOf 12 = .ok (.aload_n 0, 1) := by decide +kernel
theorem dX6_faultOf_13 : decode cX6_faultOf 13 = .ok (.getfield 20, 3) := by decide +kernel
theorem dX6_faultOf_16 : decode cX6_faultOf 16 = .ok (.iload_n 2, 1) := by decide +kernel
theorem dX6_faultOf_17 : decode cX6_faultOf 17 = .ok (.iaload, 1) := by decide +kernel
theorem dX6_faultOf_18 : decode cX6_faultOf 18 = .ok (.tableswitch 163 0 3 #[30, 73, 106, 148], 30) := by decide +kernel
theorem dX6_faultOf_48 : decode cX6_faultOf 48 = .ok (.aload_n 0, 1) := by decide +kernel
theorem dX6_faultOf_49 : decode cX6_faultOf 49 = .ok (.getfield 7, 3) := by decide +kernel
theorem dX6_faultOf_52 : decode cX6_faultOf 52 = .ok (.iload_n 3, 1) := by decide +kernel
theorem dX6_faultOf_53 : decode cX6_faultOf 53 = .ok (.iaload, 1) := by decide +kernel
theorem dX6_faultOf_54 : decode cX6_faultOf 54 = .ok (.iconst 1, 1) := by decide +kernel
theorem dX6_faultOf_55 : decode cX6_faultOf 55 = .ok (.if_icmp .ne 12, 3) := by decide +kernel
theorem dX6_faultOf_58 : decode cX6_faultOf 58 = .ok (.iload_n 1, 1) := by decide +kernel
theorem dX6_faultOf_59 : decode cX6_faultOf 59 = .ok (.iload_n 3, 1) := by decide +kernel
theorem dX6_faultOf_60 : decode cX6_faultOf 60 = .ok (.invokestatic 78, 3) := by decide +kernel
theorem dX6_faultOf_63 : decode cX6_faultOf 63 = .ok (.iconst 3, 1) := by decide +kernel
theorem dX6_faultOf_64 : decode cX6_faultOf 64 = .ok (.if_icmp .eq 21, 3) := by decide +kernel
theorem dX6_faultOf_67 : decode cX6_faultOf 67 = .ok (.aload_n 0, 1) := by decide +kernel
theorem dX6_faultOf_68 : decode cX6_faultOf 68 = .ok (.getfield 7, 3) := by decide +kernel
theorem dX6_faultOf_71 : decode cX6_faultOf 71 = .ok (.iload_n 3, 1) := by decide +kernel
theorem dX6_faultOf_72 : decode cX6_faultOf 72 = .ok (.iaload, 1) := by decide +kernel
theorem dX6_faultOf_73 : decode cX6_faultOf 73 = .ok (.ifCond .ne 16, 3) := by decide +kernel
theorem dX6_faultOf_76 : decode cX6_faultOf 76 = .ok (.iload_n 1, 1) := by decide +kernel
theorem dX6_faultOf_77 : decode cX6_faultOf 77 = .ok (.iload_n 3, 1) := by decide +kernel
theorem dX6_faultOf_78 : decode cX6_faultOf 78 = .ok (.invokestatic 78, 3) := by decide +kernel
theorem dX6_faultOf_81 : decode cX6_faultOf 81 = .ok (.iconst 1, 1) := by decide +kernel
theorem dX6_faultOf_82 : decode cX6_faultOf 82 = .ok (.if_icmp .ne 7, 3) := by decide +kernel
theorem dX6_faultOf_85 : decode cX6_faultOf 85 = .ok (.iconst 2, 1) := by decide +kernel
theorem dX6_faultOf_86 : decode cX6_faultOf 86 = .ok (.goto 4, 3) := by decide +kernel
theorem dX6_faultOf_89 : decode cX6_faultOf 89 = .ok (.iconst 0, 1) := by decide +kernel
theorem dX6_faultOf_90 : decode cX6_faultOf 90 = .ok (.ireturn, 1) := by decide +kernel
theorem dX6_faultOf_91 : decode cX6_faultOf 91 = .ok (.aload_n 0, 1) := by decide +kernel
theorem dX6_faultOf_92 : decode cX6_faultOf 92 = .ok (.iload_n 1, 1) := by decide +kernel
theorem dX6_faultOf_93 : decode cX6_faultOf 93 = .ok (.iload_n 3, 1) := by decide +kernel
theorem dX6_faultOf_94 : decode cX6_faultOf 94 = .ok (.invokevirtual 86, 3) := by decide +kernel
theorem dX6_faultOf_97 : decode cX6_faultOf 97 = .ok (.ifCond .ne 21, 3) := by decide +kernel
theorem dX6_faultOf_100 : decode cX6_faultOf 100 = .ok (.aload_n 0, 1) := by decide +kernel
theorem dX6_faultOf_101 : decode cX6_faultOf 101 = .ok (.getfield 7, 3) := by decide +kernel
theorem dX6_faultOf_104 : decode cX6_faultOf 104 = .ok (.iload_n 3, 1) := by decide +kernel
theorem dX6_faultOf_105 : decode cX6_faultOf 105 = .ok (.iaload, 1) := by decide +kernel
theorem dX6_faultOf_106 : decode cX6_faultOf 106 = .ok (.ifCond .ne 16, 3) := by decide +kernel
theorem dX6_faultOf_109 : decode cX6_faultOf 109 = .ok (.iload_n 1, 1) := by decide +kernel
theorem dX6_faultOf_110 : decode cX6_faultOf 110 = .ok (.iload_n 3, 1) := by decide +kernel
theorem dX6_faultOf_111 : decode cX6_faultOf 111 = .ok (.invokestatic 78, 3) := by decide +kernel
theorem dX6_faultOf_114 : decode cX6_faultOf 114 = .ok (.iconst 3, 1) := by decide +kernel
theorem dX6_faultOf_115 : decode cX6_faultOf 115 = .ok (.if_icmp .ne 7, 3) := by decide +kernel
theorem dX6_faultOf_118 : decode cX6_faultOf 118 = .ok (.iconst 0, 1) := by decide +kernel
theorem dX6_faultOf_119 : decode cX6_faultOf 119 = .ok (.goto 4, 3) := by decide +kernel
theorem dX6_faultOf_122 : decode cX6_faultOf 122 = .ok (.iconst 3, 1) := by decide +kernel
theorem dX6_faultOf_123 : decode cX6_faultOf 123 = .ok (.ireturn, 1) := by decide +kernel
theorem dX6_faultOf_124 : decode cX6_faultOf 124 = .ok (.aload_n 0, 1) := by decide +kernel
theorem dX6_faultOf_125 : decode cX6_faultOf 125 = .ok (.iload_n 1, 1) := by decide +kernel
theorem dX6_faultOf_126 : decode cX6_faultOf 126 = .ok (.iload_n 3, 1) := by decide +kernel
theorem dX6_faultOf_127 : decode cX6_faultOf 127 = .ok (.invokevirtual 86, 3) := by decide +kernel
theorem dX6_faultOf_130 : decode cX6_faultOf 130 = .ok (.ifCond .ne 30, 3) := by decide +kernel
theorem dX6_faultOf_133 : decode cX6_faultOf 133 = .ok (.aload_n 0, 1) := by decide +kernel
theorem dX6_faultOf_134 : decode cX6_faultOf 134 = .ok (.getfield 7, 3) := by decide +kernel
theorem dX6_faultOf_137 : decode cX6_faultOf 137 = .ok (.iload_n 3, 1) := by decide +kernel
theorem dX6_faultOf_138 : decode cX6_faultOf 138 = .ok (.iaload, 1) := by decide +kernel
theorem dX6_faultOf_139 : decode cX6_faultOf 139 = .ok (.ifCond .ne 25, 3) := by decide +kernel
theorem dX6_faultOf_142 : decode cX6_faultOf 142 = .ok (.aload_n 0, 1) := by decide +kernel
theorem dX6_faultOf_143 : decode cX6_faultOf 143 = .ok (.getfield 13, 3) := by decide +kernel
theorem dX6_faultOf_146 : decode cX6_faultOf 146 = .ok (.iload_n 3, 1) := by decide +kernel
theorem dX6_faultOf_147 : decode cX6_faultOf 147 = .ok (.baload, 1) := by decide +kernel
theorem dX6_faultOf_148 : decode cX6_faultOf 148 = .ok (.ifCond .eq 16, 3) := by decide +kernel
theorem dX6_faultOf_151 : decode cX6_faultOf 151 = .ok (.iload_n 1, 1) := by decide +kernel
theorem dX6_faultOf_152 : decode cX6_faultOf 152 = .ok (.iload_n 3, 1) := by decide +kernel
theorem dX6_faultOf_153 : decode cX6_faultOf 153 = .ok (.invokestatic 78, 3) := by decide +kernel
theorem dX6_faultOf_156 : decode cX6_faultOf 156 = .ok (.iconst 2, 1) := by decide +kernel
theorem dX6_faultOf_157 : decode cX6_faultOf 157 = .ok (.if_icmp .ne 7, 3) := by decide +kernel
theorem dX6_faultOf_160 : decode cX6_faultOf 160 = .ok (.iconst 0, 1) := by decide +kernel
theorem dX6_faultOf_161 : decode cX6_faultOf 161 = .ok (.goto 4, 3) := by decide +kernel
theorem dX6_faultOf_164 : decode cX6_faultOf 164 = .ok (.iconst 4, 1) := by decide +kernel
theorem dX6_faultOf_165 : decode cX6_faultOf 165 = .ok (.ireturn, 1) := by decide +kernel
theorem dX6_faultOf_166 : decode cX6_faultOf 166 = .ok (.iload_n 1, 1) := by decide +kernel
theorem dX6_faultOf_167 : decode cX6_faultOf 167 = .ok (.iload_n 3, 1) := by decide +kernel
theorem dX6_faultOf_168 : decode cX6_faultOf 168 = .ok (.invokestatic 78, 3) := by decide +kernel
theorem dX6_faultOf_171 : decode cX6_faultOf 171 = .ok (.iconst 1, 1) := by decide +kernel
theorem dX6_faultOf_172 : decode cX6_faultOf 172 = .ok (.if_icmp .ne 7, 3) := by decide +kernel
theorem dX6_faultOf_175 : decode cX6_faultOf 175 = .ok (.iconst 0, 1) := by decide +kernel
theorem dX6_faultOf_176 : decode cX6_faultOf 176 = .ok (.goto 4, 3) := by decide +kernel
theorem dX6_faultOf_179 : decode cX6_faultOf 179 = .ok (.iconst 3, 1) := by decide +kernel
theorem dX6_faultOf_180 : decode cX6_faultOf 180 = .ok (.ireturn, 1) := by decide +kernel
theorem dX6_faultOf_181 : decode cX6_faultOf 181 = .ok (.iconst 0, 1) := by decide +kernel
theorem dX6_faultOf_182 : decode cX6_faultOf 182 = .ok (.ireturn, 1) := by decide +kernel
theorem dX6_done_0 : decode cX6_done 0 = .ok (.iload_n 1, 1) := by decide +kernel
theorem dX6_done_1 : decode cX6_done 1 = .ok (.invokestatic 82, 3) := by decide +kernel
theorem dX6_done_4 : decode cX6_done 4 = .ok (.istore_n 2, 1) := by decide +kernel
theorem dX6_done_5 : decode cX6_done 5 = .ok (.aload_n 0, 1) := by decide +kernel
theorem dX6_done_6 : decode cX6_done 6 = .ok (.getfield 23, 3) := by decide +kernel
theorem dX6_done_9 : decode cX6_done 9 = .ok (.iload_n 2, 1) := by decide +kernel
theorem dX6_done_10 : decode cX6_done 10 = .ok (.iaload, 1) := by decide +kernel
theorem dX6_done_11 : decode cX6_done 11 = .ok (.istore_n 3, 1) := by decide +kernel
theorem dX6_done_12 : decode cX6_done 12 = .ok (.aload_n 0, 1) := by decide +kernel
theorem dX6_done_13 : decode cX6_done 13 = .ok (.getfield 20, 3) := by decide +kernel
theorem dX6_done_16 : decode cX6_done 16 = .ok (.iload_n 2, 1) := by decide +kernel
theorem dX6_done_17 : decode cX6_done 17 = .ok (.iaload, 1) := by decide +kernel
theorem dX6_done_18 : decode cX6_done 18 = .ok (.tableswitch 135 0 3 #[30, 135, 57, 128], 30) := by decide +kernel
theorem dX6_done_48 : decode cX6_done 48 = .ok (.iload_n 1, 1) := by decide +kernel
theorem dX6_done_49 : decode cX6_done 49 = .ok (.iload_n 3, 1) := by decide +kernel
theorem dX6_done_50 : decode cX6_done 50 = .ok (.aload_n 0, 1) := by decide +kernel
theorem dX6_done_51 : decode cX6_done 51 = .ok (.getfield 7, 3) := by decide +kernel
theorem dX6_done_54 : decode cX6_done 54 = .ok (.iload_n 3, 1) := by decide +kernel
theorem dX6_done_55 : decode cX6_done 55 = .ok (.iaload, 1) := by decide +kernel
theorem dX6_done_56 : decode cX6_done 56 = .ok (.iconst 1, 1) := by decide +kernel
theorem dX6_done_57 : decode cX6_done 57 = .ok (.if_icmp .ne 13, 3) := by decide +kernel
theorem dX6_done_60 : decode cX6_done 60 = .ok (.iload_n 1, 1) := by decide +kernel
theorem dX6_done_61 : decode cX6_done 61 = .ok (.iload_n 3, 1) := by decide +kernel
theorem dX6_done_62 : decode cX6_done 62 = .ok (.invokestatic 78, 3) := by decide +kernel
theorem dX6_done_65 : decode cX6_done 65 = .ok (.iconst 1, 1) := by decide +kernel
theorem dX6_done_66 : decode cX6_done 66 = .ok (.iadd, 1) := by decide +kernel
theorem dX6_done_67 : decode cX6_done 67 = .ok (.goto 4, 3) := by decide +kernel
theorem dX6_done_70 : decode cX6_done 70 = .ok (.iconst 1, 1) := by decide +kernel
theorem dX6_done_71 : decode cX6_done 71 = .ok (.invokestatic 90, 3) := by decide +kernel
theorem dX6_done_74 : decode cX6_done 74 = .ok (.ireturn, 1) := by decide +kernel
theorem dX6_done_75 : decode cX6_done 75 = .ok (.aload_n 0, 1) := by decide +kernel
theorem dX6_done_76 : decode cX6_done 76 = .ok (.getfield 7, 3) := by decide +kernel
theorem dX6_done_79 : decode cX6_done 79 = .ok (.iload_n 3, 1) := by decide +kernel
theorem dX6_done_80 : decode cX6_done 80 = .ok (.iaload, 1) := by decide +kernel
theorem dX6_done_81 : decode cX6_done 81 = .ok (.iconst 1, 1) := by decide +kernel
theorem dX6_done_82 : decode cX6_done 82 = .ok (.if_icmp .ne 16, 3) := by decide +kernel
theorem dX6_done_85 : decode cX6_done 85 = .ok (.iload_n 1, 1) := by decide +kernel
theorem dX6_done_86 : decode cX6_done 86 = .ok (.iload_n 3, 1) := by decide +kernel
theorem dX6_done_87 : decode cX6_done 87 = .ok (.iload_n 1, 1) := by decide +kernel
theorem dX6_done_88 : decode cX6_done 88 = .ok (.iload_n 3, 1) := by decide +kernel
theorem dX6_done_89 : decode cX6_done 89 = .ok (.invokestatic 78, 3) := by decide +kernel
theorem dX6_done_92 : decode cX6_done 92 = .ok (.iconst 1, 1) := by decide +kernel
theorem dX6_done_93 : decode cX6_done 93 = .ok (.isub, 1) := by decide +kernel
theorem dX6_done_94 : decode cX6_done 94 = .ok (.invokestatic 90, 3) := by decide +kernel
theorem dX6_done_97 : decode cX6_done 97 = .ok (.ireturn, 1) := by decide +kernel
theorem dX6_done_98 : decode cX6_done 98 = .ok (.iload_n 1, 1) := by decide +kernel
theorem dX6_done_99 : decode cX6_done 99 = .ok (.istore 4, 2) := by decide +kernel
theorem dX6_done_101 : decode cX6_done 101 = .ok (.iload_n 3, 1) := by decide +kernel
theorem dX6_done_102 : decode cX6_done 102 = .ok (.istore 5, 2) := by decide +kernel
theorem dX6_done_104 : decode cX6_done 104 = .ok (.iload 5, 2) := by decide +kernel
theorem dX6_done_106 : decode cX6_done 106 = .ok (.iconst (-1), 1) := by decide +kernel
theorem dX6_done_107 : decode cX6_done 107 = .ok (.if_icmp .eq 36, 3) := by decide +kernel
theorem dX6_done_110 : decode cX6_done 110 = .ok (.iload 4, 2) := by decide +kernel
theorem dX6_done_112 : decode cX6_done 112 = .ok (.iload 5, 2) := by decide +kernel
theorem dX6_done_114 : decode cX6_done 114 = .ok (.invokestatic 78, 3) := by decide +kernel
theorem dX6_done_117 : decode cX6_done 117 = .ok (.iconst 1, 1) := by decide +kernel
theorem dX6_done_118 : decode cX6_done 118 = .ok (.if_icmp .ne 25, 3) := by decide +kernel
theorem dX6_done_121 : decode cX6_done 121 = .ok (.iload 4, 2) := by decide +kernel
theorem dX6_done_123 : decode cX6_done 123 = .ok (.iload 5, 2) := by decide +kernel
theorem dX6_done_125 : decode cX6_done 125 = .ok (.iconst 2, 1) := by decide +kernel
theorem dX6_done_126 : decode cX6_done 126 = .ok (.invokestatic 90, 3) := by decide +kernel
theorem dX6_done_129 : decode cX6_done 129 = .ok (.istore 4, 2) := by decide +kernel
theorem dX6_done_131 : decode cX6_done 131 = .ok (.aload_n 0, 1) := by decide +kernel
theorem dX6_done_132 : decode cX6_done 132 = .ok (.getfield 17, 3) := by decide +kernel
theorem dX6_done_135 : decode cX6_done 135 = .ok (.iload 5, 2) := by decide +kernel
theorem dX6_done_137 : decode cX6_done 137 = .ok (.iaload, 1) := by decide +kernel
theorem dX6_done_138 : decode cX6_done 138 = .ok (.istore 5, 2) := by decide +kernel
theorem dX6_done_140 : decode cX6_done 140 = .ok (.goto (-36), 3) := by decide +kernel
theorem dX6_done_143 : decode cX6_done 143 = .ok (.iload 4, 2) := by decide +kernel
theorem dX6_done_145 : decode cX6_done 145 = .ok (.ireturn, 1) := by decide +kernel
theorem dX6_done_146 : decode cX6_done 146 = .ok (.iload_n 1, 1) := by decide +kernel
theorem dX6_done_147 : decode cX6_done 147 = .ok (.iload_n 3, 1) := by decide +kernel
theorem dX6_done_148 : decode cX6_done 148 = .ok (.iconst 3, 1) := by decide +kernel
theorem dX6_done_149 : decode cX6_done 149 = .ok (.invokestatic 90, 3) := by decide +kernel
theorem dX6_done_152 : decode cX6_done 152 = .ok (.ireturn, 1) := by decide +kernel
theorem dX6_done_153 : decode cX6_done 153 = .ok (.iload_n 1, 1) := by decide +kernel
theorem dX6_done_154 : decode cX6_done 154 = .ok (.ireturn, 1) := by decide +kernel
theorem dX6_throwsTo_0 : decode cX6_throwsTo 0 = .ok (.aload_n 0, 1) := by decide +kernel
theorem dX6_throwsTo_1 : decode cX6_throwsTo 1 = .ok (.getfield 32, 3) := by decide +kernel
theorem dX6_throwsTo_4 : decode cX6_throwsTo 4 = .ok (.iload_n 1, 1) := by decide +kernel
theorem dX6_throwsTo_5 : decode cX6_throwsTo 5 = .ok (.invokestatic 82, 3) := by decide +kernel
theorem dX6_throwsTo_8 : decode cX6_throwsTo 8 = .ok (.iaload, 1) := by decide +kernel
theorem dX6_throwsTo_9 : decode cX6_throwsTo 9 = .ok (.istore_n 2, 1) := by decide +kernel
theorem dX6_throwsTo_10 : decode cX6_throwsTo 10 = .ok (.aload_n 0, 1) := by decide +kernel
theorem dX6_throwsTo_11 : decode cX6_throwsTo 11 = .ok (.iload_n 1, 1) := by decide +kernel
theorem dX6_throwsTo_12 : decode cX6_throwsTo 12 = .ok (.iload_n 2, 1) := by decide +kernel
theorem dX6_throwsTo_13 : decode cX6_throwsTo 13 = .ok (.iconst (-1), 1) := by decide +kernel
theorem dX6_throwsTo_14 : decode cX6_throwsTo 14 = .ok (.if_icmp .ne 8, 3) := by decide +kernel
theorem dX6_throwsTo_17 : decode cX6_throwsTo 17 = .ok (.bipush 41, 2) := by decide +kernel
theorem dX6_throwsTo_19 : decode cX6_throwsTo 19 = .ok (.goto 4, 3) := by decide +kernel
theorem dX6_throwsTo_22 : decode cX6_throwsTo 22 = .ok (.iload_n 2, 1) := by decide +kernel
theorem dX6_throwsTo_23 : decode cX6_throwsTo 23 = .ok (.invokevirtual 94, 3) := by decide +kernel
theorem dX6_throwsTo_26 : decode cX6_throwsTo 26 = .ok (.ireturn, 1) := by decide +kernel
theorem dX6_isTwofold_0 : decode cX6_isTwofold 0 = .ok (.iload_n 1, 1) := by decide +kernel
theorem dX6_isTwofold_1 : decode cX6_isTwofold 1 = .ok (.invokestatic 82, 3) := by decide +kernel
theorem dX6_isTwofold_4 : decode cX6_isTwofold 4 = .ok (.istore_n 2, 1) := by decide +kernel
theorem dX6_isTwofold_5 : decode cX6_isTwofold 5 = .ok (.aload_n 0, 1) := by decide +kernel
theorem dX6_isTwofold_6 : decode cX6_isTwofold 6 = .ok (.getfield 20, 3) := by decide +kernel
theorem dX6_isTwofold_9 : decode cX6_isTwofold 9 = .ok (.iload_n 2, 1) := by decide +kernel
theorem dX6_isTwofold_10 : decode cX6_isTwofold 10 = .ok (.iaload, 1) := by decide +kernel
theorem dX6_isTwofold_11 : decode cX6_isTwofold 11 = .ok (.iconst 4, 1) := by decide +kernel
theorem dX6_isTwofold_12 : decode cX6_isTwofold 12 = .ok (.if_icmp .eq 31, 3) := by decide +kernel
theorem dX6_isTwofold_15 : decode cX6_isTwofold 15 = .ok (.aload_n 0, 1) := by decide +kernel
theorem dX6_isTwofold_16 : decode cX6_isTwofold 16 = .ok (.getfield 20, 3) := by decide +kernel
theorem dX6_isTwofold_19 : decode cX6_isTwofold 19 = .ok (.iload_n 2, 1) := by decide +kernel
theorem dX6_isTwofold_20 : decode cX6_isTwofold 20 = .ok (.iaload, 1) := by decide +kernel
theorem dX6_isTwofold_21 : decode cX6_isTwofold 21 = .ok (.iconst 4, 1) := by decide +kernel
theorem dX6_isTwofold_22 : decode cX6_isTwofold 22 = .ok (.if_icmp .ge 25, 3) := by decide +kernel
theorem dX6_isTwofold_25 : decode cX6_isTwofold 25 = .ok (.aload_n 0, 1) := by decide +kernel
theorem dX6_isTwofold_26 : decode cX6_isTwofold 26 = .ok (.getfield 29, 3) := by decide +kernel
theorem dX6_isTwofold_29 : decode cX6_isTwofold 29 = .ok (.iload_n 2, 1) := by decide +kernel
theorem dX6_isTwofold_30 : decode cX6_isTwofold 30 = .ok (.iaload, 1) := by decide +kernel
theorem dX6_isTwofold_31 : decode cX6_isTwofold 31 = .ok (.iconst 1, 1) := by decide +kernel
theorem dX6_isTwofold_32 : decode cX6_isTwofold 32 = .ok (.if_icmp .ne 15, 3) := by decide +kernel
theorem dX6_isTwofold_35 : decode cX6_isTwofold 35 = .ok (.aload_n 0, 1) := by decide +kernel
theorem dX6_isTwofold_36 : decode cX6_isTwofold 36 = .ok (.iload_n 1, 1) := by decide +kernel
theorem dX6_isTwofold_37 : decode cX6_isTwofold 37 = .ok (.invokevirtual 97, 3) := by decide +kernel
theorem dX6_isTwofold_40 : decode cX6_isTwofold 40 = .ok (.ifCond .ne 7, 3) := by decide +kernel
theorem dX6_isTwofold_43 : decode cX6_isTwofold 43 = .ok (.iconst 1, 1) := by decide +kernel
theorem dX6_isTwofold_44 : decode cX6_isTwofold 44 = .ok (.goto 4, 3) := by decide +kernel
theorem dX6_isTwofold_47 : decode cX6_isTwofold 47 = .ok (.iconst 0, 1) := by decide +kernel
theorem dX6_isTwofold_48 : decode cX6_isTwofold 48 = .ok (.ireturn, 1) := by decide +kernel
theorem dX6_next_0 : decode cX6_next 0 = .ok (.iload_n 1, 1) := by decide +kernel
theorem dX6_next_1 : decode cX6_next 1 = .ok (.invokestatic 82, 3) := by decide +kernel
theorem dX6_next_4 : decode cX6_next 4 = .ok (.istore_n 3, 1) := by decide +kernel
theorem dX6_next_5 : decode cX6_next 5 = .ok (.aload_n 0, 1) := by decide +kernel
theorem dX6_next_6 : decode cX6_next 6 = .ok (.getfield 20, 3) := by decide +kernel
theorem dX6_next_9 : decode cX6_next 9 = .ok (.iload_n 3, 1) := by decide +kernel
theorem dX6_next_10 : decode cX6_next 10 = .ok (.iaload, 1) := by decide +kernel
theorem dX6_next_11 : decode cX6_next 11 = .ok (.tableswitch 113 4 8 #[33, 55, 67, 75, 81], 33) := by decide +kernel
theorem dX6_next_44 : decode cX6_next 44 = .ok (.aload_n 0, 1) := by decide +kernel
theorem dX6_next_45 : decode cX6_next 45 = .ok (.iload_n 1, 1) := by decide +kernel
theorem dX6_next_46 : decode cX6_next 46 = .ok (.iload_n 2, 1) := by decide +kernel
theorem dX6_next_47 : decode cX6_next 47 = .ok (.ifCond .ne 9, 3) := by decide +kernel
theorem dX6_next_50 : decode cX6_next 50 = .ok (.iload_n 3, 1) := by decide +kernel
theorem dX6_next_51 : decode cX6_next 51 = .ok (.iconst 1, 1) := by decide +kernel
theorem dX6_next_52 : decode cX6_next 52 = .ok (.iadd, 1) := by decide +kernel
theorem dX6_next_53 : decode cX6_next 53 = .ok (.goto 9, 3) := by decide +kernel
theorem dX6_next_56 : decode cX6_next 56 = .ok (.aload_n 0, 1) := by decide +kernel
theorem dX6_next_57 : decode cX6_next 57 = .ok (.getfield 26, 3) := by decide +kernel
theorem dX6_next_60 : decode cX6_next 60 = .ok (.iload_n 3, 1) := by decide +kernel
theorem dX6_next_61 : decode cX6_next 61 = .ok (.iaload, 1) := by decide +kernel
theorem dX6_next_62 : decode cX6_next 62 = .ok (.invokevirtual 94, 3) := by decide +kernel
theorem dX6_next_65 : decode cX6_next 65 = .ok (.ireturn, 1) := by decide +kernel
theorem dX6_next_66 : decode cX6_next 66 = .ok (.aload_n 0, 1) := by decide +kernel
theorem dX6_next_67 : decode cX6_next 67 = .ok (.iload_n 1, 1) := by decide +kernel
theorem dX6_next_68 : decode cX6_next 68 = .ok (.aload_n 0, 1) := by decide +kernel
theorem dX6_next_69 : decode cX6_next 69 = .ok (.getfield 26, 3) := by decide +kernel
theorem dX6_next_72 : decode cX6_next 72 = .ok (.iload_n 3, 1) := by decide +kernel
theorem dX6_next_73 : decode cX6_next 73 = .ok (.iaload, 1) := by decide +kernel
theorem dX6_next_74 : decode cX6_next 74 = .ok (.invokevirtual 94, 3) := by decide +kernel
theorem dX6_next_77 : decode cX6_next 77 = .ok (.ireturn, 1) := by decide +kernel
theorem dX6_next_78 : decode cX6_next 78 = .ok (.aload_n 0, 1) := by decide +kernel
theorem dX6_next_79 : decode cX6_next 79 = .ok (.iload_n 1, 1) := by decide +kernel
theorem dX6_next_80 : decode cX6_next 80 = .ok (.bipush 40, 2) := by decide +kernel
theorem dX6_next_82 : decode cX6_next 82 = .ok (.invokevirtual 94, 3) := by decide +kernel
theorem dX6_next_85 : decode cX6_next 85 = .ok (.ireturn, 1) := by decide +kernel
theorem dX6_next_86 : decode cX6_next 86 = .ok (.aload_n 0, 1) := by decide +kernel
theorem dX6_next_87 : decode cX6_next 87 = .ok (.iload_n 1, 1) := by decide +kernel
theorem dX6_next_88 : decode cX6_next 88 = .ok (.invokevirtual 100, 3) := by decide +kernel
theorem dX6_next_91 : decode cX6_next 91 = .ok (.ireturn, 1) := by decide +kernel
theorem dX6_next_92 : decode cX6_next 92 = .ok (.aload_n 0, 1) := by decide +kernel
theorem dX6_next_93 : decode cX6_next 93 = .ok (.iload_n 1, 1) := by decide +kernel
theorem dX6_next_94 : decode cX6_next 94 = .ok (.aload_n 0, 1) := by decide +kernel
theorem dX6_next_95 : decode cX6_next 95 = .ok (.iload_n 1, 1) := by decide +kernel
theorem dX6_next_96 : decode cX6_next 96 = .ok (.aload_n 0, 1) := by decide +kernel
theorem dX6_next_97 : decode cX6_next 97 = .ok (.getfield 23, 3) := by decide +kernel
theorem dX6_next_100 : decode cX6_next 100 = .ok (.iload_n 3, 1) := by decide +kernel
theorem dX6_next_101 : decode cX6_next 101 = .ok (.iaload, 1) := by decide +kernel
theorem dX6_next_102 : decode cX6_next 102 = .ok (.invokevirtual 86, 3) := by decide +kernel
theorem dX6_next_105 : decode cX6_next 105 = .ok (.ifCond .eq 12, 3) := by decide +kernel
theorem dX6_next_108 : decode cX6_next 108 = .ok (.aload_n 0, 1) := by decide +kernel
theorem dX6_next_109 : decode cX6_next 109 = .ok (.getfield 26, 3) := by decide +kernel
theorem dX6_next_112 : decode cX6_next 112 = .ok (.iload_n 3, 1) := by decide +kernel
theorem dX6_next_113 : decode cX6_next 113 = .ok (.iaload, 1) := by decide +kernel
theorem dX6_next_114 : decode cX6_next 114 = .ok (.goto 6, 3) := by decide +kernel
theorem dX6_next_117 : decode cX6_next 117 = .ok (.iload_n 3, 1) := by decide +kernel
theorem dX6_next_118 : decode cX6_next 118 = .ok (.iconst 1, 1) := by decide +kernel
theorem dX6_next_119 : decode cX6_next 119 = .ok (.iadd, 1) := by decide +kernel
theorem dX6_next_120 : decode cX6_next 120 = .ok (.invokevirtual 94, 3) := by decide +kernel
theorem dX6_next_123 : decode cX6_next 123 = .ok (.ireturn, 1) := by decide +kernel
theorem dX6_next_124 : decode cX6_next 124 = .ok (.aload_n 0, 1) := by decide +kernel
theorem dX6_next_125 : decode cX6_next 125 = .ok (.iload_n 1, 1) := by decide +kernel
theorem dX6_next_126 : decode cX6_next 126 = .ok (.invokevirtual 97, 3) := by decide +kernel
theorem dX6_next_129 : decode cX6_next 129 = .ok (.ifCond .le 9, 3) := by decide +kernel
theorem dX6_next_132 : decode cX6_next 132 = .ok (.aload_n 0, 1) := by decide +kernel
theorem dX6_next_133 : decode cX6_next 133 = .ok (.iload_n 1, 1) := by decide +kernel
theorem dX6_next_134 : decode cX6_next 134 = .ok (.invokevirtual 100, 3) := by decide +kernel
theorem dX6_next_137 : decode cX6_next 137 = .ok (.ireturn, 1) := by decide +kernel
theorem dX6_next_138 : decode cX6_next 138 = .ok (.iload_n 2, 1) := by decide +kernel
theorem dX6_next_139 : decode cX6_next 139 = .ok (.iconst 1, 1) := by decide +kernel
theorem dX6_next_140 : decode cX6_next 140 = .ok (.if_icmp .ne 27, 3) := by decide +kernel
theorem dX6_next_143 : decode cX6_next 143 = .ok (.aload_n 0, 1) := by decide +kernel
theorem dX6_next_144 : decode cX6_next 144 = .ok (.aload_n 0, 1) := by decide +kernel
theorem dX6_next_145 : decode cX6_next 145 = .ok (.getfield 20, 3) := by decide +kernel
theorem dX6_next_148 : decode cX6_next 148 = .ok (.iload_n 3, 1) := by decide +kernel
theorem dX6_next_149 : decode cX6_next 149 = .ok (.iaload, 1) := by decide +kernel
theorem dX6_next_150 : decode cX6_next 150 = .ok (.iconst 2, 1) := by decide +kernel
theorem dX6_next_151 : decode cX6_next 151 = .ok (.if_icmp .ne 11, 3) := by decide +kernel
theorem dX6_next_154 : decode cX6_next 154 = .ok (.aload_n 0, 1) := by decide +kernel
theorem dX6_next_155 : decode cX6_next 155 = .ok (.iload_n 1, 1) := by decide +kernel
theorem dX6_next_156 : decode cX6_next 156 = .ok (.invokevirtual 103, 3) := by decide +kernel
theorem dX6_next_159 : decode cX6_next 159 = .ok (.goto 4, 3) := by decide +kernel
theorem dX6_next_162 : decode cX6_next 162 = .ok (.iload_n 1, 1) := by decide +kernel
theorem dX6_next_163 : decode cX6_next 163 = .ok (.invokevirtual 100, 3) := by decide +kernel
theorem dX6_next_166 : decode cX6_next 166 = .ok (.ireturn, 1) := by decide +kernel
theorem dX6_next_167 : decode cX6_next 167 = .ok (.aload_n 0, 1) := by decide +kernel
theorem dX6_next_168 : decode cX6_next 168 = .ok (.aload_n 0, 1) := by decide +kernel
theorem dX6_next_169 : decode cX6_next 169 = .ok (.iload_n 1, 1) := by decide +kernel
theorem dX6_next_170 : decode cX6_next 170 = .ok (.invokevirtual 103, 3) := by decide +kernel
theorem dX6_next_173 : decode cX6_next 173 = .ok (.iload_n 3, 1) := by decide +kernel
theorem dX6_next_174 : decode cX6_next 174 = .ok (.iconst 1, 1) := by decide +kernel
theorem dX6_next_175 : decode cX6_next 175 = .ok (.iadd, 1) := by decide +kernel
theorem dX6_next_176 : decode cX6_next 176 = .ok (.invokevirtual 94, 3) := by decide +kernel
theorem dX6_next_179 : decode cX6_next 179 = .ok (.ireturn, 1) := by decide +kernel
theorem dX6_come_0 : decode cX6_come 0 = .ok (.aload_n 0, 1) := by decide +kernel
theorem dX6_come_1 : decode cX6_come 1 = .ok (.getfield 42, 3) := by decide +kernel
theorem dX6_come_4 : decode cX6_come 4 = .ok (.iload_n 1, 1) := by decide +kernel
theorem dX6_come_5 : decode cX6_come 5 = .ok (.baload, 1) := by decide +kernel
theorem dX6_come_6 : decode cX6_come 6 = .ok (.ifCond .ne 40, 3) := by decide +kernel
theorem dX6_come_9 : decode cX6_come 9 = .ok (.aload_n 0, 1) := by decide +kernel
theorem dX6_come_10 : decode cX6_come 10 = .ok (.getfield 42, 3) := by decide +kernel
theorem dX6_come_13 : decode cX6_come 13 = .ok (.iload_n 1, 1) := by decide +kernel
theorem dX6_come_14 : decode cX6_come 14 = .ok (.iconst 1, 1) := by decide +kernel
theorem dX6_come_15 : decode cX6_come 15 = .ok (.bastore, 1) := by decide +kernel
theorem dX6_come_16 : decode cX6_come 16 = .ok (.aload_n 0, 1) := by decide +kernel
theorem dX6_come_17 : decode cX6_come 17 = .ok (.getfield 39, 3) := by decide +kernel
theorem dX6_come_20 : decode cX6_come 20 = .ok (.aload_n 0, 1) := by decide +kernel
theorem dX6_come_21 : decode cX6_come 21 = .ok (.getfield 106, 3) := by decide +kernel
theorem dX6_come_24 : decode cX6_come 24 = .ok (.iload_n 2, 1) := by decide +kernel
theorem dX6_come_25 : decode cX6_come 25 = .ok (.iastore, 1) := by decide +kernel
theorem dX6_come_26 : decode cX6_come 26 = .ok (.aload_n 0, 1) := by decide +kernel
theorem dX6_come_27 : decode cX6_come 27 = .ok (.getfield 36, 3) := by decide +kernel
theorem dX6_come_30 : decode cX6_come 30 = .ok (.aload_n 0, 1) := by decide +kernel
theorem dX6_come_31 : decode cX6_come 31 = .ok (.getfield 106, 3) := by decide +kernel
theorem dX6_come_34 : decode cX6_come 34 = .ok (.iload_n 1, 1) := by decide +kernel
theorem dX6_come_35 : decode cX6_come 35 = .ok (.iastore, 1) := by decide +kernel
theorem dX6_come_36 : decode cX6_come 36 = .ok (.aload_n 0, 1) := by decide +kernel
theorem dX6_come_37 : decode cX6_come 37 = .ok (.dup, 1) := by decide +kernel
theorem dX6_come_38 : decode cX6_come 38 = .ok (.getfield 106, 3) := by decide +kernel
theorem dX6_come_41 : decode cX6_come 41 = .ok (.iconst 1, 1) := by decide +kernel
theorem dX6_come_42 : decode cX6_come 42 = .ok (.iadd, 1) := by decide +kernel
theorem dX6_come_43 : decode cX6_come 43 = .ok (.putfield 106, 3) := by decide +kernel
theorem dX6_come_46 : decode cX6_come 46 = .ok (.return_, 1) := by decide +kernel
theorem dX6_tell_0 : decode cX6_tell 0 = .ok (.aload_n 0, 1) := by decide +kernel
theorem dX6_tell_1 : decode cX6_tell 1 = .ok (.getfield 45, 3) := by decide +kernel
theorem dX6_tell_4 : decode cX6_tell 4 = .ok (.iconst 5, 1) := by decide +kernel
theorem dX6_tell_5 : decode cX6_tell 5 = .ok (.iload_n 1, 1) := by decide +kernel
theorem dX6_tell_6 : decode cX6_tell 6 = .ok (.imul, 1) := by decide +kernel
theorem dX6_tell_7 : decode cX6_tell 7 = .ok (.iload_n 2, 1) := by decide +kernel
theorem dX6_tell_8 : decode cX6_tell 8 = .ok (.iadd, 1) := by decide +kernel
theorem dX6_tell_9 : decode cX6_tell 9 = .ok (.aload_n 0, 1) := by decide +kernel
theorem dX6_tell_10 : decode cX6_tell 10 = .ok (.getfield 45, 3) := by decide +kernel
theorem dX6_tell_13 : decode cX6_tell 13 = .ok (.iconst 5, 1) := by decide +kernel
theorem dX6_tell_14 : decode cX6_tell 14 = .ok (.iload_n 1, 1) := by decide +kernel
theorem dX6_tell_15 : decode cX6_tell 15 = .ok (.imul, 1) := by decide +kernel
theorem dX6_tell_16 : decode cX6_tell 16 = .ok (.iload_n 2, 1) := by decide +kernel
theorem dX6_tell_17 : decode cX6_tell 17 = .ok (.iadd, 1) := by decide +kernel
theorem dX6_tell_18 : decode cX6_tell 18 = .ok (.iaload, 1) := by decide +kernel
theorem dX6_tell_19 : decode cX6_tell 19 = .ok (.iconst (-1), 1) := by decide +kernel
theorem dX6_tell_20 : decode cX6_tell 20 = .ok (.if_icmp .ne 7, 3) := by decide +kernel
theorem dX6_tell_23 : decode cX6_tell 23 = .ok (.iload_n 3, 1) := by decide +kernel
theorem dX6_tell_24 : decode cX6_tell 24 = .ok (.goto 13, 3) := by decide +kernel
theorem dX6_tell_27 : decode cX6_tell 27 = .ok (.aload_n 0, 1) := by decide +kernel
theorem dX6_tell_28 : decode cX6_tell 28 = .ok (.getfield 45, 3) := by decide +kernel
theorem dX6_tell_31 : decode cX6_tell 31 = .ok (.iconst 5, 1) := by decide +kernel
theorem dX6_tell_32 : decode cX6_tell 32 = .ok (.iload_n 1, 1) := by decide +kernel
theorem dX6_tell_33 : decode cX6_tell 33 = .ok (.imul, 1) := by decide +kernel
theorem dX6_tell_34 : decode cX6_tell 34 = .ok (.iload_n 2, 1) := by decide +kernel
theorem dX6_tell_35 : decode cX6_tell 35 = .ok (.iadd, 1) := by decide +kernel
theorem dX6_tell_36 : decode cX6_tell 36 = .ok (.iaload, 1) := by decide +kernel
theorem dX6_tell_37 : decode cX6_tell 37 = .ok (.iastore, 1) := by decide +kernel
theorem dX6_tell_38 : decode cX6_tell 38 = .ok (.return_, 1) := by decide +kernel
theorem dX6_check_0 : decode cX6_check 0 = .ok (.iconst 0, 1) := by decide +kernel
theorem dX6_check_1 : decode cX6_check 1 = .ok (.istore_n 1, 1) := by decide +kernel
theorem dX6_check_2 : decode cX6_check 2 = .ok (.iload_n 1, 1) := by decide +kernel
theorem dX6_check_3 : decode cX6_check 3 = .ok (.ldc 35, 2) := by decide +kernel
theorem dX6_check_5 : decode cX6_check 5 = .ok (.if_icmp .ge 16, 3) := by decide +kernel
theorem dX6_check_8 : decode cX6_check 8 = .ok (.aload_n 0, 1) := by decide +kernel
theorem dX6_check_9 : decode cX6_check 9 = .ok (.getfield 42, 3) := by decide +kernel
theorem dX6_check_12 : decode cX6_check 12 = .ok (.iload_n 1, 1) := by decide +kernel
theorem dX6_check_13 : decode cX6_check 13 = .ok (.iconst 0, 1) := by decide +kernel
theorem dX6_check_14 : decode cX6_check 14 = .ok (.bastore, 1) := by decide +kernel
theorem dX6_check_15 : decode cX6_check 15 = .ok (.iinc 1 1, 3) := by decide +kernel
theorem dX6_check_18 : decode cX6_check 18 = .ok (.goto (-16), 3) := by decide +kernel
theorem dX6_check_21 : decode cX6_check 21 = .ok (.iconst 0, 1) := by decide +kernel
theorem dX6_check_22 : decode cX6_check 22 = .ok (.istore_n 1, 1) := by decide +kernel
theorem dX6_check_23 : decode cX6_check 23 = .ok (.iload_n 1, 1) := by decide +kernel
theorem dX6_check_24 : decode cX6_check 24 = .ok (.bipush 25, 2) := by decide +kernel
theorem dX6_check_26 : decode cX6_check 26 = .ok (.if_icmp .ge 16, 3) := by decide +kernel
theorem dX6_check_29 : decode cX6_check 29 = .ok (.aload_n 0, 1) := by decide +kernel
theorem dX6_check_30 : decode cX6_check 30 = .ok (.getfield 45, 3) := by decide +kernel
theorem dX6_check_33 : decode cX6_check 33 = .ok (.iload_n 1, 1) := by decide +kernel
theorem dX6_check_34 : decode cX6_check 34 = .ok (.iconst (-1), 1) := by decide +kernel
theorem dX6_check_35 : decode cX6_check 35 = .ok (.iastore, 1) := by decide +kernel
theorem dX6_check_36 : decode cX6_check 36 = .ok (.iinc 1 1, 3) := by decide +kernel
theorem dX6_check_39 : decode cX6_check 39 = .ok (.goto (-16), 3) := by decide +kernel
theorem dX6_check_42 : decode cX6_check 42 = .ok (.aload_n 0, 1) := by decide +kernel
theorem dX6_check_43 : decode cX6_check 43 = .ok (.iconst 0, 1) := by decide +kernel
theorem dX6_check_44 : decode cX6_check 44 = .ok (.putfield 106, 3) := by decide +kernel
theorem dX6_check_47 : decode cX6_check 47 = .ok (.aload_n 0, 1) := by decide +kernel
theorem dX6_check_48 : decode cX6_check 48 = .ok (.aload_n 0, 1) := by decide +kernel
theorem dX6_check_49 : decode cX6_check 49 = .ok (.iconst 0, 1) := by decide +kernel
theorem dX6_check_50 : decode cX6_check 50 = .ok (.iconst 0, 1) := by decide +kernel
theorem dX6_check_51 : decode cX6_check 51 = .ok (.invokevirtual 94, 3) := by decide +kernel
theorem dX6_check_54 : decode cX6_check 54 = .ok (.iconst (-1), 1) := by decide +kernel
theorem dX6_check_55 : decode cX6_check 55 = .ok (.invokevirtual 109, 3) := by decide +kernel
theorem dX6_check_58 : decode cX6_check 58 = .ok (.iconst 0, 1) := by decide +kernel
theorem dX6_check_59 : decode cX6_check 59 = .ok (.istore_n 1, 1) := by decide +kernel
theorem dX6_check_60 : decode cX6_check 60 = .ok (.iload_n 1, 1) := by decide +kernel
theorem dX6_check_61 : decode cX6_check 61 = .ok (.aload_n 0, 1) := by decide +kernel
theorem dX6_check_62 : decode cX6_check 62 = .ok (.getfield 106, 3) := by decide +kernel
theorem dX6_check_65 : decode cX6_check 65 = .ok (.if_icmp .ge 121, 3) := by decide +kernel
theorem dX6_check_68 : decode cX6_check 68 = .ok (.aload_n 0, 1) := by decide +kernel
theorem dX6_check_69 : decode cX6_check 69 = .ok (.getfield 36, 3) := by decide +kernel
theorem dX6_check_72 : decode cX6_check 72 = .ok (.iload_n 1, 1) := by decide +kernel
theorem dX6_check_73 : decode cX6_check 73 = .ok (.iaload, 1) := by decide +kernel
theorem dX6_check_74 : decode cX6_check 74 = .ok (.istore_n 2, 1) := by decide +kernel
theorem dX6_check_75 : decode cX6_check 75 = .ok (.iload_n 2, 1) := by decide +kernel
theorem dX6_check_76 : decode cX6_check 76 = .ok (.invokestatic 82, 3) := by decide +kernel
theorem dX6_check_79 : decode cX6_check 79 = .ok (.bipush 40, 2) := by decide +kernel
theorem dX6_check_81 : decode cX6_check 81 = .ok (.if_icmp .lt 44, 3) := by decide +kernel
theorem dX6_check_84 : decode cX6_check 84 = .ok (.iconst 0, 1) := by decide +kernel
theorem dX6_check_85 : decode cX6_check 85 = .ok (.istore_n 3, 1) := by decide +kernel
theorem dX6_check_86 : decode cX6_check 86 = .ok (.iload_n 3, 1) := by decide +kernel
theorem dX6_check_87 : decode cX6_check 87 = .ok (.aload_n 0, 1) := by decide +kernel
theorem dX6_check_88 : decode cX6_check 88 = .ok (.getfield 51, 3) := by decide +kernel
theorem dX6_check_91 : decode cX6_check 91 = .ok (.if_icmp .ge 31, 3) := by decide +kernel
theorem dX6_check_94 : decode cX6_check 94 = .ok (.aload_n 0, 1) := by decide +kernel
theorem dX6_check_95 : decode cX6_check 95 = .ok (.iload_n 2, 1) := by decide +kernel
theorem dX6_check_96 : decode cX6_check 96 = .ok (.iload_n 3, 1) := by decide +kernel
theorem dX6_check_97 : decode cX6_check 97 = .ok (.invokevirtual 86, 3) := by decide +kernel
theorem dX6_check_100 : decode cX6_check 100 = .ok (.ifCond .eq 16, 3) := by decide +kernel
theorem dX6_check_103 : decode cX6_check 103 = .ok (.aload_n 0, 1) := by decide +kernel
theorem dX6_check_104 : decode cX6_check 104 = .ok (.iload_n 2, 1) := by decide +kernel
theorem dX6_check_105 : decode cX6_check 105 = .ok (.invokestatic 82, 3) := by decide +kernel
theorem dX6_check_108 : decode cX6_check 108 = .ok (.bipush 40, 2) := by decide +kernel
theorem dX6_check_110 : decode cX6_check 110 = .ok (.isub, 1) := by decide +kernel
theorem dX6_check_111 : decode cX6_check 111 = .ok (.iload_n 3, 1) := by decide +kernel
theorem dX6_check_112 : decode cX6_check 112 = .ok (.iload_n 1, 1) := by decide +kernel
theorem dX6_check_113 : decode cX6_check 113 = .ok (.invokevirtual 113, 3) := by decide +kernel
theorem dX6_check_116 : decode cX6_check 116 = .ok (.iinc 3 1, 3) := by decide +kernel
theorem dX6_check_119 : decode cX6_check 119 = .ok (.goto (-33), 3) := by decide +kernel
theorem dX6_check_122 : decode cX6_check 122 = .ok (.goto 58, 3) := by decide +kernel
theorem dX6_check_125 : decode cX6_check 125 = .ok (.aload_n 0, 1) := by decide +kernel
theorem dX6_check_126 : decode cX6_check 126 = .ok (.iload_n 2, 1) := by decide +kernel
theorem dX6_check_127 : decode cX6_check 127 = .ok (.invokevirtual 97, 3) := by decide +kernel
theorem dX6_check_130 : decode cX6_check 130 = .ok (.istore_n 3, 1) := by decide +kernel
theorem dX6_check_131 : decode cX6_check 131 = .ok (.iload_n 3, 1) := by decide +kernel
theorem dX6_check_132 : decode cX6_check 132 = .ok (.ifCond .le 18, 3) := by decide +kernel
theorem dX6_check_135 : decode cX6_check 135 = .ok (.aload_n 0, 1) := by decide +kernel
theorem dX6_check_136 : decode cX6_check 136 = .ok (.iload_n 3, 1) := by decide +kernel
theorem dX6_check_137 : decode cX6_check 137 = .ok (.aload_n 0, 1) := by decide +kernel
theorem dX6_check_138 : decode cX6_check 138 = .ok (.getfield 23, 3) := by decide +kernel
theorem dX6_check_141 : decode cX6_check 141 = .ok (.iload_n 2, 1) := by decide +kernel
theorem dX6_check_142 : decode cX6_check 142 = .ok (.invokestatic 82, 3) := by decide +kernel
theorem dX6_check_145 : decode cX6_check 145 = .ok (.iaload, 1) := by decide +kernel
theorem dX6_check_146 : decode cX6_check 146 = .ok (.iload_n 1, 1) := by decide +kernel
theorem dX6_check_147 : decode cX6_check 147 = .ok (.invokevirtual 113, 3) := by decide +kernel
theorem dX6_check_150 : decode cX6_check 150 = .ok (.aload_n 0, 1) := by decide +kernel
theorem dX6_check_151 : decode cX6_check 151 = .ok (.aload_n 0, 1) := by decide +kernel
theorem dX6_check_152 : decode cX6_check 152 = .ok (.iload_n 2, 1) := by decide +kernel
theorem dX6_check_153 : decode cX6_check 153 = .ok (.iconst 0, 1) := by decide +kernel
theorem dX6_check_154 : decode cX6_check 154 = .ok (.invokevirtual 117, 3) := by decide +kernel
theorem dX6_check_157 : decode cX6_check 157 = .ok (.iload_n 1, 1) := by decide +kernel
theorem dX6_check_158 : decode cX6_check 158 = .ok (.invokevirtual 109, 3) := by decide +kernel
theorem dX6_check_161 : decode cX6_check 161 = .ok (.aload_n 0, 1) := by decide +kernel
theorem dX6_check_162 : decode cX6_check 162 = .ok (.iload_n 2, 1) := by decide +kernel
theorem dX6_check_163 : decode cX6_check 163 = .ok (.invokevirtual 120, 3) := by decide +kernel
theorem dX6_check_166 : decode cX6_check 166 = .ok (.ifCond .eq 14, 3) := by decide +kernel
theorem dX6_check_169 : decode cX6_check 169 = .ok (.aload_n 0, 1) := by decide +kernel
theorem dX6_check_170 : decode cX6_check 170 = .ok (.aload_n 0, 1) := by decide +kernel
theorem dX6_check_171 : decode cX6_check 171 = .ok (.iload_n 2, 1) := by decide +kernel
theorem dX6_check_172 : decode cX6_check 172 = .ok (.iconst 1, 1) := by decide +kernel
theorem dX6_check_173 : decode cX6_check 173 = .ok (.invokevirtual 117, 3) := by decide +kernel
theorem dX6_check_176 : decode cX6_check 176 = .ok (.iload_n 1, 1) := by decide +kernel
theorem dX6_check_177 : decode cX6_check 177 = .ok (.invokevirtual 109, 3) := by decide +kernel
theorem dX6_check_180 : decode cX6_check 180 = .ok (.iinc 1 1, 3) := by decide +kernel
theorem dX6_check_183 : decode cX6_check 183 = .ok (.goto (-123), 3) := by decide +kernel
theorem dX6_check_186 : decode cX6_check 186 = .ok (.aload_n 0, 1) := by decide +kernel
theorem dX6_check_187 : decode cX6_check 187 = .ok (.iconst 1, 1) := by decide +kernel
theorem dX6_check_188 : decode cX6_check 188 = .ok (.putfield 63, 3) := by decide +kernel
theorem dX6_check_191 : decode cX6_check 191 = .ok (.iconst 0, 1) := by decide +kernel
theorem dX6_check_192 : decode cX6_check 192 = .ok (.istore_n 1, 1) := by decide +kernel
theorem dX6_check_193 : decode cX6_check 193 = .ok (.iconst 0, 1) := by decide +kernel
theorem dX6_check_194 : decode cX6_check 194 = .ok (.istore_n 2, 1) := by decide +kernel
theorem dX6_check_195 : decode cX6_check 195 = .ok (.iload_n 2, 1) := by decide +kernel
theorem dX6_check_196 : decode cX6_check 196 = .ok (.bipush 25, 2) := by decide +kernel
theorem dX6_check_198 : decode cX6_check 198 = .ok (.if_icmp .ge 27, 3) := by decide +kernel
theorem dX6_check_201 : decode cX6_check 201 = .ok (.iload_n 1, 1) := by decide +kernel
theorem dX6_check_202 : decode cX6_check 202 = .ok (.aload_n 0, 1) := by decide +kernel
theorem dX6_check_203 : decode cX6_check 203 = .ok (.getfield 45, 3) := by decide +kernel
theorem dX6_check_206 : decode cX6_check 206 = .ok (.iload_n 2, 1) := by decide +kernel
theorem dX6_check_207 : decode cX6_check 207 = .ok (.iaload, 1) := by decide +kernel
theorem dX6_check_208 : decode cX6_check 208 = .ok (.iconst (-1), 1) := by decide +kernel
theorem dX6_check_209 : decode cX6_check 209 = .ok (.if_icmp .ne 7, 3) := by decide +kernel
theorem dX6_check_212 : decode cX6_check 212 = .ok (.iconst 0, 1) := by decide +kernel
theorem dX6_check_213 : decode cX6_check 213 = .ok (.goto 4, 3) := by decide +kernel
theorem dX6_check_216 : decode cX6_check 216 = .ok (.iconst 1, 1) := by decide +kernel
theorem dX6_check_217 : decode cX6_check 217 = .ok (.iadd, 1) := by decide +kernel
theorem dX6_check_218 : decode cX6_check 218 = .ok (.istore_n 1, 1) := by decide +kernel
theorem dX6_check_219 : decode cX6_check 219 = .ok (.iinc 2 1, 3) := by decide +kernel
theorem dX6_check_222 : decode cX6_check 222 = .ok (.goto (-27), 3) := by decide +kernel
theorem dX6_check_225 : decode cX6_check 225 = .ok (.iload_n 1, 1) := by decide +kernel
theorem dX6_check_226 : decode cX6_check 226 = .ok (.ireturn, 1) := by decide +kernel
theorem dX6_depth_0 : decode cX6_depth 0 = .ok (.iconst 0, 1) := by decide +kernel
theorem dX6_depth_1 : decode cX6_depth 1 = .ok (.istore_n 2, 1) := by decide +kernel
theorem dX6_depth_2 : decode cX6_depth 2 = .ok (.iload_n 1, 1) := by decide +kernel
theorem dX6_depth_3 : decode cX6_depth 3 = .ok (.istore_n 3, 1) := by decide +kernel
theorem dX6_depth_4 : decode cX6_depth 4 = .ok (.aload_n 0, 1) := by decide +kernel
theorem dX6_depth_5 : decode cX6_depth 5 = .ok (.getfield 39, 3) := by decide +kernel
theorem dX6_depth_8 : decode cX6_depth 8 = .ok (.iload_n 3, 1) := by decide +kernel
theorem dX6_depth_9 : decode cX6_depth 9 = .ok (.iaload, 1) := by decide +kernel
theorem dX6_depth_10 : decode cX6_depth 10 = .ok (.ifCond .lt 16, 3) := by decide +kernel
theorem dX6_depth_13 : decode cX6_depth 13 = .ok (.iinc 2 1, 3) := by decide +kernel
theorem dX6_depth_16 : decode cX6_depth 16 = .ok (.aload_n 0, 1) := by decide +kernel
theorem dX6_depth_17 : decode cX6_depth 17 = .ok (.getfield 39, 3) := by decide +kernel
theorem dX6_depth_20 : decode cX6_depth 20 = .ok (.iload_n 3, 1) := by decide +kernel
theorem dX6_depth_21 : decode cX6_depth 21 = .ok (.iaload, 1) := by decide +kernel
theorem dX6_depth_22 : decode cX6_depth 22 = .ok (.istore_n 3, 1) := by decide +kernel
theorem dX6_depth_23 : decode cX6_depth 23 = .ok (.goto (-19), 3) := by decide +kernel
theorem dX6_depth_26 : decode cX6_depth 26 = .ok (.iload_n 2, 1) := by decide +kernel
theorem dX6_depth_27 : decode cX6_depth 27 = .ok (.ireturn, 1) := by decide +kernel
theorem dX6_longOf_0 : decode cX6_longOf 0 = .ok (.aload_n 0, 1) := by decide +kernel
theorem dX6_longOf_1 : decode cX6_longOf 1 = .ok (.getfield 45, 3) := by decide +kernel
theorem dX6_longOf_4 : decode cX6_longOf 4 = .ok (.iconst 5, 1) := by decide +kernel
theorem dX6_longOf_5 : decode cX6_longOf 5 = .ok (.iload_n 1, 1) := by decide +kernel
theorem dX6_longOf_6 : decode cX6_longOf 6 = .ok (.imul, 1) := by decide +kernel
theorem dX6_longOf_7 : decode cX6_longOf 7 = .ok (.iload_n 2, 1) := by decide +kernel
theorem dX6_longOf_8 : decode cX6_longOf 8 = .ok (.iadd, 1) := by decide +kernel
theorem dX6_longOf_9 : decode cX6_longOf 9 = .ok (.iaload, 1) := by decide +kernel
theorem dX6_longOf_10 : decode cX6_longOf 10 = .ok (.istore_n 3, 1) := by decide +kernel
theorem dX6_longOf_11 : decode cX6_longOf 11 = .ok (.iload_n 3, 1) := by decide +kernel
theorem dX6_longOf_12 : decode cX6_longOf 12 = .ok (.iconst (-1), 1) := by decide +kernel
theorem dX6_longOf_13 : decode cX6_longOf 13 = .ok (.if_icmp .ne 7, 3) := by decide +kernel
theorem dX6_longOf_16 : decode cX6_longOf 16 = .ok (.iconst (-1), 1) := by decide +kernel
theorem dX6_longOf_17 : decode cX6_longOf 17 = .ok (.goto 19, 3) := by decide +kernel
theorem dX6_longOf_20 : decode cX6_longOf 20 = .ok (.aload_n 0, 1) := by decide +kernel
theorem dX6_longOf_21 : decode cX6_longOf 21 = .ok (.iload_n 3, 1) := by decide +kernel
theorem dX6_longOf_22 : decode cX6_longOf 22 = .ok (.invokevirtual 123, 3) := by decide +kernel
theorem dX6_longOf_25 : decode cX6_longOf 25 = .ok (.iload_n 1, 1) := by decide +kernel
theorem dX6_longOf_26 : decode cX6_longOf 26 = .ok (.iconst 1, 1) := by decide +kernel
theorem dX6_longOf_27 : decode cX6_longOf 27 = .ok (.if_icmp .le 7, 3) := by decide +kernel
theorem dX6_longOf_30 : decode cX6_longOf 30 = .ok (.iconst 1, 1) := by decide +kernel
theorem dX6_longOf_31 : decode cX6_longOf 31 = .ok (.goto 4, 3) := by decide +kernel
theorem dX6_longOf_34 : decode cX6_longOf 34 = .ok (.iconst 0, 1) := by decide +kernel
theorem dX6_longOf_35 : decode cX6_longOf 35 = .ok (.iadd, 1) := by decide +kernel
theorem dX6_longOf_36 : decode cX6_longOf 36 = .ok (.ireturn, 1) := by decide +kernel
theorem dX6_found_0 : decode cX6_found 0 = .ok (.aload_n 0, 1) := by decide +kernel
theorem dX6_found_1 : decode cX6_found 1 = .ok (.iload_n 1, 1) := by decide +kernel
theorem dX6_found_2 : decode cX6_found 2 = .ok (.iload_n 2, 1) := by decide +kernel
theorem dX6_found_3 : decode cX6_found 3 = .ok (.invokevirtual 126, 3) := by decide +kernel
theorem dX6_found_6 : decode cX6_found 6 = .ok (.istore_n 3, 1) := by decide +kernel
theorem dX6_found_7 : decode cX6_found 7 = .ok (.iload_n 3, 1) := by decide +kernel
theorem dX6_found_8 : decode cX6_found 8 = .ok (.ifCond .ge 7, 3) := by decide +kernel
theorem dX6_found_11 : decode cX6_found 11 = .ok (.iload_n 3, 1) := by decide +kernel
theorem dX6_found_12 : decode cX6_found 12 = .ok (.goto 9, 3) := by decide +kernel
theorem dX6_found_15 : decode cX6_found 15 = .ok (.aload_n 0, 1) := by decide +kernel
theorem dX6_found_16 : decode cX6_found 16 = .ok (.iload_n 1, 1) := by decide +kernel
theorem dX6_found_17 : decode cX6_found 17 = .ok (.iload_n 2, 1) := by decide +kernel
theorem dX6_found_18 : decode cX6_found 18 = .ok (.invokevirtual 129, 3) := by decide +kernel
theorem dX6_found_21 : decode cX6_found 21 = .ok (.ireturn, 1) := by decide +kernel
theorem dX6_asks_0 : decode cX6_asks 0 = .ok (.aload_n 0, 1) := by decide +kernel
theorem dX6_asks_1 : decode cX6_asks 1 = .ok (.iload_n 2, 1) := by decide +kernel
theorem dX6_asks_2 : decode cX6_asks 2 = .ok (.invokevirtual 59, 3) := by decide +kernel
theorem dX6_asks_5 : decode cX6_asks 5 = .ok (.ifCond .ne 8, 3) := by decide +kernel
theorem dX6_asks_8 : decode cX6_asks 8 = .ok (.bipush (-101), 2) := by decide +kernel
theorem dX6_asks_10 : decode cX6_asks 10 = .ok (.goto 30, 3) := by decide +kernel
theorem dX6_asks_13 : decode cX6_asks 13 = .ok (.iload_n 1, 1) := by decide +kernel
theorem dX6_asks_14 : decode cX6_asks 14 = .ok (.iconst 0, 1) := by decide +kernel
theorem dX6_asks_15 : decode cX6_asks 15 = .ok (.iconst 4, 1) := by decide +kernel
theorem dX6_asks_16 : decode cX6_asks 16 = .ok (.invokestatic 55, 3) := by decide +kernel
theorem dX6_asks_19 : decode cX6_asks 19 = .ok (.ifCond .ne 8, 3) := by decide +kernel
theorem dX6_asks_22 : decode cX6_asks 22 = .ok (.bipush (-102), 2) := by decide +kernel
theorem dX6_asks_24 : decode cX6_asks 24 = .ok (.goto 16, 3) := by decide +kernel
theorem dX6_asks_27 : decode cX6_asks 27 = .ok (.aload_n 0, 1) := by decide +kernel
theorem dX6_asks_28 : decode cX6_asks 28 = .ok (.getfield 63, 3) := by decide +kernel
theorem dX6_asks_31 : decode cX6_asks 31 = .ok (.ifCond .ne 8, 3) := by decide +kernel
theorem dX6_asks_34 : decode cX6_asks 34 = .ok (.bipush (-103), 2) := by decide +kernel
theorem dX6_asks_36 : decode cX6_asks 36 = .ok (.goto 4, 3) := by decide +kernel
theorem dX6_asks_39 : decode cX6_asks 39 = .ok (.iconst 0, 1) := by decide +kernel
theorem dX6_asks_40 : decode cX6_asks 40 = .ok (.ireturn, 1) := by decide +kernel
theorem dX6_way_0 : decode cX6_way 0 = .ok (.aload_n 0, 1) := by decide +kernel
theorem dX6_way_1 : decode cX6_way 1 = .ok (.iload_n 1, 1) := by decide +kernel
theorem dX6_way_2 : decode cX6_way 2 = .ok (.iload_n 2, 1) := by decide +kernel
theorem dX6_way_3 : decode cX6_way 3 = .ok (.invokevirtual 126, 3) := by decide +kernel
theorem dX6_way_6 : decode cX6_way 6 = .ok (.istore 4, 2) := by decide +kernel
theorem dX6_way_8 : decode cX6_way 8 = .ok (.iload 4, 2) := by decide +kernel
theorem dX6_way_10 : decode cX6_way 10 = .ok (.ifCond .ge 6, 3) := by decide +kernel
theorem dX6_way_13 : decode cX6_way 13 = .ok (.iload 4, 2) := by decide +kernel
theorem dX6_way_15 : decode cX6_way 15 = .ok (.ireturn, 1) := by decide +kernel
theorem dX6_way_16 : decode cX6_way 16 = .ok (.aload_n 0, 1) := by decide +kernel
theorem dX6_way_17 : decode cX6_way 17 = .ok (.iload_n 1, 1) := by decide +kernel
theorem dX6_way_18 : decode cX6_way 18 = .ok (.iload_n 2, 1) := by decide +kernel
theorem dX6_way_19 : decode cX6_way 19 = .ok (.invokevirtual 129, 3) := by decide +kernel
theorem dX6_way_22 : decode cX6_way 22 = .ok (.istore 5, 2) := by decide +kernel
theorem dX6_way_24 : decode cX6_way 24 = .ok (.iload_n 3, 1) := by decide +kernel
theorem dX6_way_25 : decode cX6_way 25 = .ok (.iconst 0, 1) := by decide +kernel
theorem dX6_way_26 : decode cX6_way 26 = .ok (.iload 5, 2) := by decide +kernel
theorem dX6_way_28 : decode cX6_way 28 = .ok (.iconst 1, 1) := by decide +kernel
theorem dX6_way_29 : decode cX6_way 29 = .ok (.isub, 1) := by decide +kernel
theorem dX6_way_30 : decode cX6_way 30 = .ok (.invokestatic 55, 3) := by decide +kernel
theorem dX6_way_33 : decode cX6_way 33 = .ok (.ifCond .ne 5, 3) := by decide +kernel
theorem dX6_way_36 : decode cX6_way 36 = .ok (.iconst (-1), 1) := by decide +kernel
theorem dX6_way_37 : decode cX6_way 37 = .ok (.ireturn, 1) := by decide +kernel
theorem dX6_way_38 : decode cX6_way 38 = .ok (.aload_n 0, 1) := by decide +kernel
theorem dX6_way_39 : decode cX6_way 39 = .ok (.getfield 45, 3) := by decide +kernel
theorem dX6_way_42 : decode cX6_way 42 = .ok (.iconst 5, 1) := by decide +kernel
theorem dX6_way_43 : decode cX6_way 43 = .ok (.iload_n 1, 1) := by decide +kernel
theorem dX6_way_44 : decode cX6_way 44 = .ok (.imul, 1) := by decide +kernel
theorem dX6_way_45 : decode cX6_way 45 = .ok (.iload_n 2, 1) := by decide +kernel
theorem dX6_way_46 : decode cX6_way 46 = .ok (.iadd, 1) := by decide +kernel
theorem dX6_way_47 : decode cX6_way 47 = .ok (.iaload, 1) := by decide +kernel
theorem dX6_way_48 : decode cX6_way 48 = .ok (.istore 6, 2) := by decide +kernel
theorem dX6_way_50 : decode cX6_way 50 = .ok (.iload_n 1, 1) := by decide +kernel
theorem dX6_way_51 : decode cX6_way 51 = .ok (.iconst 1, 1) := by decide +kernel
theorem dX6_way_52 : decode cX6_way 52 = .ok (.if_icmp .le 10, 3) := by decide +kernel
theorem dX6_way_55 : decode cX6_way 55 = .ok (.iload 5, 2) := by decide +kernel
theorem dX6_way_57 : decode cX6_way 57 = .ok (.iconst 1, 1) := by decide +kernel
theorem dX6_way_58 : decode cX6_way 58 = .ok (.isub, 1) := by decide +kernel
theorem dX6_way_59 : decode cX6_way 59 = .ok (.goto 5, 3) := by decide +kernel
theorem dX6_way_62 : decode cX6_way 62 = .ok (.iload 5, 2) := by decide +kernel
theorem dX6_way_64 : decode cX6_way 64 = .ok (.istore 7, 2) := by decide +kernel
theorem dX6_way_66 : decode cX6_way 66 = .ok (.iload 7, 2) := by decide +kernel
theorem dX6_way_68 : decode cX6_way 68 = .ok (.iload_n 3, 1) := by decide +kernel
theorem dX6_way_69 : decode cX6_way 69 = .ok (.if_icmp .le 18, 3) := by decide +kernel
theorem dX6_way_72 : decode cX6_way 72 = .ok (.aload_n 0, 1) := by decide +kernel
theorem dX6_way_73 : decode cX6_way 73 = .ok (.getfield 39, 3) := by decide +kernel
theorem dX6_way_76 : decode cX6_way 76 = .ok (.iload 6, 2) := by decide +kernel
theorem dX6_way_78 : decode cX6_way 78 = .ok (.iaload, 1) := by decide +kernel
theorem dX6_way_79 : decode cX6_way 79 = .ok (.istore 6, 2) := by decide +kernel
theorem dX6_way_81 : decode cX6_way 81 = .ok (.iinc 7 (-1), 3) := by decide +kernel
theorem dX6_way_84 : decode cX6_way 84 = .ok (.goto (-18), 3) := by decide +kernel
theorem dX6_way_87 : decode cX6_way 87 = .ok (.aload_n 0, 1) := by decide +kernel
theorem dX6_way_88 : decode cX6_way 88 = .ok (.getfield 36, 3) := by decide +kernel
theorem dX6_way_91 : decode cX6_way 91 = .ok (.iload 6, 2) := by decide +kernel
theorem dX6_way_93 : decode cX6_way 93 = .ok (.iaload, 1) := by decide +kernel
theorem dX6_way_94 : decode cX6_way 94 = .ok (.invokestatic 82, 3) := by decide +kernel
theorem dX6_way_97 : decode cX6_way 97 = .ok (.ireturn, 1) := by decide +kernel
theorem dX6_closed_0 : decode cX6_closed 0 = .ok (.aload_n 0, 1) := by decide +kernel
theorem dX6_closed_1 : decode cX6_closed 1 = .ok (.iload_n 1, 1) := by decide +kernel
theorem dX6_closed_2 : decode cX6_closed 2 = .ok (.invokevirtual 59, 3) := by decide +kernel
theorem dX6_closed_5 : decode cX6_closed 5 = .ok (.ifCond .ne 6, 3) := by decide +kernel
theorem dX6_closed_8 : decode cX6_closed 8 = .ok (.bipush (-101), 2) := by decide +kernel
theorem dX6_closed_10 : decode cX6_closed 10 = .ok (.ireturn, 1) := by decide +kernel
theorem dX6_closed_11 : decode cX6_closed 11 = .ok (.aload_n 0, 1) := by decide +kernel
theorem dX6_closed_12 : decode cX6_closed 12 = .ok (.getfield 63, 3) := by decide +kernel
theorem dX6_closed_15 : decode cX6_closed 15 = .ok (.ifCond .ne 8, 3) := by decide +kernel
theorem dX6_closed_18 : decode cX6_closed 18 = .ok (.bipush (-103), 2) := by decide +kernel
theorem dX6_closed_20 : decode cX6_closed 20 = .ok (.goto 30, 3) := by decide +kernel
theorem dX6_closed_23 : decode cX6_closed 23 = .ok (.aload_n 0, 1) := by decide +kernel
theorem dX6_closed_24 : decode cX6_closed 24 = .ok (.getfield 45, 3) := by decide +kernel
theorem dX6_closed_27 : decode cX6_closed 27 = .ok (.iload_n 1, 1) := by decide +kernel
theorem dX6_closed_28 : decode cX6_closed 28 = .ok (.iaload, 1) := by decide +kernel
theorem dX6_closed_29 : decode cX6_closed 29 = .ok (.iconst (-1), 1) := by decide +kernel
theorem dX6_closed_30 : decode cX6_closed 30 = .ok (.if_icmp .ne 19, 3) := by decide +kernel
theorem dX6_closed_33 : decode cX6_closed 33 = .ok (.aload_n 0, 1) := by decide +kernel
theorem dX6_closed_34 : decode cX6_closed 34 = .ok (.getfield 45, 3) := by decide +kernel
theorem dX6_closed_37 : decode cX6_closed 37 = .ok (.iconst 5, 1) := by decide +kernel
theorem dX6_closed_38 : decode cX6_closed 38 = .ok (.iload_n 1, 1) := by decide +kernel
theorem dX6_closed_39 : decode cX6_closed 39 = .ok (.iadd, 1) := by decide +kernel
theorem dX6_closed_40 : decode cX6_closed 40 = .ok (.iaload, 1) := by decide +kernel
theorem dX6_closed_41 : decode cX6_closed 41 = .ok (.iconst (-1), 1) := by decide +kernel
theorem dX6_closed_42 : decode cX6_closed 42 = .ok (.if_icmp .ne 7, 3) := by decide +kernel
theorem dX6_closed_45 : decode cX6_closed 45 = .ok (.iconst 1, 1) := by decide +kernel
theorem dX6_closed_46 : decode cX6_closed 46 = .ok (.goto 4, 3) := by decide +kernel
theorem dX6_closed_49 : decode cX6_closed 49 = .ok (.iconst 0, 1) := by decide +kernel
theorem dX6_closed_50 : decode cX6_closed 50 = .ok (.ireturn, 1) := by decide +kernel
theorem dX6_states_0 : decode cX6_states 0 = .ok (.aload_n 0, 1) := by decide +kernel
theorem dX6_states_1 : decode cX6_states 1 = .ok (.iload_n 2, 1) := by decide +kernel
theorem dX6_states_2 : decode cX6_states 2 = .ok (.invokevirtual 59, 3) := by decide +kernel
theorem dX6_states_5 : decode cX6_states 5 = .ok (.ifCond .ne 6, 3) := by decide +kernel
theorem dX6_states_8 : decode cX6_states 8 = .ok (.bipush (-101), 2) := by decide +kernel
theorem dX6_states_10 : decode cX6_states 10 = .ok (.ireturn, 1) := by decide +kernel
theorem dX6_states_11 : decode cX6_states 11 = .ok (.iload_n 1, 1) := by decide +kernel
theorem dX6_states_12 : decode cX6_states 12 = .ok (.iconst 0, 1) := by decide +kernel
theorem dX6_states_13 : decode cX6_states 13 = .ok (.bipush 41, 2) := by decide +kernel
theorem dX6_states_15 : decode cX6_states 15 = .ok (.invokestatic 55, 3) := by decide +kernel
theorem dX6_states_18 : decode cX6_states 18 = .ok (.ifCond .ne 6, 3) := by decide +kernel
theorem dX6_states_21 : decode cX6_states 21 = .ok (.bipush (-102), 2) := by decide +kernel
theorem dX6_states_23 : decode cX6_states 23 = .ok (.ireturn, 1) := by decide +kernel
theorem dX6_states_24 : decode cX6_states 24 = .ok (.aload_n 0, 1) := by decide +kernel
theorem dX6_states_25 : decode cX6_states 25 = .ok (.getfield 63, 3) := by decide +kernel
theorem dX6_states_28 : decode cX6_states 28 = .ok (.ifCond .ne 6, 3) := by decide +kernel
theorem dX6_states_31 : decode cX6_states 31 = .ok (.bipush (-103), 2) := by decide +kernel
theorem dX6_states_33 : decode cX6_states 33 = .ok (.ireturn, 1) := by decide +kernel
theorem dX6_states_34 : decode cX6_states 34 = .ok (.iconst 0, 1) := by decide +kernel
theorem dX6_states_35 : decode cX6_states 35 = .ok (.istore_n 3, 1) := by decide +kernel
theorem dX6_states_36 : decode cX6_states 36 = .ok (.iconst 0, 1) := by decide +kernel
theorem dX6_states_37 : decode cX6_states 37 = .ok (.istore 4, 2) := by decide +kernel
theorem dX6_states_39 : decode cX6_states 39 = .ok (.iload 4, 2) := by decide +kernel
theorem dX6_states_41 : decode cX6_states 41 = .ok (.aload_n 0, 1) := by decide +kernel
theorem dX6_states_42 : decode cX6_states 42 = .ok (.getfield 106, 3) := by decide +kernel
theorem dX6_states_45 : decode cX6_states 45 = .ok (.if_icmp .ge 43, 3) := by decide +kernel
theorem dX6_states_48 : decode cX6_states 48 = .ok (.iload_n 3, 1) := by decide +kernel
theorem dX6_states_49 : decode cX6_states 49 = .ok (.aload_n 0, 1) := by decide +kernel
theorem dX6_states_50 : decode cX6_states 50 = .ok (.getfield 36, 3) := by decide +kernel
theorem dX6_states_53 : decode cX6_states 53 = .ok (.iload 4, 2) := by decide +kernel
theorem dX6_states_55 : decode cX6_states 55 = .ok (.iaload, 1) := by decide +kernel
theorem dX6_states_56 : decode cX6_states 56 = .ok (.invokestatic 82, 3) := by decide +kernel
theorem dX6_states_59 : decode cX6_states 59 = .ok (.iload_n 1, 1) := by decide +kernel
theorem dX6_states_60 : decode cX6_states 60 = .ok (.if_icmp .ne 19, 3) := by decide +kernel
theorem dX6_states_63 : decode cX6_states 63 = .ok (.iconst 1, 1) := by decide +kernel
theorem dX6_states_64 : decode cX6_states 64 = .ok (.aload_n 0, 1) := by decide +kernel
theorem dX6_states_65 : decode cX6_states 65 = .ok (.getfield 36, 3) := by decide +kernel
theorem dX6_states_68 : decode cX6_states 68 = .ok (.iload 4, 2) := by decide +kernel
theorem dX6_states_70 : decode cX6_states 70 = .ok (.iaload, 1) := by decide +kernel
theorem dX6_states_71 : decode cX6_states 71 = .ok (.iload_n 2, 1) := by decide +kernel
theorem dX6_states_72 : decode cX6_states 72 = .ok (.invokestatic 78, 3) := by decide +kernel
theorem dX6_states_75 : decode cX6_states 75 = .ok (.ishl, 1) := by decide +kernel
theorem dX6_states_76 : decode cX6_states 76 = .ok (.goto 4, 3) := by decide +kernel
theorem dX6_states_79 : decode cX6_states 79 = .ok (.iconst 0, 1) := by decide +kernel
theorem dX6_states_80 : decode cX6_states 80 = .ok (.ior, 1) := by decide +kernel
theorem dX6_states_81 : decode cX6_states 81 = .ok (.istore_n 3, 1) := by decide +kernel
theorem dX6_states_82 : decode cX6_states 82 = .ok (.iinc 4 1, 3) := by decide +kernel
theorem dX6_states_85 : decode cX6_states 85 = .ok (.goto (-46), 3) := by decide +kernel
theorem dX6_states_88 : decode cX6_states 88 = .ok (.iload_n 3, 1) := by decide +kernel
theorem dX6_states_89 : decode cX6_states 89 = .ok (.ireturn, 1) := by decide +kernel
theorem dX6_nodes_0 : decode cX6_nodes 0 = .ok (.iload_n 1, 1) := by decide +kernel
theorem dX6_nodes_1 : decode cX6_nodes 1 = .ok (.iconst 0, 1) := by decide +kernel
theorem dX6_nodes_2 : decode cX6_nodes 2 = .ok (.bipush 42, 2) := by decide +kernel
theorem dX6_nodes_4 : decode cX6_nodes 4 = .ok (.invokestatic 55, 3) := by decide +kernel
theorem dX6_nodes_7 : decode cX6_nodes 7 = .ok (.ifCond .ne 6, 3) := by decide +kernel
theorem dX6_nodes_10 : decode cX6_nodes 10 = .ok (.bipush (-102), 2) := by decide +kernel
theorem dX6_nodes_12 : decode cX6_nodes 12 = .ok (.ireturn, 1) := by decide +kernel
theorem dX6_nodes_13 : decode cX6_nodes 13 = .ok (.aload_n 0, 1) := by decide +kernel
theorem dX6_nodes_14 : decode cX6_nodes 14 = .ok (.getfield 63, 3) := by decide +kernel
theorem dX6_nodes_17 : decode cX6_nodes 17 = .ok (.ifCond .ne 6, 3) := by decide +kernel
theorem dX6_nodes_20 : decode cX6_nodes 20 = .ok (.bipush (-103), 2) := by decide +kernel
theorem dX6_nodes_22 : decode cX6_nodes 22 = .ok (.ireturn, 1) := by decide +kernel
theorem dX6_nodes_23 : decode cX6_nodes 23 = .ok (.iconst 0, 1) := by decide +kernel
theorem dX6_nodes_24 : decode cX6_nodes 24 = .ok (.istore_n 2, 1) := by decide +kernel
theorem dX6_nodes_25 : decode cX6_nodes 25 = .ok (.iconst 0, 1) := by decide +kernel
theorem dX6_nodes_26 : decode cX6_nodes 26 = .ok (.istore_n 3, 1) := by decide +kernel
theorem dX6_nodes_27 : decode cX6_nodes 27 = .ok (.iload_n 3, 1) := by decide +kernel
theorem dX6_nodes_28 : decode cX6_nodes 28 = .ok (.aload_n 0, 1) := by decide +kernel
theorem dX6_nodes_29 : decode cX6_nodes 29 = .ok (.getfield 106, 3) := by decide +kernel
theorem dX6_nodes_32 : decode cX6_nodes 32 = .ok (.if_icmp .ge 36, 3) := by decide +kernel
theorem dX6_nodes_35 : decode cX6_nodes 35 = .ok (.iload_n 2, 1) := by decide +kernel
theorem dX6_nodes_36 : decode cX6_nodes 36 = .ok (.iload_n 1, 1) := by decide +kernel
theorem dX6_nodes_37 : decode cX6_nodes 37 = .ok (.bipush 42, 2) := by decide +kernel
theorem dX6_nodes_39 : decode cX6_nodes 39 = .ok (.if_icmp .eq 16, 3) := by decide +kernel
theorem dX6_nodes_42 : decode cX6_nodes 42 = .ok (.aload_n 0, 1) := by decide +kernel
theorem dX6_nodes_43 : decode cX6_nodes 43 = .ok (.getfield 36, 3) := by decide +kernel
theorem dX6_nodes_46 : decode cX6_nodes 46 = .ok (.iload_n 3, 1) := by decide +kernel
theorem dX6_nodes_47 : decode cX6_nodes 47 = .ok (.iaload, 1) := by decide +kernel
theorem dX6_nodes_48 : decode cX6_nodes 48 = .ok (.invokestatic 82, 3) := by decide +kernel
theorem dX6_nodes_51 : decode cX6_nodes 51 = .ok (.iload_n 1, 1) := by decide +kernel
theorem dX6_nodes_52 : decode cX6_nodes 52 = .ok (.if_icmp .ne 7, 3) := by decide +kernel
theorem dX6_nodes_55 : decode cX6_nodes 55 = .ok (.iconst 1, 1) := by decide +kernel
theorem dX6_nodes_56 : decode cX6_nodes 56 = .ok (.goto 4, 3) := by decide +kernel
theorem dX6_nodes_59 : decode cX6_nodes 59 = .ok (.iconst 0, 1) := by decide +kernel
theorem dX6_nodes_60 : decode cX6_nodes 60 = .ok (.iadd, 1) := by decide +kernel
theorem dX6_nodes_61 : decode cX6_nodes 61 = .ok (.istore_n 2, 1) := by decide +kernel
theorem dX6_nodes_62 : decode cX6_nodes 62 = .ok (.iinc 3 1, 3) := by decide +kernel
theorem dX6_nodes_65 : decode cX6_nodes 65 = .ok (.goto (-38), 3) := by decide +kernel
theorem dX6_nodes_68 : decode cX6_nodes 68 = .ok (.iload_n 2, 1) := by decide +kernel
theorem dX6_nodes_69 : decode cX6_nodes 69 = .ok (.ireturn, 1) := by decide +kernel
theorem dX6_atOnce_0 : decode cX6_atOnce 0 = .ok (.iload_n 1, 1) := by decide +kernel
theorem dX6_atOnce_1 : decode cX6_atOnce 1 = .ok (.iconst 0, 1) := by decide +kernel
theorem dX6_atOnce_2 : decode cX6_atOnce 2 = .ok (.iconst 2, 1) := by decide +kernel
theorem dX6_atOnce_3 : decode cX6_atOnce 3 = .ok (.invokestatic 55, 3) := by decide +kernel
theorem dX6_atOnce_6 : decode cX6_atOnce 6 = .ok (.ifCond .ne 6, 3) := by decide +kernel
theorem dX6_atOnce_9 : decode cX6_atOnce 9 = .ok (.bipush (-102), 2) := by decide +kernel
theorem dX6_atOnce_11 : decode cX6_atOnce 11 = .ok (.ireturn, 1) := by decide +kernel
theorem dX6_atOnce_12 : decode cX6_atOnce 12 = .ok (.aload_n 0, 1) := by decide +kernel
theorem dX6_atOnce_13 : decode cX6_atOnce 13 = .ok (.getfield 63, 3) := by decide +kernel
theorem dX6_atOnce_16 : decode cX6_atOnce 16 = .ok (.ifCond .ne 6, 3) := by decide +kernel
theorem dX6_atOnce_19 : decode cX6_atOnce 19 = .ok (.bipush (-103), 2) := by decide +kernel
theorem dX6_atOnce_21 : decode cX6_atOnce 21 = .ok (.ireturn, 1) := by decide +kernel
theorem dX6_atOnce_22 : decode cX6_atOnce 22 = .ok (.iconst 0, 1) := by decide +kernel
theorem dX6_atOnce_23 : decode cX6_atOnce 23 = .ok (.istore_n 2, 1) := by decide +kernel
theorem dX6_atOnce_24 : decode cX6_atOnce 24 = .ok (.iconst 0, 1) := by decide +kernel
theorem dX6_atOnce_25 : decode cX6_atOnce 25 = .ok (.istore_n 3, 1) := by decide +kernel
theorem dX6_atOnce_26 : decode cX6_atOnce 26 = .ok (.iload_n 3, 1) := by decide +kernel
theorem dX6_atOnce_27 : decode cX6_atOnce 27 = .ok (.aload_n 0, 1) := by decide +kernel
theorem dX6_atOnce_28 : decode cX6_atOnce 28 = .ok (.getfield 106, 3) := by decide +kernel
theorem dX6_atOnce_31 : decode cX6_atOnce 31 = .ok (.if_icmp .ge 134, 3) := by decide +kernel
theorem dX6_atOnce_34 : decode cX6_atOnce 34 = .ok (.iconst 0, 1) := by decide +kernel
theorem dX6_atOnce_35 : decode cX6_atOnce 35 = .ok (.istore 4, 2) := by decide +kernel
theorem dX6_atOnce_37 : decode cX6_atOnce 37 = .ok (.iconst 0, 1) := by decide +kernel
theorem dX6_atOnce_38 : decode cX6_atOnce 38 = .ok (.istore 5, 2) := by decide +kernel
theorem dX6_atOnce_40 : decode cX6_atOnce 40 = .ok (.iload 5, 2) := by decide +kernel
theorem dX6_atOnce_42 : decode cX6_atOnce 42 = .ok (.aload_n 0, 1) := by decide +kernel
theorem dX6_atOnce_43 : decode cX6_atOnce 43 = .ok (.getfield 51, 3) := by decide +kernel
theorem dX6_atOnce_46 : decode cX6_atOnce 46 = .ok (.if_icmp .ge 100, 3) := by decide +kernel
theorem dX6_atOnce_49 : decode cX6_atOnce 49 = .ok (.aload_n 0, 1) := by decide +kernel
theorem dX6_atOnce_50 : decode cX6_atOnce 50 = .ok (.getfield 36, 3) := by decide +kernel
theorem dX6_atOnce_53 : decode cX6_atOnce 53 = .ok (.iload_n 3, 1) := by decide +kernel
theorem dX6_atOnce_54 : decode cX6_atOnce 54 = .ok (.iaload, 1) := by decide +kernel
theorem dX6_atOnce_55 : decode cX6_atOnce 55 = .ok (.iload 5, 2) := by decide +kernel
theorem dX6_atOnce_57 : decode cX6_atOnce 57 = .ok (.invokestatic 78, 3) := by decide +kernel
theorem dX6_atOnce_60 : decode cX6_atOnce 60 = .ok (.istore 6, 2) := by decide +kernel
theorem dX6_atOnce_62 : decode cX6_atOnce 62 = .ok (.iload 4, 2) := by decide +kernel
theorem dX6_atOnce_64 : decode cX6_atOnce 64 = .ok (.iload_n 1, 1) := by decide +kernel
theorem dX6_atOnce_65 : decode cX6_atOnce 65 = .ok (.ifCond .ne 27, 3) := by decide +kernel
theorem dX6_atOnce_68 : decode cX6_atOnce 68 = .ok (.aload_n 0, 1) := by decide +kernel
theorem dX6_atOnce_69 : decode cX6_atOnce 69 = .ok (.getfield 7, 3) := by decide +kernel
theorem dX6_atOnce_72 : decode cX6_atOnce 72 = .ok (.iload 5, 2) := by decide +kernel
theorem dX6_atOnce_74 : decode cX6_atOnce 74 = .ok (.iaload, 1) := by decide +kernel
theorem dX6_atOnce_75 : decode cX6_atOnce 75 = .ok (.ifCond .ne 13, 3) := by decide +kernel
theorem dX6_atOnce_78 : decode cX6_atOnce 78 = .ok (.iload 6, 2) := by decide +kernel
theorem dX6_atOnce_80 : decode cX6_atOnce 80 = .ok (.iconst 1, 1) := by decide +kernel
theorem dX6_atOnce_81 : decode cX6_atOnce 81 = .ok (.if_icmp .ne 7, 3) := by decide +kernel
theorem dX6_atOnce_84 : decode cX6_atOnce 84 = .ok (.iconst 1, 1) := by decide +kernel
theorem dX6_atOnce_85 : decode cX6_atOnce 85 = .ok (.goto 52, 3) := by decide +kernel
theorem dX6_atOnce_88 : decode cX6_atOnce 88 = .ok (.iconst 0, 1) := by decide +kernel
theorem dX6_atOnce_89 : decode cX6_atOnce 89 = .ok (.goto 48, 3) := by decide +kernel
theorem dX6_atOnce_92 : decode cX6_atOnce 92 = .ok (.iload_n 1, 1) := by decide +kernel
theorem dX6_atOnce_93 : decode cX6_atOnce 93 = .ok (.iconst 1, 1) := by decide +kernel
theorem dX6_atOnce_94 : decode cX6_atOnce 94 = .ok (.if_icmp .ne 23, 3) := by decide +kernel
theorem dX6_atOnce_97 : decode cX6_atOnce 97 = .ok (.aload_n 0, 1) := by decide +kernel
theorem dX6_atOnce_98 : decode cX6_atOnce 98 = .ok (.getfield 7, 3) := by decide +kernel
theorem dX6_atOnce_101 : decode cX6_atOnce 101 = .ok (.iload 5, 2) := by decide +kernel
theorem dX6_atOnce_103 : decode cX6_atOnce 103 = .ok (.iaload, 1) := by decide +kernel
theorem dX6_atOnce_104 : decode cX6_atOnce 104 = .ok (.iconst 1, 1) := by decide +kernel
theorem dX6_atOnce_105 : decode cX6_atOnce 105 = .ok (.if_icmp .ne 8, 3) := by decide +kernel
theorem dX6_atOnce_108 : decode cX6_atOnce 108 = .ok (.iload 6, 2) := by decide +kernel
theorem dX6_atOnce_110 : decode cX6_atOnce 110 = .ok (.goto 27, 3) := by decide +kernel
theorem dX6_atOnce_113 : decode cX6_atOnce 113 = .ok (.iconst 0, 1) := by decide +kernel
theorem dX6_atOnce_114 : decode cX6_atOnce 114 = .ok (.goto 23, 3) := by decide +kernel
theorem dX6_atOnce_117 : decode cX6_atOnce 117 = .ok (.aload_n 0, 1) := by decide +kernel
theorem dX6_atOnce_118 : decode cX6_atOnce 118 = .ok (.aload_n 0, 1) := by decide +kernel
theorem dX6_atOnce_119 : decode cX6_atOnce 119 = .ok (.getfield 36, 3) := by decide +kernel
theorem dX6_atOnce_122 : decode cX6_atOnce 122 = .ok (.iload_n 3, 1) := by decide +kernel
theorem dX6_atOnce_123 : decode cX6_atOnce 123 = .ok (.iaload, 1) := by decide +kernel
theorem dX6_atOnce_124 : decode cX6_atOnce 124 = .ok (.iload 5, 2) := by decide +kernel
theorem dX6_atOnce_126 : decode cX6_atOnce 126 = .ok (.invokevirtual 86, 3) := by decide +kernel
theorem dX6_atOnce_129 : decode cX6_atOnce 129 = .ok (.ifCond .eq 7, 3) := by decide +kernel
theorem dX6_atOnce_132 : decode cX6_atOnce 132 = .ok (.iconst 1, 1) := by decide +kernel
theorem dX6_atOnce_133 : decode cX6_atOnce 133 = .ok (.goto 4, 3) := by decide +kernel
theorem dX6_atOnce_136 : decode cX6_atOnce 136 = .ok (.iconst 0, 1) := by decide +kernel
theorem dX6_atOnce_137 : decode cX6_atOnce 137 = .ok (.iadd, 1) := by decide +kernel
theorem dX6_atOnce_138 : decode cX6_atOnce 138 = .ok (.istore 4, 2) := by decide +kernel
theorem dX6_atOnce_140 : decode cX6_atOnce 140 = .ok (.iinc 5 1, 3) := by decide +kernel
theorem dX6_atOnce_143 : decode cX6_atOnce 143 = .ok (.goto (-103), 3) := by decide +kernel
theorem dX6_atOnce_146 : decode cX6_atOnce 146 = .ok (.iload 4, 2) := by decide +kernel
theorem dX6_atOnce_148 : decode cX6_atOnce 148 = .ok (.iload_n 2, 1) := by decide +kernel
theorem dX6_atOnce_149 : decode cX6_atOnce 149 = .ok (.if_icmp .le 8, 3) := by decide +kernel
theorem dX6_atOnce_152 : decode cX6_atOnce 152 = .ok (.iload 4, 2) := by decide +kernel
theorem dX6_atOnce_154 : decode cX6_atOnce 154 = .ok (.goto 4, 3) := by decide +kernel
theorem dX6_atOnce_157 : decode cX6_atOnce 157 = .ok (.iload_n 2, 1) := by decide +kernel
theorem dX6_atOnce_158 : decode cX6_atOnce 158 = .ok (.istore_n 2, 1) := by decide +kernel
theorem dX6_atOnce_159 : decode cX6_atOnce 159 = .ok (.iinc 3 1, 3) := by decide +kernel
theorem dX6_atOnce_162 : decode cX6_atOnce 162 = .ok (.goto (-136), 3) := by decide +kernel
theorem dX6_atOnce_165 : decode cX6_atOnce 165 = .ok (.iload_n 2, 1) := by decide +kernel
theorem dX6_atOnce_166 : decode cX6_atOnce 166 = .ok (.ireturn, 1) := by decide +kernel
theorem dX6_run_0 : decode cX6_run 0 = .ok (.iload_n 2, 1) := by decide +kernel
theorem dX6_run_1 : decode cX6_run 1 = .ok (.iconst 1, 1) := by decide +kernel
theorem dX6_run_2 : decode cX6_run 2 = .ok (.bipush 100, 2) := by decide +kernel
theorem dX6_run_4 : decode cX6_run 4 = .ok (.invokestatic 55, 3) := by decide +kernel
theorem dX6_run_7 : decode cX6_run 7 = .ok (.ifCond .ne 6, 3) := by decide +kernel
theorem dX6_run_10 : decode cX6_run 10 = .ok (.bipush (-102), 2) := by decide +kernel
theorem dX6_run_12 : decode cX6_run 12 = .ok (.ireturn, 1) := by decide +kernel
theorem dX6_run_13 : decode cX6_run 13 = .ok (.iload_n 1, 1) := by decide +kernel
theorem dX6_run_14 : decode cX6_run 14 = .ok (.istore_n 3, 1) := by decide +kernel
theorem dX6_run_15 : decode cX6_run 15 = .ok (.aload_n 0, 1) := by decide +kernel
theorem dX6_run_16 : decode cX6_run 16 = .ok (.iconst 0, 1) := by decide +kernel
theorem dX6_run_17 : decode cX6_run 17 = .ok (.iconst 0, 1) := by decide +kernel
theorem dX6_run_18 : decode cX6_run 18 = .ok (.invokevirtual 94, 3) := by decide +kernel
theorem dX6_run_21 : decode cX6_run 21 = .ok (.istore 4, 2) := by decide +kernel
theorem dX6_run_23 : decode cX6_run 23 = .ok (.aload_n 0, 1) := by decide +kernel
theorem dX6_run_24 : decode cX6_run 24 = .ok (.iconst 0, 1) := by decide +kernel
theorem dX6_run_25 : decode cX6_run 25 = .ok (.putfield 132, 3) := by decide +kernel
theorem dX6_run_28 : decode cX6_run 28 = .ok (.aload_n 0, 1) := by decide +kernel
theorem dX6_run_29 : decode cX6_run 29 = .ok (.iconst 0, 1) := by decide +kernel
theorem dX6_run_30 : decode cX6_run 30 = .ok (.putfield 135, 3) := by decide +kernel
theorem dX6_run_33 : decode cX6_run 33 = .ok (.aload_n 0, 1) := by decide +kernel
theorem dX6_run_34 : decode cX6_run 34 = .ok (.getfield 132, 3) := by decide +kernel
theorem dX6_run_37 : decode cX6_run 37 = .ok (.iload_n 2, 1) := by decide +kernel
theorem dX6_run_38 : decode cX6_run 38 = .ok (.if_icmp .ge 89, 3) := by decide +kernel
theorem dX6_run_41 : decode cX6_run 41 = .ok (.iload 4, 2) := by decide +kernel
theorem dX6_run_43 : decode cX6_run 43 = .ok (.invokestatic 82, 3) := by decide +kernel
theorem dX6_run_46 : decode cX6_run 46 = .ok (.bipush 40, 2) := by decide +kernel
theorem dX6_run_48 : decode cX6_run 48 = .ok (.if_icmp .ge 79, 3) := by decide +kernel
theorem dX6_run_51 : decode cX6_run 51 = .ok (.iconst 0, 1) := by decide +kernel
theorem dX6_run_52 : decode cX6_run 52 = .ok (.istore 5, 2) := by decide +kernel
theorem dX6_run_54 : decode cX6_run 54 = .ok (.aload_n 0, 1) := by decide +kernel
theorem dX6_run_55 : decode cX6_run 55 = .ok (.iload 4, 2) := by decide +kernel
theorem dX6_run_57 : decode cX6_run 57 = .ok (.invokevirtual 120, 3) := by decide +kernel
theorem dX6_run_60 : decode cX6_run 60 = .ok (.ifCond .eq 30, 3) := by decide +kernel
theorem dX6_run_63 : decode cX6_run 63 = .ok (.ldc 138, 2) := by decide +kernel
theorem dX6_run_65 : decode cX6_run 65 = .ok (.iload_n 3, 1) := by decide +kernel
theorem dX6_run_66 : decode cX6_run 66 = .ok (.imul, 1) := by decide +kernel
theorem dX6_run_67 : decode cX6_run 67 = .ok (.sipush 12345, 3) := by decide +kernel
theorem dX6_run_70 : decode cX6_run 70 = .ok (.iadd, 1) := by decide +kernel
theorem dX6_run_71 : decode cX6_run 71 = .ok (.istore_n 3, 1) := by decide +kernel
theorem dX6_run_72 : decode cX6_run 72 = .ok (.iload_n 3, 1) := by decide +kernel
theorem dX6_run_73 : decode cX6_run 73 = .ok (.bipush 16, 2) := by decide +kernel
theorem dX6_run_75 : decode cX6_run 75 = .ok (.ishr, 1) := by decide +kernel
theorem dX6_run_76 : decode cX6_run 76 = .ok (.iconst 1, 1) := by decide +kernel
theorem dX6_run_77 : decode cX6_run 77 = .ok (.iand, 1) := by decide +kernel
theorem dX6_run_78 : decode cX6_run 78 = .ok (.istore 5, 2) := by decide +kernel
theorem dX6_run_80 : decode cX6_run 80 = .ok (.aload_n 0, 1) := by decide +kernel
theorem dX6_run_81 : decode cX6_run 81 = .ok (.dup, 1) := by decide +kernel
theorem dX6_run_82 : decode cX6_run 82 = .ok (.getfield 135, 3) := by decide +kernel
theorem dX6_run_85 : decode cX6_run 85 = .ok (.iconst 1, 1) := by decide +kernel
theorem dX6_run_86 : decode cX6_run 86 = .ok (.iadd, 1) := by decide +kernel
theorem dX6_run_87 : decode cX6_run 87 = .ok (.putfield 135, 3) := by decide +kernel
theorem dX6_run_90 : decode cX6_run 90 = .ok (.aload_n 0, 1) := by decide +kernel
theorem dX6_run_91 : decode cX6_run 91 = .ok (.getfield 48, 3) := by decide +kernel
theorem dX6_run_94 : decode cX6_run 94 = .ok (.aload_n 0, 1) := by decide +kernel
theorem dX6_run_95 : decode cX6_run 95 = .ok (.getfield 132, 3) := by decide +kernel
theorem dX6_run_98 : decode cX6_run 98 = .ok (.iload 4, 2) := by decide +kernel
theorem dX6_run_100 : decode cX6_run 100 = .ok (.invokestatic 82, 3) := by decide +kernel
theorem dX6_run_103 : decode cX6_run 103 = .ok (.iastore, 1) := by decide +kernel
theorem dX6_run_104 : decode cX6_run 104 = .ok (.aload_n 0, 1) := by decide +kernel
theorem dX6_run_105 : decode cX6_run 105 = .ok (.dup, 1) := by decide +kernel
theorem dX6_run_106 : decode cX6_run 106 = .ok (.getfield 132, 3) := by decide +kernel
theorem dX6_run_109 : decode cX6_run 109 = .ok (.iconst 1, 1) := by decide +kernel
theorem dX6_run_110 : decode cX6_run 110 = .ok (.iadd, 1) := by decide +kernel
theorem dX6_run_111 : decode cX6_run 111 = .ok (.putfield 132, 3) := by decide +kernel
theorem dX6_run_114 : decode cX6_run 114 = .ok (.aload_n 0, 1) := by decide +kernel
theorem dX6_run_115 : decode cX6_run 115 = .ok (.iload 4, 2) := by decide +kernel
theorem dX6_run_117 : decode cX6_run 117 = .ok (.iload 5, 2) := by decide +kernel
theorem dX6_run_119 : decode cX6_run 119 = .ok (.invokevirtual 117, 3) := by decide +kernel
theorem dX6_run_122 : decode cX6_run 122 = .ok (.istore 4, 2) := by decide +kernel
theorem dX6_run_124 : decode cX6_run 124 = .ok (.goto (-91), 3) := by decide +kernel
theorem dX6_run_127 : decode cX6_run 127 = .ok (.aload_n 0, 1) := by decide +kernel
theorem dX6_run_128 : decode cX6_run 128 = .ok (.iload 4, 2) := by decide +kernel
theorem dX6_run_130 : decode cX6_run 130 = .ok (.putfield 139, 3) := by decide +kernel
theorem dX6_run_133 : decode cX6_run 133 = .ok (.aload_n 0, 1) := by decide +kernel
theorem dX6_run_134 : decode cX6_run 134 = .ok (.aload_n 0, 1) := by decide +kernel
theorem dX6_run_135 : decode cX6_run 135 = .ok (.getfield 51, 3) := by decide +kernel
theorem dX6_run_138 : decode cX6_run 138 = .ok (.putfield 142, 3) := by decide +kernel
theorem dX6_run_141 : decode cX6_run 141 = .ok (.aload_n 0, 1) := by decide +kernel
theorem dX6_run_142 : decode cX6_run 142 = .ok (.iconst 1, 1) := by decide +kernel
theorem dX6_run_143 : decode cX6_run 143 = .ok (.putfield 145, 3) := by decide +kernel
theorem dX6_run_146 : decode cX6_run 146 = .ok (.aload_n 0, 1) := by decide +kernel
theorem dX6_run_147 : decode cX6_run 147 = .ok (.getfield 132, 3) := by decide +kernel
theorem dX6_run_150 : decode cX6_run 150 = .ok (.ireturn, 1) := by decide +kernel
theorem dX6_ran_0 : decode cX6_ran 0 = .ok (.aload_n 0, 1) := by decide +kernel
theorem dX6_ran_1 : decode cX6_ran 1 = .ok (.getfield 145, 3) := by decide +kernel
theorem dX6_ran_4 : decode cX6_ran 4 = .ok (.ifCond .eq 26, 3) := by decide +kernel
theorem dX6_ran_7 : decode cX6_ran 7 = .ok (.iload_n 1, 1) := by decide +kernel
theorem dX6_ran_8 : decode cX6_ran 8 = .ok (.iconst 0, 1) := by decide +kernel
theorem dX6_ran_9 : decode cX6_ran 9 = .ok (.aload_n 0, 1) := by decide +kernel
theorem dX6_ran_10 : decode cX6_ran 10 = .ok (.getfield 132, 3) := by decide +kernel
theorem dX6_ran_13 : decode cX6_ran 13 = .ok (.iconst 1, 1) := by decide +kernel
theorem dX6_ran_14 : decode cX6_ran 14 = .ok (.isub, 1) := by decide +kernel
theorem dX6_ran_15 : decode cX6_ran 15 = .ok (.invokestatic 55, 3) := by decide +kernel
theorem dX6_ran_18 : decode cX6_ran 18 = .ok (.ifCond .eq 12, 3) := by decide +kernel
theorem dX6_ran_21 : decode cX6_ran 21 = .ok (.aload_n 0, 1) := by decide +kernel
theorem dX6_ran_22 : decode cX6_ran 22 = .ok (.getfield 48, 3) := by decide +kernel
theorem dX6_ran_25 : decode cX6_ran 25 = .ok (.iload_n 1, 1) := by decide +kernel
theorem dX6_ran_26 : decode cX6_ran 26 = .ok (.iaload, 1) := by decide +kernel
theorem dX6_ran_27 : decode cX6_ran 27 = .ok (.goto 4, 3) := by decide +kernel
theorem dX6_ran_30 : decode cX6_ran 30 = .ok (.iconst (-1), 1) := by decide +kernel
theorem dX6_ran_31 : decode cX6_ran 31 = .ok (.ireturn, 1) := by decide +kernel
theorem dX6_came_0 : decode cX6_came 0 = .ok (.iload_n 1, 1) := by decide +kernel
theorem dX6_came_1 : decode cX6_came 1 = .ok (.iconst 0, 1) := by decide +kernel
theorem dX6_came_2 : decode cX6_came 2 = .ok (.bipush 6, 2) := by decide +kernel
theorem dX6_came_4 : decode cX6_came 4 = .ok (.invokestatic 55, 3) := by decide +kernel
theorem dX6_came_7 : decode cX6_came 7 = .ok (.ifCond .ne 6, 3) := by decide +kernel
theorem dX6_came_10 : decode cX6_came 10 = .ok (.bipush (-102), 2) := by decide +kernel
theorem dX6_came_12 : decode cX6_came 12 = .ok (.ireturn, 1) := by decide +kernel
theorem dX6_came_13 : decode cX6_came 13 = .ok (.aload_n 0, 1) := by decide +kernel
theorem dX6_came_14 : decode cX6_came 14 = .ok (.getfield 145, 3) := by decide +kernel
theorem dX6_came_17 : decode cX6_came 17 = .ok (.ifCond .eq 13, 3) := by decide +kernel
theorem dX6_came_20 : decode cX6_came 20 = .ok (.iload_n 1, 1) := by decide +kernel
theorem dX6_came_21 : decode cX6_came 21 = .ok (.iconst 1, 1) := by decide +kernel
theorem dX6_came_22 : decode cX6_came 22 = .ok (.aload_n 0, 1) := by decide +kernel
theorem dX6_came_23 : decode cX6_came 23 = .ok (.getfield 142, 3) := by decide +kernel
theorem dX6_came_26 : decode cX6_came 26 = .ok (.iadd, 1) := by decide +kernel
theorem dX6_came_27 : decode cX6_came 27 = .ok (.if_icmp .le 6, 3) := by decide +kernel
theorem dX6_came_30 : decode cX6_came 30 = .ok (.bipush (-103), 2) := by decide +kernel
theorem dX6_came_32 : decode cX6_came 32 = .ok (.ireturn, 1) := by decide +kernel
theorem dX6_came_33 : decode cX6_came 33 = .ok (.iload_n 1, 1) := by decide +kernel
theorem dX6_came_34 : decode cX6_came 34 = .ok (.ifCond .ne 13, 3) := by decide +kernel
theorem dX6_came_37 : decode cX6_came 37 = .ok (.aload_n 0, 1) := by decide +kernel
theorem dX6_came_38 : decode cX6_came 38 = .ok (.getfield 139, 3) := by decide +kernel
theorem dX6_came_41 : decode cX6_came 41 = .ok (.invokestatic 82, 3) := by decide +kernel
theorem dX6_came_44 : decode cX6_came 44 = .ok (.goto 25, 3) := by decide +kernel
theorem dX6_came_47 : decode cX6_came 47 = .ok (.iload_n 1, 1) := by decide +kernel
theorem dX6_came_48 : decode cX6_came 48 = .ok (.iconst 1, 1) := by decide +kernel
theorem dX6_came_49 : decode cX6_came 49 = .ok (.if_icmp .ne 10, 3) := by decide +kernel
theorem dX6_came_52 : decode cX6_came 52 = .ok (.aload_n 0, 1) := by decide +kernel
theorem dX6_came_53 : decode cX6_came 53 = .ok (.getfield 135, 3) := by decide +kernel
theorem dX6_came_56 : decode cX6_came 56 = .ok (.goto 13, 3) := by decide +kernel
theorem dX6_came_59 : decode cX6_came 59 = .ok (.aload_n 0, 1) := by decide +kernel
theorem dX6_came_60 : decode cX6_came 60 = .ok (.getfield 139, 3) := by decide +kernel
theorem dX6_came_63 : decode cX6_came 63 = .ok (.iload_n 1, 1) := by decide +kernel
theorem dX6_came_64 : decode cX6_came 64 = .ok (.iconst 2, 1) := by decide +kernel
theorem dX6_came_65 : decode cX6_came 65 = .ok (.isub, 1) := by decide +kernel
theorem dX6_came_66 : decode cX6_came 66 = .ok (.invokestatic 78, 3) := by decide +kernel
theorem dX6_came_69 : decode cX6_came 69 = .ok (.ireturn, 1) := by decide +kernel
theorem dX6_told_0 : decode cX6_told 0 = .ok (.iload_n 1, 1) := by decide +kernel
theorem dX6_told_1 : decode cX6_told 1 = .ok (.iconst 0, 1) := by decide +kernel
theorem dX6_told_2 : decode cX6_told 2 = .ok (.aload_n 0, 1) := by decide +kernel
theorem dX6_told_3 : decode cX6_told 3 = .ok (.getfield 71, 3) := by decide +kernel
theorem dX6_told_6 : decode cX6_told 6 = .ok (.iconst 1, 1) := by decide +kernel
theorem dX6_told_7 : decode cX6_told 7 = .ok (.isub, 1) := by decide +kernel
theorem dX6_told_8 : decode cX6_told 8 = .ok (.invokestatic 55, 3) := by decide +kernel
theorem dX6_told_11 : decode cX6_told 11 = .ok (.ifCond .ne 6, 3) := by decide +kernel
theorem dX6_told_14 : decode cX6_told 14 = .ok (.bipush (-102), 2) := by decide +kernel
theorem dX6_told_16 : decode cX6_told 16 = .ok (.ireturn, 1) := by decide +kernel
theorem dX6_told_17 : decode cX6_told 17 = .ok (.iload_n 2, 1) := by decide +kernel
theorem dX6_told_18 : decode cX6_told 18 = .ok (.tableswitch 69 0 4 #[34, 41, 48, 55, 62], 34) := by decide +kernel
theorem dX6_told_52 : decode cX6_told 52 = .ok (.aload_n 0, 1) := by decide +kernel
theorem dX6_told_53 : decode cX6_told 53 = .ok (.getfield 20, 3) := by decide +kernel
theorem dX6_told_56 : decode cX6_told 56 = .ok (.iload_n 1, 1) := by decide +kernel
theorem dX6_told_57 : decode cX6_told 57 = .ok (.iaload, 1) := by decide +kernel
theorem dX6_told_58 : decode cX6_told 58 = .ok (.ireturn, 1) := by decide +kernel
theorem dX6_told_59 : decode cX6_told 59 = .ok (.aload_n 0, 1) := by decide +kernel
theorem dX6_told_60 : decode cX6_told 60 = .ok (.getfield 23, 3) := by decide +kernel
theorem dX6_told_63 : decode cX6_told 63 = .ok (.iload_n 1, 1) := by decide +kernel
theorem dX6_told_64 : decode cX6_told 64 = .ok (.iaload, 1) := by decide +kernel
theorem dX6_told_65 : decode cX6_told 65 = .ok (.ireturn, 1) := by decide +kernel
theorem dX6_told_66 : decode cX6_told 66 = .ok (.aload_n 0, 1) := by decide +kernel
theorem dX6_told_67 : decode cX6_told 67 = .ok (.getfield 26, 3) := by decide +kernel
theorem dX6_told_70 : decode cX6_told 70 = .ok (.iload_n 1, 1) := by decide +kernel
theorem dX6_told_71 : decode cX6_told 71 = .ok (.iaload, 1) := by decide +kernel
theorem dX6_told_72 : decode cX6_told 72 = .ok (.ireturn, 1) := by decide +kernel
theorem dX6_told_73 : decode cX6_told 73 = .ok (.aload_n 0, 1) := by decide +kernel
theorem dX6_told_74 : decode cX6_told 74 = .ok (.getfield 32, 3) := by decide +kernel
theorem dX6_told_77 : decode cX6_told 77 = .ok (.iload_n 1, 1) := by decide +kernel
theorem dX6_told_78 : decode cX6_told 78 = .ok (.iaload, 1) := by decide +kernel
theorem dX6_told_79 : decode cX6_told 79 = .ok (.ireturn, 1) := by decide +kernel
theorem dX6_told_80 : decode cX6_told 80 = .ok (.aload_n 0, 1) := by decide +kernel
theorem dX6_told_81 : decode cX6_told 81 = .ok (.getfield 29, 3) := by decide +kernel
theorem dX6_told_84 : decode cX6_told 84 = .ok (.iload_n 1, 1) := by decide +kernel
theorem dX6_told_85 : decode cX6_told 85 = .ok (.iaload, 1) := by decide +kernel
theorem dX6_told_86 : decode cX6_told 86 = .ok (.ireturn, 1) := by decide +kernel
theorem dX6_told_87 : decode cX6_told 87 = .ok (.bipush (-102), 2) := by decide +kernel
theorem dX6_told_89 : decode cX6_told 89 = .ok (.ireturn, 1) := by decide +kernel
theorem dX6_count_0 : decode cX6_count 0 = .ok (.iload_n 1, 1) := by decide +kernel
theorem dX6_count_1 : decode cX6_count 1 = .ok (.tableswitch 50 0 2 #[27, 32, 37], 27) := by decide +kernel
theorem dX6_count_28 : decode cX6_count 28 = .ok (.aload_n 0, 1) := by decide +kernel
theorem dX6_count_29 : decode cX6_count 29 = .ok (.getfield 51, 3) := by decide +kernel
theorem dX6_count_32 : decode cX6_count 32 = .ok (.ireturn, 1) := by decide +kernel
theorem dX6_count_33 : decode cX6_count 33 = .ok (.aload_n 0, 1) := by decide +kernel
theorem dX6_count_34 : decode cX6_count 34 = .ok (.getfield 71, 3) := by decide +kernel
theorem dX6_count_37 : decode cX6_count 37 = .ok (.ireturn, 1) := by decide +kernel
theorem dX6_count_38 : decode cX6_count 38 = .ok (.aload_n 0, 1) := by decide +kernel
theorem dX6_count_39 : decode cX6_count 39 = .ok (.getfield 63, 3) := by decide +kernel
theorem dX6_count_42 : decode cX6_count 42 = .ok (.ifCond .eq 7, 3) := by decide +kernel
theorem dX6_count_45 : decode cX6_count 45 = .ok (.iconst 1, 1) := by decide +kernel
theorem dX6_count_46 : decode cX6_count 46 = .ok (.goto 4, 3) := by decide +kernel
theorem dX6_count_49 : decode cX6_count 49 = .ok (.iconst 0, 1) := by decide +kernel
theorem dX6_count_50 : decode cX6_count 50 = .ok (.ireturn, 1) := by decide +kernel
theorem dX6_count_51 : decode cX6_count 51 = .ok (.bipush (-102), 2) := by decide +kernel
theorem dX6_count_53 : decode cX6_count 53 = .ok (.ireturn, 1) := by decide +kernel
theorem dX6_clear_0 : decode cX6_clear 0 = .ok (.aload_n 0, 1) := by decide +kernel
theorem dX6_clear_1 : decode cX6_clear 1 = .ok (.getfield 71, 3) := by decide +kernel
theorem dX6_clear_4 : decode cX6_clear 4 = .ok (.istore_n 1, 1) := by decide +kernel
theorem dX6_clear_5 : decode cX6_clear 5 = .ok (.aload_n 0, 1) := by decide +kernel
theorem dX6_clear_6 : decode cX6_clear 6 = .ok (.iconst 0, 1) := by decide +kernel
theorem dX6_clear_7 : decode cX6_clear 7 = .ok (.putfield 51, 3) := by decide +kernel
theorem dX6_clear_10 : decode cX6_clear 10 = .ok (.aload_n 0, 1) := by decide +kernel
theorem dX6_clear_11 : decode cX6_clear 11 = .ok (.iconst 0, 1) := by decide +kernel
theorem dX6_clear_12 : decode cX6_clear 12 = .ok (.putfield 71, 3) := by decide +kernel
theorem dX6_clear_15 : decode cX6_clear 15 = .ok (.aload_n 0, 1) := by decide +kernel
theorem dX6_clear_16 : decode cX6_clear 16 = .ok (.iconst 0, 1) := by decide +kernel
theorem dX6_clear_17 : decode cX6_clear 17 = .ok (.putfield 63, 3) := by decide +kernel
theorem dX6_clear_20 : decode cX6_clear 20 = .ok (.aload_n 0, 1) := by decide +kernel
theorem dX6_clear_21 : decode cX6_clear 21 = .ok (.iconst 0, 1) := by decide +kernel
theorem dX6_clear_22 : decode cX6_clear 22 = .ok (.putfield 145, 3) := by decide +kernel
theorem dX6_clear_25 : decode cX6_clear 25 = .ok (.iload_n 1, 1) := by decide +kernel
theorem dX6_clear_26 : decode cX6_clear 26 = .ok (.ireturn, 1) := by decide +kernel
