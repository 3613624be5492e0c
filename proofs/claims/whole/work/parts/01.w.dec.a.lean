theorem dX0_init_0 : decode cX0_init 0 = .ok (.aload_n 0, 1) := by decide +kernel
theorem dX0_init_1 : decode cX0_init 1 = .ok (.invokespecial 3, 3) := by decide +kernel
theorem dX0_init_4 : decode cX0_init 4 = .ok (.aload_n 0, 1) := by decide +kernel
theorem dX0_init_5 : decode cX0_init 5 = .ok (.iconst 5, 1) := by decide +kernel
theorem dX0_init_6 : decode cX0_init 6 = .ok (.anewarray 9, 3) := by decide +kernel
theorem dX0_init_9 : decode cX0_init 9 = .ok (.putfield 11, 3) := by decide +kernel
theorem dX0_init_12 : decode cX0_init 12 = .ok (.aload_n 0, 1) := by decide +kernel
theorem dX0_init_13 : decode cX0_init 13 = .ok (.sipush 1000, 3) := by decide +kernel
theorem dX0_init_16 : decode cX0_init 16 = .ok (.putfield 17, 3) := by decide +kernel
theorem dX0_init_19 : decode cX0_init 19 = .ok (.aload_n 0, 1) := by decide +kernel
theorem dX0_init_20 : decode cX0_init 20 = .ok (.iconst 1, 1) := by decide +kernel
theorem dX0_init_21 : decode cX0_init 21 = .ok (.putfield 21, 3) := by decide +kernel
theorem dX0_init_24 : decode cX0_init 24 = .ok (.iconst 0, 1) := by decide +kernel
theorem dX0_init_25 : decode cX0_init 25 = .ok (.istore_n 1, 1) := by decide +kernel
theorem dX0_init_26 : decode cX0_init 26 = .ok (.iload_n 1, 1) := by decide +kernel
theorem dX0_init_27 : decode cX0_init 27 = .ok (.aload_n 0, 1) := by decide +kernel
theorem dX0_init_28 : decode cX0_init 28 = .ok (.getfield 11, 3) := by decide +kernel
theorem dX0_init_31 : decode cX0_init 31 = .ok (.arraylength, 1) := by decide +kernel
theorem dX0_init_32 : decode cX0_init 32 = .ok (.if_icmp .ge 22, 3) := by decide +kernel
theorem dX0_init_35 : decode cX0_init 35 = .ok (.aload_n 0, 1) := by decide +kernel
theorem dX0_init_36 : decode cX0_init 36 = .ok (.getfield 11, 3) := by decide +kernel
theorem dX0_init_39 : decode cX0_init 39 = .ok (.iload_n 1, 1) := by decide +kernel
theorem dX0_init_40 : decode cX0_init 40 = .ok (.new 9, 3) := by decide +kernel
theorem dX0_init_43 : decode cX0_init 43 = .ok (.dup, 1) := by decide +kernel
theorem dX0_init_44 : decode cX0_init 44 = .ok (.invokespecial 24, 3) := by decide +kernel
theorem dX0_init_47 : decode cX0_init 47 = .ok (.aastore, 1) := by decide +kernel
theorem dX0_init_48 : decode cX0_init 48 = .ok (.iinc 1 1, 3) := by decide +kernel
theorem dX0_init_51 : decode cX0_init 51 = .ok (.goto (-25), 3) := by decide +kernel
theorem dX0_init_54 : decode cX0_init 54 = .ok (.return_, 1) := by decide +kernel
theorem dX0_restart_0 : decode cX0_restart 0 = .ok (.iconst 0, 1) := by decide +kernel
theorem dX0_restart_1 : decode cX0_restart 1 = .ok (.istore_n 1, 1) := by decide +kernel
theorem dX0_restart_2 : decode cX0_restart 2 = .ok (.iload_n 1, 1) := by decide +kernel
theorem dX0_restart_3 : decode cX0_restart 3 = .ok (.aload_n 0, 1) := by decide +kernel
theorem dX0_restart_4 : decode cX0_restart 4 = .ok (.getfield 11, 3) := by decide +kernel
theorem dX0_restart_7 : decode cX0_restart 7 = .ok (.arraylength, 1) := by decide +kernel
theorem dX0_restart_8 : decode cX0_restart 8 = .ok (.if_icmp .ge 18, 3) := by decide +kernel
theorem dX0_restart_11 : decode cX0_restart 11 = .ok (.aload_n 0, 1) := by decide +kernel
theorem dX0_restart_12 : decode cX0_restart 12 = .ok (.getfield 11, 3) := by decide +kernel
theorem dX0_restart_15 : decode cX0_restart 15 = .ok (.iload_n 1, 1) := by decide +kernel
theorem dX0_restart_16 : decode cX0_restart 16 = .ok (.aaload, 1) := by decide +kernel
theorem dX0_restart_17 : decode cX0_restart 17 = .ok (.invokevirtual 25, 3) := by decide +kernel
theorem dX0_restart_20 : decode cX0_restart 20 = .ok (.iinc 1 1, 3) := by decide +kernel
theorem dX0_restart_23 : decode cX0_restart 23 = .ok (.goto (-21), 3) := by decide +kernel
theorem dX0_restart_26 : decode cX0_restart 26 = .ok (.aload_n 0, 1) := by decide +kernel
theorem dX0_restart_27 : decode cX0_restart 27 = .ok (.lconst 0, 1) := by decide +kernel
theorem dX0_restart_28 : decode cX0_restart 28 = .ok (.putfield 28, 3) := by decide +kernel
theorem dX0_restart_31 : decode cX0_restart 31 = .ok (.aload_n 0, 1) := by decide +kernel
theorem dX0_restart_32 : decode cX0_restart 32 = .ok (.iconst 0, 1) := by decide +kernel
theorem dX0_restart_33 : decode cX0_restart 33 = .ok (.putfield 32, 3) := by decide +kernel
theorem dX0_restart_36 : decode cX0_restart 36 = .ok (.aload_n 0, 1) := by decide +kernel
theorem dX0_restart_37 : decode cX0_restart 37 = .ok (.iconst 0, 1) := by decide +kernel
theorem dX0_restart_38 : decode cX0_restart 38 = .ok (.putfield 36, 3) := by decide +kernel
theorem dX0_restart_41 : decode cX0_restart 41 = .ok (.aload_n 0, 1) := by decide +kernel
theorem dX0_restart_42 : decode cX0_restart 42 = .ok (.lconst 0, 1) := by decide +kernel
theorem dX0_restart_43 : decode cX0_restart 43 = .ok (.putfield 39, 3) := by decide +kernel
theorem dX0_restart_46 : decode cX0_restart 46 = .ok (.aload_n 0, 1) := by decide +kernel
theorem dX0_restart_47 : decode cX0_restart 47 = .ok (.lconst 0, 1) := by decide +kernel
theorem dX0_restart_48 : decode cX0_restart 48 = .ok (.putfield 42, 3) := by decide +kernel
theorem dX0_restart_51 : decode cX0_restart 51 = .ok (.aload_n 0, 1) := by decide +kernel
theorem dX0_restart_52 : decode cX0_restart 52 = .ok (.lconst 0, 1) := by decide +kernel
theorem dX0_restart_53 : decode cX0_restart 53 = .ok (.putfield 45, 3) := by decide +kernel
theorem dX0_restart_56 : decode cX0_restart 56 = .ok (.return_, 1) := by decide +kernel
theorem dX0_copy_0 : decode cX0_copy 0 = .ok (.iconst 0, 1) := by decide +kernel
theorem dX0_copy_1 : decode cX0_copy 1 = .ok (.istore_n 2, 1) := by decide +kernel
theorem dX0_copy_2 : decode cX0_copy 2 = .ok (.iload_n 2, 1) := by decide +kernel
theorem dX0_copy_3 : decode cX0_copy 3 = .ok (.aload_n 0, 1) := by decide +kernel
theorem dX0_copy_4 : decode cX0_copy 4 = .ok (.getfield 11, 3) := by decide +kernel
theorem dX0_copy_7 : decode cX0_copy 7 = .ok (.arraylength, 1) := by decide +kernel
theorem dX0_copy_8 : decode cX0_copy 8 = .ok (.if_icmp .ge 24, 3) := by decide +kernel
theorem dX0_copy_11 : decode cX0_copy 11 = .ok (.aload_n 0, 1) := by decide +kernel
theorem dX0_copy_12 : decode cX0_copy 12 = .ok (.getfield 11, 3) := by decide +kernel
theorem dX0_copy_15 : decode cX0_copy 15 = .ok (.iload_n 2, 1) := by decide +kernel
theorem dX0_copy_16 : decode cX0_copy 16 = .ok (.aaload, 1) := by decide +kernel
theorem dX0_copy_17 : decode cX0_copy 17 = .ok (.aload_n 1, 1) := by decide +kernel
theorem dX0_copy_18 : decode cX0_copy 18 = .ok (.getfield 11, 3) := by decide +kernel
theorem dX0_copy_21 : decode cX0_copy 21 = .ok (.iload_n 2, 1) := by decide +kernel
theorem dX0_copy_22 : decode cX0_copy 22 = .ok (.aaload, 1) := by decide +kernel
theorem dX0_copy_23 : decode cX0_copy 23 = .ok (.invokevirtual 48, 3) := by decide +kernel
theorem dX0_copy_26 : decode cX0_copy 26 = .ok (.iinc 2 1, 3) := by decide +kernel
theorem dX0_copy_29 : decode cX0_copy 29 = .ok (.goto (-27), 3) := by decide +kernel
theorem dX0_copy_32 : decode cX0_copy 32 = .ok (.aload_n 0, 1) := by decide +kernel
theorem dX0_copy_33 : decode cX0_copy 33 = .ok (.aload_n 1, 1) := by decide +kernel
theorem dX0_copy_34 : decode cX0_copy 34 = .ok (.getfield 52, 3) := by decide +kernel
theorem dX0_copy_37 : decode cX0_copy 37 = .ok (.putfield 52, 3) := by decide +kernel
theorem dX0_copy_40 : decode cX0_copy 40 = .ok (.aload_n 0, 1) := by decide +kernel
theorem dX0_copy_41 : decode cX0_copy 41 = .ok (.aload_n 1, 1) := by decide +kernel
theorem dX0_copy_42 : decode cX0_copy 42 = .ok (.getfield 17, 3) := by decide +kernel
theorem dX0_copy_45 : decode cX0_copy 45 = .ok (.putfield 17, 3) := by decide +kernel
theorem dX0_copy_48 : decode cX0_copy 48 = .ok (.aload_n 0, 1) := by decide +kernel
theorem dX0_copy_49 : decode cX0_copy 49 = .ok (.aload_n 1, 1) := by decide +kernel
theorem dX0_copy_50 : decode cX0_copy 50 = .ok (.getfield 21, 3) := by decide +kernel
theorem dX0_copy_53 : decode cX0_copy 53 = .ok (.putfield 21, 3) := by decide +kernel
theorem dX0_copy_56 : decode cX0_copy 56 = .ok (.aload_n 0, 1) := by decide +kernel
theorem dX0_copy_57 : decode cX0_copy 57 = .ok (.aload_n 1, 1) := by decide +kernel
theorem dX0_copy_58 : decode cX0_copy 58 = .ok (.getfield 28, 3) := by decide +kernel
theorem dX0_copy_61 : decode cX0_copy 61 = .ok (.putfield 28, 3) := by decide +kernel
theorem dX0_copy_64 : decode cX0_copy 64 = .ok (.aload_n 0, 1) := by decide +kernel
theorem dX0_copy_65 : decode cX0_copy 65 = .ok (.aload_n 1, 1) := by decide +kernel
theorem dX0_copy_66 : decode cX0_copy 66 = .ok (.getfield 32, 3) := by decide +kernel
theorem dX0_copy_69 : decode cX0_copy 69 = .ok (.putfield 32, 3) := by decide +kernel
theorem dX0_copy_72 : decode cX0_copy 72 = .ok (.aload_n 0, 1) := by decide +kernel
theorem dX0_copy_73 : decode cX0_copy 73 = .ok (.aload_n 1, 1) := by decide +kernel
theorem dX0_copy_74 : decode cX0_copy 74 = .ok (.getfield 36, 3) := by decide +kernel
theorem dX0_copy_77 : decode cX0_copy 77 = .ok (.putfield 36, 3) := by decide +kernel
theorem dX0_copy_80 : decode cX0_copy 80 = .ok (.aload_n 0, 1) := by decide +kernel
theorem dX0_copy_81 : decode cX0_copy 81 = .ok (.aload_n 1, 1) := by decide +kernel
theorem dX0_copy_82 : decode cX0_copy 82 = .ok (.getfield 39, 3) := by decide +kernel
theorem dX0_copy_85 : decode cX0_copy 85 = .ok (.putfield 39, 3) := by decide +kernel
theorem dX0_copy_88 : decode cX0_copy 88 = .ok (.aload_n 0, 1) := by decide +kernel
theorem dX0_copy_89 : decode cX0_copy 89 = .ok (.aload_n 1, 1) := by decide +kernel
theorem dX0_copy_90 : decode cX0_copy 90 = .ok (.getfield 42, 3) := by decide +kernel
theorem dX0_copy_93 : decode cX0_copy 93 = .ok (.putfield 42, 3) := by decide +kernel
theorem dX0_copy_96 : decode cX0_copy 96 = .ok (.aload_n 0, 1) := by decide +kernel
theorem dX0_copy_97 : decode cX0_copy 97 = .ok (.aload_n 1, 1) := by decide +kernel
theorem dX0_copy_98 : decode cX0_copy 98 = .ok (.getfield 45, 3) := by decide +kernel
theorem dX0_copy_101 : decode cX0_copy 101 = .ok (.putfield 45, 3) := by decide +kernel
theorem dX0_copy_104 : decode cX0_copy 104 = .ok (.return_, 1) := by decide +kernel
theorem dX0_pour_0 : decode cX0_pour 0 = .ok (.iload_n 1, 1) := by decide +kernel
theorem dX0_pour_1 : decode cX0_pour 1 = .ok (.iconst 1, 1) := by decide +kernel
theorem dX0_pour_2 : decode cX0_pour 2 = .ok (.if_icmp .ne 11, 3) := by decide +kernel
theorem dX0_pour_5 : decode cX0_pour 5 = .ok (.aload_n 0, 1) := by decide +kernel
theorem dX0_pour_6 : decode cX0_pour 6 = .ok (.aload_n 2, 1) := by decide +kernel
theorem dX0_pour_7 : decode cX0_pour 7 = .ok (.getfield 55, 3) := by decide +kernel
theorem dX0_pour_10 : decode cX0_pour 10 = .ok (.putfield 42, 3) := by decide +kernel
theorem dX0_pour_13 : decode cX0_pour 13 = .ok (.aload_n 0, 1) := by decide +kernel
theorem dX0_pour_14 : decode cX0_pour 14 = .ok (.dup, 1) := by decide +kernel
theorem dX0_pour_15 : decode cX0_pour 15 = .ok (.getfield 39, 3) := by decide +kernel
theorem dX0_pour_18 : decode cX0_pour 18 = .ok (.aload_n 2, 1) := by decide +kernel
theorem dX0_pour_19 : decode cX0_pour 19 = .ok (.getfield 60, 3) := by decide +kernel
theorem dX0_pour_22 : decode cX0_pour 22 = .ok (.ladd, 1) := by decide +kernel
theorem dX0_pour_23 : decode cX0_pour 23 = .ok (.putfield 39, 3) := by decide +kernel
theorem dX0_pour_26 : decode cX0_pour 26 = .ok (.aload_n 0, 1) := by decide +kernel
theorem dX0_pour_27 : decode cX0_pour 27 = .ok (.aload_n 2, 1) := by decide +kernel
theorem dX0_pour_28 : decode cX0_pour 28 = .ok (.getfield 60, 3) := by decide +kernel
theorem dX0_pour_31 : decode cX0_pour 31 = .ok (.invokevirtual 63, 3) := by decide +kernel
theorem dX0_pour_34 : decode cX0_pour 34 = .ok (.aload_n 2, 1) := by decide +kernel
theorem dX0_pour_35 : decode cX0_pour 35 = .ok (.aload_n 0, 1) := by decide +kernel
theorem dX0_pour_36 : decode cX0_pour 36 = .ok (.getfield 32, 3) := by decide +kernel
theorem dX0_pour_39 : decode cX0_pour 39 = .ok (.putfield 67, 3) := by decide +kernel
theorem dX0_pour_42 : decode cX0_pour 42 = .ok (.iconst 0, 1) := by decide +kernel
theorem dX0_pour_43 : decode cX0_pour 43 = .ok (.istore 4, 2) := by decide +kernel
theorem dX0_pour_45 : decode cX0_pour 45 = .ok (.iload 4, 2) := by decide +kernel
theorem dX0_pour_47 : decode cX0_pour 47 = .ok (.aload_n 0, 1) := by decide +kernel
theorem dX0_pour_48 : decode cX0_pour 48 = .ok (.getfield 52, 3) := by decide +kernel
theorem dX0_pour_51 : decode cX0_pour 51 = .ok (.if_icmp .ge 19, 3) := by decide +kernel
theorem dX0_pour_54 : decode cX0_pour 54 = .ok (.aload_n 0, 1) := by decide +kernel
theorem dX0_pour_55 : decode cX0_pour 55 = .ok (.getfield 11, 3) := by decide +kernel
theorem dX0_pour_58 : decode cX0_pour 58 = .ok (.iload 4, 2) := by decide +kernel
theorem dX0_pour_60 : decode cX0_pour 60 = .ok (.aaload, 1) := by decide +kernel
theorem dX0_pour_61 : decode cX0_pour 61 = .ok (.invokevirtual 68, 3) := by decide +kernel
theorem dX0_pour_64 : decode cX0_pour 64 = .ok (.iinc 4 1, 3) := by decide +kernel
theorem dX0_pour_67 : decode cX0_pour 67 = .ok (.goto (-22), 3) := by decide +kernel
theorem dX0_pour_70 : decode cX0_pour 70 = .ok (.aload_n 2, 1) := by decide +kernel
theorem dX0_pour_71 : decode cX0_pour 71 = .ok (.aload_n 2, 1) := by decide +kernel
theorem dX0_pour_72 : decode cX0_pour 72 = .ok (.invokevirtual 71, 3) := by decide +kernel
theorem dX0_pour_75 : decode cX0_pour 75 = .ok (.aload_n 0, 1) := by decide +kernel
theorem dX0_pour_76 : decode cX0_pour 76 = .ok (.getfield 28, 3) := by decide +kernel
theorem dX0_pour_79 : decode cX0_pour 79 = .ok (.ladd, 1) := by decide +kernel
theorem dX0_pour_80 : decode cX0_pour 80 = .ok (.putfield 75, 3) := by decide +kernel
theorem dX0_pour_83 : decode cX0_pour 83 = .ok (.aload_n 0, 1) := by decide +kernel
theorem dX0_pour_84 : decode cX0_pour 84 = .ok (.lconst 0, 1) := by decide +kernel
theorem dX0_pour_85 : decode cX0_pour 85 = .ok (.putfield 28, 3) := by decide +kernel
theorem dX0_pour_88 : decode cX0_pour 88 = .ok (.aload_n 0, 1) := by decide +kernel
theorem dX0_pour_89 : decode cX0_pour 89 = .ok (.iload_n 1, 1) := by decide +kernel
theorem dX0_pour_90 : decode cX0_pour 90 = .ok (.aload_n 2, 1) := by decide +kernel
theorem dX0_pour_91 : decode cX0_pour 91 = .ok (.aload_n 3, 1) := by decide +kernel
theorem dX0_pour_92 : decode cX0_pour 92 = .ok (.invokevirtual 78, 3) := by decide +kernel
theorem dX0_pour_95 : decode cX0_pour 95 = .ok (.iconst 0, 1) := by decide +kernel
theorem dX0_pour_96 : decode cX0_pour 96 = .ok (.istore 4, 2) := by decide +kernel
theorem dX0_pour_98 : decode cX0_pour 98 = .ok (.iload 4, 2) := by decide +kernel
theorem dX0_pour_100 : decode cX0_pour 100 = .ok (.aload_n 0, 1) := by decide +kernel
theorem dX0_pour_101 : decode cX0_pour 101 = .ok (.getfield 52, 3) := by decide +kernel
theorem dX0_pour_104 : decode cX0_pour 104 = .ok (.if_icmp .ge 19, 3) := by decide +kernel
theorem dX0_pour_107 : decode cX0_pour 107 = .ok (.aload_n 0, 1) := by decide +kernel
theorem dX0_pour_108 : decode cX0_pour 108 = .ok (.getfield 11, 3) := by decide +kernel
theorem dX0_pour_111 : decode cX0_pour 111 = .ok (.iload 4, 2) := by decide +kernel
theorem dX0_pour_113 : decode cX0_pour 113 = .ok (.aaload, 1) := by decide +kernel
theorem dX0_pour_114 : decode cX0_pour 114 = .ok (.invokevirtual 82, 3) := by decide +kernel
theorem dX0_pour_117 : decode cX0_pour 117 = .ok (.iinc 4 1, 3) := by decide +kernel
theorem dX0_pour_120 : decode cX0_pour 120 = .ok (.goto (-22), 3) := by decide +kernel
theorem dX0_pour_123 : decode cX0_pour 123 = .ok (.aload_n 0, 1) := by decide +kernel
theorem dX0_pour_124 : decode cX0_pour 124 = .ok (.aload_n 2, 1) := by decide +kernel
theorem dX0_pour_125 : decode cX0_pour 125 = .ok (.getfield 85, 3) := by decide +kernel
theorem dX0_pour_128 : decode cX0_pour 128 = .ok (.invokevirtual 88, 3) := by decide +kernel
theorem dX0_pour_131 : decode cX0_pour 131 = .ok (.aload_n 2, 1) := by decide +kernel
theorem dX0_pour_132 : decode cX0_pour 132 = .ok (.aload_n 0, 1) := by decide +kernel
theorem dX0_pour_133 : decode cX0_pour 133 = .ok (.getfield 28, 3) := by decide +kernel
theorem dX0_pour_136 : decode cX0_pour 136 = .ok (.putfield 91, 3) := by decide +kernel
theorem dX0_pour_139 : decode cX0_pour 139 = .ok (.return_, 1) := by decide +kernel
theorem dX0_turnTrip_0 : decode cX0_turnTrip 0 = .ok (.aload_n 0, 1) := by decide +kernel
theorem dX0_turnTrip_1 : decode cX0_turnTrip 1 = .ok (.lload_n 1, 1) := by decide +kernel
theorem dX0_turnTrip_2 : decode cX0_turnTrip 2 = .ok (.lconst 0, 1) := by decide +kernel
theorem dX0_turnTrip_3 : decode cX0_turnTrip 3 = .ok (.lcmp, 1) := by decide +kernel
theorem dX0_turnTrip_4 : decode cX0_turnTrip 4 = .ok (.ifCond .le 7, 3) := by decide +kernel
theorem dX0_turnTrip_7 : decode cX0_turnTrip 7 = .ok (.iconst 0, 1) := by decide +kernel
theorem dX0_turnTrip_8 : decode cX0_turnTrip 8 = .ok (.goto 9, 3) := by decide +kernel
theorem dX0_turnTrip_11 : decode cX0_turnTrip 11 = .ok (.aload_n 0, 1) := by decide +kernel
theorem dX0_turnTrip_12 : decode cX0_turnTrip 12 = .ok (.getfield 36, 3) := by decide +kernel
theorem dX0_turnTrip_15 : decode cX0_turnTrip 15 = .ok (.iconst 1, 1) := by decide +kernel
theorem dX0_turnTrip_16 : decode cX0_turnTrip 16 = .ok (.iadd, 1) := by decide +kernel
theorem dX0_turnTrip_17 : decode cX0_turnTrip 17 = .ok (.putfield 36, 3) := by decide +kernel
theorem dX0_turnTrip_20 : decode cX0_turnTrip 20 = .ok (.aload_n 0, 1) := by decide +kernel
theorem dX0_turnTrip_21 : decode cX0_turnTrip 21 = .ok (.getfield 32, 3) := by decide +kernel
theorem dX0_turnTrip_24 : decode cX0_turnTrip 24 = .ok (.ifCond .eq 26, 3) := by decide +kernel
theorem dX0_turnTrip_27 : decode cX0_turnTrip 27 = .ok (.aload_n 0, 1) := by decide +kernel
theorem dX0_turnTrip_28 : decode cX0_turnTrip 28 = .ok (.aload_n 0, 1) := by decide +kernel
theorem dX0_turnTrip_29 : decode cX0_turnTrip 29 = .ok (.getfield 36, 3) := by decide +kernel
theorem dX0_turnTrip_32 : decode cX0_turnTrip 32 = .ok (.aload_n 0, 1) := by decide +kernel
theorem dX0_turnTrip_33 : decode cX0_turnTrip 33 = .ok (.getfield 21, 3) := by decide +kernel
theorem dX0_turnTrip_36 : decode cX0_turnTrip 36 = .ok (.if_icmp .ge 7, 3) := by decide +kernel
theorem dX0_turnTrip_39 : decode cX0_turnTrip 39 = .ok (.iconst 1, 1) := by decide +kernel
theorem dX0_turnTrip_40 : decode cX0_turnTrip 40 = .ok (.goto 4, 3) := by decide +kernel
theorem dX0_turnTrip_43 : decode cX0_turnTrip 43 = .ok (.iconst 0, 1) := by decide +kernel
theorem dX0_turnTrip_44 : decode cX0_turnTrip 44 = .ok (.putfield 32, 3) := by decide +kernel
theorem dX0_turnTrip_47 : decode cX0_turnTrip 47 = .ok (.goto 31, 3) := by decide +kernel
theorem dX0_turnTrip_50 : decode cX0_turnTrip 50 = .ok (.aload_n 0, 1) := by decide +kernel
theorem dX0_turnTrip_51 : decode cX0_turnTrip 51 = .ok (.lload_n 1, 1) := by decide +kernel
theorem dX0_turnTrip_52 : decode cX0_turnTrip 52 = .ok (.lconst 0, 1) := by decide +kernel
theorem dX0_turnTrip_53 : decode cX0_turnTrip 53 = .ok (.lcmp, 1) := by decide +kernel
theorem dX0_turnTrip_54 : decode cX0_turnTrip 54 = .ok (.ifCond .le 20, 3) := by decide +kernel
theorem dX0_turnTrip_57 : decode cX0_turnTrip 57 = .ok (.aload_n 0, 1) := by decide +kernel
theorem dX0_turnTrip_58 : decode cX0_turnTrip 58 = .ok (.invokevirtual 92, 3) := by decide +kernel
theorem dX0_turnTrip_61 : decode cX0_turnTrip 61 = .ok (.aload_n 0, 1) := by decide +kernel
theorem dX0_turnTrip_62 : decode cX0_turnTrip 62 = .ok (.getfield 17, 3) := by decide +kernel
theorem dX0_turnTrip_65 : decode cX0_turnTrip 65 = .ok (.i2l, 1) := by decide +kernel
theorem dX0_turnTrip_66 : decode cX0_turnTrip 66 = .ok (.lcmp, 1) := by decide +kernel
theorem dX0_turnTrip_67 : decode cX0_turnTrip 67 = .ok (.ifCond .le 7, 3) := by decide +kernel
theorem dX0_turnTrip_70 : decode cX0_turnTrip 70 = .ok (.iconst 1, 1) := by decide +kernel
theorem dX0_turnTrip_71 : decode cX0_turnTrip 71 = .ok (.goto 4, 3) := by decide +kernel
theorem dX0_turnTrip_74 : decode cX0_turnTrip 74 = .ok (.iconst 0, 1) := by decide +kernel
theorem dX0_turnTrip_75 : decode cX0_turnTrip 75 = .ok (.putfield 32, 3) := by decide +kernel
theorem dX0_turnTrip_78 : decode cX0_turnTrip 78 = .ok (.return_, 1) := by decide +kernel
theorem dX0_lostShare_0 : decode cX0_lostShare 0 = .ok (.aload_n 0, 1) := by decide +kernel
theorem dX0_lostShare_1 : decode cX0_lostShare 1 = .ok (.getfield 42, 3) := by decide +kernel
theorem dX0_lostShare_4 : decode cX0_lostShare 4 = .ok (.lconst 0, 1) := by decide +kernel
theorem dX0_lostShare_5 : decode cX0_lostShare 5 = .ok (.lcmp, 1) := by decide +kernel
theorem dX0_lostShare_6 : decode cX0_lostShare 6 = .ok (.ifCond .le 19, 3) := by decide +kernel
theorem dX0_lostShare_9 : decode cX0_lostShare 9 = .ok (.aload_n 0, 1) := by decide +kernel
theorem dX0_lostShare_10 : decode cX0_lostShare 10 = .ok (.getfield 39, 3) := by decide +kernel
theorem dX0_lostShare_13 : decode cX0_lostShare 13 = .ok (.ldc2_w 95, 3) := by decide +kernel
theorem dX0_lostShare_16 : decode cX0_lostShare 16 = .ok (.lmul, 1) := by decide +kernel
theorem dX0_lostShare_17 : decode cX0_lostShare 17 = .ok (.aload_n 0, 1) := by decide +kernel
theorem dX0_lostShare_18 : decode cX0_lostShare 18 = .ok (.getfield 42, 3) := by decide +kernel
theorem dX0_lostShare_21 : decode cX0_lostShare 21 = .ok (.ldiv, 1) := by decide +kernel
theorem dX0_lostShare_22 : decode cX0_lostShare 22 = .ok (.goto 4, 3) := by decide +kernel
theorem dX0_lostShare_25 : decode cX0_lostShare 25 = .ok (.lconst 0, 1) := by decide +kernel
theorem dX0_lostShare_26 : decode cX0_lostShare 26 = .ok (.lreturn, 1) := by decide +kernel
theorem dX0_takeSteps_0 : decode cX0_takeSteps 0 = .ok (.aload_n 2, 1) := by decide +kernel
theorem dX0_takeSteps_1 : decode cX0_takeSteps 1 = .ok (.getfield 75, 3) := by decide +kernel
theorem dX0_takeSteps_4 : decode cX0_takeSteps 4 = .ok (.lstore 4, 2) := by decide +kernel
theorem dX0_takeSteps_6 : decode cX0_takeSteps 6 = .ok (.iconst 0, 1) := by decide +kernel
theorem dX0_takeSteps_7 : decode cX0_takeSteps 7 = .ok (.istore 6, 2) := by decide +kernel
theorem dX0_takeSteps_9 : decode cX0_takeSteps 9 = .ok (.iload 6, 2) := by decide +kernel
theorem dX0_takeSteps_11 : decode cX0_takeSteps 11 = .ok (.bipush 10, 2) := by decide +kernel
theorem dX0_takeSteps_13 : decode cX0_takeSteps 13 = .ok (.if_icmp .ge 93, 3) := by decide +kernel
theorem dX0_takeSteps_16 : decode cX0_takeSteps 16 = .ok (.aload_n 2, 1) := by decide +kernel
theorem dX0_takeSteps_17 : decode cX0_takeSteps 17 = .ok (.getfield 97, 3) := by decide +kernel
theorem dX0_takeSteps_20 : decode cX0_takeSteps 20 = .ok (.iload 6, 2) := by decide +kernel
theorem dX0_takeSteps_22 : decode cX0_takeSteps 22 = .ok (.lconst 0, 1) := by decide +kernel
theorem dX0_takeSteps_23 : decode cX0_takeSteps 23 = .ok (.lastore, 1) := by decide +kernel
theorem dX0_takeSteps_24 : decode cX0_takeSteps 24 = .ok (.iload 6, 2) := by decide +kernel
theorem dX0_takeSteps_26 : decode cX0_takeSteps 26 = .ok (.aload_n 3, 1) := by decide +kernel
theorem dX0_takeSteps_27 : decode cX0_takeSteps 27 = .ok (.getfield 101, 3) := by decide +kernel
theorem dX0_takeSteps_30 : decode cX0_takeSteps 30 = .ok (.if_icmp .ge 70, 3) := by decide +kernel
theorem dX0_takeSteps_33 : decode cX0_takeSteps 33 = .ok (.aload_n 0, 1) := by decide +kernel
theorem dX0_takeSteps_34 : decode cX0_takeSteps 34 = .ok (.aload_n 3, 1) := by decide +kernel
theorem dX0_takeSteps_35 : decode cX0_takeSteps 35 = .ok (.getfield 104, 3) := by decide +kernel
theorem dX0_takeSteps_38 : decode cX0_takeSteps 38 = .ok (.iload 6, 2) := by decide +kernel
theorem dX0_takeSteps_40 : decode cX0_takeSteps 40 = .ok (.aaload, 1) := by decide +kernel
theorem dX0_takeSteps_41 : decode cX0_takeSteps 41 = .ok (.iload_n 1, 1) := by decide +kernel
theorem dX0_takeSteps_42 : decode cX0_takeSteps 42 = .ok (.aload_n 2, 1) := by decide +kernel
theorem dX0_takeSteps_43 : decode cX0_takeSteps 43 = .ok (.invokevirtual 108, 3) := by decide +kernel
theorem dX0_takeSteps_46 : decode cX0_takeSteps 46 = .ok (.ifCond .eq 54, 3) := by decide +kernel
theorem dX0_takeSteps_49 : decode cX0_takeSteps 49 = .ok (.lload 4, 2) := by decide +kernel
theorem dX0_takeSteps_51 : decode cX0_takeSteps 51 = .ok (.aload_n 0, 1) := by decide +kernel
theorem dX0_takeSteps_52 : decode cX0_takeSteps 52 = .ok (.aload_n 3, 1) := by decide +kernel
theorem dX0_takeSteps_53 : decode cX0_takeSteps 53 = .ok (.getfield 104, 3) := by decide +kernel
theorem dX0_takeSteps_56 : decode cX0_takeSteps 56 = .ok (.iload 6, 2) := by decide +kernel
theorem dX0_takeSteps_58 : decode cX0_takeSteps 58 = .ok (.aaload, 1) := by decide +kernel
theorem dX0_takeSteps_59 : decode cX0_takeSteps 59 = .ok (.aload_n 2, 1) := by decide +kernel
theorem dX0_takeSteps_60 : decode cX0_takeSteps 60 = .ok (.lload 4, 2) := by decide +kernel
theorem dX0_takeSteps_62 : decode cX0_takeSteps 62 = .ok (.invokevirtual 112, 3) := by decide +kernel
theorem dX0_takeSteps_65 : decode cX0_takeSteps 65 = .ok (.invokestatic 116, 3) := by decide +kernel
theorem dX0_takeSteps_68 : decode cX0_takeSteps 68 = .ok (.lstore 7, 2) := by decide +kernel
theorem dX0_takeSteps_70 : decode cX0_takeSteps 70 = .ok (.aload_n 0, 1) := by decide +kernel
theorem dX0_takeSteps_71 : decode cX0_takeSteps 71 = .ok (.aload_n 3, 1) := by decide +kernel
theorem dX0_takeSteps_72 : decode cX0_takeSteps 72 = .ok (.getfield 104, 3) := by decide +kernel
theorem dX0_takeSteps_75 : decode cX0_takeSteps 75 = .ok (.iload 6, 2) := by decide +kernel
theorem dX0_takeSteps_77 : decode cX0_takeSteps 77 = .ok (.aaload, 1) := by decide +kernel
theorem dX0_takeSteps_78 : decode cX0_takeSteps 78 = .ok (.lload 7, 2) := by decide +kernel
theorem dX0_takeSteps_80 : decode cX0_takeSteps 80 = .ok (.iload_n 1, 1) := by decide +kernel
theorem dX0_takeSteps_81 : decode cX0_takeSteps 81 = .ok (.invokevirtual 122, 3) := by decide +kernel
theorem dX0_takeSteps_84 : decode cX0_takeSteps 84 = .ok (.aload_n 2, 1) := by decide +kernel
theorem dX0_takeSteps_85 : decode cX0_takeSteps 85 = .ok (.getfield 97, 3) := by decide +kernel
theorem dX0_takeSteps_88 : decode cX0_takeSteps 88 = .ok (.iload 6, 2) := by decide +kernel
theorem dX0_takeSteps_90 : decode cX0_takeSteps 90 = .ok (.lload 7, 2) := by decide +kernel
theorem dX0_takeSteps_92 : decode cX0_takeSteps 92 = .ok (.lastore, 1) := by decide +kernel
theorem dX0_takeSteps_93 : decode cX0_takeSteps 93 = .ok (.lload 4, 2) := by decide +kernel
theorem dX0_takeSteps_95 : decode cX0_takeSteps 95 = .ok (.lload 7, 2) := by decide +kernel
theorem dX0_takeSteps_97 : decode cX0_takeSteps 97 = .ok (.lsub, 1) := by decide +kernel
theorem dX0_takeSteps_98 : decode cX0_takeSteps 98 = .ok (.lstore 4, 2) := by decide +kernel
theorem dX0_takeSteps_100 : decode cX0_takeSteps 100 = .ok (.iinc 6 1, 3) := by decide +kernel
theorem dX0_takeSteps_103 : decode cX0_takeSteps 103 = .ok (.goto (-94), 3) := by decide +kernel
theorem dX0_takeSteps_106 : decode cX0_takeSteps 106 = .ok (.return_, 1) := by decide +kernel
theorem dX0_passes_0 : decode cX0_passes 0 = .ok (.aload_n 1, 1) := by decide +kernel
theorem dX0_passes_1 : decode cX0_passes 1 = .ok (.iconst 3, 1) := by decide +kernel
theorem dX0_passes_2 : decode cX0_passes 2 = .ok (.iaload, 1) := by decide +kernel
theorem dX0_passes_3 : decode cX0_passes 3 = .ok (.istore 4, 2) := by decide +kernel
theorem dX0_passes_5 : decode cX0_passes 5 = .ok (.iload 4, 2) := by decide +kernel
theorem dX0_passes_7 : decode cX0_passes 7 = .ok (.ifCond .ne 5, 3) := by decide +kernel
theorem dX0_passes_10 : decode cX0_passes 10 = .ok (.iconst 1, 1) := by decide +kernel
theorem dX0_passes_11 : decode cX0_passes 11 = .ok (.ireturn, 1) := by decide +kernel
theorem dX0_passes_12 : decode cX0_passes 12 = .ok (.aload_n 0, 1) := by decide +kernel
theorem dX0_passes_13 : decode cX0_passes 13 = .ok (.aload_n 1, 1) := by decide +kernel
theorem dX0_passes_14 : decode cX0_passes 14 = .ok (.iconst 4, 1) := by decide +kernel
theorem dX0_passes_15 : decode cX0_passes 15 = .ok (.iaload, 1) := by decide +kernel
theorem dX0_passes_16 : decode cX0_passes 16 = .ok (.iload_n 2, 1) := by decide +kernel
theorem dX0_passes_17 : decode cX0_passes 17 = .ok (.aload_n 3, 1) := by decide +kernel
theorem dX0_passes_18 : decode cX0_passes 18 = .ok (.invokevirtual 126, 3) := by decide +kernel
theorem dX0_passes_21 : decode cX0_passes 21 = .ok (.lstore 5, 2) := by decide +kernel
theorem dX0_passes_23 : decode cX0_passes 23 = .ok (.aload_n 1, 1) := by decide +kernel
theorem dX0_passes_24 : decode cX0_passes 24 = .ok (.iconst 5, 1) := by decide +kernel
theorem dX0_passes_25 : decode cX0_passes 25 = .ok (.iaload, 1) := by decide +kernel
theorem dX0_passes_26 : decode cX0_passes 26 = .ok (.istore 7, 2) := by decide +kernel
theorem dX0_passes_28 : decode cX0_passes 28 = .ok (.iload 4, 2) := by decide +kernel
theorem dX0_passes_30 : decode cX0_passes 30 = .ok (.tableswitch 71 1 3 #[26, 41, 56], 26) := by decide +kernel
theorem dX0_passes_56 : decode cX0_passes 56 = .ok (.lload 5, 2) := by decide +kernel
theorem dX0_passes_58 : decode cX0_passes 58 = .ok (.iload 7, 2) := by decide +kernel
theorem dX0_passes_60 : decode cX0_passes 60 = .ok (.i2l, 1) := by decide +kernel
theorem dX0_passes_61 : decode cX0_passes 61 = .ok (.lcmp, 1) := by decide +kernel
theorem dX0_passes_62 : decode cX0_passes 62 = .ok (.ifCond .ge 7, 3) := by decide +kernel
theorem dX0_passes_65 : decode cX0_passes 65 = .ok (.iconst 1, 1) := by decide +kernel
theorem dX0_passes_66 : decode cX0_passes 66 = .ok (.goto 4, 3) := by decide +kernel
theorem dX0_passes_69 : decode cX0_passes 69 = .ok (.iconst 0, 1) := by decide +kernel
theorem dX0_passes_70 : decode cX0_passes 70 = .ok (.ireturn, 1) := by decide +kernel
theorem dX0_passes_71 : decode cX0_passes 71 = .ok (.lload 5, 2) := by decide +kernel
theorem dX0_passes_73 : decode cX0_passes 73 = .ok (.iload 7, 2) := by decide +kernel
theorem dX0_passes_75 : decode cX0_passes 75 = .ok (.i2l, 1) := by decide +kernel
theorem dX0_passes_76 : decode cX0_passes 76 = .ok (.lcmp, 1) := by decide +kernel
theorem dX0_passes_77 : decode cX0_passes 77 = .ok (.ifCond .ne 7, 3) := by decide +kernel
theorem dX0_passes_80 : decode cX0_passes 80 = .ok (.iconst 1, 1) := by decide +kernel
theorem dX0_passes_81 : decode cX0_passes 81 = .ok (.goto 4, 3) := by decide +kernel
theorem dX0_passes_84 : decode cX0_passes 84 = .ok (.iconst 0, 1) := by decide +kernel
theorem dX0_passes_85 : decode cX0_passes 85 = .ok (.ireturn, 1) := by decide +kernel
theorem dX0_passes_86 : decode cX0_passes 86 = .ok (.lload 5, 2) := by decide +kernel
theorem dX0_passes_88 : decode cX0_passes 88 = .ok (.iload 7, 2) := by decide +kernel
theorem dX0_passes_90 : decode cX0_passes 90 = .ok (.i2l, 1) := by decide +kernel
theorem dX0_passes_91 : decode cX0_passes 91 = .ok (.lcmp, 1) := by decide +kernel
theorem dX0_passes_92 : decode cX0_passes 92 = .ok (.ifCond .lt 7, 3) := by decide +kernel
theorem dX0_passes_95 : decode cX0_passes 95 = .ok (.iconst 1, 1) := by decide +kernel
theorem dX0_passes_96 : decode cX0_passes 96 = .ok (.goto 4, 3) := by decide +kernel
theorem dX0_passes_99 : decode cX0_passes 99 = .ok (.iconst 0, 1) := by decide +kernel
theorem dX0_passes_100 : decode cX0_passes 100 = .ok (.ireturn, 1) := by decide +kernel
theorem dX0_passes_101 : decode cX0_passes 101 = .ok (.lload 5, 2) := by decide +kernel
theorem dX0_passes_103 : decode cX0_passes 103 = .ok (.iload 7, 2) := by decide +kernel
theorem dX0_passes_105 : decode cX0_passes 105 = .ok (.i2l, 1) := by decide +kernel
theorem dX0_passes_106 : decode cX0_passes 106 = .ok (.lcmp, 1) := by decide +kernel
theorem dX0_passes_107 : decode cX0_passes 107 = .ok (.ifCond .eq 7, 3) := by decide +kernel
theorem dX0_passes_110 : decode cX0_passes 110 = .ok (.iconst 1, 1) := by decide +kernel
theorem dX0_passes_111 : decode cX0_passes 111 = .ok (.goto 4, 3) := by decide +kernel
theorem dX0_passes_114 : decode cX0_passes 114 = .ok (.iconst 0, 1) := by decide +kernel
theorem dX0_passes_115 : decode cX0_passes 115 = .ok (.ireturn, 1) := by decide +kernel
theorem dX0_field_0 : decode cX0_field 0 = .ok (.iload_n 1, 1) := by decide +kernel
theorem dX0_field_1 : decode cX0_field 1 = .ok (.tableswitch 54 0 3 #[31, 34, 40, 45], 31) := by decide +kernel
theorem dX0_field_32 : decode cX0_field 32 = .ok (.iload_n 2, 1) := by decide +kernel
theorem dX0_field_33 : decode cX0_field 33 = .ok (.i2l, 1) := by decide +kernel
theorem dX0_field_34 : decode cX0_field 34 = .ok (.lreturn, 1) := by decide +kernel
theorem dX0_field_35 : decode cX0_field 35 = .ok (.aload_n 3, 1) := by decide +kernel
theorem dX0_field_36 : decode cX0_field 36 = .ok (.getfield 130, 3) := by decide +kernel
theorem dX0_field_39 : decode cX0_field 39 = .ok (.i2l, 1) := by decide +kernel
theorem dX0_field_40 : decode cX0_field 40 = .ok (.lreturn, 1) := by decide +kernel
theorem dX0_field_41 : decode cX0_field 41 = .ok (.aload_n 0, 1) := by decide +kernel
theorem dX0_field_42 : decode cX0_field 42 = .ok (.invokevirtual 92, 3) := by decide +kernel
theorem dX0_field_45 : decode cX0_field 45 = .ok (.lreturn, 1) := by decide +kernel
theorem dX0_field_46 : decode cX0_field 46 = .ok (.aload_n 0, 1) := by decide +kernel
theorem dX0_field_47 : decode cX0_field 47 = .ok (.aload_n 3, 1) := by decide +kernel
theorem dX0_field_48 : decode cX0_field 48 = .ok (.getfield 85, 3) := by decide +kernel
theorem dX0_field_51 : decode cX0_field 51 = .ok (.invokevirtual 133, 3) := by decide +kernel
theorem dX0_field_54 : decode cX0_field 54 = .ok (.lreturn, 1) := by decide +kernel
theorem dX0_field_55 : decode cX0_field 55 = .ok (.aload_n 0, 1) := by decide +kernel
theorem dX0_field_56 : decode cX0_field 56 = .ok (.getfield 32, 3) := by decide +kernel
theorem dX0_field_59 : decode cX0_field 59 = .ok (.ifCond .eq 7, 3) := by decide +kernel
theorem dX0_field_62 : decode cX0_field 62 = .ok (.lconst 1, 1) := by decide +kernel
theorem dX0_field_63 : decode cX0_field 63 = .ok (.goto 4, 3) := by decide +kernel
theorem dX0_field_66 : decode cX0_field 66 = .ok (.lconst 0, 1) := by decide +kernel
theorem dX0_field_67 : decode cX0_field 67 = .ok (.lreturn, 1) := by decide +kernel
theorem dX0_cover_0 : decode cX0_cover 0 = .ok (.aload_n 0, 1) := by decide +kernel
theorem dX0_cover_1 : decode cX0_cover 1 = .ok (.getfield 52, 3) := by decide +kernel
theorem dX0_cover_4 : decode cX0_cover 4 = .ok (.ifCond .le 15, 3) := by decide +kernel
theorem dX0_cover_7 : decode cX0_cover 7 = .ok (.aload_n 0, 1) := by decide +kernel
theorem dX0_cover_8 : decode cX0_cover 8 = .ok (.getfield 11, 3) := by decide +kernel
theorem dX0_cover_11 : decode cX0_cover 11 = .ok (.iconst 0, 1) := by decide +kernel
theorem dX0_cover_12 : decode cX0_cover 12 = .ok (.aaload, 1) := by decide +kernel
theorem dX0_cover_13 : decode cX0_cover 13 = .ok (.getfield 137, 3) := by decide +kernel
theorem dX0_cover_16 : decode cX0_cover 16 = .ok (.goto 4, 3) := by decide +kernel
theorem dX0_cover_19 : decode cX0_cover 19 = .ok (.lconst 0, 1) := by decide +kernel
theorem dX0_cover_20 : decode cX0_cover 20 = .ok (.lstore_n 3, 1) := by decide +kernel
theorem dX0_cover_21 : decode cX0_cover 21 = .ok (.lload_n 3, 1) := by decide +kernel
theorem dX0_cover_22 : decode cX0_cover 22 = .ok (.lconst 0, 1) := by decide +kernel
theorem dX0_cover_23 : decode cX0_cover 23 = .ok (.lcmp, 1) := by decide +kernel
theorem dX0_cover_24 : decode cX0_cover 24 = .ok (.ifCond .le 19, 3) := by decide +kernel
theorem dX0_cover_27 : decode cX0_cover 27 = .ok (.ldc2_w 140, 3) := by decide +kernel
theorem dX0_cover_30 : decode cX0_cover 30 = .ok (.ldc2_w 142, 3) := by decide +kernel
theorem dX0_cover_33 : decode cX0_cover 33 = .ok (.lload_n 1, 1) := by decide +kernel
theorem dX0_cover_34 : decode cX0_cover 34 = .ok (.lmul, 1) := by decide +kernel
theorem dX0_cover_35 : decode cX0_cover 35 = .ok (.lload_n 3, 1) := by decide +kernel
theorem dX0_cover_36 : decode cX0_cover 36 = .ok (.ldiv, 1) := by decide +kernel
theorem dX0_cover_37 : decode cX0_cover 37 = .ok (.invokestatic 116, 3) := by decide +kernel
theorem dX0_cover_40 : decode cX0_cover 40 = .ok (.goto 6, 3) := by decide +kernel
theorem dX0_cover_43 : decode cX0_cover 43 = .ok (.ldc2_w 140, 3) := by decide +kernel
theorem dX0_cover_46 : decode cX0_cover 46 = .ok (.lreturn, 1) := by decide +kernel
theorem dX0_wish_0 : decode cX0_wish 0 = .ok (.aload_n 1, 1) := by decide +kernel
theorem dX0_wish_1 : decode cX0_wish 1 = .ok (.iconst 2, 1) := by decide +kernel
theorem dX0_wish_2 : decode cX0_wish 2 = .ok (.iaload, 1) := by decide +kernel
theorem dX0_wish_3 : decode cX0_wish 3 = .ok (.istore 5, 2) := by decide +kernel
theorem dX0_wish_5 : decode cX0_wish 5 = .ok (.aload_n 0, 1) := by decide +kernel
theorem dX0_wish_6 : decode cX0_wish 6 = .ok (.aload_n 1, 1) := by decide +kernel
theorem dX0_wish_7 : decode cX0_wish 7 = .ok (.invokevirtual 144, 3) := by decide +kernel
theorem dX0_wish_10 : decode cX0_wish 10 = .ok (.astore 6, 2) := by decide +kernel
theorem dX0_wish_12 : decode cX0_wish 12 = .ok (.aload_n 1, 1) := by decide +kernel
theorem dX0_wish_13 : decode cX0_wish 13 = .ok (.iconst 0, 1) := by decide +kernel
theorem dX0_wish_14 : decode cX0_wish 14 = .ok (.iaload, 1) := by decide +kernel
theorem dX0_wish_15 : decode cX0_wish 15 = .ok (.tableswitch 119 0 4 #[33, 46, 61, 76, 106], 33) := by decide +kernel
theorem dX0_wish_48 : decode cX0_wish 48 = .ok (.aload_n 2, 1) := by decide +kernel
theorem dX0_wish_49 : decode cX0_wish 49 = .ok (.getfield 55, 3) := by decide +kernel
theorem dX0_wish_52 : decode cX0_wish 52 = .ok (.iload 5, 2) := by decide +kernel
theorem dX0_wish_54 : decode cX0_wish 54 = .ok (.i2l, 1) := by decide +kernel
theorem dX0_wish_55 : decode cX0_wish 55 = .ok (.lmul, 1) := by decide +kernel
theorem dX0_wish_56 : decode cX0_wish 56 = .ok (.ldc2_w 148, 3) := by decide +kernel
theorem dX0_wish_59 : decode cX0_wish 59 = .ok (.ldiv, 1) := by decide +kernel
theorem dX0_wish_60 : decode cX0_wish 60 = .ok (.lreturn, 1) := by decide +kernel
theorem dX0_wish_61 : decode cX0_wish 61 = .ok (.aload 6, 2) := by decide +kernel
theorem dX0_wish_63 : decode cX0_wish 63 = .ok (.ifnonnull 7, 3) := by decide +kernel
theorem dX0_wish_66 : decode cX0_wish 66 = .ok (.lconst 0, 1) := by decide +kernel
theorem dX0_wish_67 : decode cX0_wish 67 = .ok (.goto 8, 3) := by decide +kernel
theorem dX0_wish_70 : decode cX0_wish 70 = .ok (.aload 6, 2) := by decide +kernel
theorem dX0_wish_72 : decode cX0_wish 72 = .ok (.getfield 150, 3) := by decide +kernel
theorem dX0_wish_75 : decode cX0_wish 75 = .ok (.lreturn, 1) := by decide +kernel
theorem dX0_wish_76 : decode cX0_wish 76 = .ok (.aload 6, 2) := by decide +kernel
theorem dX0_wish_78 : decode cX0_wish 78 = .ok (.ifnonnull 7, 3) := by decide +kernel
theorem dX0_wish_81 : decode cX0_wish 81 = .ok (.lconst 0, 1) := by decide +kernel
theorem dX0_wish_82 : decode cX0_wish 82 = .ok (.goto 8, 3) := by decide +kernel
theorem dX0_wish_85 : decode cX0_wish 85 = .ok (.aload 6, 2) := by decide +kernel
theorem dX0_wish_87 : decode cX0_wish 87 = .ok (.getfield 137, 3) := by decide +kernel
theorem dX0_wish_90 : decode cX0_wish 90 = .ok (.lreturn, 1) := by decide +kernel
theorem dX0_wish_91 : decode cX0_wish 91 = .ok (.aload 6, 2) := by decide +kernel
theorem dX0_wish_93 : decode cX0_wish 93 = .ok (.ifnonnull 7, 3) := by decide +kernel
theorem dX0_wish_96 : decode cX0_wish 96 = .ok (.lconst 0, 1) := by decide +kernel
theorem dX0_wish_97 : decode cX0_wish 97 = .ok (.goto 23, 3) := by decide +kernel
theorem dX0_wish_100 : decode cX0_wish 100 = .ok (.aload 6, 2) := by decide +kernel
theorem dX0_wish_102 : decode cX0_wish 102 = .ok (.getfield 137, 3) := by decide +kernel
theorem dX0_wish_105 : decode cX0_wish 105 = .ok (.aload_n 2, 1) := by decide +kernel
theorem dX0_wish_106 : decode cX0_wish 106 = .ok (.getfield 153, 3) := by decide +kernel
theorem dX0_wish_109 : decode cX0_wish 109 = .ok (.iload 5, 2) := by decide +kernel
theorem dX0_wish_111 : decode cX0_wish 111 = .ok (.i2l, 1) := by decide +kernel
theorem dX0_wish_112 : decode cX0_wish 112 = .ok (.lmul, 1) := by decide +kernel
theorem dX0_wish_113 : decode cX0_wish 113 = .ok (.ldc2_w 142, 3) := by decide +kernel
theorem dX0_wish_116 : decode cX0_wish 116 = .ok (.ldiv, 1) := by decide +kernel
theorem dX0_wish_117 : decode cX0_wish 117 = .ok (.invokestatic 116, 3) := by decide +kernel
theorem dX0_wish_120 : decode cX0_wish 120 = .ok (.lreturn, 1) := by decide +kernel
theorem dX0_wish_121 : decode cX0_wish 121 = .ok (.lconst 0, 1) := by decide +kernel
theorem dX0_wish_122 : decode cX0_wish 122 = .ok (.iload 5, 2) := by decide +kernel
theorem dX0_wish_124 : decode cX0_wish 124 = .ok (.i2l, 1) := by decide +kernel
theorem dX0_wish_125 : decode cX0_wish 125 = .ok (.aload_n 0, 1) := by decide +kernel
theorem dX0_wish_126 : decode cX0_wish 126 = .ok (.getfield 28, 3) := by decide +kernel
theorem dX0_wish_129 : decode cX0_wish 129 = .ok (.lsub, 1) := by decide +kernel
theorem dX0_wish_130 : decode cX0_wish 130 = .ok (.invokestatic 156, 3) := by decide +kernel
theorem dX0_wish_133 : decode cX0_wish 133 = .ok (.lreturn, 1) := by decide +kernel
theorem dX0_wish_134 : decode cX0_wish 134 = .ok (.lload_n 3, 1) := by decide +kernel
theorem dX0_wish_135 : decode cX0_wish 135 = .ok (.lreturn, 1) := by decide +kernel
theorem dX0_give_0 : decode cX0_give 0 = .ok (.aload_n 0, 1) := by decide +kernel
theorem dX0_give_1 : decode cX0_give 1 = .ok (.aload_n 1, 1) := by decide +kernel
theorem dX0_give_2 : decode cX0_give 2 = .ok (.invokevirtual 144, 3) := by decide +kernel
theorem dX0_give_5 : decode cX0_give 5 = .ok (.astore 5, 2) := by decide +kernel
theorem dX0_give_7 : decode cX0_give 7 = .ok (.aload_n 1, 1) := by decide +kernel
theorem dX0_give_8 : decode cX0_give 8 = .ok (.iconst 0, 1) := by decide +kernel
theorem dX0_give_9 : decode cX0_give 9 = .ok (.iaload, 1) := by decide +kernel
theorem dX0_give_10 : decode cX0_give 10 = .ok (.tableswitch 90 1 5 #[60, 74, 74, 34, 47], 34) := by decide +kernel
theorem dX0_give_44 : decode cX0_give 44 = .ok (.aload_n 0, 1) := by decide +kernel
theorem dX0_give_45 : decode cX0_give 45 = .ok (.dup, 1) := by decide +kernel
theorem dX0_give_46 : decode cX0_give 46 = .ok (.getfield 28, 3) := by decide +kernel
theorem dX0_give_49 : decode cX0_give 49 = .ok (.lload_n 2, 1) := by decide +kernel
theorem dX0_give_50 : decode cX0_give 50 = .ok (.ladd, 1) := by decide +kernel
theorem dX0_give_51 : decode cX0_give 51 = .ok (.putfield 28, 3) := by decide +kernel
theorem dX0_give_54 : decode cX0_give 54 = .ok (.goto 46, 3) := by decide +kernel
theorem dX0_give_57 : decode cX0_give 57 = .ok (.aload_n 0, 1) := by decide +kernel
theorem dX0_give_58 : decode cX0_give 58 = .ok (.dup, 1) := by decide +kernel
theorem dX0_give_59 : decode cX0_give 59 = .ok (.getfield 45, 3) := by decide +kernel
theorem dX0_give_62 : decode cX0_give 62 = .ok (.lload_n 2, 1) := by decide +kernel
theorem dX0_give_63 : decode cX0_give 63 = .ok (.ladd, 1) := by decide +kernel
theorem dX0_give_64 : decode cX0_give 64 = .ok (.putfield 45, 3) := by decide +kernel
theorem dX0_give_67 : decode cX0_give 67 = .ok (.goto 33, 3) := by decide +kernel
theorem dX0_give_70 : decode cX0_give 70 = .ok (.aload 5, 2) := by decide +kernel
theorem dX0_give_72 : decode cX0_give 72 = .ok (.ifnull 28, 3) := by decide +kernel
theorem dX0_give_75 : decode cX0_give 75 = .ok (.aload 5, 2) := by decide +kernel
theorem dX0_give_77 : decode cX0_give 77 = .ok (.lload_n 2, 1) := by decide +kernel
theorem dX0_give_78 : decode cX0_give 78 = .ok (.invokevirtual 159, 3) := by decide +kernel
theorem dX0_give_81 : decode cX0_give 81 = .ok (.goto 19, 3) := by decide +kernel
theorem dX0_give_84 : decode cX0_give 84 = .ok (.aload 5, 2) := by decide +kernel
theorem dX0_give_86 : decode cX0_give 86 = .ok (.ifnull 14, 3) := by decide +kernel
theorem dX0_give_89 : decode cX0_give 89 = .ok (.aload 5, 2) := by decide +kernel
theorem dX0_give_91 : decode cX0_give 91 = .ok (.lload_n 2, 1) := by decide +kernel
theorem dX0_give_92 : decode cX0_give 92 = .ok (.iload 4, 2) := by decide +kernel
theorem dX0_give_94 : decode cX0_give 94 = .ok (.invokevirtual 162, 3) := by decide +kernel
theorem dX0_give_97 : decode cX0_give 97 = .ok (.goto 3, 3) := by decide +kernel
theorem dX0_give_100 : decode cX0_give 100 = .ok (.return_, 1) := by decide +kernel
theorem dX0_paperOf_0 : decode cX0_paperOf 0 = .ok (.aload_n 1, 1) := by decide +kernel
theorem dX0_paperOf_1 : decode cX0_paperOf 1 = .ok (.iconst 1, 1) := by decide +kernel
theorem dX0_paperOf_2 : decode cX0_paperOf 2 = .ok (.iaload, 1) := by decide +kernel
theorem dX0_paperOf_3 : decode cX0_paperOf 3 = .ok (.istore_n 2, 1) := by decide +kernel
theorem dX0_paperOf_4 : decode cX0_paperOf 4 = .ok (.iload_n 2, 1) := by decide +kernel
theorem dX0_paperOf_5 : decode cX0_paperOf 5 = .ok (.ifCond .lt 20, 3) := by decide +kernel
theorem dX0_paperOf_8 : decode cX0_paperOf 8 = .ok (.iload_n 2, 1) := by decide +kernel
theorem dX0_paperOf_9 : decode cX0_paperOf 9 = .ok (.aload_n 0, 1) := by decide +kernel
theorem dX0_paperOf_10 : decode cX0_paperOf 10 = .ok (.getfield 52, 3) := by decide +kernel
theorem dX0_paperOf_13 : decode cX0_paperOf 13 = .ok (.if_icmp .ge 12, 3) := by decide +kernel
theorem dX0_paperOf_16 : decode cX0_paperOf 16 = .ok (.aload_n 0, 1) := by decide +kernel
theorem dX0_paperOf_17 : decode cX0_paperOf 17 = .ok (.getfield 11, 3) := by decide +kernel
theorem dX0_paperOf_20 : decode cX0_paperOf 20 = .ok (.iload_n 2, 1) := by decide +kernel
theorem dX0_paperOf_21 : decode cX0_paperOf 21 = .ok (.aaload, 1) := by decide +kernel
theorem dX0_paperOf_22 : decode cX0_paperOf 22 = .ok (.goto 4, 3) := by decide +kernel
theorem dX0_paperOf_25 : decode cX0_paperOf 25 = .ok (.aconst_null, 1) := by decide +kernel
theorem dX0_paperOf_26 : decode cX0_paperOf 26 = .ok (.areturn, 1) := by decide +kernel
theorem dX0_writeDown_0 : decode cX0_writeDown 0 = .ok (.lload_n 1, 1) := by decide +kernel
theorem dX0_writeDown_1 : decode cX0_writeDown 1 = .ok (.lneg, 1) := by decide +kernel
theorem dX0_writeDown_2 : decode cX0_writeDown 2 = .ok (.aload_n 0, 1) := by decide +kernel
theorem dX0_writeDown_3 : decode cX0_writeDown 3 = .ok (.getfield 28, 3) := by decide +kernel
theorem dX0_writeDown_6 : decode cX0_writeDown 6 = .ok (.lsub, 1) := by decide +kernel
theorem dX0_writeDown_7 : decode cX0_writeDown 7 = .ok (.lstore_n 3, 1) := by decide +kernel
theorem dX0_writeDown_8 : decode cX0_writeDown 8 = .ok (.iconst 0, 1) := by decide +kernel
theorem dX0_writeDown_9 : decode cX0_writeDown 9 = .ok (.istore 5, 2) := by decide +kernel
theorem dX0_writeDown_11 : decode cX0_writeDown 11 = .ok (.iload 5, 2) := by decide +kernel
theorem dX0_writeDown_13 : decode cX0_writeDown 13 = .ok (.aload_n 0, 1) := by decide +kernel
theorem dX0_writeDown_14 : decode cX0_writeDown 14 = .ok (.getfield 52, 3) := by decide +kernel
theorem dX0_writeDown_17 : decode cX0_writeDown 17 = .ok (.if_icmp .ge 22, 3) := by decide +kernel
theorem dX0_writeDown_20 : decode cX0_writeDown 20 = .ok (.lload_n 3, 1) := by decide +kernel
theorem dX0_writeDown_21 : decode cX0_writeDown 21 = .ok (.aload_n 0, 1) := by decide +kernel
theorem dX0_writeDown_22 : decode cX0_writeDown 22 = .ok (.getfield 11, 3) := by decide +kernel
theorem dX0_writeDown_25 : decode cX0_writeDown 25 = .ok (.iload 5, 2) := by decide +kernel
theorem dX0_writeDown_27 : decode cX0_writeDown 27 = .ok (.aaload, 1) := by decide +kernel
theorem dX0_writeDown_28 : decode cX0_writeDown 28 = .ok (.getfield 137, 3) := by decide +kernel
theorem dX0_writeDown_31 : decode cX0_writeDown 31 = .ok (.ladd, 1) := by decide +kernel
theorem dX0_writeDown_32 : decode cX0_writeDown 32 = .ok (.lstore_n 3, 1) := by decide +kernel
theorem dX0_writeDown_33 : decode cX0_writeDown 33 = .ok (.iinc 5 1, 3) := by decide +kernel
theorem dX0_writeDown_36 : decode cX0_writeDown 36 = .ok (.goto (-25), 3) := by decide +kernel
theorem dX0_writeDown_39 : decode cX0_writeDown 39 = .ok (.aload_n 0, 1) := by decide +kernel
theorem dX0_writeDown_40 : decode cX0_writeDown 40 = .ok (.getfield 52, 3) := by decide +kernel
theorem dX0_writeDown_43 : decode cX0_writeDown 43 = .ok (.iconst 1, 1) := by decide +kernel
theorem dX0_writeDown_44 : decode cX0_writeDown 44 = .ok (.isub, 1) := by decide +kernel
theorem dX0_writeDown_45 : decode cX0_writeDown 45 = .ok (.istore 5, 2) := by decide +kernel
theorem dX0_writeDown_47 : decode cX0_writeDown 47 = .ok (.iload 5, 2) := by decide +kernel
theorem dX0_writeDown_49 : decode cX0_writeDown 49 = .ok (.ifCond .lt 48, 3) := by decide +kernel
theorem dX0_writeDown_52 : decode cX0_writeDown 52 = .ok (.lload_n 3, 1) := by decide +kernel
theorem dX0_writeDown_53 : decode cX0_writeDown 53 = .ok (.lconst 0, 1) := by decide +kernel
theorem dX0_writeDown_54 : decode cX0_writeDown 54 = .ok (.lcmp, 1) := by decide +kernel
theorem dX0_writeDown_55 : decode cX0_writeDown 55 = .ok (.ifCond .le 42, 3) := by decide +kernel
theorem dX0_writeDown_58 : decode cX0_writeDown 58 = .ok (.lload_n 3, 1) := by decide +kernel
theorem dX0_writeDown_59 : decode cX0_writeDown 59 = .ok (.aload_n 0, 1) := by decide +kernel
theorem dX0_writeDown_60 : decode cX0_writeDown 60 = .ok (.getfield 11, 3) := by decide +kernel
theorem dX0_writeDown_63 : decode cX0_writeDown 63 = .ok (.iload 5, 2) := by decide +kernel
theorem dX0_writeDown_65 : decode cX0_writeDown 65 = .ok (.aaload, 1) := by decide +kernel
theorem dX0_writeDown_66 : decode cX0_writeDown 66 = .ok (.getfield 137, 3) := by decide +kernel
theorem dX0_writeDown_69 : decode cX0_writeDown 69 = .ok (.invokestatic 116, 3) := by decide +kernel
theorem dX0_writeDown_72 : decode cX0_writeDown 72 = .ok (.lstore 6, 2) := by decide +kernel
theorem dX0_writeDown_74 : decode cX0_writeDown 74 = .ok (.aload_n 0, 1) := by decide +kernel
theorem dX0_writeDown_75 : decode cX0_writeDown 75 = .ok (.getfield 11, 3) := by decide +kernel
theorem dX0_writeDown_78 : decode cX0_writeDown 78 = .ok (.iload 5, 2) := by decide +kernel
theorem dX0_writeDown_80 : decode cX0_writeDown 80 = .ok (.aaload, 1) := by decide +kernel
theorem dX0_writeDown_81 : decode cX0_writeDown 81 = .ok (.lload 6, 2) := by decide +kernel
theorem dX0_writeDown_83 : decode cX0_writeDown 83 = .ok (.invokevirtual 166, 3) := by decide +kernel
theorem dX0_writeDown_86 : decode cX0_writeDown 86 = .ok (.lload_n 3, 1) := by decide +kernel
theorem dX0_writeDown_87 : decode cX0_writeDown 87 = .ok (.lload 6, 2) := by decide +kernel
theorem dX0_writeDown_89 : decode cX0_writeDown 89 = .ok (.lsub, 1) := by decide +kernel
theorem dX0_writeDown_90 : decode cX0_writeDown 90 = .ok (.lstore_n 3, 1) := by decide +kernel
theorem dX0_writeDown_91 : decode cX0_writeDown 91 = .ok (.iinc 5 (-1), 3) := by decide +kernel
theorem dX0_writeDown_94 : decode cX0_writeDown 94 = .ok (.goto (-47), 3) := by decide +kernel
theorem dX0_writeDown_97 : decode cX0_writeDown 97 = .ok (.return_, 1) := by decide +kernel
theorem dX1_init_0 : decode cX1_init 0 = .ok (.aload_n 0, 1) := by decide +kernel
theorem dX1_init_1 : decode cX1_init 1 = .ok (.invokespecial 3, 3) := by decide +kernel
theorem dX1_init_4 : decode cX1_init 4 = .ok (.aload_n 0, 1) := by decide +kernel
theorem dX1_init_5 : decode cX1_init 5 = .ok (.sipush 160, 3) := by decide +kernel
theorem dX1_init_8 : decode cX1_init 8 = .ok (.newarray .int, 2) := by decide +kernel
theorem dX1_init_10 : decode cX1_init 10 = .ok (.putfield 9, 3) := by decide +kernel
theorem dX1_init_13 : decode cX1_init 13 = .ok (.aload_n 0, 1) := by decide +kernel
theorem dX1_init_14 : decode cX1_init 14 = .ok (.iconst 4, 1) := by decide +kernel
theorem dX1_init_15 : decode cX1_init 15 = .ok (.newarray .int, 2) := by decide +kernel
theorem dX1_init_17 : decode cX1_init 17 = .ok (.dup, 1) := by decide +kernel
theorem dX1_init_18 : decode cX1_init 18 = .ok (.iconst 0, 1) := by decide +kernel
theorem dX1_init_19 : decode cX1_init 19 = .ok (.iconst 0, 1) := by decide +kernel
theorem dX1_init_20 : decode cX1_init 20 = .ok (.iastore, 1) := by decide +kernel
theorem dX1_init_21 : decode cX1_init 21 = .ok (.dup, 1) := by decide +kernel
theorem dX1_init_22 : decode cX1_init 22 = .ok (.iconst 1, 1) := by decide +kernel
theorem dX1_init_23 : decode cX1_init 23 = .ok (.iconst 1, 1) := by decide +kernel
theorem dX1_init_24 : decode cX1_init 24 = .ok (.iastore, 1) := by decide +kernel
theorem dX1_init_25 : decode cX1_init 25 = .ok (.dup, 1) := by decide +kernel
theorem dX1_init_26 : decode cX1_init 26 = .ok (.iconst 2, 1) := by decide +kernel
theorem dX1_init_27 : decode cX1_init 27 = .ok (.iconst 2, 1) := by decide +kernel
theorem dX1_init_28 : decode cX1_init 28 = .ok (.iastore, 1) := by decide +kernel
theorem dX1_init_29 : decode cX1_init 29 = .ok (.dup, 1) := by decide +kernel
theorem dX1_init_30 : decode cX1_init 30 = .ok (.iconst 3, 1) := by decide +kernel
theorem dX1_init_31 : decode cX1_init 31 = .ok (.iconst 3, 1) := by decide +kernel
theorem dX1_init_32 : decode cX1_init 32 = .ok (.iastore, 1) := by decide +kernel
theorem dX1_init_33 : decode cX1_init 33 = .ok (.putfield 15, 3) := by decide +kernel
theorem dX1_init_36 : decode cX1_init 36 = .ok (.aload_n 0, 1) := by decide +kernel
theorem dX1_init_37 : decode cX1_init 37 = .ok (.bipush 40, 2) := by decide +kernel
theorem dX1_init_39 : decode cX1_init 39 = .ok (.newarray .int, 2) := by decide +kernel
theorem dX1_init_41 : decode cX1_init 41 = .ok (.putfield 18, 3) := by decide +kernel
theorem dX1_init_44 : decode cX1_init 44 = .ok (.aload_n 0, 1) := by decide +kernel
theorem dX1_init_45 : decode cX1_init 45 = .ok (.iconst 3, 1) := by decide +kernel
theorem dX1_init_46 : decode cX1_init 46 = .ok (.putfield 21, 3) := by decide +kernel
theorem dX1_init_49 : decode cX1_init 49 = .ok (.return_, 1) := by decide +kernel
theorem dX1_read_0 : decode cX1_read 0 = .ok (.aload_n 0, 1) := by decide +kernel
theorem dX1_read_1 : decode cX1_read 1 = .ok (.iconst 0, 1) := by decide +kernel
theorem dX1_read_2 : decode cX1_read 2 = .ok (.putfield 21, 3) := by decide +kernel
theorem dX1_read_5 : decode cX1_read 5 = .ok (.aload_n 0, 1) := by decide +kernel
theorem dX1_read_6 : decode cX1_read 6 = .ok (.iconst 0, 1) := by decide +kernel
theorem dX1_read_7 : decode cX1_read 7 = .ok (.putfield 25, 3) := by decide +kernel
theorem dX1_read_10 : decode cX1_read 10 = .ok (.aload_n 1, 1) := by decide +kernel
theorem dX1_read_11 : decode cX1_read 11 = .ok (.invokevirtual 28, 3) := by decide +kernel
theorem dX1_read_14 : decode cX1_read 14 = .ok (.iconst 0, 1) := by decide +kernel
theorem dX1_read_15 : decode cX1_read 15 = .ok (.istore_n 2, 1) := by decide +kernel
theorem dX1_read_16 : decode cX1_read 16 = .ok (.iload_n 2, 1) := by decide +kernel
theorem dX1_read_17 : decode cX1_read 17 = .ok (.iconst 3, 1) := by decide +kernel
theorem dX1_read_18 : decode cX1_read 18 = .ok (.if_icmp .ge 61, 3) := by decide +kernel
theorem dX1_read_21 : decode cX1_read 21 = .ok (.aload_n 0, 1) := by decide +kernel
theorem dX1_read_22 : decode cX1_read 22 = .ok (.getfield 15, 3) := by decide +kernel
theorem dX1_read_25 : decode cX1_read 25 = .ok (.iload_n 2, 1) := by decide +kernel
theorem dX1_read_26 : decode cX1_read 26 = .ok (.aload_n 0, 1) := by decide +kernel
theorem dX1_read_27 : decode cX1_read 27 = .ok (.getfield 21, 3) := by decide +kernel
theorem dX1_read_30 : decode cX1_read 30 = .ok (.iastore, 1) := by decide +kernel
theorem dX1_read_31 : decode cX1_read 31 = .ok (.aload_n 1, 1) := by decide +kernel
theorem dX1_read_32 : decode cX1_read 32 = .ok (.ldc 33, 2) := by decide +kernel
theorem dX1_read_34 : decode cX1_read 34 = .ok (.invokevirtual 35, 3) := by decide +kernel
theorem dX1_read_37 : decode cX1_read 37 = .ok (.iload_n 2, 1) := by decide +kernel
theorem dX1_read_38 : decode cX1_read 38 = .ok (.if_icmp .eq 8, 3) := by decide +kernel
theorem dX1_read_41 : decode cX1_read 41 = .ok (.aload_n 1, 1) := by decide +kernel
theorem dX1_read_42 : decode cX1_read 42 = .ok (.getfield 39, 3) := by decide +kernel
theorem dX1_read_45 : decode cX1_read 45 = .ok (.ireturn, 1) := by decide +kernel
theorem dX1_read_46 : decode cX1_read 46 = .ok (.aload_n 1, 1) := by decide +kernel
theorem dX1_read_47 : decode cX1_read 47 = .ok (.invokevirtual 42, 3) := by decide +kernel
theorem dX1_read_50 : decode cX1_read 50 = .ok (.aload_n 0, 1) := by decide +kernel
theorem dX1_read_51 : decode cX1_read 51 = .ok (.aload_n 1, 1) := by decide +kernel
theorem dX1_read_52 : decode cX1_read 52 = .ok (.iconst 0, 1) := by decide +kernel
theorem dX1_read_53 : decode cX1_read 53 = .ok (.invokevirtual 45, 3) := by decide +kernel
theorem dX1_read_56 : decode cX1_read 56 = .ok (.ifCond .eq 12, 3) := by decide +kernel
theorem dX1_read_59 : decode cX1_read 59 = .ok (.aload_n 1, 1) := by decide +kernel
theorem dX1_read_60 : decode cX1_read 60 = .ok (.bipush 59, 2) := by decide +kernel
theorem dX1_read_62 : decode cX1_read 62 = .ok (.invokevirtual 49, 3) := by decide +kernel
theorem dX1_read_65 : decode cX1_read 65 = .ok (.ifCond .ne 8, 3) := by decide +kernel
theorem dX1_read_68 : decode cX1_read 68 = .ok (.aload_n 1, 1) := by decide +kernel
theorem dX1_read_69 : decode cX1_read 69 = .ok (.getfield 39, 3) := by decide +kernel
theorem dX1_read_72 : decode cX1_read 72 = .ok (.ireturn, 1) := by decide +kernel
theorem dX1_read_73 : decode cX1_read 73 = .ok (.iinc 2 1, 3) := by decide +kernel
theorem dX1_read_76 : decode cX1_read 76 = .ok (.goto (-60), 3) := by decide +kernel
theorem dX1_read_79 : decode cX1_read 79 = .ok (.aload_n 0, 1) := by decide +kernel
theorem dX1_read_80 : decode cX1_read 80 = .ok (.getfield 15, 3) := by decide +kernel
theorem dX1_read_83 : decode cX1_read 83 = .ok (.iconst 3, 1) := by decide +kernel
theorem dX1_read_84 : decode cX1_read 84 = .ok (.aload_n 0, 1) := by decide +kernel
theorem dX1_read_85 : decode cX1_read 85 = .ok (.getfield 21, 3) := by decide +kernel
theorem dX1_read_88 : decode cX1_read 88 = .ok (.iastore, 1) := by decide +kernel
theorem dX1_read_89 : decode cX1_read 89 = .ok (.aload_n 1, 1) := by decide +kernel
theorem dX1_read_90 : decode cX1_read 90 = .ok (.invokevirtual 53, 3) := by decide +kernel
theorem dX1_read_93 : decode cX1_read 93 = .ok (.ifCond .eq 7, 3) := by decide +kernel
theorem dX1_read_96 : decode cX1_read 96 = .ok (.iconst (-1), 1) := by decide +kernel
theorem dX1_read_97 : decode cX1_read 97 = .ok (.goto 7, 3) := by decide +kernel
theorem dX1_read_100 : decode cX1_read 100 = .ok (.aload_n 1, 1) := by decide +kernel
theorem dX1_read_101 : decode cX1_read 101 = .ok (.getfield 39, 3) := by decide +kernel
theorem dX1_read_104 : decode cX1_read 104 = .ok (.ireturn, 1) := by decide +kernel
theorem dX1_readChain_0 : decode cX1_readChain 0 = .ok (.iload_n 2, 1) := by decide +kernel
theorem dX1_readChain_1 : decode cX1_readChain 1 = .ok (.iconst 2, 1) := by decide +kernel
theorem dX1_readChain_2 : decode cX1_readChain 2 = .ok (.if_icmp .ne 9, 3) := by decide +kernel
theorem dX1_readChain_5 : decode cX1_readChain 5 = .ok (.aload_n 0, 1) := by decide +kernel
theorem dX1_readChain_6 : decode cX1_readChain 6 = .ok (.aload_n 1, 1) := by decide +kernel
theorem dX1_readChain_7 : decode cX1_readChain 7 = .ok (.invokevirtual 57, 3) := by decide +kernel
theorem dX1_readChain_10 : decode cX1_readChain 10 = .ok (.ireturn, 1) := by decide +kernel
theorem dX1_readChain_11 : decode cX1_readChain 11 = .ok (.iload_n 2, 1) := by decide +kernel
theorem dX1_readChain_12 : decode cX1_readChain 12 = .ok (.iconst 5, 1) := by decide +kernel
theorem dX1_readChain_13 : decode cX1_readChain 13 = .ok (.if_icmp .lt 9, 3) := by decide +kernel
theorem dX1_readChain_16 : decode cX1_readChain 16 = .ok (.aload_n 0, 1) := by decide +kernel
theorem dX1_readChain_17 : decode cX1_readChain 17 = .ok (.aload_n 1, 1) := by decide +kernel
theorem dX1_readChain_18 : decode cX1_readChain 18 = .ok (.invokevirtual 61, 3) := by decide +kernel
theorem dX1_readChain_21 : decode cX1_readChain 21 = .ok (.ireturn, 1) := by decide +kernel
theorem dX1_readChain_22 : decode cX1_readChain 22 = .ok (.aload_n 0, 1) := by decide +kernel
theorem dX1_readChain_23 : decode cX1_readChain 23 = .ok (.aload_n 1, 1) := by decide +kernel
theorem dX1_readChain_24 : decode cX1_readChain 24 = .ok (.iload_n 2, 1) := by decide +kernel
theorem dX1_readChain_25 : decode cX1_readChain 25 = .ok (.iconst 1, 1) := by decide +kernel
theorem dX1_readChain_26 : decode cX1_readChain 26 = .ok (.iadd, 1) := by decide +kernel
theorem dX1_readChain_27 : decode cX1_readChain 27 = .ok (.invokevirtual 45, 3) := by decide +kernel
theorem dX1_readChain_30 : decode cX1_readChain 30 = .ok (.istore_n 3, 1) := by decide +kernel
theorem dX1_readChain_31 : decode cX1_readChain 31 = .ok (.iload_n 3, 1) := by decide +kernel
theorem dX1_readChain_32 : decode cX1_readChain 32 = .ok (.ifCond .eq 11, 3) := by decide +kernel
theorem dX1_readChain_35 : decode cX1_readChain 35 = .ok (.aload_n 1, 1) := by decide +kernel
theorem dX1_readChain_36 : decode cX1_readChain 36 = .ok (.iload_n 2, 1) := by decide +kernel
theorem dX1_readChain_37 : decode cX1_readChain 37 = .ok (.invokestatic 64, 3) := by decide +kernel
theorem dX1_readChain_40 : decode cX1_readChain 40 = .ok (.goto 4, 3) := by decide +kernel
theorem dX1_readChain_43 : decode cX1_readChain 43 = .ok (.iconst (-1), 1) := by decide +kernel
theorem dX1_readChain_44 : decode cX1_readChain 44 = .ok (.istore 4, 2) := by decide +kernel
theorem dX1_readChain_46 : decode cX1_readChain 46 = .ok (.iconst 0, 1) := by decide +kernel
theorem dX1_readChain_47 : decode cX1_readChain 47 = .ok (.istore 5, 2) := by decide +kernel
theorem dX1_readChain_49 : decode cX1_readChain 49 = .ok (.iload 5, 2) := by decide +kernel
theorem dX1_readChain_51 : decode cX1_readChain 51 = .ok (.sipush 160, 3) := by decide +kernel
theorem dX1_readChain_54 : decode cX1_readChain 54 = .ok (.if_icmp .ge 60, 3) := by decide +kernel
theorem dX1_readChain_57 : decode cX1_readChain 57 = .ok (.iload 4, 2) := by decide +kernel
theorem dX1_readChain_59 : decode cX1_readChain 59 = .ok (.iconst (-1), 1) := by decide +kernel
theorem dX1_readChain_60 : decode cX1_readChain 60 = .ok (.if_icmp .eq 54, 3) := by decide +kernel
theorem dX1_readChain_63 : decode cX1_readChain 63 = .ok (.aload_n 1, 1) := by decide +kernel
theorem dX1_readChain_64 : decode cX1_readChain 64 = .ok (.invokevirtual 42, 3) := by decide +kernel
theorem dX1_readChain_67 : decode cX1_readChain 67 = .ok (.aload_n 0, 1) := by decide +kernel
theorem dX1_readChain_68 : decode cX1_readChain 68 = .ok (.aload_n 1, 1) := by decide +kernel
theorem dX1_readChain_69 : decode cX1_readChain 69 = .ok (.iload_n 2, 1) := by decide +kernel
theorem dX1_readChain_70 : decode cX1_readChain 70 = .ok (.iconst 1, 1) := by decide +kernel
theorem dX1_readChain_71 : decode cX1_readChain 71 = .ok (.iadd, 1) := by decide +kernel
theorem dX1_readChain_72 : decode cX1_readChain 72 = .ok (.invokevirtual 45, 3) := by decide +kernel
theorem dX1_readChain_75 : decode cX1_readChain 75 = .ok (.ifCond .eq 16, 3) := by decide +kernel
theorem dX1_readChain_78 : decode cX1_readChain 78 = .ok (.aload_n 0, 1) := by decide +kernel
theorem dX1_readChain_79 : decode cX1_readChain 79 = .ok (.iload 4, 2) := by decide +kernel
theorem dX1_readChain_81 : decode cX1_readChain 81 = .ok (.invokevirtual 68, 3) := by decide +kernel
theorem dX1_readChain_84 : decode cX1_readChain 84 = .ok (.ifCond .eq 7, 3) := by decide +kernel
theorem dX1_readChain_87 : decode cX1_readChain 87 = .ok (.iconst 1, 1) := by decide +kernel
theorem dX1_readChain_88 : decode cX1_readChain 88 = .ok (.goto 4, 3) := by decide +kernel
theorem dX1_readChain_91 : decode cX1_readChain 91 = .ok (.iconst 0, 1) := by decide +kernel
theorem dX1_readChain_92 : decode cX1_readChain 92 = .ok (.istore_n 3, 1) := by decide +kernel
theorem dX1_readChain_93 : decode cX1_readChain 93 = .ok (.iload_n 3, 1) := by decide +kernel
theorem dX1_readChain_94 : decode cX1_readChain 94 = .ok (.ifCond .eq 11, 3) := by decide +kernel
theorem dX1_readChain_97 : decode cX1_readChain 97 = .ok (.aload_n 1, 1) := by decide +kernel
theorem dX1_readChain_98 : decode cX1_readChain 98 = .ok (.iload_n 2, 1) := by decide +kernel
theorem dX1_readChain_99 : decode cX1_readChain 99 = .ok (.invokestatic 64, 3) := by decide +kernel
theorem dX1_readChain_102 : decode cX1_readChain 102 = .ok (.goto 4, 3) := by decide +kernel
theorem dX1_readChain_105 : decode cX1_readChain 105 = .ok (.iconst (-1), 1) := by decide +kernel
theorem dX1_readChain_106 : decode cX1_readChain 106 = .ok (.istore 4, 2) := by decide +kernel
theorem dX1_readChain_108 : decode cX1_readChain 108 = .ok (.iinc 5 1, 3) := by decide +kernel
theorem dX1_readChain_111 : decode cX1_readChain 111 = .ok (.goto (-62), 3) := by decide +kernel
theorem dX1_readChain_114 : decode cX1_readChain 114 = .ok (.iload_n 3, 1) := by decide +kernel
theorem dX1_readChain_115 : decode cX1_readChain 115 = .ok (.ireturn, 1) := by decide +kernel
theorem dX1_signOf_0 : decode cX1_signOf 0 = .ok (.iload_n 1, 1) := by decide +kernel
theorem dX1_signOf_1 : decode cX1_signOf 1 = .ok (.tableswitch 129 0 3 #[31, 48, 65, 97], 31) := by decide +kernel
theorem dX1_signOf_32 : decode cX1_signOf 32 = .ok (.aload_n 0, 1) := by decide +kernel
theorem dX1_signOf_33 : decode cX1_signOf 33 = .ok (.ldc 72, 2) := by decide +kernel
theorem dX1_signOf_35 : decode cX1_signOf 35 = .ok (.invokevirtual 35, 3) := by decide +kernel
theorem dX1_signOf_38 : decode cX1_signOf 38 = .ok (.ifCond .ne 9, 3) := by decide +kernel
theorem dX1_signOf_41 : decode cX1_signOf 41 = .ok (.sipush 20000, 3) := by decide +kernel
theorem dX1_signOf_44 : decode cX1_signOf 44 = .ok (.goto 4, 3) := by decide +kernel
theorem dX1_signOf_47 : decode cX1_signOf 47 = .ok (.iconst (-1), 1) := by decide +kernel
theorem dX1_signOf_48 : decode cX1_signOf 48 = .ok (.ireturn, 1) := by decide +kernel
theorem dX1_signOf_49 : decode cX1_signOf 49 = .ok (.aload_n 0, 1) := by decide +kernel
theorem dX1_signOf_50 : decode cX1_signOf 50 = .ok (.ldc 74, 2) := by decide +kernel
theorem dX1_signOf_52 : decode cX1_signOf 52 = .ok (.invokevirtual 35, 3) := by decide +kernel
theorem dX1_signOf_55 : decode cX1_signOf 55 = .ok (.ifCond .ne 9, 3) := by decide +kernel
theorem dX1_signOf_58 : decode cX1_signOf 58 = .ok (.sipush 20001, 3) := by decide +kernel
theorem dX1_signOf_61 : decode cX1_signOf 61 = .ok (.goto 4, 3) := by decide +kernel
theorem dX1_signOf_64 : decode cX1_signOf 64 = .ok (.iconst (-1), 1) := by decide +kernel
theorem dX1_signOf_65 : decode cX1_signOf 65 = .ok (.ireturn, 1) := by decide +kernel
theorem dX1_signOf_66 : decode cX1_signOf 66 = .ok (.aload_n 0, 1) := by decide +kernel
theorem dX1_signOf_67 : decode cX1_signOf 67 = .ok (.bipush 60, 2) := by decide +kernel
theorem dX1_signOf_69 : decode cX1_signOf 69 = .ok (.invokevirtual 76, 3) := by decide +kernel
theorem dX1_signOf_72 : decode cX1_signOf 72 = .ok (.ifCond .eq 9, 3) := by decide +kernel
theorem dX1_signOf_75 : decode cX1_signOf 75 = .ok (.sipush 20003, 3) := by decide +kernel
theorem dX1_signOf_78 : decode cX1_signOf 78 = .ok (.goto 19, 3) := by decide +kernel
theorem dX1_signOf_81 : decode cX1_signOf 81 = .ok (.aload_n 0, 1) := by decide +kernel
theorem dX1_signOf_82 : decode cX1_signOf 82 = .ok (.bipush 61, 2) := by decide +kernel
theorem dX1_signOf_84 : decode cX1_signOf 84 = .ok (.invokevirtual 76, 3) := by decide +kernel
theorem dX1_signOf_87 : decode cX1_signOf 87 = .ok (.ifCond .eq 9, 3) := by decide +kernel
theorem dX1_signOf_90 : decode cX1_signOf 90 = .ok (.sipush 20004, 3) := by decide +kernel
theorem dX1_signOf_93 : decode cX1_signOf 93 = .ok (.goto 4, 3) := by decide +kernel
theorem dX1_signOf_96 : decode cX1_signOf 96 = .ok (.iconst (-1), 1) := by decide +kernel
theorem dX1_signOf_97 : decode cX1_signOf 97 = .ok (.ireturn, 1) := by decide +kernel
theorem dX1_signOf_98 : decode cX1_signOf 98 = .ok (.aload_n 0, 1) := by decide +kernel
theorem dX1_signOf_99 : decode cX1_signOf 99 = .ok (.bipush 43, 2) := by decide +kernel
theorem dX1_signOf_101 : decode cX1_signOf 101 = .ok (.invokevirtual 76, 3) := by decide +kernel
theorem dX1_signOf_104 : decode cX1_signOf 104 = .ok (.ifCond .eq 9, 3) := by decide +kernel
theorem dX1_signOf_107 : decode cX1_signOf 107 = .ok (.sipush 20005, 3) := by decide +kernel
theorem dX1_signOf_110 : decode cX1_signOf 110 = .ok (.goto 19, 3) := by decide +kernel
theorem dX1_signOf_113 : decode cX1_signOf 113 = .ok (.aload_n 0, 1) := by decide +kernel
theorem dX1_signOf_114 : decode cX1_signOf 114 = .ok (.bipush 45, 2) := by decide +kernel
theorem dX1_signOf_116 : decode cX1_signOf 116 = .ok (.invokevirtual 76, 3) := by decide +kernel
theorem dX1_signOf_119 : decode cX1_signOf 119 = .ok (.ifCond .eq 9, 3) := by decide +kernel
theorem dX1_signOf_122 : decode cX1_signOf 122 = .ok (.sipush 20006, 3) := by decide +kernel
theorem dX1_signOf_125 : decode cX1_signOf 125 = .ok (.goto 4, 3) := by decide +kernel
theorem dX1_signOf_128 : decode cX1_signOf 128 = .ok (.iconst (-1), 1) := by decide +kernel
theorem dX1_signOf_129 : decode cX1_signOf 129 = .ok (.ireturn, 1) := by decide +kernel
theorem dX1_signOf_130 : decode cX1_signOf 130 = .ok (.aload_n 0, 1) := by decide +kernel
theorem dX1_signOf_131 : decode cX1_signOf 131 = .ok (.bipush 42, 2) := by decide +kernel
theorem dX1_signOf_133 : decode cX1_signOf 133 = .ok (.invokevirtual 76, 3) := by decide +kernel
theorem dX1_signOf_136 : decode cX1_signOf 136 = .ok (.ifCond .eq 9, 3) := by decide +kernel
theorem dX1_signOf_139 : decode cX1_signOf 139 = .ok (.sipush 20007, 3) := by decide +kernel
theorem dX1_signOf_142 : decode cX1_signOf 142 = .ok (.goto 4, 3) := by decide +kernel
theorem dX1_signOf_145 : decode cX1_signOf 145 = .ok (.iconst (-1), 1) := by decide +kernel
theorem dX1_signOf_146 : decode cX1_signOf 146 = .ok (.ireturn, 1) := by decide +kernel
theorem dX1_readCompared_0 : decode cX1_readCompared 0 = .ok (.aload_n 1, 1) := by decide +kernel
theorem dX1_readCompared_1 : decode cX1_readCompared 1 = .ok (.ldc 79, 2) := by decide +kernel
theorem dX1_readCompared_3 : decode cX1_readCompared 3 = .ok (.invokevirtual 35, 3) := by decide +kernel
theorem dX1_readCompared_6 : decode cX1_readCompared 6 = .ok (.ifCond .ne 42, 3) := by decide +kernel
theorem dX1_readCompared_9 : decode cX1_readCompared 9 = .ok (.aload_n 0, 1) := by decide +kernel
theorem dX1_readCompared_10 : decode cX1_readCompared 10 = .ok (.aload_n 1, 1) := by decide +kernel
theorem dX1_readCompared_11 : decode cX1_readCompared 11 = .ok (.invokevirtual 81, 3) := by decide +kernel
theorem dX1_readCompared_14 : decode cX1_readCompared 14 = .ok (.ifCond .eq 32, 3) := by decide +kernel
theorem dX1_readCompared_17 : decode cX1_readCompared 17 = .ok (.aload_n 0, 1) := by decide +kernel
theorem dX1_readCompared_18 : decode cX1_readCompared 18 = .ok (.aload_n 1, 1) := by decide +kernel
theorem dX1_readCompared_19 : decode cX1_readCompared 19 = .ok (.invokevirtual 57, 3) := by decide +kernel
theorem dX1_readCompared_22 : decode cX1_readCompared 22 = .ok (.ifCond .eq 24, 3) := by decide +kernel
theorem dX1_readCompared_25 : decode cX1_readCompared 25 = .ok (.aload_n 0, 1) := by decide +kernel
theorem dX1_readCompared_26 : decode cX1_readCompared 26 = .ok (.invokevirtual 84, 3) := by decide +kernel
theorem dX1_readCompared_29 : decode cX1_readCompared 29 = .ok (.ifCond .eq 17, 3) := by decide +kernel
theorem dX1_readCompared_32 : decode cX1_readCompared 32 = .ok (.aload_n 0, 1) := by decide +kernel
theorem dX1_readCompared_33 : decode cX1_readCompared 33 = .ok (.sipush 20002, 3) := by decide +kernel
theorem dX1_readCompared_36 : decode cX1_readCompared 36 = .ok (.invokevirtual 68, 3) := by decide +kernel
theorem dX1_readCompared_39 : decode cX1_readCompared 39 = .ok (.ifCond .eq 7, 3) := by decide +kernel
theorem dX1_readCompared_42 : decode cX1_readCompared 42 = .ok (.iconst 1, 1) := by decide +kernel
theorem dX1_readCompared_43 : decode cX1_readCompared 43 = .ok (.goto 4, 3) := by decide +kernel
theorem dX1_readCompared_46 : decode cX1_readCompared 46 = .ok (.iconst 0, 1) := by decide +kernel
theorem dX1_readCompared_47 : decode cX1_readCompared 47 = .ok (.ireturn, 1) := by decide +kernel
theorem dX1_readCompared_48 : decode cX1_readCompared 48 = .ok (.aload_n 0, 1) := by decide +kernel
theorem dX1_readCompared_49 : decode cX1_readCompared 49 = .ok (.aload_n 1, 1) := by decide +kernel
theorem dX1_readCompared_50 : decode cX1_readCompared 50 = .ok (.iconst 3, 1) := by decide +kernel
theorem dX1_readCompared_51 : decode cX1_readCompared 51 = .ok (.invokevirtual 45, 3) := by decide +kernel
theorem dX1_readCompared_54 : decode cX1_readCompared 54 = .ok (.ifCond .ne 5, 3) := by decide +kernel
theorem dX1_readCompared_57 : decode cX1_readCompared 57 = .ok (.iconst 0, 1) := by decide +kernel
theorem dX1_readCompared_58 : decode cX1_readCompared 58 = .ok (.ireturn, 1) := by decide +kernel
theorem dX1_readCompared_59 : decode cX1_readCompared 59 = .ok (.aload_n 1, 1) := by decide +kernel
theorem dX1_readCompared_60 : decode cX1_readCompared 60 = .ok (.iconst 2, 1) := by decide +kernel
theorem dX1_readCompared_61 : decode cX1_readCompared 61 = .ok (.invokestatic 64, 3) := by decide +kernel
theorem dX1_readCompared_64 : decode cX1_readCompared 64 = .ok (.istore_n 2, 1) := by decide +kernel
theorem dX1_readCompared_65 : decode cX1_readCompared 65 = .ok (.iload_n 2, 1) := by decide +kernel
theorem dX1_readCompared_66 : decode cX1_readCompared 66 = .ok (.iconst (-1), 1) := by decide +kernel
theorem dX1_readCompared_67 : decode cX1_readCompared 67 = .ok (.if_icmp .ne 5, 3) := by decide +kernel
theorem dX1_readCompared_70 : decode cX1_readCompared 70 = .ok (.iconst 1, 1) := by decide +kernel
theorem dX1_readCompared_71 : decode cX1_readCompared 71 = .ok (.ireturn, 1) := by decide +kernel
theorem dX1_readCompared_72 : decode cX1_readCompared 72 = .ok (.aload_n 1, 1) := by decide +kernel
theorem dX1_readCompared_73 : decode cX1_readCompared 73 = .ok (.invokevirtual 42, 3) := by decide +kernel
theorem dX1_readCompared_76 : decode cX1_readCompared 76 = .ok (.aload_n 0, 1) := by decide +kernel
theorem dX1_readCompared_77 : decode cX1_readCompared 77 = .ok (.aload_n 1, 1) := by decide +kernel
theorem dX1_readCompared_78 : decode cX1_readCompared 78 = .ok (.iconst 3, 1) := by decide +kernel
theorem dX1_readCompared_79 : decode cX1_readCompared 79 = .ok (.invokevirtual 45, 3) := by decide +kernel
theorem dX1_readCompared_82 : decode cX1_readCompared 82 = .ok (.ifCond .eq 15, 3) := by decide +kernel
theorem dX1_readCompared_85 : decode cX1_readCompared 85 = .ok (.aload_n 0, 1) := by decide +kernel
theorem dX1_readCompared_86 : decode cX1_readCompared 86 = .ok (.iload_n 2, 1) := by decide +kernel
theorem dX1_readCompared_87 : decode cX1_readCompared 87 = .ok (.invokevirtual 68, 3) := by decide +kernel
theorem dX1_readCompared_90 : decode cX1_readCompared 90 = .ok (.ifCond .eq 7, 3) := by decide +kernel
theorem dX1_readCompared_93 : decode cX1_readCompared 93 = .ok (.iconst 1, 1) := by decide +kernel
theorem dX1_readCompared_94 : decode cX1_readCompared 94 = .ok (.goto 4, 3) := by decide +kernel
theorem dX1_readCompared_97 : decode cX1_readCompared 97 = .ok (.iconst 0, 1) := by decide +kernel
theorem dX1_readCompared_98 : decode cX1_readCompared 98 = .ok (.ireturn, 1) := by decide +kernel
theorem dX1_readOne_0 : decode cX1_readOne 0 = .ok (.aload_n 1, 1) := by decide +kernel
theorem dX1_readOne_1 : decode cX1_readOne 1 = .ok (.bipush 45, 2) := by decide +kernel
theorem dX1_readOne_3 : decode cX1_readOne 3 = .ok (.invokevirtual 76, 3) := by decide +kernel
theorem dX1_readOne_6 : decode cX1_readOne 6 = .ok (.ifCond .eq 42, 3) := by decide +kernel
theorem dX1_readOne_9 : decode cX1_readOne 9 = .ok (.aload_n 0, 1) := by decide +kernel
theorem dX1_readOne_10 : decode cX1_readOne 10 = .ok (.aload_n 1, 1) := by decide +kernel
theorem dX1_readOne_11 : decode cX1_readOne 11 = .ok (.invokevirtual 81, 3) := by decide +kernel
theorem dX1_readOne_14 : decode cX1_readOne 14 = .ok (.ifCond .eq 32, 3) := by decide +kernel
theorem dX1_readOne_17 : decode cX1_readOne 17 = .ok (.aload_n 0, 1) := by decide +kernel
theorem dX1_readOne_18 : decode cX1_readOne 18 = .ok (.aload_n 1, 1) := by decide +kernel
theorem dX1_readOne_19 : decode cX1_readOne 19 = .ok (.invokevirtual 61, 3) := by decide +kernel
theorem dX1_readOne_22 : decode cX1_readOne 22 = .ok (.ifCond .eq 24, 3) := by decide +kernel
theorem dX1_readOne_25 : decode cX1_readOne 25 = .ok (.aload_n 0, 1) := by decide +kernel
theorem dX1_readOne_26 : decode cX1_readOne 26 = .ok (.invokevirtual 84, 3) := by decide +kernel
theorem dX1_readOne_29 : decode cX1_readOne 29 = .ok (.ifCond .eq 17, 3) := by decide +kernel
theorem dX1_readOne_32 : decode cX1_readOne 32 = .ok (.aload_n 0, 1) := by decide +kernel
theorem dX1_readOne_33 : decode cX1_readOne 33 = .ok (.sipush 20008, 3) := by decide +kernel
theorem dX1_readOne_36 : decode cX1_readOne 36 = .ok (.invokevirtual 68, 3) := by decide +kernel
theorem dX1_readOne_39 : decode cX1_readOne 39 = .ok (.ifCond .eq 7, 3) := by decide +kernel
theorem dX1_readOne_42 : decode cX1_readOne 42 = .ok (.iconst 1, 1) := by decide +kernel
theorem dX1_readOne_43 : decode cX1_readOne 43 = .ok (.goto 4, 3) := by decide +kernel
theorem dX1_readOne_46 : decode cX1_readOne 46 = .ok (.iconst 0, 1) := by decide +kernel
theorem dX1_readOne_47 : decode cX1_readOne 47 = .ok (.ireturn, 1) := by decide +kernel
theorem dX1_readOne_48 : decode cX1_readOne 48 = .ok (.aload_n 1, 1) := by decide +kernel
theorem dX1_readOne_49 : decode cX1_readOne 49 = .ok (.bipush 40, 2) := by decide +kernel
theorem dX1_readOne_51 : decode cX1_readOne 51 = .ok (.invokevirtual 76, 3) := by decide +kernel
theorem dX1_readOne_54 : decode cX1_readOne 54 = .ok (.ifCond .eq 42, 3) := by decide +kernel
theorem dX1_readOne_57 : decode cX1_readOne 57 = .ok (.aload_n 0, 1) := by decide +kernel
theorem dX1_readOne_58 : decode cX1_readOne 58 = .ok (.aload_n 1, 1) := by decide +kernel
theorem dX1_readOne_59 : decode cX1_readOne 59 = .ok (.invokevirtual 81, 3) := by decide +kernel
theorem dX1_readOne_62 : decode cX1_readOne 62 = .ok (.ifCond .eq 32, 3) := by decide +kernel
theorem dX1_readOne_65 : decode cX1_readOne 65 = .ok (.aload_n 0, 1) := by decide +kernel
theorem dX1_readOne_66 : decode cX1_readOne 66 = .ok (.aload_n 1, 1) := by decide +kernel
theorem dX1_readOne_67 : decode cX1_readOne 67 = .ok (.iconst 0, 1) := by decide +kernel
theorem dX1_readOne_68 : decode cX1_readOne 68 = .ok (.invokevirtual 45, 3) := by decide +kernel
theorem dX1_readOne_71 : decode cX1_readOne 71 = .ok (.ifCond .eq 23, 3) := by decide +kernel
theorem dX1_readOne_74 : decode cX1_readOne 74 = .ok (.aload_n 1, 1) := by decide +kernel
theorem dX1_readOne_75 : decode cX1_readOne 75 = .ok (.bipush 41, 2) := by decide +kernel
theorem dX1_readOne_77 : decode cX1_readOne 77 = .ok (.invokevirtual 49, 3) := by decide +kernel
theorem dX1_readOne_80 : decode cX1_readOne 80 = .ok (.ifCond .eq 14, 3) := by decide +kernel
theorem dX1_readOne_83 : decode cX1_readOne 83 = .ok (.aload_n 0, 1) := by decide +kernel
theorem dX1_readOne_84 : decode cX1_readOne 84 = .ok (.invokevirtual 84, 3) := by decide +kernel
theorem dX1_readOne_87 : decode cX1_readOne 87 = .ok (.ifCond .eq 7, 3) := by decide +kernel
theorem dX1_readOne_90 : decode cX1_readOne 90 = .ok (.iconst 1, 1) := by decide +kernel
theorem dX1_readOne_91 : decode cX1_readOne 91 = .ok (.goto 4, 3) := by decide +kernel
theorem dX1_readOne_94 : decode cX1_readOne 94 = .ok (.iconst 0, 1) := by decide +kernel
theorem dX1_readOne_95 : decode cX1_readOne 95 = .ok (.ireturn, 1) := by decide +kernel
theorem dX1_readOne_96 : decode cX1_readOne 96 = .ok (.aload_n 1, 1) := by decide +kernel
theorem dX1_readOne_97 : decode cX1_readOne 97 = .ok (.ldc 87, 2) := by decide +kernel
theorem dX1_readOne_99 : decode cX1_readOne 99 = .ok (.invokevirtual 35, 3) := by decide +kernel
theorem dX1_readOne_102 : decode cX1_readOne 102 = .ok (.istore_n 2, 1) := by decide +kernel
theorem dX1_readOne_103 : decode cX1_readOne 103 = .ok (.iload_n 2, 1) := by decide +kernel
theorem dX1_readOne_104 : decode cX1_readOne 104 = .ok (.iconst (-1), 1) := by decide +kernel
theorem dX1_readOne_105 : decode cX1_readOne 105 = .ok (.if_icmp .ne 12, 3) := by decide +kernel
theorem dX1_readOne_108 : decode cX1_readOne 108 = .ok (.aload_n 1, 1) := by decide +kernel
theorem dX1_readOne_109 : decode cX1_readOne 109 = .ok (.invokevirtual 89, 3) := by decide +kernel
theorem dX1_readOne_112 : decode cX1_readOne 112 = .ok (.ifCond .ne 5, 3) := by decide +kernel
theorem dX1_readOne_115 : decode cX1_readOne 115 = .ok (.iconst 0, 1) := by decide +kernel
theorem dX1_readOne_116 : decode cX1_readOne 116 = .ok (.ireturn, 1) := by decide +kernel
theorem dX1_readOne_117 : decode cX1_readOne 117 = .ok (.aload_n 0, 1) := by decide +kernel
theorem dX1_readOne_118 : decode cX1_readOne 118 = .ok (.iload_n 2, 1) := by decide +kernel
theorem dX1_readOne_119 : decode cX1_readOne 119 = .ok (.iconst (-1), 1) := by decide +kernel
theorem dX1_readOne_120 : decode cX1_readOne 120 = .ok (.if_icmp .ne 10, 3) := by decide +kernel
theorem dX1_readOne_123 : decode cX1_readOne 123 = .ok (.aload_n 1, 1) := by decide +kernel
theorem dX1_readOne_124 : decode cX1_readOne 124 = .ok (.getfield 92, 3) := by decide +kernel
theorem dX1_readOne_127 : decode cX1_readOne 127 = .ok (.goto 8, 3) := by decide +kernel
theorem dX1_readOne_130 : decode cX1_readOne 130 = .ok (.sipush 10000, 3) := by decide +kernel
theorem dX1_readOne_133 : decode cX1_readOne 133 = .ok (.iload_n 2, 1) := by decide +kernel
theorem dX1_readOne_134 : decode cX1_readOne 134 = .ok (.iadd, 1) := by decide +kernel
theorem dX1_readOne_135 : decode cX1_readOne 135 = .ok (.invokevirtual 68, 3) := by decide +kernel
theorem dX1_readOne_138 : decode cX1_readOne 138 = .ok (.istore_n 3, 1) := by decide +kernel
theorem dX1_readOne_139 : decode cX1_readOne 139 = .ok (.aload_n 1, 1) := by decide +kernel
theorem dX1_readOne_140 : decode cX1_readOne 140 = .ok (.invokevirtual 42, 3) := by decide +kernel
theorem dX1_readOne_143 : decode cX1_readOne 143 = .ok (.iload_n 3, 1) := by decide +kernel
theorem dX1_readOne_144 : decode cX1_readOne 144 = .ok (.ireturn, 1) := by decide +kernel
theorem dX1_opens_0 : decode cX1_opens 0 = .ok (.aload_n 0, 1) := by decide +kernel
theorem dX1_opens_1 : decode cX1_opens 1 = .ok (.getfield 25, 3) := by decide +kernel
theorem dX1_opens_4 : decode cX1_opens 4 = .ok (.iconst 5, 1) := by decide +kernel
theorem dX1_opens_5 : decode cX1_opens 5 = .ok (.if_icmp .lt 5, 3) := by decide +kernel
theorem dX1_opens_8 : decode cX1_opens 8 = .ok (.iconst 0, 1) := by decide +kernel
theorem dX1_opens_9 : decode cX1_opens 9 = .ok (.ireturn, 1) := by decide +kernel
theorem dX1_opens_10 : decode cX1_opens 10 = .ok (.aload_n 0, 1) := by decide +kernel
theorem dX1_opens_11 : decode cX1_opens 11 = .ok (.dup, 1) := by decide +kernel
theorem dX1_opens_12 : decode cX1_opens 12 = .ok (.getfield 25, 3) := by decide +kernel
theorem dX1_opens_15 : decode cX1_opens 15 = .ok (.iconst 1, 1) := by decide +kernel
theorem dX1_opens_16 : decode cX1_opens 16 = .ok (.iadd, 1) := by decide +kernel
theorem dX1_opens_17 : decode cX1_opens 17 = .ok (.putfield 25, 3) := by decide +kernel
theorem dX1_opens_20 : decode cX1_opens 20 = .ok (.aload_n 1, 1) := by decide +kernel
theorem dX1_opens_21 : decode cX1_opens 21 = .ok (.invokevirtual 42, 3) := by decide +kernel
theorem dX1_opens_24 : decode cX1_opens 24 = .ok (.iconst 1, 1) := by decide +kernel
theorem dX1_opens_25 : decode cX1_opens 25 = .ok (.ireturn, 1) := by decide +kernel
theorem dX1_closes_0 : decode cX1_closes 0 = .ok (.aload_n 0, 1) := by decide +kernel
theorem dX1_closes_1 : decode cX1_closes 1 = .ok (.dup, 1) := by decide +kernel
theorem dX1_closes_2 : decode cX1_closes 2 = .ok (.getfield 25, 3) := by decide +kernel
theorem dX1_closes_5 : decode cX1_closes 5 = .ok (.iconst 1, 1) := by decide +kernel
theorem dX1_closes_6 : decode cX1_closes 6 = .ok (.isub, 1) := by decide +kernel
theorem dX1_closes_7 : decode cX1_closes 7 = .ok (.putfield 25, 3) := by decide +kernel
theorem dX1_closes_10 : decode cX1_closes 10 = .ok (.iconst 1, 1) := by decide +kernel
theorem dX1_closes_11 : decode cX1_closes 11 = .ok (.ireturn, 1) := by decide +kernel
theorem dX1_write_0 : decode cX1_write 0 = .ok (.aload_n 0, 1) := by decide +kernel
theorem dX1_write_1 : decode cX1_write 1 = .ok (.getfield 21, 3) := by decide +kernel
theorem dX1_write_4 : decode cX1_write 4 = .ok (.aload_n 0, 1) := by decide +kernel
theorem dX1_write_5 : decode cX1_write 5 = .ok (.getfield 9, 3) := by decide +kernel
theorem dX1_write_8 : decode cX1_write 8 = .ok (.arraylength, 1) := by decide +kernel
theorem dX1_write_9 : decode cX1_write 9 = .ok (.if_icmp .lt 5, 3) := by decide +kernel
theorem dX1_write_12 : decode cX1_write 12 = .ok (.iconst 0, 1) := by decide +kernel
theorem dX1_write_13 : decode cX1_write 13 = .ok (.ireturn, 1) := by decide +kernel
theorem dX1_write_14 : decode cX1_write 14 = .ok (.aload_n 0, 1) := by decide +kernel
theorem dX1_write_15 : decode cX1_write 15 = .ok (.getfield 9, 3) := by decide +kernel
theorem dX1_write_18 : decode cX1_write 18 = .ok (.aload_n 0, 1) := by decide +kernel
theorem dX1_write_19 : decode cX1_write 19 = .ok (.getfield 21, 3) := by decide +kernel
theorem dX1_write_22 : decode cX1_write 22 = .ok (.iload_n 1, 1) := by decide +kernel
theorem dX1_write_23 : decode cX1_write 23 = .ok (.iastore, 1) := by decide +kernel
theorem dX1_write_24 : decode cX1_write 24 = .ok (.aload_n 0, 1) := by decide +kernel
theorem dX1_write_25 : decode cX1_write 25 = .ok (.dup, 1) := by decide +kernel
theorem dX1_write_26 : decode cX1_write 26 = .ok (.getfield 21, 3) := by decide +kernel
theorem dX1_write_29 : decode cX1_write 29 = .ok (.iconst 1, 1) := by decide +kernel
theorem dX1_write_30 : decode cX1_write 30 = .ok (.iadd, 1) := by decide +kernel
theorem dX1_write_31 : decode cX1_write 31 = .ok (.putfield 21, 3) := by decide +kernel
theorem dX1_write_34 : decode cX1_write 34 = .ok (.iconst 1, 1) := by decide +kernel
theorem dX1_write_35 : decode cX1_write 35 = .ok (.ireturn, 1) := by decide +kernel
theorem dX1_value_0 : decode cX1_value 0 = .ok (.iconst 0, 1) := by decide +kernel
theorem dX1_value_1 : decode cX1_value 1 = .ok (.istore 4, 2) := by decide +kernel
theorem dX1_value_3 : decode cX1_value 3 = .ok (.aload_n 0, 1) := by decide +kernel
theorem dX1_value_4 : decode cX1_value 4 = .ok (.getfield 15, 3) := by decide +kernel
theorem dX1_value_7 : decode cX1_value 7 = .ok (.iload_n 1, 1) := by decide +kernel
theorem dX1_value_8 : decode cX1_value 8 = .ok (.iaload, 1) := by decide +kernel
theorem dX1_value_9 : decode cX1_value 9 = .ok (.istore 5, 2) := by decide +kernel
theorem dX1_value_11 : decode cX1_value 11 = .ok (.iload 5, 2) := by decide +kernel
theorem dX1_value_13 : decode cX1_value 13 = .ok (.aload_n 0, 1) := by decide +kernel
theorem dX1_value_14 : decode cX1_value 14 = .ok (.getfield 15, 3) := by decide +kernel
theorem dX1_value_17 : decode cX1_value 17 = .ok (.iload_n 1, 1) := by decide +kernel
theorem dX1_value_18 : decode cX1_value 18 = .ok (.iconst 1, 1) := by decide +kernel
theorem dX1_value_19 : decode cX1_value 19 = .ok (.iadd, 1) := by decide +kernel
theorem dX1_value_20 : decode cX1_value 20 = .ok (.iaload, 1) := by decide +kernel
theorem dX1_value_21 : decode cX1_value 21 = .ok (.if_icmp .ge 203, 3) := by decide +kernel
theorem dX1_value_24 : decode cX1_value 24 = .ok (.iload 5, 2) := by decide +kernel
theorem dX1_value_26 : decode cX1_value 26 = .ok (.aload_n 0, 1) := by decide +kernel
theorem dX1_value_27 : decode cX1_value 27 = .ok (.getfield 9, 3) := by decide +kernel
theorem dX1_value_30 : decode cX1_value 30 = .ok (.arraylength, 1) := by decide +kernel
theorem dX1_value_31 : decode cX1_value 31 = .ok (.if_icmp .ge 193, 3) := by decide +kernel
theorem dX1_value_34 : decode cX1_value 34 = .ok (.aload_n 0, 1) := by decide +kernel
theorem dX1_value_35 : decode cX1_value 35 = .ok (.getfield 9, 3) := by decide +kernel
theorem dX1_value_38 : decode cX1_value 38 = .ok (.iload 5, 2) := by decide +kernel
theorem dX1_value_40 : decode cX1_value 40 = .ok (.iaload, 1) := by decide +kernel
theorem dX1_value_41 : decode cX1_value 41 = .ok (.istore 6, 2) := by decide +kernel
theorem dX1_value_43 : decode cX1_value 43 = .ok (.iload 6, 2) := by decide +kernel
theorem dX1_value_45 : decode cX1_value 45 = .ok (.sipush 20002, 3) := by decide +kernel
theorem dX1_value_48 : decode cX1_value 48 = .ok (.if_icmp .eq 11, 3) := by decide +kernel
theorem dX1_value_51 : decode cX1_value 51 = .ok (.iload 6, 2) := by decide +kernel
theorem dX1_value_53 : decode cX1_value 53 = .ok (.sipush 20008, 3) := by decide +kernel
theorem dX1_value_56 : decode cX1_value 56 = .ok (.if_icmp .ne 64, 3) := by decide +kernel
theorem dX1_value_59 : decode cX1_value 59 = .ok (.iload 4, 2) := by decide +kernel
theorem dX1_value_61 : decode cX1_value 61 = .ok (.iconst 1, 1) := by decide +kernel
theorem dX1_value_62 : decode cX1_value 62 = .ok (.if_icmp .ge 5, 3) := by decide +kernel
theorem dX1_value_65 : decode cX1_value 65 = .ok (.iconst 0, 1) := by decide +kernel
theorem dX1_value_66 : decode cX1_value 66 = .ok (.ireturn, 1) := by decide +kernel
theorem dX1_value_67 : decode cX1_value 67 = .ok (.aload_n 0, 1) := by decide +kernel
theorem dX1_value_68 : decode cX1_value 68 = .ok (.getfield 18, 3) := by decide +kernel
theorem dX1_value_71 : decode cX1_value 71 = .ok (.iload 4, 2) := by decide +kernel
theorem dX1_value_73 : decode cX1_value 73 = .ok (.iconst 1, 1) := by decide +kernel
theorem dX1_value_74 : decode cX1_value 74 = .ok (.isub, 1) := by decide +kernel
theorem dX1_value_75 : decode cX1_value 75 = .ok (.iload 6, 2) := by decide +kernel
theorem dX1_value_77 : decode cX1_value 77 = .ok (.sipush 20008, 3) := by decide +kernel
theorem dX1_value_80 : decode cX1_value 80 = .ok (.if_icmp .ne 16, 3) := by decide +kernel
theorem dX1_value_83 : decode cX1_value 83 = .ok (.aload_n 0, 1) := by decide +kernel
theorem dX1_value_84 : decode cX1_value 84 = .ok (.getfield 18, 3) := by decide +kernel
theorem dX1_value_87 : decode cX1_value 87 = .ok (.iload 4, 2) := by decide +kernel
theorem dX1_value_89 : decode cX1_value 89 = .ok (.iconst 1, 1) := by decide +kernel
theorem dX1_value_90 : decode cX1_value 90 = .ok (.isub, 1) := by decide +kernel
theorem dX1_value_91 : decode cX1_value 91 = .ok (.iaload, 1) := by decide +kernel
theorem dX1_value_92 : decode cX1_value 92 = .ok (.ineg, 1) := by decide +kernel
theorem dX1_value_93 : decode cX1_value 93 = .ok (.goto 23, 3) := by decide +kernel
theorem dX1_value_96 : decode cX1_value 96 = .ok (.aload_n 0, 1) := by decide +kernel
theorem dX1_value_97 : decode cX1_value 97 = .ok (.getfield 18, 3) := by decide +kernel
theorem dX1_value_100 : decode cX1_value 100 = .ok (.iload 4, 2) := by decide +kernel
theorem dX1_value_102 : decode cX1_value 102 = .ok (.iconst 1, 1) := by decide +kernel
theorem dX1_value_103 : decode cX1_value 103 = .ok (.isub, 1) := by decide +kernel
theorem dX1_value_104 : decode cX1_value 104 = .ok (.iaload, 1) := by decide +kernel
theorem dX1_value_105 : decode cX1_value 105 = .ok (.ifCond .ne 7, 3) := by decide +kernel
theorem dX1_value_108 : decode cX1_value 108 = .ok (.iconst 1, 1) := by decide +kernel
theorem dX1_value_109 : decode cX1_value 109 = .ok (.goto 4, 3) := by decide +kernel
theorem dX1_value_112 : decode cX1_value 112 = .ok (.iconst 0, 1) := by decide +kernel
theorem dX1_value_113 : decode cX1_value 113 = .ok (.invokestatic 95, 3) := by decide +kernel
theorem dX1_value_116 : decode cX1_value 116 = .ok (.iastore, 1) := by decide +kernel
theorem dX1_value_117 : decode cX1_value 117 = .ok (.goto 101, 3) := by decide +kernel
theorem dX1_value_120 : decode cX1_value 120 = .ok (.iload 6, 2) := by decide +kernel
theorem dX1_value_122 : decode cX1_value 122 = .ok (.sipush 20000, 3) := by decide +kernel
theorem dX1_value_125 : decode cX1_value 125 = .ok (.if_icmp .lt 47, 3) := by decide +kernel
theorem dX1_value_128 : decode cX1_value 128 = .ok (.iload 4, 2) := by decide +kernel
theorem dX1_value_130 : decode cX1_value 130 = .ok (.iconst 2, 1) := by decide +kernel
theorem dX1_value_131 : decode cX1_value 131 = .ok (.if_icmp .ge 5, 3) := by decide +kernel
theorem dX1_value_134 : decode cX1_value 134 = .ok (.iconst 0, 1) := by decide +kernel
theorem dX1_value_135 : decode cX1_value 135 = .ok (.ireturn, 1) := by decide +kernel
theorem dX1_value_136 : decode cX1_value 136 = .ok (.iinc 4 (-1), 3) := by decide +kernel
theorem dX1_value_139 : decode cX1_value 139 = .ok (.aload_n 0, 1) := by decide +kernel
theorem dX1_value_140 : decode cX1_value 140 = .ok (.getfield 18, 3) := by decide +kernel
theorem dX1_value_143 : decode cX1_value 143 = .ok (.iload 4, 2) := by decide +kernel
theorem dX1_value_145 : decode cX1_value 145 = .ok (.iconst 1, 1) := by decide +kernel
theorem dX1_value_146 : decode cX1_value 146 = .ok (.isub, 1) := by decide +kernel
theorem dX1_value_147 : decode cX1_value 147 = .ok (.iload 6, 2) := by decide +kernel
theorem dX1_value_149 : decode cX1_value 149 = .ok (.aload_n 0, 1) := by decide +kernel
theorem dX1_value_150 : decode cX1_value 150 = .ok (.getfield 18, 3) := by decide +kernel
theorem dX1_value_153 : decode cX1_value 153 = .ok (.iload 4, 2) := by decide +kernel
theorem dX1_value_155 : decode cX1_value 155 = .ok (.iconst 1, 1) := by decide +kernel
theorem dX1_value_156 : decode cX1_value 156 = .ok (.isub, 1) := by decide +kernel
theorem dX1_value_157 : decode cX1_value 157 = .ok (.iaload, 1) := by decide +kernel
theorem dX1_value_158 : decode cX1_value 158 = .ok (.aload_n 0, 1) := by decide +kernel
theorem dX1_value_159 : decode cX1_value 159 = .ok (.getfield 18, 3) := by decide +kernel
theorem dX1_value_162 : decode cX1_value 162 = .ok (.iload 4, 2) := by decide +kernel
theorem dX1_value_164 : decode cX1_value 164 = .ok (.iaload, 1) := by decide +kernel
theorem dX1_value_165 : decode cX1_value 165 = .ok (.invokestatic 99, 3) := by decide +kernel
theorem dX1_value_168 : decode cX1_value 168 = .ok (.iastore, 1) := by decide +kernel
theorem dX1_value_169 : decode cX1_value 169 = .ok (.goto 49, 3) := by decide +kernel
theorem dX1_value_172 : decode cX1_value 172 = .ok (.iload 4, 2) := by decide +kernel
theorem dX1_value_174 : decode cX1_value 174 = .ok (.aload_n 0, 1) := by decide +kernel
theorem dX1_value_175 : decode cX1_value 175 = .ok (.getfield 18, 3) := by decide +kernel
theorem dX1_value_178 : decode cX1_value 178 = .ok (.arraylength, 1) := by decide +kernel
theorem dX1_value_179 : decode cX1_value 179 = .ok (.if_icmp .lt 5, 3) := by decide +kernel
theorem dX1_value_182 : decode cX1_value 182 = .ok (.iconst 0, 1) := by decide +kernel
theorem dX1_value_183 : decode cX1_value 183 = .ok (.ireturn, 1) := by decide +kernel
theorem dX1_value_184 : decode cX1_value 184 = .ok (.aload_n 0, 1) := by decide +kernel
theorem dX1_value_185 : decode cX1_value 185 = .ok (.getfield 18, 3) := by decide +kernel
theorem dX1_value_188 : decode cX1_value 188 = .ok (.iload 4, 2) := by decide +kernel
theorem dX1_value_190 : decode cX1_value 190 = .ok (.iload 6, 2) := by decide +kernel
theorem dX1_value_192 : decode cX1_value 192 = .ok (.sipush 10000, 3) := by decide +kernel
theorem dX1_value_195 : decode cX1_value 195 = .ok (.if_icmp .ge 8, 3) := by decide +kernel
theorem dX1_value_198 : decode cX1_value 198 = .ok (.iload 6, 2) := by decide +kernel
theorem dX1_value_200 : decode cX1_value 200 = .ok (.goto 14, 3) := by decide +kernel
theorem dX1_value_203 : decode cX1_value 203 = .ok (.iload 6, 2) := by decide +kernel
theorem dX1_value_205 : decode cX1_value 205 = .ok (.sipush 10000, 3) := by decide +kernel
theorem dX1_value_208 : decode cX1_value 208 = .ok (.isub, 1) := by decide +kernel
theorem dX1_value_209 : decode cX1_value 209 = .ok (.aload_n 2, 1) := by decide +kernel
theorem dX1_value_210 : decode cX1_value 210 = .ok (.iload_n 3, 1) := by decide +kernel
theorem dX1_value_211 : decode cX1_value 211 = .ok (.invokestatic 103, 3) := by decide +kernel
theorem dX1_value_214 : decode cX1_value 214 = .ok (.iastore, 1) := by decide +kernel
theorem dX1_value_215 : decode cX1_value 215 = .ok (.iinc 4 1, 3) := by decide +kernel
theorem dX1_value_218 : decode cX1_value 218 = .ok (.iinc 5 1, 3) := by decide +kernel
theorem dX1_value_221 : decode cX1_value 221 = .ok (.goto (-210), 3) := by decide +kernel
theorem dX1_value_224 : decode cX1_value 224 = .ok (.iload 4, 2) := by decide +kernel
theorem dX1_value_226 : decode cX1_value 226 = .ok (.ifCond .le 12, 3) := by decide +kernel
theorem dX1_value_229 : decode cX1_value 229 = .ok (.aload_n 0, 1) := by decide +kernel
theorem dX1_value_230 : decode cX1_value 230 = .ok (.getfield 18, 3) := by decide +kernel
theorem dX1_value_233 : decode cX1_value 233 = .ok (.iconst 0, 1) := by decide +kernel
theorem dX1_value_234 : decode cX1_value 234 = .ok (.iaload, 1) := by decide +kernel
theorem dX1_value_235 : decode cX1_value 235 = .ok (.goto 4, 3) := by decide +kernel
theorem dX1_value_238 : decode cX1_value 238 = .ok (.iconst 0, 1) := by decide +kernel
theorem dX1_value_239 : decode cX1_value 239 = .ok (.ireturn, 1) := by decide +kernel
theorem dX1_joined_0 : decode cX1_joined 0 = .ok (.iload_n 0, 1) := by decide +kernel
theorem dX1_joined_1 : decode cX1_joined 1 = .ok (.tableswitch 113 20000 20006 #[43, 60, 113, 77, 91, 105, 109], 43) := by decide +kernel
theorem dX1_joined_44 : decode cX1_joined 44 = .ok (.iload_n 1, 1) := by decide +kernel
theorem dX1_joined_45 : decode cX1_joined 45 = .ok (.ifCond .ne 7, 3) := by decide +kernel
theorem dX1_joined_48 : decode cX1_joined 48 = .ok (.iload_n 2, 1) := by decide +kernel
theorem dX1_joined_49 : decode cX1_joined 49 = .ok (.ifCond .eq 7, 3) := by decide +kernel
theorem dX1_joined_52 : decode cX1_joined 52 = .ok (.iconst 1, 1) := by decide +kernel
theorem dX1_joined_53 : decode cX1_joined 53 = .ok (.goto 4, 3) := by decide +kernel
theorem dX1_joined_56 : decode cX1_joined 56 = .ok (.iconst 0, 1) := by decide +kernel
theorem dX1_joined_57 : decode cX1_joined 57 = .ok (.invokestatic 95, 3) := by decide +kernel
theorem dX1_joined_60 : decode cX1_joined 60 = .ok (.ireturn, 1) := by decide +kernel
theorem dX1_joined_61 : decode cX1_joined 61 = .ok (.iload_n 1, 1) := by decide +kernel
theorem dX1_joined_62 : decode cX1_joined 62 = .ok (.ifCond .eq 11, 3) := by decide +kernel
theorem dX1_joined_65 : decode cX1_joined 65 = .ok (.iload_n 2, 1) := by decide +kernel
theorem dX1_joined_66 : decode cX1_joined 66 = .ok (.ifCond .eq 7, 3) := by decide +kernel
theorem dX1_joined_69 : decode cX1_joined 69 = .ok (.iconst 1, 1) := by decide +kernel
theorem dX1_joined_70 : decode cX1_joined 70 = .ok (.goto 4, 3) := by decide +kernel
theorem dX1_joined_73 : decode cX1_joined 73 = .ok (.iconst 0, 1) := by decide +kernel
theorem dX1_joined_74 : decode cX1_joined 74 = .ok (.invokestatic 95, 3) := by decide +kernel
theorem dX1_joined_77 : decode cX1_joined 77 = .ok (.ireturn, 1) := by decide +kernel
theorem dX1_joined_78 : decode cX1_joined 78 = .ok (.iload_n 1, 1) := by decide +kernel
theorem dX1_joined_79 : decode cX1_joined 79 = .ok (.iload_n 2, 1) := by decide +kernel
theorem dX1_joined_80 : decode cX1_joined 80 = .ok (.if_icmp .ge 7, 3) := by decide +kernel
theorem dX1_joined_83 : decode cX1_joined 83 = .ok (.iconst 1, 1) := by decide +kernel
theorem dX1_joined_84 : decode cX1_joined 84 = .ok (.goto 4, 3) := by decide +kernel
theorem dX1_joined_87 : decode cX1_joined 87 = .ok (.iconst 0, 1) := by decide +kernel
theorem dX1_joined_88 : decode cX1_joined 88 = .ok (.invokestatic 95, 3) := by decide +kernel
theorem dX1_joined_91 : decode cX1_joined 91 = .ok (.ireturn, 1) := by decide +kernel
theorem dX1_joined_92 : decode cX1_joined 92 = .ok (.iload_n 1, 1) := by decide +kernel
theorem dX1_joined_93 : decode cX1_joined 93 = .ok (.iload_n 2, 1) := by decide +kernel
theorem dX1_joined_94 : decode cX1_joined 94 = .ok (.if_icmp .ne 7, 3) := by decide +kernel
theorem dX1_joined_97 : decode cX1_joined 97 = .ok (.iconst 1, 1) := by decide +kernel
theorem dX1_joined_98 : decode cX1_joined 98 = .ok (.goto 4, 3) := by decide +kernel
theorem dX1_joined_101 : decode cX1_joined 101 = .ok (.iconst 0, 1) := by decide +kernel
theorem dX1_joined_102 : decode cX1_joined 102 = .ok (.invokestatic 95, 3) := by decide +kernel
theorem dX1_joined_105 : decode cX1_joined 105 = .ok (.ireturn, 1) := by decide +kernel
theorem dX1_joined_106 : decode cX1_joined 106 = .ok (.iload_n 1, 1) := by decide +kernel
theorem dX1_joined_107 : decode cX1_joined 107 = .ok (.iload_n 2, 1) := by decide +kernel
theorem dX1_joined_108 : decode cX1_joined 108 = .ok (.iadd, 1) := by decide +kernel
theorem dX1_joined_109 : decode cX1_joined 109 = .ok (.ireturn, 1) := by decide +kernel
theorem dX1_joined_110 : decode cX1_joined 110 = .ok (.iload_n 1, 1) := by decide +kernel
theorem dX1_joined_111 : decode cX1_joined 111 = .ok (.iload_n 2, 1) := by decide +kernel
theorem dX1_joined_112 : decode cX1_joined 112 = .ok (.isub, 1) := by decide +kernel
theorem dX1_joined_113 : decode cX1_joined 113 = .ok (.ireturn, 1) := by decide +kernel
theorem dX1_joined_114 : decode cX1_joined 114 = .ok (.iload_n 1, 1) := by decide +kernel
theorem dX1_joined_115 : decode cX1_joined 115 = .ok (.iload_n 2, 1) := by decide +kernel
theorem dX1_joined_116 : decode cX1_joined 116 = .ok (.imul, 1) := by decide +kernel
theorem dX1_joined_117 : decode cX1_joined 117 = .ok (.ireturn, 1) := by decide +kernel
theorem dX1_truth_0 : decode cX1_truth 0 = .ok (.iload_n 0, 1) := by decide +kernel
theorem dX1_truth_1 : decode cX1_truth 1 = .ok (.ifCond .eq 7, 3) := by decide +kernel
theorem dX1_truth_4 : decode cX1_truth 4 = .ok (.iconst 1, 1) := by decide +kernel
theorem dX1_truth_5 : decode cX1_truth 5 = .ok (.goto 4, 3) := by decide +kernel
theorem dX1_truth_8 : decode cX1_truth 8 = .ok (.iconst 0, 1) := by decide +kernel
theorem dX1_truth_9 : decode cX1_truth 9 = .ok (.ireturn, 1) := by decide +kernel
theorem dX1_named_0 : decode cX1_named 0 = .ok (.iload_n 0, 1) := by decide +kernel
theorem dX1_named_1 : decode cX1_named 1 = .ok (.tableswitch 60 0 4 #[35, 37, 42, 48, 54], 35) := by decide +kernel
theorem dX1_named_36 : decode cX1_named 36 = .ok (.iload_n 2, 1) := by decide +kernel
theorem dX1_named_37 : decode cX1_named 37 = .ok (.ireturn, 1) := by decide +kernel
theorem dX1_named_38 : decode cX1_named 38 = .ok (.aload_n 1, 1) := by decide +kernel
theorem dX1_named_39 : decode cX1_named 39 = .ok (.getfield 107, 3) := by decide +kernel
theorem dX1_named_42 : decode cX1_named 42 = .ok (.ireturn, 1) := by decide +kernel
theorem dX1_named_43 : decode cX1_named 43 = .ok (.aload_n 1, 1) := by decide +kernel
theorem dX1_named_44 : decode cX1_named 44 = .ok (.iload_n 2, 1) := by decide +kernel
theorem dX1_named_45 : decode cX1_named 45 = .ok (.invokevirtual 112, 3) := by decide +kernel
theorem dX1_named_48 : decode cX1_named 48 = .ok (.ireturn, 1) := by decide +kernel
theorem dX1_named_49 : decode cX1_named 49 = .ok (.aload_n 1, 1) := by decide +kernel
theorem dX1_named_50 : decode cX1_named 50 = .ok (.getfield 116, 3) := by decide +kernel
theorem dX1_named_53 : decode cX1_named 53 = .ok (.l2i, 1) := by decide +kernel
theorem dX1_named_54 : decode cX1_named 54 = .ok (.ireturn, 1) := by decide +kernel
theorem dX1_named_55 : decode cX1_named 55 = .ok (.aload_n 1, 1) := by decide +kernel
theorem dX1_named_56 : decode cX1_named 56 = .ok (.getfield 120, 3) := by decide +kernel
theorem dX1_named_59 : decode cX1_named 59 = .ok (.l2i, 1) := by decide +kernel
theorem dX1_named_60 : decode cX1_named 60 = .ok (.ireturn, 1) := by decide +kernel
theorem dX1_named_61 : decode cX1_named 61 = .ok (.aload_n 1, 1) := by decide +kernel
theorem dX1_named_62 : decode cX1_named 62 = .ok (.getfield 123, 3) := by decide +kernel
theorem dX1_named_65 : decode cX1_named 65 = .ok (.ireturn, 1) := by decide +kernel
theorem dX2_init_0 : decode cX2_init 0 = .ok (.aload_n 0, 1) := by decide +kernel
theorem dX2_init_1 : decode cX2_init 1 = .ok (.invokespecial 3, 3) := by decide +kernel
theorem dX2_init_4 : decode cX2_init 4 = .ok (.return_, 1) := by decide +kernel
theorem dX2_open_0 : decode cX2_open 0 = .ok (.aload_n 0, 1) := by decide +kernel
theorem dX2_open_1 : decode cX2_open 1 = .ok (.iload_n 1, 1) := by decide +kernel
theorem dX2_open_2 : decode cX2_open 2 = .ok (.putfield 9, 3) := by decide +kernel
theorem dX2_open_5 : decode cX2_open 5 = .ok (.aload_n 0, 1) := by decide +kernel
theorem dX2_open_6 : decode cX2_open 6 = .ok (.iload_n 2, 1) := by decide +kernel
theorem dX2_open_7 : decode cX2_open 7 = .ok (.i2l, 1) := by decide +kernel
theorem dX2_open_8 : decode cX2_open 8 = .ok (.putfield 15, 3) := by decide +kernel
theorem dX2_open_11 : decode cX2_open 11 = .ok (.aload_n 0, 1) := by decide +kernel
theorem dX2_open_12 : decode cX2_open 12 = .ok (.iload_n 3, 1) := by decide +kernel
theorem dX2_open_13 : decode cX2_open 13 = .ok (.putfield 19, 3) := by decide +kernel
theorem dX2_open_16 : decode cX2_open 16 = .ok (.aload_n 0, 1) := by decide +kernel
theorem dX2_open_17 : decode cX2_open 17 = .ok (.iload 4, 2) := by decide +kernel
theorem dX2_open_19 : decode cX2_open 19 = .ok (.putfield 22, 3) := by decide +kernel
theorem dX2_open_22 : decode cX2_open 22 = .ok (.return_, 1) := by decide +kernel
theorem dX2_copy_0 : decode cX2_copy 0 = .ok (.aload_n 0, 1) := by decide +kernel
theorem dX2_copy_1 : decode cX2_copy 1 = .ok (.aload_n 1, 1) := by decide +kernel
theorem dX2_copy_2 : decode cX2_copy 2 = .ok (.getfield 9, 3) := by decide +kernel
theorem dX2_copy_5 : decode cX2_copy 5 = .ok (.putfield 9, 3) := by decide +kernel
theorem dX2_copy_8 : decode cX2_copy 8 = .ok (.aload_n 0, 1) := by decide +kernel
theorem dX2_copy_9 : decode cX2_copy 9 = .ok (.aload_n 1, 1) := by decide +kernel
theorem dX2_copy_10 : decode cX2_copy 10 = .ok (.getfield 15, 3) := by decide +kernel
theorem dX2_copy_13 : decode cX2_copy 13 = .ok (.putfield 15, 3) := by decide +kernel
theorem dX2_copy_16 : decode cX2_copy 16 = .ok (.aload_n 0, 1) := by decide +kernel
theorem dX2_copy_17 : decode cX2_copy 17 = .ok (.aload_n 1, 1) := by decide +kernel
theorem dX2_copy_18 : decode cX2_copy 18 = .ok (.getfield 19, 3) := by decide +kernel
theorem dX2_copy_21 : decode cX2_copy 21 = .ok (.putfield 19, 3) := by decide +kernel
theorem dX2_copy_24 : decode cX2_copy 24 = .ok (.aload_n 0, 1) := by decide +kernel
theorem dX2_copy_25 : decode cX2_copy 25 = .ok (.aload_n 1, 1) := by decide +kernel
theorem dX2_copy_26 : decode cX2_copy 26 = .ok (.getfield 22, 3) := by decide +kernel
theorem dX2_copy_29 : decode cX2_copy 29 = .ok (.putfield 22, 3) := by decide +kernel
theorem dX2_copy_32 : decode cX2_copy 32 = .ok (.aload_n 0, 1) := by decide +kernel
theorem dX2_copy_33 : decode cX2_copy 33 = .ok (.aload_n 1, 1) := by decide +kernel
theorem dX2_copy_34 : decode cX2_copy 34 = .ok (.getfield 25, 3) := by decide +kernel
theorem dX2_copy_37 : decode cX2_copy 37 = .ok (.putfield 25, 3) := by decide +kernel
theorem dX2_copy_40 : decode cX2_copy 40 = .ok (.aload_n 0, 1) := by decide +kernel
theorem dX2_copy_41 : decode cX2_copy 41 = .ok (.aload_n 1, 1) := by decide +kernel
theorem dX2_copy_42 : decode cX2_copy 42 = .ok (.getfield 28, 3) := by decide +kernel
theorem dX2_copy_45 : decode cX2_copy 45 = .ok (.putfield 28, 3) := by decide +kernel
theorem dX2_copy_48 : decode cX2_copy 48 = .ok (.aload_n 0, 1) := by decide +kernel
theorem dX2_copy_49 : decode cX2_copy 49 = .ok (.aload_n 1, 1) := by decide +kernel
theorem dX2_copy_50 : decode cX2_copy 50 = .ok (.getfield 31, 3) := by decide +kernel
theorem dX2_copy_53 : decode cX2_copy 53 = .ok (.putfield 31, 3) := by decide +kernel
theorem dX2_copy_56 : decode cX2_copy 56 = .ok (.aload_n 0, 1) := by decide +kernel
theorem dX2_copy_57 : decode cX2_copy 57 = .ok (.aload_n 1, 1) := by decide +kernel
theorem dX2_copy_58 : decode cX2_copy 58 = .ok (.getfield 34, 3) := by decide +kernel
theorem dX2_copy_61 : decode cX2_copy 61 = .ok (.putfield 34, 3) := by decide +kernel
theorem dX2_copy_64 : decode cX2_copy 64 = .ok (.return_, 1) := by decide +kernel
theorem dX2_isKind_0 : decode cX2_isKind 0 = .ok (.aload_n 0, 1) := by decide +kernel
theorem dX2_isKind_1 : decode cX2_isKind 1 = .ok (.getfield 9, 3) := by decide +kernel
theorem dX2_isKind_4 : decode cX2_isKind 4 = .ok (.istore_n 2, 1) := by decide +kernel
theorem dX2_isKind_5 : decode cX2_isKind 5 = .ok (.iconst 0, 1) := by decide +kernel
theorem dX2_isKind_6 : decode cX2_isKind 6 = .ok (.istore_n 3, 1) := by decide +kernel
theorem dX2_isKind_7 : decode cX2_isKind 7 = .ok (.iload_n 3, 1) := by decide +kernel
theorem dX2_isKind_8 : decode cX2_isKind 8 = .ok (.bipush 6, 2) := by decide +kernel
theorem dX2_isKind_10 : decode cX2_isKind 10 = .ok (.if_icmp .ge 32, 3) := by decide +kernel
theorem dX2_isKind_13 : decode cX2_isKind 13 = .ok (.iload_n 2, 1) := by decide +kernel
theorem dX2_isKind_14 : decode cX2_isKind 14 = .ok (.ifCond .lt 28, 3) := by decide +kernel
theorem dX2_isKind_17 : decode cX2_isKind 17 = .ok (.iload_n 2, 1) := by decide +kernel
theorem dX2_isKind_18 : decode cX2_isKind 18 = .ok (.bipush 6, 2) := by decide +kernel
theorem dX2_isKind_20 : decode cX2_isKind 20 = .ok (.if_icmp .ge 22, 3) := by decide +kernel
theorem dX2_isKind_23 : decode cX2_isKind 23 = .ok (.iload_n 2, 1) := by decide +kernel
theorem dX2_isKind_24 : decode cX2_isKind 24 = .ok (.iload_n 1, 1) := by decide +kernel
theorem dX2_isKind_25 : decode cX2_isKind 25 = .ok (.if_icmp .ne 5, 3) := by decide +kernel
theorem dX2_isKind_28 : decode cX2_isKind 28 = .ok (.iconst 1, 1) := by decide +kernel
theorem dX2_isKind_29 : decode cX2_isKind 29 = .ok (.ireturn, 1) := by decide +kernel
theorem dX2_isKind_30 : decode cX2_isKind 30 = .ok (.getstatic 37, 3) := by decide +kernel
theorem dX2_isKind_33 : decode cX2_isKind 33 = .ok (.iload_n 2, 1) := by decide +kernel
theorem dX2_isKind_34 : decode cX2_isKind 34 = .ok (.iaload, 1) := by decide +kernel
theorem dX2_isKind_35 : decode cX2_isKind 35 = .ok (.istore_n 2, 1) := by decide +kernel
theorem dX2_isKind_36 : decode cX2_isKind 36 = .ok (.iinc 3 1, 3) := by decide +kernel
theorem dX2_isKind_39 : decode cX2_isKind 39 = .ok (.goto (-32), 3) := by decide +kernel
theorem dX2_isKind_42 : decode cX2_isKind 42 = .ok (.iconst 0, 1) := by decide +kernel
theorem dX2_isKind_43 : decode cX2_isKind 43 = .ok (.ireturn, 1) := by decide +kernel
theorem dX2_goesOn_0 : decode cX2_goesOn 0 = .ok (.aload_n 0, 1) := by decide +kernel
theorem dX2_goesOn_1 : decode cX2_goesOn 1 = .ok (.getfield 28, 3) := by decide +kernel
theorem dX2_goesOn_4 : decode cX2_goesOn 4 = .ok (.ifCond .eq 11, 3) := by decide +kernel
theorem dX2_goesOn_7 : decode cX2_goesOn 7 = .ok (.aload_n 0, 1) := by decide +kernel
theorem dX2_goesOn_8 : decode cX2_goesOn 8 = .ok (.getfield 28, 3) := by decide +kernel
theorem dX2_goesOn_11 : decode cX2_goesOn 11 = .ok (.iconst 1, 1) := by decide +kernel
theorem dX2_goesOn_12 : decode cX2_goesOn 12 = .ok (.if_icmp .ne 7, 3) := by decide +kernel
theorem dX2_goesOn_15 : decode cX2_goesOn 15 = .ok (.iconst 1, 1) := by decide +kernel
theorem dX2_goesOn_16 : decode cX2_goesOn 16 = .ok (.goto 4, 3) := by decide +kernel
theorem dX2_goesOn_19 : decode cX2_goesOn 19 = .ok (.iconst 0, 1) := by decide +kernel
theorem dX2_goesOn_20 : decode cX2_goesOn 20 = .ok (.ireturn, 1) := by decide +kernel
theorem dX2_isPooled_0 : decode cX2_isPooled 0 = .ok (.aload_n 0, 1) := by decide +kernel
theorem dX2_isPooled_1 : decode cX2_isPooled 1 = .ok (.invokevirtual 41, 3) := by decide +kernel
theorem dX2_isPooled_4 : decode cX2_isPooled 4 = .ok (.ifCond .ne 11, 3) := by decide +kernel
theorem dX2_isPooled_7 : decode cX2_isPooled 7 = .ok (.aload_n 0, 1) := by decide +kernel
theorem dX2_isPooled_8 : decode cX2_isPooled 8 = .ok (.getfield 28, 3) := by decide +kernel
theorem dX2_isPooled_11 : decode cX2_isPooled 11 = .ok (.iconst 3, 1) := by decide +kernel
theorem dX2_isPooled_12 : decode cX2_isPooled 12 = .ok (.if_icmp .ne 7, 3) := by decide +kernel
theorem dX2_isPooled_15 : decode cX2_isPooled 15 = .ok (.iconst 1, 1) := by decide +kernel
theorem dX2_isPooled_16 : decode cX2_isPooled 16 = .ok (.goto 4, 3) := by decide +kernel
theorem dX2_isPooled_19 : decode cX2_isPooled 19 = .ok (.iconst 0, 1) := by decide +kernel
theorem dX2_isPooled_20 : decode cX2_isPooled 20 = .ok (.ireturn, 1) := by decide +kernel
theorem dX2_isSoldIn_0 : decode cX2_isSoldIn 0 = .ok (.aload_n 0, 1) := by decide +kernel
theorem dX2_isSoldIn_1 : decode cX2_isSoldIn 1 = .ok (.getfield 28, 3) := by decide +kernel
theorem dX2_isSoldIn_4 : decode cX2_isSoldIn 4 = .ok (.iconst 3, 1) := by decide +kernel
theorem dX2_isSoldIn_5 : decode cX2_isSoldIn 5 = .ok (.if_icmp .ne 17, 3) := by decide +kernel
theorem dX2_isSoldIn_8 : decode cX2_isSoldIn 8 = .ok (.iload_n 1, 1) := by decide +kernel
theorem dX2_isSoldIn_9 : decode cX2_isSoldIn 9 = .ok (.aload_n 0, 1) := by decide +kernel
theorem dX2_isSoldIn_10 : decode cX2_isSoldIn 10 = .ok (.getfield 34, 3) := by decide +kernel
theorem dX2_isSoldIn_13 : decode cX2_isSoldIn 13 = .ok (.iconst 3, 1) := by decide +kernel
theorem dX2_isSoldIn_14 : decode cX2_isSoldIn 14 = .ok (.iadd, 1) := by decide +kernel
theorem dX2_isSoldIn_15 : decode cX2_isSoldIn 15 = .ok (.if_icmp .lt 7, 3) := by decide +kernel
theorem dX2_isSoldIn_18 : decode cX2_isSoldIn 18 = .ok (.iconst 1, 1) := by decide +kernel
theorem dX2_isSoldIn_19 : decode cX2_isSoldIn 19 = .ok (.goto 4, 3) := by decide +kernel
theorem dX2_isSoldIn_22 : decode cX2_isSoldIn 22 = .ok (.iconst 0, 1) := by decide +kernel
theorem dX2_isSoldIn_23 : decode cX2_isSoldIn 23 = .ok (.ireturn, 1) := by decide +kernel
theorem dX2_left_0 : decode cX2_left 0 = .ok (.aload_n 0, 1) := by decide +kernel
theorem dX2_left_1 : decode cX2_left 1 = .ok (.getfield 22, 3) := by decide +kernel
theorem dX2_left_4 : decode cX2_left 4 = .ok (.iconst 1, 1) := by decide +kernel
theorem dX2_left_5 : decode cX2_left 5 = .ok (.iadd, 1) := by decide +kernel
theorem dX2_left_6 : decode cX2_left 6 = .ok (.iload_n 1, 1) := by decide +kernel
theorem dX2_left_7 : decode cX2_left 7 = .ok (.isub, 1) := by decide +kernel
theorem dX2_left_8 : decode cX2_left 8 = .ok (.ireturn, 1) := by decide +kernel
theorem dX2_isLast_0 : decode cX2_isLast 0 = .ok (.iload_n 1, 1) := by decide +kernel
theorem dX2_isLast_1 : decode cX2_isLast 1 = .ok (.aload_n 0, 1) := by decide +kernel
theorem dX2_isLast_2 : decode cX2_isLast 2 = .ok (.getfield 22, 3) := by decide +kernel
theorem dX2_isLast_5 : decode cX2_isLast 5 = .ok (.if_icmp .lt 7, 3) := by decide +kernel
theorem dX2_isLast_8 : decode cX2_isLast 8 = .ok (.iconst 1, 1) := by decide +kernel
theorem dX2_isLast_9 : decode cX2_isLast 9 = .ok (.goto 4, 3) := by decide +kernel
theorem dX2_isLast_12 : decode cX2_isLast 12 = .ok (.iconst 0, 1) := by decide +kernel
theorem dX2_isLast_13 : decode cX2_isLast 13 = .ok (.ireturn, 1) := by decide +kernel
theorem dX2_rests_0 : decode cX2_rests 0 = .ok (.aload_n 0, 1) := by decide +kernel
theorem dX2_rests_1 : decode cX2_rests 1 = .ok (.getfield 9, 3) := by decide +kernel
theorem dX2_rests_4 : decode cX2_rests 4 = .ok (.iconst 4, 1) := by decide +kernel
theorem dX2_rests_5 : decode cX2_rests 5 = .ok (.if_icmp .ne 22, 3) := by decide +kernel
theorem dX2_rests_8 : decode cX2_rests 8 = .ok (.iload_n 1, 1) := by decide +kernel
theorem dX2_rests_9 : decode cX2_rests 9 = .ok (.bipush 6, 2) := by decide +kernel
theorem dX2_rests_11 : decode cX2_rests 11 = .ok (.irem, 1) := by decide +kernel
theorem dX2_rests_12 : decode cX2_rests 12 = .ok (.ifCond .ne 15, 3) := by decide +kernel
theorem dX2_rests_15 : decode cX2_rests 15 = .ok (.aload_n 0, 1) := by decide +kernel
theorem dX2_rests_16 : decode cX2_rests 16 = .ok (.iload_n 1, 1) := by decide +kernel
theorem dX2_rests_17 : decode cX2_rests 17 = .ok (.invokevirtual 45, 3) := by decide +kernel
theorem dX2_rests_20 : decode cX2_rests 20 = .ok (.ifCond .ne 7, 3) := by decide +kernel
theorem dX2_rests_23 : decode cX2_rests 23 = .ok (.iconst 1, 1) := by decide +kernel
theorem dX2_rests_24 : decode cX2_rests 24 = .ok (.goto 4, 3) := by decide +kernel
theorem dX2_rests_27 : decode cX2_rests 27 = .ok (.iconst 0, 1) := by decide +kernel
theorem dX2_rests_28 : decode cX2_rests 28 = .ok (.ireturn, 1) := by decide +kernel
theorem dX2_interest_0 : decode cX2_interest 0 = .ok (.aload_n 0, 1) := by decide +kernel
theorem dX2_interest_1 : decode cX2_interest 1 = .ok (.getfield 15, 3) := by decide +kernel
theorem dX2_interest_4 : decode cX2_interest 4 = .ok (.aload_n 0, 1) := by decide +kernel
theorem dX2_interest_5 : decode cX2_interest 5 = .ok (.getfield 19, 3) := by decide +kernel
theorem dX2_interest_8 : decode cX2_interest 8 = .ok (.i2l, 1) := by decide +kernel
theorem dX2_interest_9 : decode cX2_interest 9 = .ok (.lmul, 1) := by decide +kernel
theorem dX2_interest_10 : decode cX2_interest 10 = .ok (.ldc2_w 49, 3) := by decide +kernel
theorem dX2_interest_13 : decode cX2_interest 13 = .ok (.ldiv, 1) := by decide +kernel
theorem dX2_interest_14 : decode cX2_interest 14 = .ok (.lreturn, 1) := by decide +kernel
theorem dX2_principal_0 : decode cX2_principal 0 = .ok (.aload_n 0, 1) := by decide +kernel
theorem dX2_principal_1 : decode cX2_principal 1 = .ok (.iload_n 1, 1) := by decide +kernel
theorem dX2_principal_2 : decode cX2_principal 2 = .ok (.invokevirtual 45, 3) := by decide +kernel
theorem dX2_principal_5 : decode cX2_principal 5 = .ok (.ifCond .eq 8, 3) := by decide +kernel
theorem dX2_principal_8 : decode cX2_principal 8 = .ok (.aload_n 0, 1) := by decide +kernel
theorem dX2_principal_9 : decode cX2_principal 9 = .ok (.getfield 15, 3) := by decide +kernel
theorem dX2_principal_12 : decode cX2_principal 12 = .ok (.lreturn, 1) := by decide +kernel
theorem dX2_principal_13 : decode cX2_principal 13 = .ok (.aload_n 0, 1) := by decide +kernel
theorem dX2_principal_14 : decode cX2_principal 14 = .ok (.iconst 1, 1) := by decide +kernel
theorem dX2_principal_15 : decode cX2_principal 15 = .ok (.invokevirtual 51, 3) := by decide +kernel
theorem dX2_principal_18 : decode cX2_principal 18 = .ok (.ifCond .eq 24, 3) := by decide +kernel
theorem dX2_principal_21 : decode cX2_principal 21 = .ok (.aload_n 0, 1) := by decide +kernel
theorem dX2_principal_22 : decode cX2_principal 22 = .ok (.getfield 15, 3) := by decide +kernel
theorem dX2_principal_25 : decode cX2_principal 25 = .ok (.lconst 0, 1) := by decide +kernel
theorem dX2_principal_26 : decode cX2_principal 26 = .ok (.aload_n 0, 1) := by decide +kernel
theorem dX2_principal_27 : decode cX2_principal 27 = .ok (.getfield 31, 3) := by decide +kernel
theorem dX2_principal_30 : decode cX2_principal 30 = .ok (.aload_n 0, 1) := by decide +kernel
theorem dX2_principal_31 : decode cX2_principal 31 = .ok (.invokevirtual 54, 3) := by decide +kernel
theorem dX2_principal_34 : decode cX2_principal 34 = .ok (.lsub, 1) := by decide +kernel
theorem dX2_principal_35 : decode cX2_principal 35 = .ok (.invokestatic 58, 3) := by decide +kernel
theorem dX2_principal_38 : decode cX2_principal 38 = .ok (.invokestatic 64, 3) := by decide +kernel
theorem dX2_principal_41 : decode cX2_principal 41 = .ok (.lreturn, 1) := by decide +kernel
theorem dX2_principal_42 : decode cX2_principal 42 = .ok (.aload_n 0, 1) := by decide +kernel
theorem dX2_principal_43 : decode cX2_principal 43 = .ok (.getfield 9, 3) := by decide +kernel
theorem dX2_principal_46 : decode cX2_principal 46 = .ok (.ifCond .eq 23, 3) := by decide +kernel
theorem dX2_principal_49 : decode cX2_principal 49 = .ok (.aload_n 0, 1) := by decide +kernel
theorem dX2_principal_50 : decode cX2_principal 50 = .ok (.getfield 9, 3) := by decide +kernel
theorem dX2_principal_53 : decode cX2_principal 53 = .ok (.iconst 5, 1) := by decide +kernel
theorem dX2_principal_54 : decode cX2_principal 54 = .ok (.if_icmp .ne 19, 3) := by decide +kernel
theorem dX2_principal_57 : decode cX2_principal 57 = .ok (.iconst 3, 1) := by decide +kernel
theorem dX2_principal_58 : decode cX2_principal 58 = .ok (.iload_n 1, 1) := by decide +kernel
theorem dX2_principal_59 : decode cX2_principal 59 = .ok (.imul, 1) := by decide +kernel
theorem dX2_principal_60 : decode cX2_principal 60 = .ok (.iconst 2, 1) := by decide +kernel
theorem dX2_principal_61 : decode cX2_principal 61 = .ok (.aload_n 0, 1) := by decide +kernel
theorem dX2_principal_62 : decode cX2_principal 62 = .ok (.getfield 22, 3) := by decide +kernel
theorem dX2_principal_65 : decode cX2_principal 65 = .ok (.imul, 1) := by decide +kernel
theorem dX2_principal_66 : decode cX2_principal 66 = .ok (.if_icmp .le 7, 3) := by decide +kernel
theorem dX2_principal_69 : decode cX2_principal 69 = .ok (.iconst 1, 1) := by decide +kernel
theorem dX2_principal_70 : decode cX2_principal 70 = .ok (.goto 4, 3) := by decide +kernel
theorem dX2_principal_73 : decode cX2_principal 73 = .ok (.iconst 0, 1) := by decide +kernel
theorem dX2_principal_74 : decode cX2_principal 74 = .ok (.istore_n 2, 1) := by decide +kernel
theorem dX2_principal_75 : decode cX2_principal 75 = .ok (.aload_n 0, 1) := by decide +kernel
theorem dX2_principal_76 : decode cX2_principal 76 = .ok (.iload_n 1, 1) := by decide +kernel
theorem dX2_principal_77 : decode cX2_principal 77 = .ok (.invokevirtual 67, 3) := by decide +kernel
theorem dX2_principal_80 : decode cX2_principal 80 = .ok (.istore_n 3, 1) := by decide +kernel
theorem dX2_principal_81 : decode cX2_principal 81 = .ok (.iload_n 2, 1) := by decide +kernel
theorem dX2_principal_82 : decode cX2_principal 82 = .ok (.ifCond .eq 22, 3) := by decide +kernel
theorem dX2_principal_85 : decode cX2_principal 85 = .ok (.iload_n 3, 1) := by decide +kernel
theorem dX2_principal_86 : decode cX2_principal 86 = .ok (.ifCond .le 18, 3) := by decide +kernel
theorem dX2_principal_89 : decode cX2_principal 89 = .ok (.aload_n 0, 1) := by decide +kernel
theorem dX2_principal_90 : decode cX2_principal 90 = .ok (.getfield 15, 3) := by decide +kernel
theorem dX2_principal_93 : decode cX2_principal 93 = .ok (.iload_n 3, 1) := by decide +kernel
theorem dX2_principal_94 : decode cX2_principal 94 = .ok (.i2l, 1) := by decide +kernel
theorem dX2_principal_95 : decode cX2_principal 95 = .ok (.ladd, 1) := by decide +kernel
theorem dX2_principal_96 : decode cX2_principal 96 = .ok (.lconst 1, 1) := by decide +kernel
theorem dX2_principal_97 : decode cX2_principal 97 = .ok (.lsub, 1) := by decide +kernel
theorem dX2_principal_98 : decode cX2_principal 98 = .ok (.iload_n 3, 1) := by decide +kernel
theorem dX2_principal_99 : decode cX2_principal 99 = .ok (.i2l, 1) := by decide +kernel
theorem dX2_principal_100 : decode cX2_principal 100 = .ok (.ldiv, 1) := by decide +kernel
theorem dX2_principal_101 : decode cX2_principal 101 = .ok (.goto 4, 3) := by decide +kernel
theorem dX2_principal_104 : decode cX2_principal 104 = .ok (.lconst 0, 1) := by decide +kernel
theorem dX2_principal_105 : decode cX2_principal 105 = .ok (.lreturn, 1) := by decide +kernel
theorem dX2_begin_0 : decode cX2_begin 0 = .ok (.iload_n 1, 1) := by decide +kernel
theorem dX2_begin_1 : decode cX2_begin 1 = .ok (.iconst 1, 1) := by decide +kernel
theorem dX2_begin_2 : decode cX2_begin 2 = .ok (.if_icmp .ne 16, 3) := by decide +kernel
theorem dX2_begin_5 : decode cX2_begin 5 = .ok (.aload_n 0, 1) := by decide +kernel
theorem dX2_begin_6 : decode cX2_begin 6 = .ok (.iconst 1, 1) := by decide +kernel
theorem dX2_begin_7 : decode cX2_begin 7 = .ok (.invokevirtual 51, 3) := by decide +kernel
theorem dX2_begin_10 : decode cX2_begin 10 = .ok (.ifCond .eq 8, 3) := by decide +kernel
theorem dX2_begin_13 : decode cX2_begin 13 = .ok (.aload_n 0, 1) := by decide +kernel
theorem dX2_begin_14 : decode cX2_begin 14 = .ok (.iload_n 1, 1) := by decide +kernel
theorem dX2_begin_15 : decode cX2_begin 15 = .ok (.invokevirtual 71, 3) := by decide +kernel
theorem dX2_begin_18 : decode cX2_begin 18 = .ok (.iload_n 1, 1) := by decide +kernel
theorem dX2_begin_19 : decode cX2_begin 19 = .ok (.bipush 13, 2) := by decide +kernel
theorem dX2_begin_21 : decode cX2_begin 21 = .ok (.if_icmp .ne 39, 3) := by decide +kernel
theorem dX2_begin_24 : decode cX2_begin 24 = .ok (.aload_n 0, 1) := by decide +kernel
theorem dX2_begin_25 : decode cX2_begin 25 = .ok (.iconst 2, 1) := by decide +kernel
theorem dX2_begin_26 : decode cX2_begin 26 = .ok (.invokevirtual 51, 3) := by decide +kernel
theorem dX2_begin_29 : decode cX2_begin 29 = .ok (.ifCond .eq 31, 3) := by decide +kernel
theorem dX2_begin_32 : decode cX2_begin 32 = .ok (.aload_n 0, 1) := by decide +kernel
theorem dX2_begin_33 : decode cX2_begin 33 = .ok (.invokevirtual 41, 3) := by decide +kernel
theorem dX2_begin_36 : decode cX2_begin 36 = .ok (.ifCond .eq 24, 3) := by decide +kernel
theorem dX2_begin_39 : decode cX2_begin 39 = .ok (.aload_n 0, 1) := by decide +kernel
theorem dX2_begin_40 : decode cX2_begin 40 = .ok (.sipush 200, 3) := by decide +kernel
theorem dX2_begin_43 : decode cX2_begin 43 = .ok (.iconst 2, 1) := by decide +kernel
theorem dX2_begin_44 : decode cX2_begin 44 = .ok (.aload_n 0, 1) := by decide +kernel
theorem dX2_begin_45 : decode cX2_begin 45 = .ok (.getfield 19, 3) := by decide +kernel
theorem dX2_begin_48 : decode cX2_begin 48 = .ok (.imul, 1) := by decide +kernel
theorem dX2_begin_49 : decode cX2_begin 49 = .ok (.invokestatic 75, 3) := by decide +kernel
theorem dX2_begin_52 : decode cX2_begin 52 = .ok (.putfield 19, 3) := by decide +kernel
theorem dX2_begin_55 : decode cX2_begin 55 = .ok (.aload_n 0, 1) := by decide +kernel
theorem dX2_begin_56 : decode cX2_begin 56 = .ok (.iload_n 1, 1) := by decide +kernel
theorem dX2_begin_57 : decode cX2_begin 57 = .ok (.invokevirtual 71, 3) := by decide +kernel
theorem dX2_begin_60 : decode cX2_begin 60 = .ok (.return_, 1) := by decide +kernel
theorem dX2_findPay_0 : decode cX2_findPay 0 = .ok (.lconst 0, 1) := by decide +kernel
theorem dX2_findPay_1 : decode cX2_findPay 1 = .ok (.lstore_n 2, 1) := by decide +kernel
theorem dX2_findPay_2 : decode cX2_findPay 2 = .ok (.aload_n 0, 1) := by decide +kernel
theorem dX2_findPay_3 : decode cX2_findPay 3 = .ok (.getfield 15, 3) := by decide +kernel
theorem dX2_findPay_6 : decode cX2_findPay 6 = .ok (.aload_n 0, 1) := by decide +kernel
theorem dX2_findPay_7 : decode cX2_findPay 7 = .ok (.invokevirtual 54, 3) := by decide +kernel
theorem dX2_findPay_10 : decode cX2_findPay 10 = .ok (.ladd, 1) := by decide +kernel
theorem dX2_findPay_11 : decode cX2_findPay 11 = .ok (.lstore 4, 2) := by decide +kernel
theorem dX2_findPay_13 : decode cX2_findPay 13 = .ok (.iconst 0, 1) := by decide +kernel
theorem dX2_findPay_14 : decode cX2_findPay 14 = .ok (.istore 6, 2) := by decide +kernel
theorem dX2_findPay_16 : decode cX2_findPay 16 = .ok (.iload 6, 2) := by decide +kernel
theorem dX2_findPay_18 : decode cX2_findPay 18 = .ok (.bipush 64, 2) := by decide +kernel
theorem dX2_findPay_20 : decode cX2_findPay 20 = .ok (.if_icmp .ge 52, 3) := by decide +kernel
theorem dX2_findPay_23 : decode cX2_findPay 23 = .ok (.lload_n 2, 1) := by decide +kernel
theorem dX2_findPay_24 : decode cX2_findPay 24 = .ok (.lload 4, 2) := by decide +kernel
theorem dX2_findPay_26 : decode cX2_findPay 26 = .ok (.lcmp, 1) := by decide +kernel
theorem dX2_findPay_27 : decode cX2_findPay 27 = .ok (.ifCond .ge 45, 3) := by decide +kernel
theorem dX2_findPay_30 : decode cX2_findPay 30 = .ok (.lload_n 2, 1) := by decide +kernel
theorem dX2_findPay_31 : decode cX2_findPay 31 = .ok (.lload 4, 2) := by decide +kernel
theorem dX2_findPay_33 : decode cX2_findPay 33 = .ok (.ladd, 1) := by decide +kernel
theorem dX2_findPay_34 : decode cX2_findPay 34 = .ok (.ldc2_w 78, 3) := by decide +kernel
theorem dX2_findPay_37 : decode cX2_findPay 37 = .ok (.ldiv, 1) := by decide +kernel
theorem dX2_findPay_38 : decode cX2_findPay 38 = .ok (.lstore 7, 2) := by decide +kernel
theorem dX2_findPay_40 : decode cX2_findPay 40 = .ok (.aload_n 0, 1) := by decide +kernel
theorem dX2_findPay_41 : decode cX2_findPay 41 = .ok (.lload 7, 2) := by decide +kernel
theorem dX2_findPay_43 : decode cX2_findPay 43 = .ok (.aload_n 0, 1) := by decide +kernel
theorem dX2_findPay_44 : decode cX2_findPay 44 = .ok (.iload_n 1, 1) := by decide +kernel
theorem dX2_findPay_45 : decode cX2_findPay 45 = .ok (.invokevirtual 67, 3) := by decide +kernel
theorem dX2_findPay_48 : decode cX2_findPay 48 = .ok (.invokevirtual 80, 3) := by decide +kernel
theorem dX2_findPay_51 : decode cX2_findPay 51 = .ok (.ifCond .eq 10, 3) := by decide +kernel
theorem dX2_findPay_54 : decode cX2_findPay 54 = .ok (.lload 7, 2) := by decide +kernel
theorem dX2_findPay_56 : decode cX2_findPay 56 = .ok (.lstore 4, 2) := by decide +kernel
theorem dX2_findPay_58 : decode cX2_findPay 58 = .ok (.goto 8, 3) := by decide +kernel
theorem dX2_findPay_61 : decode cX2_findPay 61 = .ok (.lload 7, 2) := by decide +kernel
theorem dX2_findPay_63 : decode cX2_findPay 63 = .ok (.lconst 1, 1) := by decide +kernel
theorem dX2_findPay_64 : decode cX2_findPay 64 = .ok (.ladd, 1) := by decide +kernel
theorem dX2_findPay_65 : decode cX2_findPay 65 = .ok (.lstore_n 2, 1) := by decide +kernel
theorem dX2_findPay_66 : decode cX2_findPay 66 = .ok (.iinc 6 1, 3) := by decide +kernel
theorem dX2_findPay_69 : decode cX2_findPay 69 = .ok (.goto (-53), 3) := by decide +kernel
theorem dX2_findPay_72 : decode cX2_findPay 72 = .ok (.aload_n 0, 1) := by decide +kernel
theorem dX2_findPay_73 : decode cX2_findPay 73 = .ok (.lload 4, 2) := by decide +kernel
theorem dX2_findPay_75 : decode cX2_findPay 75 = .ok (.putfield 31, 3) := by decide +kernel
theorem dX2_findPay_78 : decode cX2_findPay 78 = .ok (.return_, 1) := by decide +kernel
theorem dX2_wouldEnd_0 : decode cX2_wouldEnd 0 = .ok (.aload_n 0, 1) := by decide +kernel
theorem dX2_wouldEnd_1 : decode cX2_wouldEnd 1 = .ok (.getfield 15, 3) := by decide +kernel
theorem dX2_wouldEnd_4 : decode cX2_wouldEnd 4 = .ok (.lstore 4, 2) := by decide +kernel
theorem dX2_wouldEnd_6 : decode cX2_wouldEnd 6 = .ok (.iconst 0, 1) := by decide +kernel
theorem dX2_wouldEnd_7 : decode cX2_wouldEnd 7 = .ok (.istore 6, 2) := by decide +kernel
theorem dX2_wouldEnd_9 : decode cX2_wouldEnd 9 = .ok (.iload 6, 2) := by decide +kernel
theorem dX2_wouldEnd_11 : decode cX2_wouldEnd 11 = .ok (.iload_n 3, 1) := by decide +kernel
theorem dX2_wouldEnd_12 : decode cX2_wouldEnd 12 = .ok (.if_icmp .ge 37, 3) := by decide +kernel
theorem dX2_wouldEnd_15 : decode cX2_wouldEnd 15 = .ok (.lload 4, 2) := by decide +kernel
theorem dX2_wouldEnd_17 : decode cX2_wouldEnd 17 = .ok (.lload 4, 2) := by decide +kernel
theorem dX2_wouldEnd_19 : decode cX2_wouldEnd 19 = .ok (.lconst 0, 1) := by decide +kernel
theorem dX2_wouldEnd_20 : decode cX2_wouldEnd 20 = .ok (.lload_n 1, 1) := by decide +kernel
theorem dX2_wouldEnd_21 : decode cX2_wouldEnd 21 = .ok (.lload 4, 2) := by decide +kernel
theorem dX2_wouldEnd_23 : decode cX2_wouldEnd 23 = .ok (.aload_n 0, 1) := by decide +kernel
theorem dX2_wouldEnd_24 : decode cX2_wouldEnd 24 = .ok (.getfield 19, 3) := by decide +kernel
theorem dX2_wouldEnd_27 : decode cX2_wouldEnd 27 = .ok (.i2l, 1) := by decide +kernel
theorem dX2_wouldEnd_28 : decode cX2_wouldEnd 28 = .ok (.lmul, 1) := by decide +kernel
theorem dX2_wouldEnd_29 : decode cX2_wouldEnd 29 = .ok (.ldc2_w 49, 3) := by decide +kernel
theorem dX2_wouldEnd_32 : decode cX2_wouldEnd 32 = .ok (.ldiv, 1) := by decide +kernel
theorem dX2_wouldEnd_33 : decode cX2_wouldEnd 33 = .ok (.lsub, 1) := by decide +kernel
theorem dX2_wouldEnd_34 : decode cX2_wouldEnd 34 = .ok (.invokestatic 58, 3) := by decide +kernel
theorem dX2_wouldEnd_37 : decode cX2_wouldEnd 37 = .ok (.invokestatic 64, 3) := by decide +kernel
theorem dX2_wouldEnd_40 : decode cX2_wouldEnd 40 = .ok (.lsub, 1) := by decide +kernel
theorem dX2_wouldEnd_41 : decode cX2_wouldEnd 41 = .ok (.lstore 4, 2) := by decide +kernel
theorem dX2_wouldEnd_43 : decode cX2_wouldEnd 43 = .ok (.iinc 6 1, 3) := by decide +kernel
theorem dX2_wouldEnd_46 : decode cX2_wouldEnd 46 = .ok (.goto (-37), 3) := by decide +kernel
theorem dX2_wouldEnd_49 : decode cX2_wouldEnd 49 = .ok (.lload 4, 2) := by decide +kernel
theorem dX2_wouldEnd_51 : decode cX2_wouldEnd 51 = .ok (.lconst 0, 1) := by decide +kernel
theorem dX2_wouldEnd_52 : decode cX2_wouldEnd 52 = .ok (.lcmp, 1) := by decide +kernel
theorem dX2_wouldEnd_53 : decode cX2_wouldEnd 53 = .ok (.ifCond .ne 7, 3) := by decide +kernel
theorem dX2_wouldEnd_56 : decode cX2_wouldEnd 56 = .ok (.iconst 1, 1) := by decide +kernel
theorem dX2_wouldEnd_57 : decode cX2_wouldEnd 57 = .ok (.goto 4, 3) := by decide +kernel
theorem dX2_wouldEnd_60 : decode cX2_wouldEnd 60 = .ok (.iconst 0, 1) := by decide +kernel
theorem dX2_wouldEnd_61 : decode cX2_wouldEnd 61 = .ok (.ireturn, 1) := by decide +kernel
theorem dX3_init_0 : decode cX3_init 0 = .ok (.aload_n 0, 1) := by decide +kernel
theorem dX3_init_1 : decode cX3_init 1 = .ok (.invokespecial 3, 3) := by decide +kernel
theorem dX3_init_4 : decode cX3_init 4 = .ok (.aload_n 0, 1) := by decide +kernel
theorem dX3_init_5 : decode cX3_init 5 = .ok (.bipush 10, 2) := by decide +kernel
theorem dX3_init_7 : decode cX3_init 7 = .ok (.newarray .long, 2) := by decide +kernel
theorem dX3_init_9 : decode cX3_init 9 = .ok (.putfield 9, 3) := by decide +kernel
theorem dX3_init_12 : decode cX3_init 12 = .ok (.return_, 1) := by decide +kernel
theorem dX3_clear_0 : decode cX3_clear 0 = .ok (.aload_n 0, 1) := by decide +kernel
theorem dX3_clear_1 : decode cX3_clear 1 = .ok (.lconst 0, 1) := by decide +kernel
theorem dX3_clear_2 : decode cX3_clear 2 = .ok (.putfield 15, 3) := by decide +kernel
theorem dX3_clear_5 : decode cX3_clear 5 = .ok (.aload_n 0, 1) := by decide +kernel
theorem dX3_clear_6 : decode cX3_clear 6 = .ok (.lconst 0, 1) := by decide +kernel
theorem dX3_clear_7 : decode cX3_clear 7 = .ok (.putfield 19, 3) := by decide +kernel
theorem dX3_clear_10 : decode cX3_clear 10 = .ok (.aload_n 0, 1) := by decide +kernel
theorem dX3_clear_11 : decode cX3_clear 11 = .ok (.lconst 0, 1) := by decide +kernel
theorem dX3_clear_12 : decode cX3_clear 12 = .ok (.putfield 22, 3) := by decide +kernel
theorem dX3_clear_15 : decode cX3_clear 15 = .ok (.aload_n 0, 1) := by decide +kernel
theorem dX3_clear_16 : decode cX3_clear 16 = .ok (.lconst 0, 1) := by decide +kernel
theorem dX3_clear_17 : decode cX3_clear 17 = .ok (.putfield 25, 3) := by decide +kernel
theorem dX3_clear_20 : decode cX3_clear 20 = .ok (.aload_n 0, 1) := by decide +kernel
theorem dX3_clear_21 : decode cX3_clear 21 = .ok (.lconst 0, 1) := by decide +kernel
theorem dX3_clear_22 : decode cX3_clear 22 = .ok (.putfield 28, 3) := by decide +kernel
theorem dX3_clear_25 : decode cX3_clear 25 = .ok (.aload_n 0, 1) := by decide +kernel
theorem dX3_clear_26 : decode cX3_clear 26 = .ok (.lconst 0, 1) := by decide +kernel
theorem dX3_clear_27 : decode cX3_clear 27 = .ok (.putfield 31, 3) := by decide +kernel
theorem dX3_clear_30 : decode cX3_clear 30 = .ok (.return_, 1) := by decide +kernel
theorem dX3_collected_0 : decode cX3_collected 0 = .ok (.aload_n 0, 1) := by decide +kernel
theorem dX3_collected_1 : decode cX3_collected 1 = .ok (.getfield 15, 3) := by decide +kernel
theorem dX3_collected_4 : decode cX3_collected 4 = .ok (.aload_n 0, 1) := by decide +kernel
theorem dX3_collected_5 : decode cX3_collected 5 = .ok (.getfield 19, 3) := by decide +kernel
theorem dX3_collected_8 : decode cX3_collected 8 = .ok (.ladd, 1) := by decide +kernel
theorem dX3_collected_9 : decode cX3_collected 9 = .ok (.aload_n 0, 1) := by decide +kernel
theorem dX3_collected_10 : decode cX3_collected 10 = .ok (.getfield 22, 3) := by decide +kernel
theorem dX3_collected_13 : decode cX3_collected 13 = .ok (.ladd, 1) := by decide +kernel
theorem dX3_collected_14 : decode cX3_collected 14 = .ok (.aload_n 0, 1) := by decide +kernel
theorem dX3_collected_15 : decode cX3_collected 15 = .ok (.getfield 25, 3) := by decide +kernel
theorem dX3_collected_18 : decode cX3_collected 18 = .ok (.ladd, 1) := by decide +kernel
theorem dX3_collected_19 : decode cX3_collected 19 = .ok (.aload_n 0, 1) := by decide +kernel
theorem dX3_collected_20 : decode cX3_collected 20 = .ok (.getfield 28, 3) := by decide +kernel
theorem dX3_collected_23 : decode cX3_collected 23 = .ok (.lsub, 1) := by decide +kernel
theorem dX3_collected_24 : decode cX3_collected 24 = .ok (.lreturn, 1) := by decide +kernel
theorem dX3_fact_0 : decode cX3_fact 0 = .ok (.iload_n 1, 1) := by decide +kernel
theorem dX3_fact_1 : decode cX3_fact 1 = .ok (.tableswitch 131 0 10 #[59, 65, 71, 77, 83, 89, 95, 101, 107, 112, 118], 59) := by decide +kernel
theorem dX3_fact_60 : decode cX3_fact 60 = .ok (.aload_n 0, 1) := by decide +kernel
theorem dX3_fact_61 : decode cX3_fact 61 = .ok (.getfield 15, 3) := by decide +kernel
theorem dX3_fact_64 : decode cX3_fact 64 = .ok (.l2i, 1) := by decide +kernel
theorem dX3_fact_65 : decode cX3_fact 65 = .ok (.ireturn, 1) := by decide +kernel
theorem dX3_fact_66 : decode cX3_fact 66 = .ok (.aload_n 0, 1) := by decide +kernel
theorem dX3_fact_67 : decode cX3_fact 67 = .ok (.getfield 19, 3) := by decide +kernel
theorem dX3_fact_70 : decode cX3_fact 70 = .ok (.l2i, 1) := by decide +kernel
theorem dX3_fact_71 : decode cX3_fact 71 = .ok (.ireturn, 1) := by decide +kernel
theorem dX3_fact_72 : decode cX3_fact 72 = .ok (.aload_n 0, 1) := by decide +kernel
theorem dX3_fact_73 : decode cX3_fact 73 = .ok (.getfield 22, 3) := by decide +kernel
theorem dX3_fact_76 : decode cX3_fact 76 = .ok (.l2i, 1) := by decide +kernel
theorem dX3_fact_77 : decode cX3_fact 77 = .ok (.ireturn, 1) := by decide +kernel
theorem dX3_fact_78 : decode cX3_fact 78 = .ok (.aload_n 0, 1) := by decide +kernel
theorem dX3_fact_79 : decode cX3_fact 79 = .ok (.getfield 25, 3) := by decide +kernel
theorem dX3_fact_82 : decode cX3_fact 82 = .ok (.l2i, 1) := by decide +kernel
theorem dX3_fact_83 : decode cX3_fact 83 = .ok (.ireturn, 1) := by decide +kernel
theorem dX3_fact_84 : decode cX3_fact 84 = .ok (.aload_n 0, 1) := by decide +kernel
theorem dX3_fact_85 : decode cX3_fact 85 = .ok (.getfield 28, 3) := by decide +kernel
theorem dX3_fact_88 : decode cX3_fact 88 = .ok (.l2i, 1) := by decide +kernel
theorem dX3_fact_89 : decode cX3_fact 89 = .ok (.ireturn, 1) := by decide +kernel
theorem dX3_fact_90 : decode cX3_fact 90 = .ok (.aload_n 0, 1) := by decide +kernel
theorem dX3_fact_91 : decode cX3_fact 91 = .ok (.getfield 34, 3) := by decide +kernel
theorem dX3_fact_94 : decode cX3_fact 94 = .ok (.l2i, 1) := by decide +kernel
theorem dX3_fact_95 : decode cX3_fact 95 = .ok (.ireturn, 1) := by decide +kernel
theorem dX3_fact_96 : decode cX3_fact 96 = .ok (.aload_n 0, 1) := by decide +kernel
theorem dX3_fact_97 : decode cX3_fact 97 = .ok (.getfield 37, 3) := by decide +kernel
theorem dX3_fact_100 : decode cX3_fact 100 = .ok (.l2i, 1) := by decide +kernel
theorem dX3_fact_101 : decode cX3_fact 101 = .ok (.ireturn, 1) := by decide +kernel
theorem dX3_fact_102 : decode cX3_fact 102 = .ok (.aload_n 0, 1) := by decide +kernel
theorem dX3_fact_103 : decode cX3_fact 103 = .ok (.getfield 31, 3) := by decide +kernel
theorem dX3_fact_106 : decode cX3_fact 106 = .ok (.l2i, 1) := by decide +kernel
theorem dX3_fact_107 : decode cX3_fact 107 = .ok (.ireturn, 1) := by decide +kernel
theorem dX3_fact_108 : decode cX3_fact 108 = .ok (.aload_n 0, 1) := by decide +kernel
theorem dX3_fact_109 : decode cX3_fact 109 = .ok (.getfield 40, 3) := by decide +kernel
theorem dX3_fact_112 : decode cX3_fact 112 = .ok (.ireturn, 1) := by decide +kernel
theorem dX3_fact_113 : decode cX3_fact 113 = .ok (.aload_n 0, 1) := by decide +kernel
theorem dX3_fact_114 : decode cX3_fact 114 = .ok (.getfield 44, 3) := by decide +kernel
theorem dX3_fact_117 : decode cX3_fact 117 = .ok (.l2i, 1) := by decide +kernel
theorem dX3_fact_118 : decode cX3_fact 118 = .ok (.ireturn, 1) := by decide +kernel
theorem dX3_fact_119 : decode cX3_fact 119 = .ok (.aload_n 0, 1) := by decide +kernel
theorem dX3_fact_120 : decode cX3_fact 120 = .ok (.getfield 47, 3) := by decide +kernel
theorem dX3_fact_123 : decode cX3_fact 123 = .ok (.ifCond .eq 7, 3) := by decide +kernel
theorem dX3_fact_126 : decode cX3_fact 126 = .ok (.iconst 1, 1) := by decide +kernel
theorem dX3_fact_127 : decode cX3_fact 127 = .ok (.goto 4, 3) := by decide +kernel
theorem dX3_fact_130 : decode cX3_fact 130 = .ok (.iconst 0, 1) := by decide +kernel
theorem dX3_fact_131 : decode cX3_fact 131 = .ok (.ireturn, 1) := by decide +kernel
theorem dX3_fact_132 : decode cX3_fact 132 = .ok (.bipush (-2), 2) := by decide +kernel
theorem dX3_fact_134 : decode cX3_fact 134 = .ok (.ireturn, 1) := by decide +kernel
theorem dX4_init_0 : decode cX4_init 0 = .ok (.aload_n 0, 1) := by decide +kernel
theorem dX4_init_1 : decode cX4_init 1 = .ok (.invokespecial 3, 3) := by decide +kernel
theorem dX4_init_4 : decode cX4_init 4 = .ok (.aload_n 0, 1) := by decide +kernel
theorem dX4_init_5 : decode cX4_init 5 = .ok (.bipush 10, 2) := by decide +kernel
theorem dX4_init_7 : decode cX4_init 7 = .ok (.bipush 6, 2) := by decide +kernel
theorem dX4_init_9 : decode cX4_init 9 = .ok (.multianewarray 11 2, 4) := by decide +kernel
theorem dX4_init_13 : decode cX4_init 13 = .ok (.putfield 13, 3) := by decide +kernel
theorem dX4_init_16 : decode cX4_init 16 = .ok (.aload_n 0, 1) := by decide +kernel
theorem dX4_init_17 : decode cX4_init 17 = .ok (.iconst 0, 1) := by decide +kernel
theorem dX4_init_18 : decode cX4_init 18 = .ok (.invokevirtual 16, 3) := by decide +kernel
theorem dX4_init_21 : decode cX4_init 21 = .ok (.return_, 1) := by decide +kernel
theorem dX4_read_0 : decode cX4_read 0 = .ok (.aload_n 1, 1) := by decide +kernel
theorem dX4_read_1 : decode cX4_read 1 = .ok (.invokevirtual 20, 3) := by decide +kernel
theorem dX4_read_4 : decode cX4_read 4 = .ok (.iconst 0, 1) := by decide +kernel
theorem dX4_read_5 : decode cX4_read 5 = .ok (.istore_n 2, 1) := by decide +kernel
theorem dX4_read_6 : decode cX4_read 6 = .ok (.iload_n 2, 1) := by decide +kernel
theorem dX4_read_7 : decode cX4_read 7 = .ok (.bipush 10, 2) := by decide +kernel
theorem dX4_read_9 : decode cX4_read 9 = .ok (.if_icmp .ge 82, 3) := by decide +kernel
theorem dX4_read_12 : decode cX4_read 12 = .ok (.aload_n 1, 1) := by decide +kernel
theorem dX4_read_13 : decode cX4_read 13 = .ok (.ldc 25, 2) := by decide +kernel
theorem dX4_read_15 : decode cX4_read 15 = .ok (.invokevirtual 27, 3) := by decide +kernel
theorem dX4_read_18 : decode cX4_read 18 = .ok (.ifCond .eq 24, 3) := by decide +kernel
theorem dX4_read_21 : decode cX4_read 21 = .ok (.aload_n 0, 1) := by decide +kernel
theorem dX4_read_22 : decode cX4_read 22 = .ok (.iload_n 2, 1) := by decide +kernel
theorem dX4_read_23 : decode cX4_read 23 = .ok (.invokevirtual 16, 3) := by decide +kernel
theorem dX4_read_26 : decode cX4_read 26 = .ok (.aload_n 1, 1) := by decide +kernel
theorem dX4_read_27 : decode cX4_read 27 = .ok (.invokevirtual 31, 3) := by decide +kernel
theorem dX4_read_30 : decode cX4_read 30 = .ok (.ifCond .eq 7, 3) := by decide +kernel
theorem dX4_read_33 : decode cX4_read 33 = .ok (.iconst (-1), 1) := by decide +kernel
theorem dX4_read_34 : decode cX4_read 34 = .ok (.goto 7, 3) := by decide +kernel
theorem dX4_read_37 : decode cX4_read 37 = .ok (.aload_n 1, 1) := by decide +kernel
theorem dX4_read_38 : decode cX4_read 38 = .ok (.getfield 35, 3) := by decide +kernel
theorem dX4_read_41 : decode cX4_read 41 = .ok (.ireturn, 1) := by decide +kernel
theorem dX4_read_42 : decode cX4_read 42 = .ok (.iload_n 2, 1) := by decide +kernel
theorem dX4_read_43 : decode cX4_read 43 = .ok (.bipush 9, 2) := by decide +kernel
theorem dX4_read_45 : decode cX4_read 45 = .ok (.if_icmp .ge 7, 3) := by decide +kernel
theorem dX4_read_48 : decode cX4_read 48 = .ok (.iconst 1, 1) := by decide +kernel
theorem dX4_read_49 : decode cX4_read 49 = .ok (.goto 4, 3) := by decide +kernel
theorem dX4_read_52 : decode cX4_read 52 = .ok (.iconst 0, 1) := by decide +kernel
theorem dX4_read_53 : decode cX4_read 53 = .ok (.istore_n 3, 1) := by decide +kernel
theorem dX4_read_54 : decode cX4_read 54 = .ok (.iload_n 3, 1) := by decide +kernel
theorem dX4_read_55 : decode cX4_read 55 = .ok (.ifCond .eq 25, 3) := by decide +kernel
theorem dX4_read_58 : decode cX4_read 58 = .ok (.aload_n 1, 1) := by decide +kernel
theorem dX4_read_59 : decode cX4_read 59 = .ok (.aload_n 0, 1) := by decide +kernel
theorem dX4_read_60 : decode cX4_read 60 = .ok (.getfield 13, 3) := by decide +kernel
theorem dX4_read_63 : decode cX4_read 63 = .ok (.iload_n 2, 1) := by decide +kernel
theorem dX4_read_64 : decode cX4_read 64 = .ok (.aaload, 1) := by decide +kernel
theorem dX4_read_65 : decode cX4_read 65 = .ok (.invokestatic 39, 3) := by decide +kernel
theorem dX4_read_68 : decode cX4_read 68 = .ok (.ifCond .eq 12, 3) := by decide +kernel
theorem dX4_read_71 : decode cX4_read 71 = .ok (.aload_n 1, 1) := by decide +kernel
theorem dX4_read_72 : decode cX4_read 72 = .ok (.bipush 59, 2) := by decide +kernel
theorem dX4_read_74 : decode cX4_read 74 = .ok (.invokevirtual 43, 3) := by decide +kernel
theorem dX4_read_77 : decode cX4_read 77 = .ok (.ifCond .ne 8, 3) := by decide +kernel
theorem dX4_read_80 : decode cX4_read 80 = .ok (.aload_n 1, 1) := by decide +kernel
theorem dX4_read_81 : decode cX4_read 81 = .ok (.getfield 35, 3) := by decide +kernel
theorem dX4_read_84 : decode cX4_read 84 = .ok (.ireturn, 1) := by decide +kernel
theorem dX4_read_85 : decode cX4_read 85 = .ok (.iinc 2 1, 3) := by decide +kernel
theorem dX4_read_88 : decode cX4_read 88 = .ok (.goto (-82), 3) := by decide +kernel
theorem dX4_read_91 : decode cX4_read 91 = .ok (.aload_n 1, 1) := by decide +kernel
theorem dX4_read_92 : decode cX4_read 92 = .ok (.getfield 35, 3) := by decide +kernel
theorem dX4_read_95 : decode cX4_read 95 = .ok (.ireturn, 1) := by decide +kernel
theorem dX4_writeRest_0 : decode cX4_writeRest 0 = .ok (.iload_n 1, 1) := by decide +kernel
theorem dX4_writeRest_1 : decode cX4_writeRest 1 = .ok (.ifCond .lt 34, 3) := by decide +kernel
theorem dX4_writeRest_4 : decode cX4_writeRest 4 = .ok (.iload_n 1, 1) := by decide +kernel
theorem dX4_writeRest_5 : decode cX4_writeRest 5 = .ok (.bipush 10, 2) := by decide +kernel
theorem dX4_writeRest_7 : decode cX4_writeRest 7 = .ok (.if_icmp .ge 28, 3) := by decide +kernel
theorem dX4_writeRest_10 : decode cX4_writeRest 10 = .ok (.aload_n 0, 1) := by decide +kernel
theorem dX4_writeRest_11 : decode cX4_writeRest 11 = .ok (.getfield 13, 3) := by decide +kernel
theorem dX4_writeRest_14 : decode cX4_writeRest 14 = .ok (.iload_n 1, 1) := by decide +kernel
theorem dX4_writeRest_15 : decode cX4_writeRest 15 = .ok (.aaload, 1) := by decide +kernel
theorem dX4_writeRest_16 : decode cX4_writeRest 16 = .ok (.invokestatic 47, 3) := by decide +kernel
theorem dX4_writeRest_19 : decode cX4_writeRest 19 = .ok (.aload_n 0, 1) := by decide +kernel
theorem dX4_writeRest_20 : decode cX4_writeRest 20 = .ok (.getfield 13, 3) := by decide +kernel
theorem dX4_writeRest_23 : decode cX4_writeRest 23 = .ok (.iload_n 1, 1) := by decide +kernel
theorem dX4_writeRest_24 : decode cX4_writeRest 24 = .ok (.aaload, 1) := by decide +kernel
theorem dX4_writeRest_25 : decode cX4_writeRest 25 = .ok (.iconst 0, 1) := by decide +kernel
theorem dX4_writeRest_26 : decode cX4_writeRest 26 = .ok (.iconst 5, 1) := by decide +kernel
theorem dX4_writeRest_27 : decode cX4_writeRest 27 = .ok (.iastore, 1) := by decide +kernel
theorem dX4_writeRest_28 : decode cX4_writeRest 28 = .ok (.aload_n 0, 1) := by decide +kernel
theorem dX4_writeRest_29 : decode cX4_writeRest 29 = .ok (.iload_n 1, 1) := by decide +kernel
theorem dX4_writeRest_30 : decode cX4_writeRest 30 = .ok (.iconst 1, 1) := by decide +kernel
theorem dX4_writeRest_31 : decode cX4_writeRest 31 = .ok (.iadd, 1) := by decide +kernel
theorem dX4_writeRest_32 : decode cX4_writeRest 32 = .ok (.putfield 51, 3) := by decide +kernel
theorem dX4_writeRest_35 : decode cX4_writeRest 35 = .ok (.return_, 1) := by decide +kernel
theorem dX4_clear_0 : decode cX4_clear 0 = .ok (.aload_n 0, 1) := by decide +kernel
theorem dX4_clear_1 : decode cX4_clear 1 = .ok (.iconst 1, 1) := by decide +kernel
theorem dX4_clear_2 : decode cX4_clear 2 = .ok (.iconst (-1), 1) := by decide +kernel
theorem dX4_clear_3 : decode cX4_clear 3 = .ok (.iastore, 1) := by decide +kernel
theorem dX4_clear_4 : decode cX4_clear 4 = .ok (.aload_n 0, 1) := by decide +kernel
theorem dX4_clear_5 : decode cX4_clear 5 = .ok (.iconst 2, 1) := by decide +kernel
theorem dX4_clear_6 : decode cX4_clear 6 = .ok (.iconst (-1), 1) := by decide +kernel
theorem dX4_clear_7 : decode cX4_clear 7 = .ok (.iastore, 1) := by decide +kernel
theorem dX4_clear_8 : decode cX4_clear 8 = .ok (.aload_n 0, 1) := by decide +kernel
theorem dX4_clear_9 : decode cX4_clear 9 = .ok (.iconst 3, 1) := by decide +kernel
theorem dX4_clear_10 : decode cX4_clear 10 = .ok (.iconst 0, 1) := by decide +kernel
theorem dX4_clear_11 : decode cX4_clear 11 = .ok (.iastore, 1) := by decide +kernel
theorem dX4_clear_12 : decode cX4_clear 12 = .ok (.aload_n 0, 1) := by decide +kernel
theorem dX4_clear_13 : decode cX4_clear 13 = .ok (.iconst 4, 1) := by decide +kernel
theorem dX4_clear_14 : decode cX4_clear 14 = .ok (.iconst (-1), 1) := by decide +kernel
theorem dX4_clear_15 : decode cX4_clear 15 = .ok (.iastore, 1) := by decide +kernel
theorem dX4_clear_16 : decode cX4_clear 16 = .ok (.aload_n 0, 1) := by decide +kernel
theorem dX4_clear_17 : decode cX4_clear 17 = .ok (.iconst 5, 1) := by decide +kernel
theorem dX4_clear_18 : decode cX4_clear 18 = .ok (.iconst (-1), 1) := by decide +kernel
theorem dX4_clear_19 : decode cX4_clear 19 = .ok (.iastore, 1) := by decide +kernel
theorem dX4_clear_20 : decode cX4_clear 20 = .ok (.return_, 1) := by decide +kernel
theorem dX4_readStep_0 : decode cX4_readStep 0 = .ok (.aload_n 1, 1) := by decide +kernel
theorem dX4_readStep_1 : decode cX4_readStep 1 = .ok (.invokestatic 47, 3) := by decide +kernel
theorem dX4_readStep_4 : decode cX4_readStep 4 = .ok (.aload_n 0, 1) := by decide +kernel
theorem dX4_readStep_5 : decode cX4_readStep 5 = .ok (.ldc 54, 2) := by decide +kernel
theorem dX4_readStep_7 : decode cX4_readStep 7 = .ok (.invokevirtual 56, 3) := by decide +kernel
theorem dX4_readStep_10 : decode cX4_readStep 10 = .ok (.istore_n 2, 1) := by decide +kernel
theorem dX4_readStep_11 : decode cX4_readStep 11 = .ok (.iload_n 2, 1) := by decide +kernel
theorem dX4_readStep_12 : decode cX4_readStep 12 = .ok (.iconst (-1), 1) := by decide +kernel
theorem dX4_readStep_13 : decode cX4_readStep 13 = .ok (.if_icmp .ne 5, 3) := by decide +kernel
theorem dX4_readStep_16 : decode cX4_readStep 16 = .ok (.iconst 0, 1) := by decide +kernel
theorem dX4_readStep_17 : decode cX4_readStep 17 = .ok (.ireturn, 1) := by decide +kernel
theorem dX4_readStep_18 : decode cX4_readStep 18 = .ok (.aload_n 1, 1) := by decide +kernel
theorem dX4_readStep_19 : decode cX4_readStep 19 = .ok (.iconst 0, 1) := by decide +kernel
theorem dX4_readStep_20 : decode cX4_readStep 20 = .ok (.iload_n 2, 1) := by decide +kernel
theorem dX4_readStep_21 : decode cX4_readStep 21 = .ok (.iastore, 1) := by decide +kernel
theorem dX4_readStep_22 : decode cX4_readStep 22 = .ok (.aload_n 0, 1) := by decide +kernel
theorem dX4_readStep_23 : decode cX4_readStep 23 = .ok (.invokevirtual 60, 3) := by decide +kernel
theorem dX4_readStep_26 : decode cX4_readStep 26 = .ok (.iload_n 2, 1) := by decide +kernel
theorem dX4_readStep_27 : decode cX4_readStep 27 = .ok (.iconst 1, 1) := by decide +kernel
theorem dX4_readStep_28 : decode cX4_readStep 28 = .ok (.if_icmp .eq 13, 3) := by decide +kernel
theorem dX4_readStep_31 : decode cX4_readStep 31 = .ok (.iload_n 2, 1) := by decide +kernel
theorem dX4_readStep_32 : decode cX4_readStep 32 = .ok (.iconst 2, 1) := by decide +kernel
theorem dX4_readStep_33 : decode cX4_readStep 33 = .ok (.if_icmp .eq 8, 3) := by decide +kernel
theorem dX4_readStep_36 : decode cX4_readStep 36 = .ok (.iload_n 2, 1) := by decide +kernel
theorem dX4_readStep_37 : decode cX4_readStep 37 = .ok (.iconst 3, 1) := by decide +kernel
theorem dX4_readStep_38 : decode cX4_readStep 38 = .ok (.if_icmp .ne 7, 3) := by decide +kernel
theorem dX4_readStep_41 : decode cX4_readStep 41 = .ok (.iconst 1, 1) := by decide +kernel
theorem dX4_readStep_42 : decode cX4_readStep 42 = .ok (.goto 4, 3) := by decide +kernel
theorem dX4_readStep_45 : decode cX4_readStep 45 = .ok (.iconst 0, 1) := by decide +kernel
theorem dX4_readStep_46 : decode cX4_readStep 46 = .ok (.istore_n 3, 1) := by decide +kernel
theorem dX4_readStep_47 : decode cX4_readStep 47 = .ok (.iload_n 2, 1) := by decide +kernel
theorem dX4_readStep_48 : decode cX4_readStep 48 = .ok (.ifCond .eq 13, 3) := by decide +kernel
theorem dX4_readStep_51 : decode cX4_readStep 51 = .ok (.iload_n 2, 1) := by decide +kernel
theorem dX4_readStep_52 : decode cX4_readStep 52 = .ok (.iconst 3, 1) := by decide +kernel
theorem dX4_readStep_53 : decode cX4_readStep 53 = .ok (.if_icmp .eq 8, 3) := by decide +kernel
theorem dX4_readStep_56 : decode cX4_readStep 56 = .ok (.iload_n 2, 1) := by decide +kernel
theorem dX4_readStep_57 : decode cX4_readStep 57 = .ok (.iconst 4, 1) := by decide +kernel
theorem dX4_readStep_58 : decode cX4_readStep 58 = .ok (.if_icmp .ne 7, 3) := by decide +kernel
theorem dX4_readStep_61 : decode cX4_readStep 61 = .ok (.iconst 1, 1) := by decide +kernel
theorem dX4_readStep_62 : decode cX4_readStep 62 = .ok (.goto 4, 3) := by decide +kernel
theorem dX4_readStep_65 : decode cX4_readStep 65 = .ok (.iconst 0, 1) := by decide +kernel
theorem dX4_readStep_66 : decode cX4_readStep 66 = .ok (.istore 4, 2) := by decide +kernel
theorem dX4_readStep_68 : decode cX4_readStep 68 = .ok (.iload_n 3, 1) := by decide +kernel
theorem dX4_readStep_69 : decode cX4_readStep 69 = .ok (.ifCond .eq 16, 3) := by decide +kernel
theorem dX4_readStep_72 : decode cX4_readStep 72 = .ok (.aload_n 0, 1) := by decide +kernel
theorem dX4_readStep_73 : decode cX4_readStep 73 = .ok (.ldc 63, 2) := by decide +kernel
theorem dX4_readStep_75 : decode cX4_readStep 75 = .ok (.aload_n 1, 1) := by decide +kernel
theorem dX4_readStep_76 : decode cX4_readStep 76 = .ok (.iconst 1, 1) := by decide +kernel
theorem dX4_readStep_77 : decode cX4_readStep 77 = .ok (.invokestatic 65, 3) := by decide +kernel
theorem dX4_readStep_80 : decode cX4_readStep 80 = .ok (.ifCond .ne 5, 3) := by decide +kernel
theorem dX4_readStep_83 : decode cX4_readStep 83 = .ok (.iconst 0, 1) := by decide +kernel
theorem dX4_readStep_84 : decode cX4_readStep 84 = .ok (.ireturn, 1) := by decide +kernel
theorem dX4_readStep_85 : decode cX4_readStep 85 = .ok (.iload 4, 2) := by decide +kernel
theorem dX4_readStep_87 : decode cX4_readStep 87 = .ok (.ifCond .eq 14, 3) := by decide +kernel
theorem dX4_readStep_90 : decode cX4_readStep 90 = .ok (.aload_n 0, 1) := by decide +kernel
theorem dX4_readStep_91 : decode cX4_readStep 91 = .ok (.aload_n 1, 1) := by decide +kernel
theorem dX4_readStep_92 : decode cX4_readStep 92 = .ok (.iconst 2, 1) := by decide +kernel
theorem dX4_readStep_93 : decode cX4_readStep 93 = .ok (.invokestatic 69, 3) := by decide +kernel
theorem dX4_readStep_96 : decode cX4_readStep 96 = .ok (.ifCond .ne 5, 3) := by decide +kernel
theorem dX4_readStep_99 : decode cX4_readStep 99 = .ok (.iconst 0, 1) := by decide +kernel
theorem dX4_readStep_100 : decode cX4_readStep 100 = .ok (.ireturn, 1) := by decide +kernel
theorem dX4_readStep_101 : decode cX4_readStep 101 = .ok (.aload_n 0, 1) := by decide +kernel
theorem dX4_readStep_102 : decode cX4_readStep 102 = .ok (.ldc 73, 2) := by decide +kernel
theorem dX4_readStep_104 : decode cX4_readStep 104 = .ok (.invokevirtual 27, 3) := by decide +kernel
theorem dX4_readStep_107 : decode cX4_readStep 107 = .ok (.ifCond .eq 11, 3) := by decide +kernel
theorem dX4_readStep_110 : decode cX4_readStep 110 = .ok (.aload_n 0, 1) := by decide +kernel
theorem dX4_readStep_111 : decode cX4_readStep 111 = .ok (.aload_n 1, 1) := by decide +kernel
theorem dX4_readStep_112 : decode cX4_readStep 112 = .ok (.invokestatic 75, 3) := by decide +kernel
theorem dX4_readStep_115 : decode cX4_readStep 115 = .ok (.ifCond .eq 7, 3) := by decide +kernel
theorem dX4_readStep_118 : decode cX4_readStep 118 = .ok (.iconst 1, 1) := by decide +kernel
theorem dX4_readStep_119 : decode cX4_readStep 119 = .ok (.goto 4, 3) := by decide +kernel
theorem dX4_readStep_122 : decode cX4_readStep 122 = .ok (.iconst 0, 1) := by decide +kernel
theorem dX4_readStep_123 : decode cX4_readStep 123 = .ok (.ireturn, 1) := by decide +kernel
theorem dX4_readTest_0 : decode cX4_readTest 0 = .ok (.aload_n 0, 1) := by decide +kernel
theorem dX4_readTest_1 : decode cX4_readTest 1 = .ok (.ldc 78, 2) := by decide +kernel
theorem dX4_readTest_3 : decode cX4_readTest 3 = .ok (.invokevirtual 27, 3) := by decide +kernel
theorem dX4_readTest_6 : decode cX4_readTest 6 = .ok (.ifCond .eq 7, 3) := by decide +kernel
theorem dX4_readTest_9 : decode cX4_readTest 9 = .ok (.iconst 2, 1) := by decide +kernel
theorem dX4_readTest_10 : decode cX4_readTest 10 = .ok (.goto 4, 3) := by decide +kernel
theorem dX4_readTest_13 : decode cX4_readTest 13 = .ok (.iconst 0, 1) := by decide +kernel
theorem dX4_readTest_14 : decode cX4_readTest 14 = .ok (.istore_n 2, 1) := by decide +kernel
theorem dX4_readTest_15 : decode cX4_readTest 15 = .ok (.aload_n 0, 1) := by decide +kernel
theorem dX4_readTest_16 : decode cX4_readTest 16 = .ok (.ldc 80, 2) := by decide +kernel
theorem dX4_readTest_18 : decode cX4_readTest 18 = .ok (.aload_n 1, 1) := by decide +kernel
theorem dX4_readTest_19 : decode cX4_readTest 19 = .ok (.iconst 4, 1) := by decide +kernel
theorem dX4_readTest_20 : decode cX4_readTest 20 = .ok (.invokestatic 65, 3) := by decide +kernel
theorem dX4_readTest_23 : decode cX4_readTest 23 = .ok (.ifCond .ne 5, 3) := by decide +kernel
theorem dX4_readTest_26 : decode cX4_readTest 26 = .ok (.iconst 0, 1) := by decide +kernel
theorem dX4_readTest_27 : decode cX4_readTest 27 = .ok (.ireturn, 1) := by decide +kernel
theorem dX4_readTest_28 : decode cX4_readTest 28 = .ok (.aload_n 0, 1) := by decide +kernel
theorem dX4_readTest_29 : decode cX4_readTest 29 = .ok (.bipush 60, 2) := by decide +kernel
theorem dX4_readTest_31 : decode cX4_readTest 31 = .ok (.invokevirtual 43, 3) := by decide +kernel
theorem dX4_readTest_34 : decode cX4_readTest 34 = .ok (.ifCond .eq 7, 3) := by decide +kernel
theorem dX4_readTest_37 : decode cX4_readTest 37 = .ok (.iconst 1, 1) := by decide +kernel
theorem dX4_readTest_38 : decode cX4_readTest 38 = .ok (.goto 17, 3) := by decide +kernel
theorem dX4_readTest_41 : decode cX4_readTest 41 = .ok (.aload_n 0, 1) := by decide +kernel
theorem dX4_readTest_42 : decode cX4_readTest 42 = .ok (.bipush 61, 2) := by decide +kernel
theorem dX4_readTest_44 : decode cX4_readTest 44 = .ok (.invokevirtual 43, 3) := by decide +kernel
theorem dX4_readTest_47 : decode cX4_readTest 47 = .ok (.ifCond .eq 7, 3) := by decide +kernel
theorem dX4_readTest_50 : decode cX4_readTest 50 = .ok (.iconst 2, 1) := by decide +kernel
theorem dX4_readTest_51 : decode cX4_readTest 51 = .ok (.goto 4, 3) := by decide +kernel
theorem dX4_readTest_54 : decode cX4_readTest 54 = .ok (.iconst (-1), 1) := by decide +kernel
theorem dX4_readTest_55 : decode cX4_readTest 55 = .ok (.istore_n 3, 1) := by decide +kernel
theorem dX4_readTest_56 : decode cX4_readTest 56 = .ok (.iload_n 3, 1) := by decide +kernel
theorem dX4_readTest_57 : decode cX4_readTest 57 = .ok (.iconst (-1), 1) := by decide +kernel
theorem dX4_readTest_58 : decode cX4_readTest 58 = .ok (.if_icmp .ne 5, 3) := by decide +kernel
theorem dX4_readTest_61 : decode cX4_readTest 61 = .ok (.iconst 0, 1) := by decide +kernel
theorem dX4_readTest_62 : decode cX4_readTest 62 = .ok (.ireturn, 1) := by decide +kernel
theorem dX4_readTest_63 : decode cX4_readTest 63 = .ok (.aload_n 1, 1) := by decide +kernel
theorem dX4_readTest_64 : decode cX4_readTest 64 = .ok (.iconst 3, 1) := by decide +kernel
theorem dX4_readTest_65 : decode cX4_readTest 65 = .ok (.iload_n 3, 1) := by decide +kernel
theorem dX4_readTest_66 : decode cX4_readTest 66 = .ok (.iload_n 2, 1) := by decide +kernel
theorem dX4_readTest_67 : decode cX4_readTest 67 = .ok (.iadd, 1) := by decide +kernel
theorem dX4_readTest_68 : decode cX4_readTest 68 = .ok (.iastore, 1) := by decide +kernel
theorem dX4_readTest_69 : decode cX4_readTest 69 = .ok (.aload_n 0, 1) := by decide +kernel
theorem dX4_readTest_70 : decode cX4_readTest 70 = .ok (.aload_n 1, 1) := by decide +kernel
theorem dX4_readTest_71 : decode cX4_readTest 71 = .ok (.iconst 5, 1) := by decide +kernel
theorem dX4_readTest_72 : decode cX4_readTest 72 = .ok (.invokestatic 69, 3) := by decide +kernel
theorem dX4_readTest_75 : decode cX4_readTest 75 = .ok (.ireturn, 1) := by decide +kernel
theorem dX4_readWord_0 : decode cX4_readWord 0 = .ok (.aload_n 0, 1) := by decide +kernel
theorem dX4_readWord_1 : decode cX4_readWord 1 = .ok (.aload_n 1, 1) := by decide +kernel
theorem dX4_readWord_2 : decode cX4_readWord 2 = .ok (.invokevirtual 56, 3) := by decide +kernel
theorem dX4_readWord_5 : decode cX4_readWord 5 = .ok (.istore 4, 2) := by decide +kernel
theorem dX4_readWord_7 : decode cX4_readWord 7 = .ok (.iload 4, 2) := by decide +kernel
theorem dX4_readWord_9 : decode cX4_readWord 9 = .ok (.iconst (-1), 1) := by decide +kernel
theorem dX4_readWord_10 : decode cX4_readWord 10 = .ok (.if_icmp .ne 5, 3) := by decide +kernel
theorem dX4_readWord_13 : decode cX4_readWord 13 = .ok (.iconst 0, 1) := by decide +kernel
theorem dX4_readWord_14 : decode cX4_readWord 14 = .ok (.ireturn, 1) := by decide +kernel
theorem dX4_readWord_15 : decode cX4_readWord 15 = .ok (.aload_n 2, 1) := by decide +kernel
theorem dX4_readWord_16 : decode cX4_readWord 16 = .ok (.iload_n 3, 1) := by decide +kernel
theorem dX4_readWord_17 : decode cX4_readWord 17 = .ok (.iload 4, 2) := by decide +kernel
theorem dX4_readWord_19 : decode cX4_readWord 19 = .ok (.iastore, 1) := by decide +kernel
theorem dX4_readWord_20 : decode cX4_readWord 20 = .ok (.aload_n 0, 1) := by decide +kernel
theorem dX4_readWord_21 : decode cX4_readWord 21 = .ok (.invokevirtual 60, 3) := by decide +kernel
theorem dX4_readWord_24 : decode cX4_readWord 24 = .ok (.iconst 1, 1) := by decide +kernel
theorem dX4_readWord_25 : decode cX4_readWord 25 = .ok (.ireturn, 1) := by decide +kernel
theorem dX4_readNumber_0 : decode cX4_readNumber 0 = .ok (.aload_n 0, 1) := by decide +kernel
theorem dX4_readNumber_1 : decode cX4_readNumber 1 = .ok (.invokevirtual 82, 3) := by decide +kernel
theorem dX4_readNumber_4 : decode cX4_readNumber 4 = .ok (.ifCond .ne 5, 3) := by decide +kernel
theorem dX4_readNumber_7 : decode cX4_readNumber 7 = .ok (.iconst 0, 1) := by decide +kernel
theorem dX4_readNumber_8 : decode cX4_readNumber 8 = .ok (.ireturn, 1) := by decide +kernel
theorem dX4_readNumber_9 : decode cX4_readNumber 9 = .ok (.aload_n 1, 1) := by decide +kernel
theorem dX4_readNumber_10 : decode cX4_readNumber 10 = .ok (.iload_n 2, 1) := by decide +kernel
theorem dX4_readNumber_11 : decode cX4_readNumber 11 = .ok (.aload_n 0, 1) := by decide +kernel
theorem dX4_readNumber_12 : decode cX4_readNumber 12 = .ok (.getfield 85, 3) := by decide +kernel
theorem dX4_readNumber_15 : decode cX4_readNumber 15 = .ok (.iastore, 1) := by decide +kernel
theorem dX4_readNumber_16 : decode cX4_readNumber 16 = .ok (.aload_n 0, 1) := by decide +kernel
theorem dX4_readNumber_17 : decode cX4_readNumber 17 = .ok (.invokevirtual 60, 3) := by decide +kernel
theorem dX4_readNumber_20 : decode cX4_readNumber 20 = .ok (.iconst 1, 1) := by decide +kernel
theorem dX4_readNumber_21 : decode cX4_readNumber 21 = .ok (.ireturn, 1) := by decide +kernel
theorem dX5_init_0 : decode cX5_init 0 = .ok (.aload_n 0, 1) := by decide +kernel
theorem dX5_init_1 : decode cX5_init 1 = .ok (.invokespecial 1, 3) := by decide +kernel
theorem dX5_init_4 : decode cX5_init 4 = .ok (.return_, 1) := by decide +kernel
theorem dX5_open_0 : decode cX5_open 0 = .ok (.aload_n 0, 1) := by decide +kernel
theorem dX5_open_1 : decode cX5_open 1 = .ok (.iload_n 2, 1) := by decide +kernel
theorem dX5_open_2 : decode cX5_open 2 = .ok (.putfield 7, 3) := by decide +kernel
theorem dX5_open_5 : decode cX5_open 5 = .ok (.aload_n 0, 1) := by decide +kernel
theorem dX5_open_6 : decode cX5_open 6 = .ok (.iload_n 1, 1) := by decide +kernel
theorem dX5_open_7 : decode cX5_open 7 = .ok (.i2l, 1) := by decide +kernel
theorem dX5_open_8 : decode cX5_open 8 = .ok (.putfield 13, 3) := by decide +kernel
theorem dX5_open_11 : decode cX5_open 11 = .ok (.aload_n 0, 1) := by decide +kernel
theorem dX5_open_12 : decode cX5_open 12 = .ok (.invokevirtual 17, 3) := by decide +kernel
theorem dX5_open_15 : decode cX5_open 15 = .ok (.return_, 1) := by decide +kernel
theorem dX5_restart_0 : decode cX5_restart 0 = .ok (.aload_n 0, 1) := by decide +kernel
theorem dX5_restart_1 : decode cX5_restart 1 = .ok (.aload_n 0, 1) := by decide +kernel
theorem dX5_restart_2 : decode cX5_restart 2 = .ok (.getfield 13, 3) := by decide +kernel
theorem dX5_restart_5 : decode cX5_restart 5 = .ok (.putfield 20, 3) := by decide +kernel
theorem dX5_restart_8 : decode cX5_restart 8 = .ok (.aload_n 0, 1) := by decide +kernel
theorem dX5_restart_9 : decode cX5_restart 9 = .ok (.lconst 0, 1) := by decide +kernel
theorem dX5_restart_10 : decode cX5_restart 10 = .ok (.putfield 23, 3) := by decide +kernel
theorem dX5_restart_13 : decode cX5_restart 13 = .ok (.aload_n 0, 1) := by decide +kernel
theorem dX5_restart_14 : decode cX5_restart 14 = .ok (.lconst 0, 1) := by decide +kernel
theorem dX5_restart_15 : decode cX5_restart 15 = .ok (.putfield 26, 3) := by decide +kernel
theorem dX5_restart_18 : decode cX5_restart 18 = .ok (.aload_n 0, 1) := by decide +kernel
theorem dX5_restart_19 : decode cX5_restart 19 = .ok (.lconst 0, 1) := by decide +kernel
theorem dX5_restart_20 : decode cX5_restart 20 = .ok (.putfield 29, 3) := by decide +kernel
theorem dX5_restart_23 : decode cX5_restart 23 = .ok (.aload_n 0, 1) := by decide +kernel
theorem dX5_restart_24 : decode cX5_restart 24 = .ok (.lconst 0, 1) := by decide +kernel
theorem dX5_restart_25 : decode cX5_restart 25 = .ok (.putfield 32, 3) := by decide +kernel
theorem dX5_restart_28 : decode cX5_restart 28 = .ok (.aload_n 0, 1) := by decide +kernel
theorem dX5_restart_29 : decode cX5_restart 29 = .ok (.lconst 0, 1) := by decide +kernel
theorem dX5_restart_30 : decode cX5_restart 30 = .ok (.putfield 35, 3) := by decide +kernel
theorem dX5_restart_33 : decode cX5_restart 33 = .ok (.aload_n 0, 1) := by decide +kernel
theorem dX5_restart_34 : decode cX5_restart 34 = .ok (.lconst 0, 1) := by decide +kernel
theorem dX5_restart_35 : decode cX5_restart 35 = .ok (.putfield 38, 3) := by decide +kernel
theorem dX5_restart_38 : decode cX5_restart 38 = .ok (.return_, 1) := by decide +kernel
theorem dX5_copy_0 : decode cX5_copy 0 = .ok (.aload_n 0, 1) := by decide +kernel
theorem dX5_copy_1 : decode cX5_copy 1 = .ok (.aload_n 1, 1) := by decide +kernel
theorem dX5_copy_2 : decode cX5_copy 2 = .ok (.getfield 7, 3) := by decide +kernel
theorem dX5_copy_5 : decode cX5_copy 5 = .ok (.putfield 7, 3) := by decide +kernel
theorem dX5_copy_8 : decode cX5_copy 8 = .ok (.aload_n 0, 1) := by decide +kernel
theorem dX5_copy_9 : decode cX5_copy 9 = .ok (.aload_n 1, 1) := by decide +kernel
theorem dX5_copy_10 : decode cX5_copy 10 = .ok (.getfield 13, 3) := by decide +kernel
theorem dX5_copy_13 : decode cX5_copy 13 = .ok (.putfield 13, 3) := by decide +kernel
theorem dX5_copy_16 : decode cX5_copy 16 = .ok (.aload_n 0, 1) := by decide +kernel
theorem dX5_copy_17 : decode cX5_copy 17 = .ok (.aload_n 1, 1) := by decide +kernel
theorem dX5_copy_18 : decode cX5_copy 18 = .ok (.getfield 20, 3) := by decide +kernel
theorem dX5_copy_21 : decode cX5_copy 21 = .ok (.putfield 20, 3) := by decide +kernel
theorem dX5_copy_24 : decode cX5_copy 24 = .ok (.aload_n 0, 1) := by decide +kernel
theorem dX5_copy_25 : decode cX5_copy 25 = .ok (.aload_n 1, 1) := by decide +kernel
theorem dX5_copy_26 : decode cX5_copy 26 = .ok (.getfield 23, 3) := by decide +kernel
theorem dX5_copy_29 : decode cX5_copy 29 = .ok (.putfield 23, 3) := by decide +kernel
theorem dX5_copy_32 : decode cX5_copy 32 = .ok (.aload_n 0, 1) := by decide +kernel
theorem dX5_copy_33 : decode cX5_copy 33 = .ok (.aload_n 1, 1) := by decide +kernel
theorem dX5_copy_34 : decode cX5_copy 34 = .ok (.getfield 26, 3) := by decide +kernel
theorem dX5_copy_37 : decode cX5_copy 37 = .ok (.putfield 26, 3) := by decide +kernel
theorem dX5_copy_40 : decode cX5_copy 40 = .ok (.aload_n 0, 1) := by decide +kernel
theorem dX5_copy_41 : decode cX5_copy 41 = .ok (.aload_n 1, 1) := by decide +kernel
theorem dX5_copy_42 : decode cX5_copy 42 = .ok (.getfield 29, 3) := by decide +kernel
theorem dX5_copy_45 : decode cX5_copy 45 = .ok (.putfield 29, 3) := by decide +kernel
theorem dX5_copy_48 : decode cX5_copy 48 = .ok (.aload_n 0, 1) := by decide +kernel
theorem dX5_copy_49 : decode cX5_copy 49 = .ok (.aload_n 1, 1) := by decide +kernel
theorem dX5_copy_50 : decode cX5_copy 50 = .ok (.getfield 32, 3) := by decide +kernel
theorem dX5_copy_53 : decode cX5_copy 53 = .ok (.putfield 32, 3) := by decide +kernel
theorem dX5_copy_56 : decode cX5_copy 56 = .ok (.aload_n 0, 1) := by decide +kernel
theorem dX5_copy_57 : decode cX5_copy 57 = .ok (.aload_n 1, 1) := by decide +kernel
theorem dX5_copy_58 : decode cX5_copy 58 = .ok (.getfield 35, 3) := by decide +kernel
theorem dX5_copy_61 : decode cX5_copy 61 = .ok (.putfield 35, 3) := by decide +kernel
theorem dX5_copy_64 : decode cX5_copy 64 = .ok (.aload_n 0, 1) := by decide +kernel
theorem dX5_copy_65 : decode cX5_copy 65 = .ok (.aload_n 1, 1) := by decide +kernel
theorem dX5_copy_66 : decode cX5_copy 66 = .ok (.getfield 38, 3) := by decide +kernel
theorem dX5_copy_69 : decode cX5_copy 69 = .ok (.putfield 38, 3) := by decide +kernel
theorem dX5_copy_72 : decode cX5_copy 72 = .ok (.return_, 1) := by decide +kernel
theorem dX5_got_0 : decode cX5_got 0 = .ok (.aload_n 0, 1) := by decide +kernel
theorem dX5_got_1 : decode cX5_got 1 = .ok (.getfield 26, 3) := by decide +kernel
theorem dX5_got_4 : decode cX5_got 4 = .ok (.aload_n 0, 1) := by decide +kernel
theorem dX5_got_5 : decode cX5_got 5 = .ok (.getfield 29, 3) := by decide +kernel
theorem dX5_got_8 : decode cX5_got 8 = .ok (.ladd, 1) := by decide +kernel
theorem dX5_got_9 : decode cX5_got 9 = .ok (.lreturn, 1) := by decide +kernel
theorem dX5_begin_0 : decode cX5_begin 0 = .ok (.aload_n 0, 1) := by decide +kernel
theorem dX5_begin_1 : decode cX5_begin 1 = .ok (.aload_n 0, 1) := by decide +kernel
theorem dX5_begin_2 : decode cX5_begin 2 = .ok (.getfield 20, 3) := by decide +kernel
theorem dX5_begin_5 : decode cX5_begin 5 = .ok (.aload_n 0, 1) := by decide +kernel
theorem dX5_begin_6 : decode cX5_begin 6 = .ok (.getfield 7, 3) := by decide +kernel
theorem dX5_begin_9 : decode cX5_begin 9 = .ok (.i2l, 1) := by decide +kernel
theorem dX5_begin_10 : decode cX5_begin 10 = .ok (.lmul, 1) := by decide +kernel
theorem dX5_begin_11 : decode cX5_begin 11 = .ok (.ldc2_w 41, 3) := by decide +kernel
theorem dX5_begin_14 : decode cX5_begin 14 = .ok (.ldiv, 1) := by decide +kernel
theorem dX5_begin_15 : decode cX5_begin 15 = .ok (.aload_n 0, 1) := by decide +kernel
theorem dX5_begin_16 : decode cX5_begin 16 = .ok (.getfield 23, 3) := by decide +kernel
theorem dX5_begin_19 : decode cX5_begin 19 = .ok (.ladd, 1) := by decide +kernel
theorem dX5_begin_20 : decode cX5_begin 20 = .ok (.putfield 38, 3) := by decide +kernel
theorem dX5_begin_23 : decode cX5_begin 23 = .ok (.return_, 1) := by decide +kernel
theorem dX5_end_0 : decode cX5_end 0 = .ok (.aload_n 0, 1) := by decide +kernel
theorem dX5_end_1 : decode cX5_end 1 = .ok (.aload_n 0, 1) := by decide +kernel
theorem dX5_end_2 : decode cX5_end 2 = .ok (.getfield 38, 3) := by decide +kernel
theorem dX5_end_5 : decode cX5_end 5 = .ok (.putfield 23, 3) := by decide +kernel
theorem dX5_end_8 : decode cX5_end 8 = .ok (.return_, 1) := by decide +kernel
theorem dX5_payInterest_0 : decode cX5_payInterest 0 = .ok (.aload_n 0, 1) := by decide +kernel
theorem dX5_payInterest_1 : decode cX5_payInterest 1 = .ok (.dup, 1) := by decide +kernel
theorem dX5_payInterest_2 : decode cX5_payInterest 2 = .ok (.getfield 38, 3) := by decide +kernel
theorem dX5_payInterest_5 : decode cX5_payInterest 5 = .ok (.lload_n 1, 1) := by decide +kernel
theorem dX5_payInterest_6 : decode cX5_payInterest 6 = .ok (.lsub, 1) := by decide +kernel
theorem dX5_payInterest_7 : decode cX5_payInterest 7 = .ok (.putfield 38, 3) := by decide +kernel
theorem dX5_payInterest_10 : decode cX5_payInterest 10 = .ok (.aload_n 0, 1) := by decide +kernel
theorem dX5_payInterest_11 : decode cX5_payInterest 11 = .ok (.dup, 1) := by decide +kernel
theorem dX5_payInterest_12 : decode cX5_payInterest 12 = .ok (.getfield 26, 3) := by decide +kernel
theorem dX5_payInterest_15 : decode cX5_payInterest 15 = .ok (.lload_n 1, 1) := by decide +kernel
theorem dX5_payInterest_16 : decode cX5_payInterest 16 = .ok (.ladd, 1) := by decide +kernel
theorem dX5_payInterest_17 : decode cX5_payInterest 17 = .ok (.putfield 26, 3) := by decide +kernel
theorem dX5_payInterest_20 : decode cX5_payInterest 20 = .ok (.return_, 1) := by decide +kernel
theorem dX5_payPrincipal_0 : decode cX5_payPrincipal 0 = .ok (.aload_n 0, 1) := by decide +kernel
theorem dX5_payPrincipal_1 : decode cX5_payPrincipal 1 = .ok (.dup, 1) := by decide +kernel
theorem dX5_payPrincipal_2 : decode cX5_payPrincipal 2 = .ok (.getfield 20, 3) := by decide +kernel
theorem dX5_payPrincipal_5 : decode cX5_payPrincipal 5 = .ok (.lload_n 1, 1) := by decide +kernel
theorem dX5_payPrincipal_6 : decode cX5_payPrincipal 6 = .ok (.lsub, 1) := by decide +kernel
theorem dX5_payPrincipal_7 : decode cX5_payPrincipal 7 = .ok (.putfield 20, 3) := by decide +kernel
theorem dX5_payPrincipal_10 : decode cX5_payPrincipal 10 = .ok (.aload_n 0, 1) := by decide +kernel
theorem dX5_payPrincipal_11 : decode cX5_payPrincipal 11 = .ok (.dup, 1) := by decide +kernel
theorem dX5_payPrincipal_12 : decode cX5_payPrincipal 12 = .ok (.getfield 29, 3) := by decide +kernel
theorem dX5_payPrincipal_15 : decode cX5_payPrincipal 15 = .ok (.lload_n 1, 1) := by decide +kernel
theorem dX5_payPrincipal_16 : decode cX5_payPrincipal 16 = .ok (.ladd, 1) := by decide +kernel
theorem dX5_payPrincipal_17 : decode cX5_payPrincipal 17 = .ok (.putfield 29, 3) := by decide +kernel
theorem dX5_payPrincipal_20 : decode cX5_payPrincipal 20 = .ok (.aload_n 0, 1) := by decide +kernel
theorem dX5_payPrincipal_21 : decode cX5_payPrincipal 21 = .ok (.dup, 1) := by decide +kernel
theorem dX5_payPrincipal_22 : decode cX5_payPrincipal 22 = .ok (.getfield 35, 3) := by decide +kernel
theorem dX5_payPrincipal_25 : decode cX5_payPrincipal 25 = .ok (.lload_n 1, 1) := by decide +kernel
theorem dX5_payPrincipal_26 : decode cX5_payPrincipal 26 = .ok (.iload_n 3, 1) := by decide +kernel
theorem dX5_payPrincipal_27 : decode cX5_payPrincipal 27 = .ok (.i2l, 1) := by decide +kernel
theorem dX5_payPrincipal_28 : decode cX5_payPrincipal 28 = .ok (.lmul, 1) := by decide +kernel
theorem dX5_payPrincipal_29 : decode cX5_payPrincipal 29 = .ok (.ladd, 1) := by decide +kernel
theorem dX5_payPrincipal_30 : decode cX5_payPrincipal 30 = .ok (.putfield 35, 3) := by decide +kernel
theorem dX5_payPrincipal_33 : decode cX5_payPrincipal 33 = .ok (.return_, 1) := by decide +kernel
theorem dX5_writeDown_0 : decode cX5_writeDown 0 = .ok (.aload_n 0, 1) := by decide +kernel
theorem dX5_writeDown_1 : decode cX5_writeDown 1 = .ok (.dup, 1) := by decide +kernel
theorem dX5_writeDown_2 : decode cX5_writeDown 2 = .ok (.getfield 20, 3) := by decide +kernel
theorem dX5_writeDown_5 : decode cX5_writeDown 5 = .ok (.lload_n 1, 1) := by decide +kernel
theorem dX5_writeDown_6 : decode cX5_writeDown 6 = .ok (.lsub, 1) := by decide +kernel
theorem dX5_writeDown_7 : decode cX5_writeDown 7 = .ok (.putfield 20, 3) := by decide +kernel
theorem dX5_writeDown_10 : decode cX5_writeDown 10 = .ok (.aload_n 0, 1) := by decide +kernel
theorem dX5_writeDown_11 : decode cX5_writeDown 11 = .ok (.dup, 1) := by decide +kernel
theorem dX5_writeDown_12 : decode cX5_writeDown 12 = .ok (.getfield 32, 3) := by decide +kernel
theorem dX5_writeDown_15 : decode cX5_writeDown 15 = .ok (.lload_n 1, 1) := by decide +kernel
theorem dX5_writeDown_16 : decode cX5_writeDown 16 = .ok (.ladd, 1) := by decide +kernel
theorem dX5_writeDown_17 : decode cX5_writeDown 17 = .ok (.putfield 32, 3) := by decide +kernel
theorem dX5_writeDown_20 : decode cX5_writeDown 20 = .ok (.return_, 1) := by decide +kernel
theorem dX6_init_0 : decode cX6_init 0 = .ok (.aload_n 0, 1) := by decide +kernel
theorem dX6_init_1 : decode cX6_init 1 = .ok (.invokespecial 3, 3) := by decide +kernel
theorem dX6_init_4 : decode cX6_init 4 = .ok (.aload_n 0, 1) := by decide +kernel
theorem dX6_init_5 : decode cX6_init 5 = .ok (.bipush 12, 2) := by decide +kernel
theorem dX6_init_7 : decode cX6_init 7 = .ok (.anewarray 9, 3) := by decide +kernel
theorem dX6_init_10 : decode cX6_init 10 = .ok (.putfield 11, 3) := by decide +kernel
theorem dX6_init_13 : decode cX6_init 13 = .ok (.aload_n 0, 1) := by decide +kernel
theorem dX6_init_14 : decode cX6_init 14 = .ok (.bipush 50, 2) := by decide +kernel
theorem dX6_init_16 : decode cX6_init 16 = .ok (.putfield 17, 3) := by decide +kernel
theorem dX6_init_19 : decode cX6_init 19 = .ok (.iconst 0, 1) := by decide +kernel
theorem dX6_init_20 : decode cX6_init 20 = .ok (.istore_n 1, 1) := by decide +kernel
theorem dX6_init_21 : decode cX6_init 21 = .ok (.iload_n 1, 1) := by decide +kernel
theorem dX6_init_22 : decode cX6_init 22 = .ok (.aload_n 0, 1) := by decide +kernel
theorem dX6_init_23 : decode cX6_init 23 = .ok (.getfield 11, 3) := by decide +kernel
theorem dX6_init_26 : decode cX6_init 26 = .ok (.arraylength, 1) := by decide +kernel
theorem dX6_init_27 : decode cX6_init 27 = .ok (.if_icmp .ge 22, 3) := by decide +kernel
theorem dX6_init_30 : decode cX6_init 30 = .ok (.aload_n 0, 1) := by decide +kernel
theorem dX6_init_31 : decode cX6_init 31 = .ok (.getfield 11, 3) := by decide +kernel
theorem dX6_init_34 : decode cX6_init 34 = .ok (.iload_n 1, 1) := by decide +kernel
theorem dX6_init_35 : decode cX6_init 35 = .ok (.new 9, 3) := by decide +kernel
theorem dX6_init_38 : decode cX6_init 38 = .ok (.dup, 1) := by decide +kernel
theorem dX6_init_39 : decode cX6_init 39 = .ok (.invokespecial 21, 3) := by decide +kernel
theorem dX6_init_42 : decode cX6_init 42 = .ok (.aastore, 1) := by decide +kernel
theorem dX6_init_43 : decode cX6_init 43 = .ok (.iinc 1 1, 3) := by decide +kernel
theorem dX6_init_46 : decode cX6_init 46 = .ok (.goto (-25), 3) := by decide +kernel
theorem dX6_init_49 : decode cX6_init 49 = .ok (.return_, 1) := by decide +kernel
theorem dX6_copy_0 : decode cX6_copy 0 = .ok (.iconst 0, 1) := by decide +kernel
theorem dX6_copy_1 : decode cX6_copy 1 = .ok (.istore_n 2, 1) := by decide +kernel
theorem dX6_copy_2 : decode cX6_copy 2 = .ok (.iload_n 2, 1) := by decide +kernel
theorem dX6_copy_3 : decode cX6_copy 3 = .ok (.aload_n 0, 1) := by decide +kernel
theorem dX6_copy_4 : decode cX6_copy 4 = .ok (.getfield 11, 3) := by decide +kernel
theorem dX6_copy_7 : decode cX6_copy 7 = .ok (.arraylength, 1) := by decide +kernel
theorem dX6_copy_8 : decode cX6_copy 8 = .ok (.if_icmp .ge 24, 3) := by decide +kernel
theorem dX6_copy_11 : decode cX6_copy 11 = .ok (.aload_n 0, 1) := by decide +kernel
theorem dX6_copy_12 : decode cX6_copy 12 = .ok (.getfield 11, 3) := by decide +kernel
theorem dX6_copy_15 : decode cX6_copy 15 = .ok (.iload_n 2, 1) := by decide +kernel
theorem dX6_copy_16 : decode cX6_copy 16 = .ok (.aaload, 1) := by decide +kernel
theorem dX6_copy_17 : decode cX6_copy 17 = .ok (.aload_n 1, 1) := by decide +kernel
theorem dX6_copy_18 : decode cX6_copy 18 = .ok (.getfield 11, 3) := by decide +kernel
theorem dX6_copy_21 : decode cX6_copy 21 = .ok (.iload_n 2, 1) := by decide +kernel
theorem dX6_copy_22 : decode cX6_copy 22 = .ok (.aaload, 1) := by decide +kernel
theorem dX6_copy_23 : decode cX6_copy 23 = .ok (.invokevirtual 22, 3) := by decide +kernel
theorem dX6_copy_26 : decode cX6_copy 26 = .ok (.iinc 2 1, 3) := by decide +kernel
theorem dX6_copy_29 : decode cX6_copy 29 = .ok (.goto (-27), 3) := by decide +kernel
theorem dX6_copy_32 : decode cX6_copy 32 = .ok (.aload_n 0, 1) := by decide +kernel
theorem dX6_copy_33 : decode cX6_copy 33 = .ok (.aload_n 1, 1) := by decide +kernel
theorem dX6_copy_34 : decode cX6_copy 34 = .ok (.getfield 26, 3) := by decide +kernel
theorem dX6_copy_37 : decode cX6_copy 37 = .ok (.putfield 26, 3) := by decide +kernel
theorem dX6_copy_40 : decode cX6_copy 40 = .ok (.aload_n 0, 1) := by decide +kernel
theorem dX6_copy_41 : decode cX6_copy 41 = .ok (.aload_n 1, 1) := by decide +kernel
theorem dX6_copy_42 : decode cX6_copy 42 = .ok (.getfield 29, 3) := by decide +kernel
theorem dX6_copy_45 : decode cX6_copy 45 = .ok (.putfield 29, 3) := by decide +kernel
theorem dX6_copy_48 : decode cX6_copy 48 = .ok (.aload_n 0, 1) := by decide +kernel
theorem dX6_copy_49 : decode cX6_copy 49 = .ok (.aload_n 1, 1) := by decide +kernel
theorem dX6_copy_50 : decode cX6_copy 50 = .ok (.getfield 17, 3) := by decide +kernel
theorem dX6_copy_53 : decode cX6_copy 53 = .ok (.putfield 17, 3) := by decide +kernel
theorem dX6_copy_56 : decode cX6_copy 56 = .ok (.aload_n 0, 1) := by decide +kernel
theorem dX6_copy_57 : decode cX6_copy 57 = .ok (.aload_n 1, 1) := by decide +kernel
theorem dX6_copy_58 : decode cX6_copy 58 = .ok (.getfield 32, 3) := by decide +kernel
theorem dX6_copy_61 : decode cX6_copy 61 = .ok (.putfield 32, 3) := by decide +kernel
theorem dX6_copy_64 : decode cX6_copy 64 = .ok (.aload_n 0, 1) := by decide +kernel
theorem dX6_copy_65 : decode cX6_copy 65 = .ok (.aload_n 1, 1) := by decide +kernel
theorem dX6_copy_66 : decode cX6_copy 66 = .ok (.getfield 36, 3) := by decide +kernel
theorem dX6_copy_69 : decode cX6_copy 69 = .ok (.putfield 36, 3) := by decide +kernel
theorem dX6_copy_72 : decode cX6_copy 72 = .ok (.aload_n 0, 1) := by decide +kernel
theorem dX6_copy_73 : decode cX6_copy 73 = .ok (.aload_n 1, 1) := by decide +kernel
theorem dX6_copy_74 : decode cX6_copy 74 = .ok (.getfield 40, 3) := by decide +kernel
theorem dX6_copy_77 : decode cX6_copy 77 = .ok (.putfield 40, 3) := by decide +kernel
theorem dX6_copy_80 : decode cX6_copy 80 = .ok (.return_, 1) := by decide +kernel
theorem dX6_balances_0 : decode cX6_balances 0 = .ok (.lconst 0, 1) := by decide +kernel
theorem dX6_balances_1 : decode cX6_balances 1 = .ok (.lstore_n 1, 1) := by decide +kernel
theorem dX6_balances_2 : decode cX6_balances 2 = .ok (.iconst 0, 1) := by decide +kernel
theorem dX6_balances_3 : decode cX6_balances 3 = .ok (.istore_n 3, 1) := by decide +kernel
theorem dX6_balances_4 : decode cX6_balances 4 = .ok (.iload_n 3, 1) := by decide +kernel
theorem dX6_balances_5 : decode cX6_balances 5 = .ok (.aload_n 0, 1) := by decide +kernel
theorem dX6_balances_6 : decode cX6_balances 6 = .ok (.getfield 26, 3) := by decide +kernel
theorem dX6_balances_9 : decode cX6_balances 9 = .ok (.if_icmp .ge 37, 3) := by decide +kernel
theorem dX6_balances_12 : decode cX6_balances 12 = .ok (.lload_n 1, 1) := by decide +kernel
theorem dX6_balances_13 : decode cX6_balances 13 = .ok (.aload_n 0, 1) := by decide +kernel
theorem dX6_balances_14 : decode cX6_balances 14 = .ok (.getfield 11, 3) := by decide +kernel
theorem dX6_balances_17 : decode cX6_balances 17 = .ok (.iload_n 3, 1) := by decide +kernel
theorem dX6_balances_18 : decode cX6_balances 18 = .ok (.aaload, 1) := by decide +kernel
theorem dX6_balances_19 : decode cX6_balances 19 = .ok (.invokevirtual 44, 3) := by decide +kernel
theorem dX6_balances_22 : decode cX6_balances 22 = .ok (.ifCond .eq 15, 3) := by decide +kernel
theorem dX6_balances_25 : decode cX6_balances 25 = .ok (.aload_n 0, 1) := by decide +kernel
theorem dX6_balances_26 : decode cX6_balances 26 = .ok (.getfield 11, 3) := by decide +kernel
theorem dX6_balances_29 : decode cX6_balances 29 = .ok (.iload_n 3, 1) := by decide +kernel
theorem dX6_balances_30 : decode cX6_balances 30 = .ok (.aaload, 1) := by decide +kernel
theorem dX6_balances_31 : decode cX6_balances 31 = .ok (.getfield 48, 3) := by decide +kernel
theorem dX6_balances_34 : decode cX6_balances 34 = .ok (.goto 4, 3) := by decide +kernel
theorem dX6_balances_37 : decode cX6_balances 37 = .ok (.lconst 0, 1) := by decide +kernel
theorem dX6_balances_38 : decode cX6_balances 38 = .ok (.ladd, 1) := by decide +kernel
theorem dX6_balances_39 : decode cX6_balances 39 = .ok (.lstore_n 1, 1) := by decide +kernel
theorem dX6_balances_40 : decode cX6_balances 40 = .ok (.iinc 3 1, 3) := by decide +kernel
theorem dX6_balances_43 : decode cX6_balances 43 = .ok (.goto (-39), 3) := by decide +kernel
theorem dX6_balances_46 : decode cX6_balances 46 = .ok (.lload_n 1, 1) := by decide +kernel
theorem dX6_balances_47 : decode cX6_balances 47 = .ok (.lreturn, 1) := by decide +kernel
theorem dX6_late_0 : decode cX6_late 0 = .ok (.iconst 0, 1) := by decide +kernel
theorem dX6_late_1 : decode cX6_late 1 = .ok (.istore_n 1, 1) := by decide +kernel
theorem dX6_late_2 : decode cX6_late 2 = .ok (.iconst 0, 1) := by decide +kernel
theorem dX6_late_3 : decode cX6_late 3 = .ok (.istore_n 2, 1) := by decide +kernel
theorem dX6_late_4 : decode cX6_late 4 = .ok (.iload_n 2, 1) := by decide +kernel
theorem dX6_late_5 : decode cX6_late 5 = .ok (.aload_n 0, 1) := by decide +kernel
theorem dX6_late_6 : decode cX6_late 6 = .ok (.getfield 26, 3) := by decide +kernel
theorem dX6_late_9 : decode cX6_late 9 = .ok (.if_icmp .ge 30, 3) := by decide +kernel
theorem dX6_late_12 : decode cX6_late 12 = .ok (.iload_n 1, 1) := by decide +kernel
theorem dX6_late_13 : decode cX6_late 13 = .ok (.aload_n 0, 1) := by decide +kernel
theorem dX6_late_14 : decode cX6_late 14 = .ok (.getfield 11, 3) := by decide +kernel
theorem dX6_late_17 : decode cX6_late 17 = .ok (.iload_n 2, 1) := by decide +kernel
theorem dX6_late_18 : decode cX6_late 18 = .ok (.aaload, 1) := by decide +kernel
theorem dX6_late_19 : decode cX6_late 19 = .ok (.getfield 51, 3) := by decide +kernel
theorem dX6_late_22 : decode cX6_late 22 = .ok (.iconst 1, 1) := by decide +kernel
theorem dX6_late_23 : decode cX6_late 23 = .ok (.if_icmp .ne 7, 3) := by decide +kernel
theorem dX6_late_26 : decode cX6_late 26 = .ok (.iconst 1, 1) := by decide +kernel
theorem dX6_late_27 : decode cX6_late 27 = .ok (.goto 4, 3) := by decide +kernel
theorem dX6_late_30 : decode cX6_late 30 = .ok (.iconst 0, 1) := by decide +kernel
theorem dX6_late_31 : decode cX6_late 31 = .ok (.iadd, 1) := by decide +kernel
theorem dX6_late_32 : decode cX6_late 32 = .ok (.istore_n 1, 1) := by decide +kernel
theorem dX6_late_33 : decode cX6_late 33 = .ok (.iinc 2 1, 3) := by decide +kernel
theorem dX6_late_36 : decode cX6_late 36 = .ok (.goto (-32), 3) := by decide +kernel
theorem dX6_late_39 : decode cX6_late 39 = .ok (.iload_n 1, 1) := by decide +kernel
theorem dX6_late_40 : decode cX6_late 40 = .ok (.ireturn, 1) := by decide +kernel
theorem dX6_collect_0 : decode cX6_collect 0 = .ok (.aload_n 2, 1) := by decide +kernel
theorem dX6_collect_1 : decode cX6_collect 1 = .ok (.invokevirtual 54, 3) := by decide +kernel
theorem dX6_collect_4 : decode cX6_collect 4 = .ok (.aload_n 2, 1) := by decide +kernel
theorem dX6_collect_5 : decode cX6_collect 5 = .ok (.aload_n 0, 1) := by decide +kernel
theorem dX6_collect_6 : decode cX6_collect 6 = .ok (.invokevirtual 59, 3) := by decide +kernel
theorem dX6_collect_9 : decode cX6_collect 9 = .ok (.putfield 63, 3) := by decide +kernel
theorem dX6_collect_12 : decode cX6_collect 12 = .ok (.iconst 0, 1) := by decide +kernel
theorem dX6_collect_13 : decode cX6_collect 13 = .ok (.istore_n 3, 1) := by decide +kernel
theorem dX6_collect_14 : decode cX6_collect 14 = .ok (.iload_n 3, 1) := by decide +kernel
theorem dX6_collect_15 : decode cX6_collect 15 = .ok (.aload_n 0, 1) := by decide +kernel
theorem dX6_collect_16 : decode cX6_collect 16 = .ok (.getfield 26, 3) := by decide +kernel
theorem dX6_collect_19 : decode cX6_collect 19 = .ok (.if_icmp .ge 81, 3) := by decide +kernel
theorem dX6_collect_22 : decode cX6_collect 22 = .ok (.aload_n 0, 1) := by decide +kernel
theorem dX6_collect_23 : decode cX6_collect 23 = .ok (.getfield 11, 3) := by decide +kernel
theorem dX6_collect_26 : decode cX6_collect 26 = .ok (.iload_n 3, 1) := by decide +kernel
theorem dX6_collect_27 : decode cX6_collect 27 = .ok (.aaload, 1) := by decide +kernel
theorem dX6_collect_28 : decode cX6_collect 28 = .ok (.astore 4, 2) := by decide +kernel
theorem dX6_collect_30 : decode cX6_collect 30 = .ok (.aload 4, 2) := by decide +kernel
theorem dX6_collect_32 : decode cX6_collect 32 = .ok (.iload_n 1, 1) := by decide +kernel
theorem dX6_collect_33 : decode cX6_collect 33 = .ok (.invokevirtual 66, 3) := by decide +kernel
theorem dX6_collect_36 : decode cX6_collect 36 = .ok (.aload 4, 2) := by decide +kernel
theorem dX6_collect_38 : decode cX6_collect 38 = .ok (.invokevirtual 70, 3) := by decide +kernel
theorem dX6_collect_41 : decode cX6_collect 41 = .ok (.ifCond .eq 15, 3) := by decide +kernel
theorem dX6_collect_44 : decode cX6_collect 44 = .ok (.aload_n 0, 1) := by decide +kernel
theorem dX6_collect_45 : decode cX6_collect 45 = .ok (.iload_n 3, 1) := by decide +kernel
theorem dX6_collect_46 : decode cX6_collect 46 = .ok (.aload 4, 2) := by decide +kernel
theorem dX6_collect_48 : decode cX6_collect 48 = .ok (.iload_n 1, 1) := by decide +kernel
theorem dX6_collect_49 : decode cX6_collect 49 = .ok (.aload_n 2, 1) := by decide +kernel
theorem dX6_collect_50 : decode cX6_collect 50 = .ok (.invokevirtual 73, 3) := by decide +kernel
theorem dX6_collect_53 : decode cX6_collect 53 = .ok (.goto 41, 3) := by decide +kernel
theorem dX6_collect_56 : decode cX6_collect 56 = .ok (.aload 4, 2) := by decide +kernel
theorem dX6_collect_58 : decode cX6_collect 58 = .ok (.getfield 51, 3) := by decide +kernel
theorem dX6_collect_61 : decode cX6_collect 61 = .ok (.bipush 6, 2) := by decide +kernel
theorem dX6_collect_63 : decode cX6_collect 63 = .ok (.if_icmp .ne 15, 3) := by decide +kernel
theorem dX6_collect_66 : decode cX6_collect 66 = .ok (.aload 4, 2) := by decide +kernel
theorem dX6_collect_68 : decode cX6_collect 68 = .ok (.aload_n 2, 1) := by decide +kernel
theorem dX6_collect_69 : decode cX6_collect 69 = .ok (.lconst 0, 1) := by decide +kernel
theorem dX6_collect_70 : decode cX6_collect 70 = .ok (.bipush 6, 2) := by decide +kernel
theorem dX6_collect_72 : decode cX6_collect 72 = .ok (.invokestatic 77, 3) := by decide +kernel
theorem dX6_collect_75 : decode cX6_collect 75 = .ok (.goto 19, 3) := by decide +kernel
theorem dX6_collect_78 : decode cX6_collect 78 = .ok (.aload 4, 2) := by decide +kernel
theorem dX6_collect_80 : decode cX6_collect 80 = .ok (.iload_n 1, 1) := by decide +kernel
theorem dX6_collect_81 : decode cX6_collect 81 = .ok (.invokevirtual 81, 3) := by decide +kernel
theorem dX6_collect_84 : decode cX6_collect 84 = .ok (.ifCond .eq 10, 3) := by decide +kernel
theorem dX6_collect_87 : decode cX6_collect 87 = .ok (.aload_n 0, 1) := by decide +kernel
theorem dX6_collect_88 : decode cX6_collect 88 = .ok (.aload 4, 2) := by decide +kernel
theorem dX6_collect_90 : decode cX6_collect 90 = .ok (.aload_n 2, 1) := by decide +kernel
theorem dX6_collect_91 : decode cX6_collect 91 = .ok (.invokevirtual 85, 3) := by decide +kernel
theorem dX6_collect_94 : decode cX6_collect 94 = .ok (.iinc 3 1, 3) := by decide +kernel
theorem dX6_collect_97 : decode cX6_collect 97 = .ok (.goto (-83), 3) := by decide +kernel
theorem dX6_collect_100 : decode cX6_collect 100 = .ok (.aload_n 0, 1) := by decide +kernel
theorem dX6_collect_101 : decode cX6_collect 101 = .ok (.dup, 1) := by decide +kernel
theorem dX6_collect_102 : decode cX6_collect 102 = .ok (.getfield 36, 3) := by decide +kernel
theorem dX6_collect_105 : decode cX6_collect 105 = .ok (.aload_n 2, 1) := by decide +kernel
theorem dX6_collect_106 : decode cX6_collect 106 = .ok (.getfield 89, 3) := by decide +kernel
theorem dX6_collect_109 : decode cX6_collect 109 = .ok (.ladd, 1) := by decide +kernel
theorem dX6_collect_110 : decode cX6_collect 110 = .ok (.putfield 36, 3) := by decide +kernel
theorem dX6_collect_113 : decode cX6_collect 113 = .ok (.aload_n 2, 1) := by decide +kernel
theorem dX6_collect_114 : decode cX6_collect 114 = .ok (.aload_n 0, 1) := by decide +kernel
theorem dX6_collect_115 : decode cX6_collect 115 = .ok (.getfield 36, 3) := by decide +kernel
theorem dX6_collect_118 : decode cX6_collect 118 = .ok (.aload_n 2, 1) := by decide +kernel
theorem dX6_collect_119 : decode cX6_collect 119 = .ok (.getfield 90, 3) := by decide +kernel
theorem dX6_collect_122 : decode cX6_collect 122 = .ok (.invokestatic 93, 3) := by decide +kernel
theorem dX6_collect_125 : decode cX6_collect 125 = .ok (.putfield 99, 3) := by decide +kernel
theorem dX6_collect_128 : decode cX6_collect 128 = .ok (.aload_n 0, 1) := by decide +kernel
theorem dX6_collect_129 : decode cX6_collect 129 = .ok (.dup, 1) := by decide +kernel
theorem dX6_collect_130 : decode cX6_collect 130 = .ok (.getfield 36, 3) := by decide +kernel
theorem dX6_collect_133 : decode cX6_collect 133 = .ok (.aload_n 2, 1) := by decide +kernel
theorem dX6_collect_134 : decode cX6_collect 134 = .ok (.getfield 99, 3) := by decide +kernel
theorem dX6_collect_137 : decode cX6_collect 137 = .ok (.lsub, 1) := by decide +kernel
theorem dX6_collect_138 : decode cX6_collect 138 = .ok (.putfield 36, 3) := by decide +kernel
theorem dX6_collect_141 : decode cX6_collect 141 = .ok (.aload_n 2, 1) := by decide +kernel
theorem dX6_collect_142 : decode cX6_collect 142 = .ok (.aload_n 0, 1) := by decide +kernel
theorem dX6_collect_143 : decode cX6_collect 143 = .ok (.invokevirtual 59, 3) := by decide +kernel
theorem dX6_collect_146 : decode cX6_collect 146 = .ok (.putfield 102, 3) := by decide +kernel
theorem dX6_collect_149 : decode cX6_collect 149 = .ok (.aload_n 2, 1) := by decide +kernel
theorem dX6_collect_150 : decode cX6_collect 150 = .ok (.aload_n 0, 1) := by decide +kernel
theorem dX6_collect_151 : decode cX6_collect 151 = .ok (.invokevirtual 105, 3) := by decide +kernel
theorem dX6_collect_154 : decode cX6_collect 154 = .ok (.putfield 109, 3) := by decide +kernel
theorem dX6_collect_157 : decode cX6_collect 157 = .ok (.return_, 1) := by decide +kernel
theorem dX6_draw_0 : decode cX6_draw 0 = .ok (.aload_n 0, 1) := by decide +kernel
theorem dX6_draw_1 : decode cX6_draw 1 = .ok (.iconst 0, 1) := by decide +kernel
theorem dX6_draw_2 : decode cX6_draw 2 = .ok (.aload_n 2, 1) := by decide +kernel
theorem dX6_draw_3 : decode cX6_draw 3 = .ok (.iload_n 3, 1) := by decide +kernel
theorem dX6_draw_4 : decode cX6_draw 4 = .ok (.invokevirtual 111, 3) := by decide +kernel
theorem dX6_draw_7 : decode cX6_draw 7 = .ok (.istore 5, 2) := by decide +kernel
theorem dX6_draw_9 : decode cX6_draw 9 = .ok (.iload 5, 2) := by decide +kernel
theorem dX6_draw_11 : decode cX6_draw 11 = .ok (.aload_n 0, 1) := by decide +kernel
theorem dX6_draw_12 : decode cX6_draw 12 = .ok (.iconst 1, 1) := by decide +kernel
theorem dX6_draw_13 : decode cX6_draw 13 = .ok (.aload_n 2, 1) := by decide +kernel
theorem dX6_draw_14 : decode cX6_draw 14 = .ok (.iload_n 3, 1) := by decide +kernel
theorem dX6_draw_15 : decode cX6_draw 15 = .ok (.invokevirtual 111, 3) := by decide +kernel
theorem dX6_draw_18 : decode cX6_draw 18 = .ok (.iadd, 1) := by decide +kernel
theorem dX6_draw_19 : decode cX6_draw 19 = .ok (.istore 6, 2) := by decide +kernel
theorem dX6_draw_21 : decode cX6_draw 21 = .ok (.iload 6, 2) := by decide +kernel
theorem dX6_draw_23 : decode cX6_draw 23 = .ok (.aload_n 0, 1) := by decide +kernel
theorem dX6_draw_24 : decode cX6_draw 24 = .ok (.iconst 2, 1) := by decide +kernel
theorem dX6_draw_25 : decode cX6_draw 25 = .ok (.aload_n 2, 1) := by decide +kernel
theorem dX6_draw_26 : decode cX6_draw 26 = .ok (.iload_n 3, 1) := by decide +kernel
theorem dX6_draw_27 : decode cX6_draw 27 = .ok (.invokevirtual 111, 3) := by decide +kernel
theorem dX6_draw_30 : decode cX6_draw 30 = .ok (.iadd, 1) := by decide +kernel
theorem dX6_draw_31 : decode cX6_draw 31 = .ok (.istore 7, 2) := by decide +kernel
theorem dX6_draw_33 : decode cX6_draw 33 = .ok (.aload_n 0, 1) := by decide +kernel
theorem dX6_draw_34 : decode cX6_draw 34 = .ok (.iload_n 1, 1) := by decide +kernel
theorem dX6_draw_35 : decode cX6_draw 35 = .ok (.iload_n 3, 1) := by decide +kernel
theorem dX6_draw_36 : decode cX6_draw 36 = .ok (.invokevirtual 115, 3) := by decide +kernel
theorem dX6_draw_39 : decode cX6_draw 39 = .ok (.istore 8, 2) := by decide +kernel
theorem dX6_draw_41 : decode cX6_draw 41 = .ok (.iload 8, 2) := by decide +kernel
theorem dX6_draw_43 : decode cX6_draw 43 = .ok (.iload 5, 2) := by decide +kernel
theorem dX6_draw_45 : decode cX6_draw 45 = .ok (.if_icmp .ge 21, 3) := by decide +kernel
theorem dX6_draw_48 : decode cX6_draw 48 = .ok (.aload_n 2, 1) := by decide +kernel
theorem dX6_draw_49 : decode cX6_draw 49 = .ok (.iconst 3, 1) := by decide +kernel
theorem dX6_draw_50 : decode cX6_draw 50 = .ok (.putfield 51, 3) := by decide +kernel
theorem dX6_draw_53 : decode cX6_draw 53 = .ok (.aload_n 2, 1) := by decide +kernel
theorem dX6_draw_54 : decode cX6_draw 54 = .ok (.iload_n 3, 1) := by decide +kernel
theorem dX6_draw_55 : decode cX6_draw 55 = .ok (.putfield 119, 3) := by decide +kernel
theorem dX6_draw_58 : decode cX6_draw 58 = .ok (.aload_n 2, 1) := by decide +kernel
theorem dX6_draw_59 : decode cX6_draw 59 = .ok (.lconst 0, 1) := by decide +kernel
theorem dX6_draw_60 : decode cX6_draw 60 = .ok (.putfield 122, 3) := by decide +kernel
theorem dX6_draw_63 : decode cX6_draw 63 = .ok (.goto 76, 3) := by decide +kernel
theorem dX6_draw_66 : decode cX6_draw 66 = .ok (.iload 8, 2) := by decide +kernel
theorem dX6_draw_68 : decode cX6_draw 68 = .ok (.iload 6, 2) := by decide +kernel
theorem dX6_draw_70 : decode cX6_draw 70 = .ok (.if_icmp .ge 22, 3) := by decide +kernel
theorem dX6_draw_73 : decode cX6_draw 73 = .ok (.aload_n 2, 1) := by decide +kernel
theorem dX6_draw_74 : decode cX6_draw 74 = .ok (.iload_n 3, 1) := by decide +kernel
theorem dX6_draw_75 : decode cX6_draw 75 = .ok (.invokevirtual 125, 3) := by decide +kernel
theorem dX6_draw_78 : decode cX6_draw 78 = .ok (.ifCond .ne 14, 3) := by decide +kernel
theorem dX6_draw_81 : decode cX6_draw 81 = .ok (.aload_n 0, 1) := by decide +kernel
theorem dX6_draw_82 : decode cX6_draw 82 = .ok (.aload_n 2, 1) := by decide +kernel
theorem dX6_draw_83 : decode cX6_draw 83 = .ok (.iload_n 3, 1) := by decide +kernel
theorem dX6_draw_84 : decode cX6_draw 84 = .ok (.aload 4, 2) := by decide +kernel
theorem dX6_draw_86 : decode cX6_draw 86 = .ok (.invokevirtual 128, 3) := by decide +kernel
theorem dX6_draw_89 : decode cX6_draw 89 = .ok (.goto 50, 3) := by decide +kernel
theorem dX6_draw_92 : decode cX6_draw 92 = .ok (.iload 8, 2) := by decide +kernel
theorem dX6_draw_94 : decode cX6_draw 94 = .ok (.iload 6, 2) := by decide +kernel
theorem dX6_draw_96 : decode cX6_draw 96 = .ok (.if_icmp .lt 36, 3) := by decide +kernel
theorem dX6_draw_99 : decode cX6_draw 99 = .ok (.iload 8, 2) := by decide +kernel
theorem dX6_draw_101 : decode cX6_draw 101 = .ok (.iload 7, 2) := by decide +kernel
theorem dX6_draw_103 : decode cX6_draw 103 = .ok (.if_icmp .ge 29, 3) := by decide +kernel
theorem dX6_draw_106 : decode cX6_draw 106 = .ok (.aload_n 2, 1) := by decide +kernel
theorem dX6_draw_107 : decode cX6_draw 107 = .ok (.aload 4, 2) := by decide +kernel
theorem dX6_draw_109 : decode cX6_draw 109 = .ok (.aload_n 2, 1) := by decide +kernel
theorem dX6_draw_110 : decode cX6_draw 110 = .ok (.invokevirtual 132, 3) := by decide +kernel
theorem dX6_draw_113 : decode cX6_draw 113 = .ok (.aload_n 2, 1) := by decide +kernel
theorem dX6_draw_114 : decode cX6_draw 114 = .ok (.iload_n 3, 1) := by decide +kernel
theorem dX6_draw_115 : decode cX6_draw 115 = .ok (.invokevirtual 135, 3) := by decide +kernel
theorem dX6_draw_118 : decode cX6_draw 118 = .ok (.ifCond .eq 7, 3) := by decide +kernel
theorem dX6_draw_121 : decode cX6_draw 121 = .ok (.iconst 5, 1) := by decide +kernel
theorem dX6_draw_122 : decode cX6_draw 122 = .ok (.goto 4, 3) := by decide +kernel
theorem dX6_draw_125 : decode cX6_draw 125 = .ok (.iconst 2, 1) := by decide +kernel
theorem dX6_draw_126 : decode cX6_draw 126 = .ok (.invokestatic 77, 3) := by decide +kernel
theorem dX6_draw_129 : decode cX6_draw 129 = .ok (.goto 10, 3) := by decide +kernel
theorem dX6_draw_132 : decode cX6_draw 132 = .ok (.aload_n 2, 1) := by decide +kernel
theorem dX6_draw_133 : decode cX6_draw 133 = .ok (.iload_n 3, 1) := by decide +kernel
theorem dX6_draw_134 : decode cX6_draw 134 = .ok (.aload 4, 2) := by decide +kernel
theorem dX6_draw_136 : decode cX6_draw 136 = .ok (.invokestatic 138, 3) := by decide +kernel
theorem dX6_draw_139 : decode cX6_draw 139 = .ok (.return_, 1) := by decide +kernel
theorem dX6_chance_0 : decode cX6_chance 0 = .ok (.aload_n 0, 1) := by decide +kernel
theorem dX6_chance_1 : decode cX6_chance 1 = .ok (.getfield 40, 3) := by decide +kernel
theorem dX6_chance_4 : decode cX6_chance 4 = .ok (.ifnonnull 7, 3) := by decide +kernel
theorem dX6_chance_7 : decode cX6_chance 7 = .ok (.iconst 0, 1) := by decide +kernel
theorem dX6_chance_8 : decode cX6_chance 8 = .ok (.goto 23, 3) := by decide +kernel
theorem dX6_chance_11 : decode cX6_chance 11 = .ok (.iconst 0, 1) := by decide +kernel
theorem dX6_chance_12 : decode cX6_chance 12 = .ok (.sipush 1000, 3) := by decide +kernel
theorem dX6_chance_15 : decode cX6_chance 15 = .ok (.aload_n 0, 1) := by decide +kernel
theorem dX6_chance_16 : decode cX6_chance 16 = .ok (.getfield 40, 3) := by decide +kernel
theorem dX6_chance_19 : decode cX6_chance 19 = .ok (.iload_n 1, 1) := by decide +kernel
theorem dX6_chance_20 : decode cX6_chance 20 = .ok (.aload_n 2, 1) := by decide +kernel
theorem dX6_chance_21 : decode cX6_chance 21 = .ok (.iload_n 3, 1) := by decide +kernel
theorem dX6_chance_22 : decode cX6_chance 22 = .ok (.invokevirtual 141, 3) := by decide +kernel
theorem dX6_chance_25 : decode cX6_chance 25 = .ok (.invokestatic 146, 3) := by decide +kernel
theorem dX6_chance_28 : decode cX6_chance 28 = .ok (.invokestatic 148, 3) := by decide +kernel
theorem dX6_chance_31 : decode cX6_chance 31 = .ok (.ireturn, 1) := by decide +kernel
theorem dX6_lot_0 : decode cX6_lot 0 = .ok (.aload_n 0, 1) := by decide +kernel
theorem dX6_lot_1 : decode cX6_lot 1 = .ok (.getfield 29, 3) := by decide +kernel
theorem dX6_lot_4 : decode cX6_lot 4 = .ok (.i2l, 1) := by decide +kernel
theorem dX6_lot_5 : decode cX6_lot 5 = .ok (.ldc2_w 151, 3) := by decide +kernel
theorem dX6_lot_8 : decode cX6_lot 8 = .ok (.iload_n 1, 1) := by decide +kernel
theorem dX6_lot_9 : decode cX6_lot 9 = .ok (.i2l, 1) := by decide +kernel
theorem dX6_lot_10 : decode cX6_lot 10 = .ok (.lmul, 1) := by decide +kernel
theorem dX6_lot_11 : decode cX6_lot 11 = .ok (.ladd, 1) := by decide +kernel
theorem dX6_lot_12 : decode cX6_lot 12 = .ok (.ldc2_w 153, 3) := by decide +kernel
theorem dX6_lot_15 : decode cX6_lot 15 = .ok (.iload_n 2, 1) := by decide +kernel
theorem dX6_lot_16 : decode cX6_lot 16 = .ok (.i2l, 1) := by decide +kernel
theorem dX6_lot_17 : decode cX6_lot 17 = .ok (.lmul, 1) := by decide +kernel
theorem dX6_lot_18 : decode cX6_lot 18 = .ok (.ladd, 1) := by decide +kernel
theorem dX6_lot_19 : decode cX6_lot 19 = .ok (.lstore_n 3, 1) := by decide +kernel
theorem dX6_lot_20 : decode cX6_lot 20 = .ok (.lload_n 3, 1) := by decide +kernel
theorem dX6_lot_21 : decode cX6_lot 21 = .ok (.ldc2_w 155, 3) := by decide +kernel
theorem dX6_lot_24 : decode cX6_lot 24 = .ok (.lmul, 1) := by decide +kernel
theorem dX6_lot_25 : decode cX6_lot 25 = .ok (.ldc2_w 157, 3) := by decide +kernel
theorem dX6_lot_28 : decode cX6_lot 28 = .ok (.lrem, 1) := by decide +kernel
theorem dX6_lot_29 : decode cX6_lot 29 = .ok (.ldc2_w 159, 3) := by decide +kernel
theorem dX6_lot_32 : decode cX6_lot 32 = .ok (.lrem, 1) := by decide +kernel
theorem dX6_lot_33 : decode cX6_lot 33 = .ok (.l2i, 1) := by decide +kernel
theorem dX6_lot_34 : decode cX6_lot 34 = .ok (.ireturn, 1) := by decide +kernel
theorem dX6_fallLate_0 : decode cX6_fallLate 0 = .ok (.aload_n 1, 1) := by decide +kernel
theorem dX6_fallLate_1 : decode cX6_fallLate 1 = .ok (.invokevirtual 132, 3) := by decide +kernel
theorem dX6_fallLate_4 : decode cX6_fallLate 4 = .ok (.lstore 4, 2) := by decide +kernel
theorem dX6_fallLate_6 : decode cX6_fallLate 6 = .ok (.aload_n 1, 1) := by decide +kernel
theorem dX6_fallLate_7 : decode cX6_fallLate 7 = .ok (.dup, 1) := by decide +kernel
theorem dX6_fallLate_8 : decode cX6_fallLate 8 = .ok (.getfield 122, 3) := by decide +kernel
theorem dX6_fallLate_11 : decode cX6_fallLate 11 = .ok (.lload 4, 2) := by decide +kernel
theorem dX6_fallLate_13 : decode cX6_fallLate 13 = .ok (.ladd, 1) := by decide +kernel
theorem dX6_fallLate_14 : decode cX6_fallLate 14 = .ok (.putfield 122, 3) := by decide +kernel
theorem dX6_fallLate_17 : decode cX6_fallLate 17 = .ok (.aload_n 1, 1) := by decide +kernel
theorem dX6_fallLate_18 : decode cX6_fallLate 18 = .ok (.iconst 1, 1) := by decide +kernel
theorem dX6_fallLate_19 : decode cX6_fallLate 19 = .ok (.putfield 51, 3) := by decide +kernel
theorem dX6_fallLate_22 : decode cX6_fallLate 22 = .ok (.aload_n 1, 1) := by decide +kernel
theorem dX6_fallLate_23 : decode cX6_fallLate 23 = .ok (.iload_n 2, 1) := by decide +kernel
theorem dX6_fallLate_24 : decode cX6_fallLate 24 = .ok (.invokevirtual 135, 3) := by decide +kernel
theorem dX6_fallLate_27 : decode cX6_fallLate 27 = .ok (.ifCond .eq 13, 3) := by decide +kernel
theorem dX6_fallLate_30 : decode cX6_fallLate 30 = .ok (.aload_n 1, 1) := by decide +kernel
theorem dX6_fallLate_31 : decode cX6_fallLate 31 = .ok (.dup, 1) := by decide +kernel
theorem dX6_fallLate_32 : decode cX6_fallLate 32 = .ok (.getfield 161, 3) := by decide +kernel
theorem dX6_fallLate_35 : decode cX6_fallLate 35 = .ok (.iconst 1, 1) := by decide +kernel
theorem dX6_fallLate_36 : decode cX6_fallLate 36 = .ok (.iadd, 1) := by decide +kernel
theorem dX6_fallLate_37 : decode cX6_fallLate 37 = .ok (.putfield 161, 3) := by decide +kernel
theorem dX6_fallLate_40 : decode cX6_fallLate 40 = .ok (.aload_n 0, 1) := by decide +kernel
theorem dX6_fallLate_41 : decode cX6_fallLate 41 = .ok (.getfield 32, 3) := by decide +kernel
theorem dX6_fallLate_44 : decode cX6_fallLate 44 = .ok (.ifCond .eq 14, 3) := by decide +kernel
theorem dX6_fallLate_47 : decode cX6_fallLate 47 = .ok (.aload_n 3, 1) := by decide +kernel
theorem dX6_fallLate_48 : decode cX6_fallLate 48 = .ok (.dup, 1) := by decide +kernel
theorem dX6_fallLate_49 : decode cX6_fallLate 49 = .ok (.getfield 89, 3) := by decide +kernel
theorem dX6_fallLate_52 : decode cX6_fallLate 52 = .ok (.lload 4, 2) := by decide +kernel
theorem dX6_fallLate_54 : decode cX6_fallLate 54 = .ok (.ladd, 1) := by decide +kernel
theorem dX6_fallLate_55 : decode cX6_fallLate 55 = .ok (.putfield 89, 3) := by decide +kernel
theorem dX6_fallLate_58 : decode cX6_fallLate 58 = .ok (.return_, 1) := by decide +kernel
theorem dX6_payMonth_0 : decode cX6_payMonth 0 = .ok (.aload_n 0, 1) := by decide +kernel
theorem dX6_payMonth_1 : decode cX6_payMonth 1 = .ok (.invokevirtual 132, 3) := by decide +kernel
theorem dX6_payMonth_4 : decode cX6_payMonth 4 = .ok (.lstore_n 3, 1) := by decide +kernel
theorem dX6_payMonth_5 : decode cX6_payMonth 5 = .ok (.aload_n 2, 1) := by decide +kernel
theorem dX6_payMonth_6 : decode cX6_payMonth 6 = .ok (.dup, 1) := by decide +kernel
theorem dX6_payMonth_7 : decode cX6_payMonth 7 = .ok (.getfield 90, 3) := by decide +kernel
theorem dX6_payMonth_10 : decode cX6_payMonth 10 = .ok (.aload_n 0, 1) := by decide +kernel
theorem dX6_payMonth_11 : decode cX6_payMonth 11 = .ok (.getfield 122, 3) := by decide +kernel
theorem dX6_payMonth_14 : decode cX6_payMonth 14 = .ok (.ladd, 1) := by decide +kernel
theorem dX6_payMonth_15 : decode cX6_payMonth 15 = .ok (.putfield 90, 3) := by decide +kernel
theorem dX6_payMonth_18 : decode cX6_payMonth 18 = .ok (.aload_n 0, 1) := by decide +kernel
theorem dX6_payMonth_19 : decode cX6_payMonth 19 = .ok (.lconst 0, 1) := by decide +kernel
theorem dX6_payMonth_20 : decode cX6_payMonth 20 = .ok (.putfield 122, 3) := by decide +kernel
theorem dX6_payMonth_23 : decode cX6_payMonth 23 = .ok (.aload_n 0, 1) := by decide +kernel
theorem dX6_payMonth_24 : decode cX6_payMonth 24 = .ok (.aload_n 0, 1) := by decide +kernel
theorem dX6_payMonth_25 : decode cX6_payMonth 25 = .ok (.iload_n 1, 1) := by decide +kernel
theorem dX6_payMonth_26 : decode cX6_payMonth 26 = .ok (.invokevirtual 135, 3) := by decide +kernel
theorem dX6_payMonth_29 : decode cX6_payMonth 29 = .ok (.ifCond .eq 7, 3) := by decide +kernel
theorem dX6_payMonth_32 : decode cX6_payMonth 32 = .ok (.iconst 5, 1) := by decide +kernel
theorem dX6_payMonth_33 : decode cX6_payMonth 33 = .ok (.goto 4, 3) := by decide +kernel
theorem dX6_payMonth_36 : decode cX6_payMonth 36 = .ok (.iconst 0, 1) := by decide +kernel
theorem dX6_payMonth_37 : decode cX6_payMonth 37 = .ok (.putfield 51, 3) := by decide +kernel
theorem dX6_payMonth_40 : decode cX6_payMonth 40 = .ok (.aload_n 0, 1) := by decide +kernel
theorem dX6_payMonth_41 : decode cX6_payMonth 41 = .ok (.iload_n 1, 1) := by decide +kernel
theorem dX6_payMonth_42 : decode cX6_payMonth 42 = .ok (.invokevirtual 125, 3) := by decide +kernel
theorem dX6_payMonth_45 : decode cX6_payMonth 45 = .ok (.ifCond .eq 14, 3) := by decide +kernel
theorem dX6_payMonth_48 : decode cX6_payMonth 48 = .ok (.aload_n 0, 1) := by decide +kernel
theorem dX6_payMonth_49 : decode cX6_payMonth 49 = .ok (.dup, 1) := by decide +kernel
theorem dX6_payMonth_50 : decode cX6_payMonth 50 = .ok (.getfield 48, 3) := by decide +kernel
theorem dX6_payMonth_53 : decode cX6_payMonth 53 = .ok (.lload_n 3, 1) := by decide +kernel
theorem dX6_payMonth_54 : decode cX6_payMonth 54 = .ok (.ladd, 1) := by decide +kernel
theorem dX6_payMonth_55 : decode cX6_payMonth 55 = .ok (.putfield 48, 3) := by decide +kernel
theorem dX6_payMonth_58 : decode cX6_payMonth 58 = .ok (.return_, 1) := by decide +kernel
theorem dX6_payMonth_59 : decode cX6_payMonth 59 = .ok (.aload_n 0, 1) := by decide +kernel
theorem dX6_payMonth_60 : decode cX6_payMonth 60 = .ok (.iload_n 1, 1) := by decide +kernel
theorem dX6_payMonth_61 : decode cX6_payMonth 61 = .ok (.invokevirtual 164, 3) := by decide +kernel
theorem dX6_payMonth_64 : decode cX6_payMonth 64 = .ok (.lstore 5, 2) := by decide +kernel
theorem dX6_payMonth_66 : decode cX6_payMonth 66 = .ok (.aload_n 2, 1) := by decide +kernel
theorem dX6_payMonth_67 : decode cX6_payMonth 67 = .ok (.dup, 1) := by decide +kernel
theorem dX6_payMonth_68 : decode cX6_payMonth 68 = .ok (.getfield 90, 3) := by decide +kernel
theorem dX6_payMonth_71 : decode cX6_payMonth 71 = .ok (.lload_n 3, 1) := by decide +kernel
theorem dX6_payMonth_72 : decode cX6_payMonth 72 = .ok (.ladd, 1) := by decide +kernel
theorem dX6_payMonth_73 : decode cX6_payMonth 73 = .ok (.putfield 90, 3) := by decide +kernel
theorem dX6_payMonth_76 : decode cX6_payMonth 76 = .ok (.aload_n 2, 1) := by decide +kernel
theorem dX6_payMonth_77 : decode cX6_payMonth 77 = .ok (.dup, 1) := by decide +kernel
theorem dX6_payMonth_78 : decode cX6_payMonth 78 = .ok (.getfield 168, 3) := by decide +kernel
theorem dX6_payMonth_81 : decode cX6_payMonth 81 = .ok (.lload 5, 2) := by decide +kernel
theorem dX6_payMonth_83 : decode cX6_payMonth 83 = .ok (.ladd, 1) := by decide +kernel
theorem dX6_payMonth_84 : decode cX6_payMonth 84 = .ok (.putfield 168, 3) := by decide +kernel
theorem dX6_payMonth_87 : decode cX6_payMonth 87 = .ok (.aload_n 0, 1) := by decide +kernel
theorem dX6_payMonth_88 : decode cX6_payMonth 88 = .ok (.dup, 1) := by decide +kernel
theorem dX6_payMonth_89 : decode cX6_payMonth 89 = .ok (.getfield 48, 3) := by decide +kernel
theorem dX6_payMonth_92 : decode cX6_payMonth 92 = .ok (.lload 5, 2) := by decide +kernel
theorem dX6_payMonth_94 : decode cX6_payMonth 94 = .ok (.lsub, 1) := by decide +kernel
theorem dX6_payMonth_95 : decode cX6_payMonth 95 = .ok (.putfield 48, 3) := by decide +kernel
theorem dX6_payMonth_98 : decode cX6_payMonth 98 = .ok (.return_, 1) := by decide +kernel
theorem dX6_payAll_0 : decode cX6_payAll 0 = .ok (.aload_n 1, 1) := by decide +kernel
theorem dX6_payAll_1 : decode cX6_payAll 1 = .ok (.dup, 1) := by decide +kernel
theorem dX6_payAll_2 : decode cX6_payAll 2 = .ok (.getfield 90, 3) := by decide +kernel
theorem dX6_payAll_5 : decode cX6_payAll 5 = .ok (.lload_n 2, 1) := by decide +kernel
theorem dX6_payAll_6 : decode cX6_payAll 6 = .ok (.aload_n 0, 1) := by decide +kernel
theorem dX6_payAll_7 : decode cX6_payAll 7 = .ok (.getfield 122, 3) := by decide +kernel
theorem dX6_payAll_10 : decode cX6_payAll 10 = .ok (.ladd, 1) := by decide +kernel
theorem dX6_payAll_11 : decode cX6_payAll 11 = .ok (.ladd, 1) := by decide +kernel
theorem dX6_payAll_12 : decode cX6_payAll 12 = .ok (.putfield 90, 3) := by decide +kernel
theorem dX6_payAll_15 : decode cX6_payAll 15 = .ok (.aload_n 1, 1) := by decide +kernel
theorem dX6_payAll_16 : decode cX6_payAll 16 = .ok (.dup, 1) := by decide +kernel
theorem dX6_payAll_17 : decode cX6_payAll 17 = .ok (.getfield 168, 3) := by decide +kernel
theorem dX6_payAll_20 : decode cX6_payAll 20 = .ok (.aload_n 0, 1) := by decide +kernel
theorem dX6_payAll_21 : decode cX6_payAll 21 = .ok (.getfield 48, 3) := by decide +kernel
theorem dX6_payAll_24 : decode cX6_payAll 24 = .ok (.ladd, 1) := by decide +kernel
theorem dX6_payAll_25 : decode cX6_payAll 25 = .ok (.putfield 168, 3) := by decide +kernel
theorem dX6_payAll_28 : decode cX6_payAll 28 = .ok (.aload_n 0, 1) := by decide +kernel
theorem dX6_payAll_29 : decode cX6_payAll 29 = .ok (.lconst 0, 1) := by decide +kernel
theorem dX6_payAll_30 : decode cX6_payAll 30 = .ok (.putfield 122, 3) := by decide +kernel
theorem dX6_payAll_33 : decode cX6_payAll 33 = .ok (.aload_n 0, 1) := by decide +kernel
theorem dX6_payAll_34 : decode cX6_payAll 34 = .ok (.lconst 0, 1) := by decide +kernel
theorem dX6_payAll_35 : decode cX6_payAll 35 = .ok (.putfield 48, 3) := by decide +kernel
theorem dX6_payAll_38 : decode cX6_payAll 38 = .ok (.aload_n 0, 1) := by decide +kernel
theorem dX6_payAll_39 : decode cX6_payAll 39 = .ok (.iload 4, 2) := by decide +kernel
theorem dX6_payAll_41 : decode cX6_payAll 41 = .ok (.putfield 51, 3) := by decide +kernel
theorem dX6_payAll_44 : decode cX6_payAll 44 = .ok (.return_, 1) := by decide +kernel
theorem dX6_sell_0 : decode cX6_sell 0 = .ok (.aload_n 1, 1) := by decide +kernel
theorem dX6_sell_1 : decode cX6_sell 1 = .ok (.getfield 48, 3) := by decide +kernel
theorem dX6_sell_4 : decode cX6_sell 4 = .ok (.aload_n 0, 1) := by decide +kernel
theorem dX6_sell_5 : decode cX6_sell 5 = .ok (.getfield 17, 3) := by decide +kernel
theorem dX6_sell_8 : decode cX6_sell 8 = .ok (.i2l, 1) := by decide +kernel
theorem dX6_sell_9 : decode cX6_sell 9 = .ok (.lmul, 1) := by decide +kernel
theorem dX6_sell_10 : decode cX6_sell 10 = .ok (.ldc2_w 171, 3) := by decide +kernel
theorem dX6_sell_13 : decode cX6_sell 13 = .ok (.ldiv, 1) := by decide +kernel
theorem dX6_sell_14 : decode cX6_sell 14 = .ok (.lstore_n 3, 1) := by decide +kernel
theorem dX6_sell_15 : decode cX6_sell 15 = .ok (.aload_n 2, 1) := by decide +kernel
theorem dX6_sell_16 : decode cX6_sell 16 = .ok (.dup, 1) := by decide +kernel
theorem dX6_sell_17 : decode cX6_sell 17 = .ok (.getfield 173, 3) := by decide +kernel
theorem dX6_sell_20 : decode cX6_sell 20 = .ok (.lload_n 3, 1) := by decide +kernel
theorem dX6_sell_21 : decode cX6_sell 21 = .ok (.ladd, 1) := by decide +kernel
theorem dX6_sell_22 : decode cX6_sell 22 = .ok (.putfield 173, 3) := by decide +kernel
theorem dX6_sell_25 : decode cX6_sell 25 = .ok (.aload_n 2, 1) := by decide +kernel
theorem dX6_sell_26 : decode cX6_sell 26 = .ok (.dup, 1) := by decide +kernel
theorem dX6_sell_27 : decode cX6_sell 27 = .ok (.getfield 176, 3) := by decide +kernel
theorem dX6_sell_30 : decode cX6_sell 30 = .ok (.aload_n 1, 1) := by decide +kernel
theorem dX6_sell_31 : decode cX6_sell 31 = .ok (.getfield 48, 3) := by decide +kernel
theorem dX6_sell_34 : decode cX6_sell 34 = .ok (.lload_n 3, 1) := by decide +kernel
theorem dX6_sell_35 : decode cX6_sell 35 = .ok (.lsub, 1) := by decide +kernel
theorem dX6_sell_36 : decode cX6_sell 36 = .ok (.ladd, 1) := by decide +kernel
theorem dX6_sell_37 : decode cX6_sell 37 = .ok (.putfield 176, 3) := by decide +kernel
theorem dX6_sell_40 : decode cX6_sell 40 = .ok (.aload_n 1, 1) := by decide +kernel
theorem dX6_sell_41 : decode cX6_sell 41 = .ok (.lconst 0, 1) := by decide +kernel
theorem dX6_sell_42 : decode cX6_sell 42 = .ok (.putfield 48, 3) := by decide +kernel
theorem dX6_sell_45 : decode cX6_sell 45 = .ok (.aload_n 1, 1) := by decide +kernel
theorem dX6_sell_46 : decode cX6_sell 46 = .ok (.iconst 4, 1) := by decide +kernel
theorem dX6_sell_47 : decode cX6_sell 47 = .ok (.putfield 51, 3) := by decide +kernel
theorem dX6_sell_50 : decode cX6_sell 50 = .ok (.return_, 1) := by decide +kernel
theorem dX7_init_0 : decode cX7_init 0 = .ok (.aload_n 0, 1) := by decide +kernel
theorem dX7_init_1 : decode cX7_init 1 = .ok (.invokespecial 3, 3) := by decide +kernel
theorem dX7_init_4 : decode cX7_init 4 = .ok (.aload_n 0, 1) := by decide +kernel
theorem dX7_init_5 : decode cX7_init 5 = .ok (.bipush 40, 2) := by decide +kernel
theorem dX7_init_7 : decode cX7_init 7 = .ok (.newarray .int, 2) := by decide +kernel
theorem dX7_init_9 : decode cX7_init 9 = .ok (.putfield 9, 3) := by decide +kernel
theorem dX7_init_12 : decode cX7_init 12 = .ok (.aload_n 0, 1) := by decide +kernel
theorem dX7_init_13 : decode cX7_init 13 = .ok (.iconst (-1), 1) := by decide +kernel
theorem dX7_init_14 : decode cX7_init 14 = .ok (.putfield 15, 3) := by decide +kernel
theorem dX7_init_17 : decode cX7_init 17 = .ok (.return_, 1) := by decide +kernel
theorem dX7_lay_0 : decode cX7_lay 0 = .ok (.aload_n 0, 1) := by decide +kernel
theorem dX7_lay_1 : decode cX7_lay 1 = .ok (.iload_n 1, 1) := by decide +kernel
theorem dX7_lay_2 : decode cX7_lay 2 = .ok (.putfield 15, 3) := by decide +kernel
theorem dX7_lay_5 : decode cX7_lay 5 = .ok (.aload_n 0, 1) := by decide +kernel
theorem dX7_lay_6 : decode cX7_lay 6 = .ok (.iload_n 2, 1) := by decide +kernel
theorem dX7_lay_7 : decode cX7_lay 7 = .ok (.putfield 19, 3) := by decide +kernel
theorem dX7_lay_10 : decode cX7_lay 10 = .ok (.iconst 0, 1) := by decide +kernel
theorem dX7_lay_11 : decode cX7_lay 11 = .ok (.istore_n 3, 1) := by decide +kernel
theorem dX7_lay_12 : decode cX7_lay 12 = .ok (.iload_n 3, 1) := by decide +kernel
theorem dX7_lay_13 : decode cX7_lay 13 = .ok (.aload_n 0, 1) := by decide +kernel
theorem dX7_lay_14 : decode cX7_lay 14 = .ok (.getfield 9, 3) := by decide +kernel
theorem dX7_lay_17 : decode cX7_lay 17 = .ok (.arraylength, 1) := by decide +kernel
theorem dX7_lay_18 : decode cX7_lay 18 = .ok (.if_icmp .ge 16, 3) := by decide +kernel
theorem dX7_lay_21 : decode cX7_lay 21 = .ok (.aload_n 0, 1) := by decide +kernel
theorem dX7_lay_22 : decode cX7_lay 22 = .ok (.getfield 9, 3) := by decide +kernel
theorem dX7_lay_25 : decode cX7_lay 25 = .ok (.iload_n 3, 1) := by decide +kernel
theorem dX7_lay_26 : decode cX7_lay 26 = .ok (.iconst 0, 1) := by decide +kernel
theorem dX7_lay_27 : decode cX7_lay 27 = .ok (.iastore, 1) := by decide +kernel
theorem dX7_lay_28 : decode cX7_lay 28 = .ok (.iinc 3 1, 3) := by decide +kernel
theorem dX7_lay_31 : decode cX7_lay 31 = .ok (.goto (-19), 3) := by decide +kernel
theorem dX7_lay_34 : decode cX7_lay 34 = .ok (.return_, 1) := by decide +kernel
theorem dX7_holds_0 : decode cX7_holds 0 = .ok (.lload_n 1, 1) := by decide +kernel
theorem dX7_holds_1 : decode cX7_holds 1 = .ok (.lconst 0, 1) := by decide +kernel
theorem dX7_holds_2 : decode cX7_holds 2 = .ok (.lcmp, 1) := by decide +kernel
theorem dX7_holds_3 : decode cX7_holds 3 = .ok (.ifCond .lt 28, 3) := by decide +kernel
theorem dX7_holds_6 : decode cX7_holds 6 = .ok (.lload_n 1, 1) := by decide +kernel
theorem dX7_holds_7 : decode cX7_holds 7 = .ok (.aload_n 0, 1) := by decide +kernel
theorem dX7_holds_8 : decode cX7_holds 8 = .ok (.getfield 19, 3) := by decide +kernel
theorem dX7_holds_11 : decode cX7_holds 11 = .ok (.i2l, 1) := by decide +kernel
theorem dX7_holds_12 : decode cX7_holds 12 = .ok (.lcmp, 1) := by decide +kernel
theorem dX7_holds_13 : decode cX7_holds 13 = .ok (.ifCond .ge 18, 3) := by decide +kernel
theorem dX7_holds_16 : decode cX7_holds 16 = .ok (.lload_n 1, 1) := by decide +kernel
theorem dX7_holds_17 : decode cX7_holds 17 = .ok (.aload_n 0, 1) := by decide +kernel
theorem dX7_holds_18 : decode cX7_holds 18 = .ok (.getfield 9, 3) := by decide +kernel
theorem dX7_holds_21 : decode cX7_holds 21 = .ok (.arraylength, 1) := by decide +kernel
theorem dX7_holds_22 : decode cX7_holds 22 = .ok (.i2l, 1) := by decide +kernel
theorem dX7_holds_23 : decode cX7_holds 23 = .ok (.lcmp, 1) := by decide +kernel
theorem dX7_holds_24 : decode cX7_holds 24 = .ok (.ifCond .ge 7, 3) := by decide +kernel
theorem dX7_holds_27 : decode cX7_holds 27 = .ok (.iconst 1, 1) := by decide +kernel
theorem dX7_holds_28 : decode cX7_holds 28 = .ok (.goto 4, 3) := by decide +kernel
theorem dX7_holds_31 : decode cX7_holds 31 = .ok (.iconst 0, 1) := by decide +kernel
theorem dX7_holds_32 : decode cX7_holds 32 = .ok (.ireturn, 1) := by decide +kernel
theorem dX8_init_0 : decode cX8_init 0 = .ok (.aload_n 0, 1) := by decide +kernel
theorem dX8_init_1 : decode cX8_init 1 = .ok (.invokespecial 3, 3) := by decide +kernel
theorem dX8_init_4 : decode cX8_init 4 = .ok (.aload_n 0, 1) := by decide +kernel
theorem dX8_init_5 : decode cX8_init 5 = .ok (.sipush 160, 3) := by decide +kernel
theorem dX8_init_8 : decode cX8_init 8 = .ok (.newarray .byte, 2) := by decide +kernel
theorem dX8_init_10 : decode cX8_init 10 = .ok (.putfield 9, 3) := by decide +kernel
theorem dX8_init_13 : decode cX8_init 13 = .ok (.return_, 1) := by decide +kernel
theorem dX8_append_0 : decode cX8_append 0 = .ok (.iconst 0, 1) := by decide +kernel
theorem dX8_append_1 : decode cX8_append 1 = .ok (.istore 4, 2) := by decide +kernel
theorem dX8_append_3 : decode cX8_append 3 = .ok (.iload 4, 2) := by decide +kernel
theorem dX8_append_5 : decode cX8_append 5 = .ok (.iload_n 1, 1) := by decide +kernel
theorem dX8_append_6 : decode cX8_append 6 = .ok (.if_icmp .ge 47, 3) := by decide +kernel
theorem dX8_append_9 : decode cX8_append 9 = .ok (.aload_n 0, 1) := by decide +kernel
theorem dX8_append_10 : decode cX8_append 10 = .ok (.getfield 15, 3) := by decide +kernel
theorem dX8_append_13 : decode cX8_append 13 = .ok (.sipush 160, 3) := by decide +kernel
theorem dX8_append_16 : decode cX8_append 16 = .ok (.if_icmp .ge 37, 3) := by decide +kernel
theorem dX8_append_19 : decode cX8_append 19 = .ok (.aload_n 0, 1) := by decide +kernel
theorem dX8_append_20 : decode cX8_append 20 = .ok (.getfield 9, 3) := by decide +kernel
theorem dX8_append_23 : decode cX8_append 23 = .ok (.aload_n 0, 1) := by decide +kernel
theorem dX8_append_24 : decode cX8_append 24 = .ok (.getfield 15, 3) := by decide +kernel
theorem dX8_append_27 : decode cX8_append 27 = .ok (.lload_n 2, 1) := by decide +kernel
theorem dX8_append_28 : decode cX8_append 28 = .ok (.bipush 8, 2) := by decide +kernel
theorem dX8_append_30 : decode cX8_append 30 = .ok (.iload 4, 2) := by decide +kernel
theorem dX8_append_32 : decode cX8_append 32 = .ok (.imul, 1) := by decide +kernel
theorem dX8_append_33 : decode cX8_append 33 = .ok (.lushr, 1) := by decide +kernel
theorem dX8_append_34 : decode cX8_append 34 = .ok (.l2i, 1) := by decide +kernel
theorem dX8_append_35 : decode cX8_append 35 = .ok (.i2b, 1) := by decide +kernel
theorem dX8_append_36 : decode cX8_append 36 = .ok (.bastore, 1) := by decide +kernel
theorem dX8_append_37 : decode cX8_append 37 = .ok (.aload_n 0, 1) := by decide +kernel
theorem dX8_append_38 : decode cX8_append 38 = .ok (.dup, 1) := by decide +kernel
theorem dX8_append_39 : decode cX8_append 39 = .ok (.getfield 15, 3) := by decide +kernel
theorem dX8_append_42 : decode cX8_append 42 = .ok (.iconst 1, 1) := by decide +kernel
theorem dX8_append_43 : decode cX8_append 43 = .ok (.iadd, 1) := by decide +kernel
theorem dX8_append_44 : decode cX8_append 44 = .ok (.putfield 15, 3) := by decide +kernel
theorem dX8_append_47 : decode cX8_append 47 = .ok (.iinc 4 1, 3) := by decide +kernel
theorem dX8_append_50 : decode cX8_append 50 = .ok (.goto (-47), 3) := by decide +kernel
theorem dX8_append_53 : decode cX8_append 53 = .ok (.return_, 1) := by decide +kernel
theorem dX8_begin_0 : decode cX8_begin 0 = .ok (.aload_n 0, 1) := by decide +kernel
theorem dX8_begin_1 : decode cX8_begin 1 = .ok (.iconst 0, 1) := by decide +kernel
theorem dX8_begin_2 : decode cX8_begin 2 = .ok (.putfield 19, 3) := by decide +kernel
theorem dX8_begin_5 : decode cX8_begin 5 = .ok (.aload_n 0, 1) := by decide +kernel
theorem dX8_begin_6 : decode cX8_begin 6 = .ok (.invokevirtual 22, 3) := by decide +kernel
theorem dX8_begin_9 : decode cX8_begin 9 = .ok (.return_, 1) := by decide +kernel
theorem dX8_next_0 : decode cX8_next 0 = .ok (.aload_n 0, 1) := by decide +kernel
theorem dX8_next_1 : decode cX8_next 1 = .ok (.aload_n 0, 1) := by decide +kernel
theorem dX8_next_2 : decode cX8_next 2 = .ok (.getfield 19, 3) := by decide +kernel
theorem dX8_next_5 : decode cX8_next 5 = .ok (.putfield 25, 3) := by decide +kernel
theorem dX8_next_8 : decode cX8_next 8 = .ok (.aload_n 0, 1) := by decide +kernel
theorem dX8_next_9 : decode cX8_next 9 = .ok (.getfield 25, 3) := by decide +kernel
theorem dX8_next_12 : decode cX8_next 12 = .ok (.aload_n 0, 1) := by decide +kernel
theorem dX8_next_13 : decode cX8_next 13 = .ok (.getfield 15, 3) := by decide +kernel
theorem dX8_next_16 : decode cX8_next 16 = .ok (.if_icmp .ge 30, 3) := by decide +kernel
theorem dX8_next_19 : decode cX8_next 19 = .ok (.aload_n 0, 1) := by decide +kernel
theorem dX8_next_20 : decode cX8_next 20 = .ok (.aload_n 0, 1) := by decide +kernel
theorem dX8_next_21 : decode cX8_next 21 = .ok (.getfield 25, 3) := by decide +kernel
theorem dX8_next_24 : decode cX8_next 24 = .ok (.invokevirtual 28, 3) := by decide +kernel
theorem dX8_next_27 : decode cX8_next 27 = .ok (.invokestatic 32, 3) := by decide +kernel
theorem dX8_next_30 : decode cX8_next 30 = .ok (.ifCond .eq 16, 3) := by decide +kernel
theorem dX8_next_33 : decode cX8_next 33 = .ok (.aload_n 0, 1) := by decide +kernel
theorem dX8_next_34 : decode cX8_next 34 = .ok (.dup, 1) := by decide +kernel
theorem dX8_next_35 : decode cX8_next 35 = .ok (.getfield 25, 3) := by decide +kernel
theorem dX8_next_38 : decode cX8_next 38 = .ok (.iconst 1, 1) := by decide +kernel
theorem dX8_next_39 : decode cX8_next 39 = .ok (.iadd, 1) := by decide +kernel
theorem dX8_next_40 : decode cX8_next 40 = .ok (.putfield 25, 3) := by decide +kernel
theorem dX8_next_43 : decode cX8_next 43 = .ok (.goto (-35), 3) := by decide +kernel
theorem dX8_next_46 : decode cX8_next 46 = .ok (.aload_n 0, 1) := by decide +kernel
theorem dX8_next_47 : decode cX8_next 47 = .ok (.aload_n 0, 1) := by decide +kernel
theorem dX8_next_48 : decode cX8_next 48 = .ok (.getfield 25, 3) := by decide +kernel
theorem dX8_next_51 : decode cX8_next 51 = .ok (.putfield 19, 3) := by decide +kernel
theorem dX8_next_54 : decode cX8_next 54 = .ok (.aload_n 0, 1) := by decide +kernel
theorem dX8_next_55 : decode cX8_next 55 = .ok (.aload_n 0, 1) := by decide +kernel
theorem dX8_next_56 : decode cX8_next 56 = .ok (.getfield 25, 3) := by decide +kernel
theorem dX8_next_59 : decode cX8_next 59 = .ok (.invokevirtual 28, 3) := by decide +kernel
theorem dX8_next_62 : decode cX8_next 62 = .ok (.istore_n 1, 1) := by decide +kernel
theorem dX8_next_63 : decode cX8_next 63 = .ok (.aload_n 0, 1) := by decide +kernel
theorem dX8_next_64 : decode cX8_next 64 = .ok (.getfield 25, 3) := by decide +kernel
theorem dX8_next_67 : decode cX8_next 67 = .ok (.aload_n 0, 1) := by decide +kernel
theorem dX8_next_68 : decode cX8_next 68 = .ok (.getfield 15, 3) := by decide +kernel
theorem dX8_next_71 : decode cX8_next 71 = .ok (.if_icmp .lt 11, 3) := by decide +kernel
theorem dX8_next_74 : decode cX8_next 74 = .ok (.aload_n 0, 1) := by decide +kernel
theorem dX8_next_75 : decode cX8_next 75 = .ok (.iconst 0, 1) := by decide +kernel
theorem dX8_next_76 : decode cX8_next 76 = .ok (.putfield 36, 3) := by decide +kernel
theorem dX8_next_79 : decode cX8_next 79 = .ok (.goto 96, 3) := by decide +kernel
theorem dX8_next_82 : decode cX8_next 82 = .ok (.iload_n 1, 1) := by decide +kernel
theorem dX8_next_83 : decode cX8_next 83 = .ok (.invokestatic 39, 3) := by decide +kernel
theorem dX8_next_86 : decode cX8_next 86 = .ok (.ifCond .eq 46, 3) := by decide +kernel
theorem dX8_next_89 : decode cX8_next 89 = .ok (.aload_n 0, 1) := by decide +kernel
theorem dX8_next_90 : decode cX8_next 90 = .ok (.iconst 1, 1) := by decide +kernel
theorem dX8_next_91 : decode cX8_next 91 = .ok (.putfield 36, 3) := by decide +kernel
theorem dX8_next_94 : decode cX8_next 94 = .ok (.aload_n 0, 1) := by decide +kernel
theorem dX8_next_95 : decode cX8_next 95 = .ok (.getfield 19, 3) := by decide +kernel
theorem dX8_next_98 : decode cX8_next 98 = .ok (.aload_n 0, 1) := by decide +kernel
theorem dX8_next_99 : decode cX8_next 99 = .ok (.getfield 15, 3) := by decide +kernel
theorem dX8_next_102 : decode cX8_next 102 = .ok (.if_icmp .ge 73, 3) := by decide +kernel
theorem dX8_next_105 : decode cX8_next 105 = .ok (.aload_n 0, 1) := by decide +kernel
theorem dX8_next_106 : decode cX8_next 106 = .ok (.aload_n 0, 1) := by decide +kernel
theorem dX8_next_107 : decode cX8_next 107 = .ok (.getfield 19, 3) := by decide +kernel
theorem dX8_next_110 : decode cX8_next 110 = .ok (.invokevirtual 28, 3) := by decide +kernel
theorem dX8_next_113 : decode cX8_next 113 = .ok (.invokestatic 39, 3) := by decide +kernel
theorem dX8_next_116 : decode cX8_next 116 = .ok (.ifCond .eq 59, 3) := by decide +kernel
theorem dX8_next_119 : decode cX8_next 119 = .ok (.aload_n 0, 1) := by decide +kernel
theorem dX8_next_120 : decode cX8_next 120 = .ok (.dup, 1) := by decide +kernel
theorem dX8_next_121 : decode cX8_next 121 = .ok (.getfield 19, 3) := by decide +kernel
theorem dX8_next_124 : decode cX8_next 124 = .ok (.iconst 1, 1) := by decide +kernel
theorem dX8_next_125 : decode cX8_next 125 = .ok (.iadd, 1) := by decide +kernel
theorem dX8_next_126 : decode cX8_next 126 = .ok (.putfield 19, 3) := by decide +kernel
theorem dX8_next_129 : decode cX8_next 129 = .ok (.goto (-35), 3) := by decide +kernel
theorem dX8_next_132 : decode cX8_next 132 = .ok (.iload_n 1, 1) := by decide +kernel
theorem dX8_next_133 : decode cX8_next 133 = .ok (.invokestatic 42, 3) := by decide +kernel
theorem dX8_next_136 : decode cX8_next 136 = .ok (.ifCond .eq 10, 3) := by decide +kernel
theorem dX8_next_139 : decode cX8_next 139 = .ok (.aload_n 0, 1) := by decide +kernel
theorem dX8_next_140 : decode cX8_next 140 = .ok (.invokevirtual 45, 3) := by decide +kernel
theorem dX8_next_143 : decode cX8_next 143 = .ok (.goto 32, 3) := by decide +kernel
theorem dX8_next_146 : decode cX8_next 146 = .ok (.aload_n 0, 1) := by decide +kernel
theorem dX8_next_147 : decode cX8_next 147 = .ok (.ldc 48, 2) := by decide +kernel
theorem dX8_next_149 : decode cX8_next 149 = .ok (.iload_n 1, 1) := by decide +kernel
theorem dX8_next_150 : decode cX8_next 150 = .ok (.i2c, 1) := by decide +kernel
theorem dX8_next_151 : decode cX8_next 151 = .ok (.invokevirtual 50, 3) := by decide +kernel
theorem dX8_next_154 : decode cX8_next 154 = .ok (.ifCond .lt 7, 3) := by decide +kernel
theorem dX8_next_157 : decode cX8_next 157 = .ok (.iconst 3, 1) := by decide +kernel
theorem dX8_next_158 : decode cX8_next 158 = .ok (.goto 4, 3) := by decide +kernel
theorem dX8_next_161 : decode cX8_next 161 = .ok (.iconst 4, 1) := by decide +kernel
theorem dX8_next_162 : decode cX8_next 162 = .ok (.putfield 36, 3) := by decide +kernel
theorem dX8_next_165 : decode cX8_next 165 = .ok (.aload_n 0, 1) := by decide +kernel
theorem dX8_next_166 : decode cX8_next 166 = .ok (.dup, 1) := by decide +kernel
theorem dX8_next_167 : decode cX8_next 167 = .ok (.getfield 19, 3) := by decide +kernel
theorem dX8_next_170 : decode cX8_next 170 = .ok (.iconst 1, 1) := by decide +kernel
theorem dX8_next_171 : decode cX8_next 171 = .ok (.iadd, 1) := by decide +kernel
theorem dX8_next_172 : decode cX8_next 172 = .ok (.putfield 19, 3) := by decide +kernel
theorem dX8_next_175 : decode cX8_next 175 = .ok (.return_, 1) := by decide +kernel
theorem dX8_readNumber_0 : decode cX8_readNumber 0 = .ok (.aload_n 0, 1) := by decide +kernel
theorem dX8_readNumber_1 : decode cX8_readNumber 1 = .ok (.iconst 0, 1) := by decide +kernel
theorem dX8_readNumber_2 : decode cX8_readNumber 2 = .ok (.putfield 55, 3) := by decide +kernel
theorem dX8_readNumber_5 : decode cX8_readNumber 5 = .ok (.aload_n 0, 1) := by decide +kernel
theorem dX8_readNumber_6 : decode cX8_readNumber 6 = .ok (.getfield 19, 3) := by decide +kernel
theorem dX8_readNumber_9 : decode cX8_readNumber 9 = .ok (.aload_n 0, 1) := by decide +kernel
theorem dX8_readNumber_10 : decode cX8_readNumber 10 = .ok (.getfield 15, 3) := by decide +kernel
theorem dX8_readNumber_13 : decode cX8_readNumber 13 = .ok (.if_icmp .ge 53, 3) := by decide +kernel
theorem dX8_readNumber_16 : decode cX8_readNumber 16 = .ok (.aload_n 0, 1) := by decide +kernel
theorem dX8_readNumber_17 : decode cX8_readNumber 17 = .ok (.aload_n 0, 1) := by decide +kernel
theorem dX8_readNumber_18 : decode cX8_readNumber 18 = .ok (.getfield 19, 3) := by decide +kernel
theorem dX8_readNumber_21 : decode cX8_readNumber 21 = .ok (.invokevirtual 28, 3) := by decide +kernel
theorem dX8_readNumber_24 : decode cX8_readNumber 24 = .ok (.invokestatic 42, 3) := by decide +kernel
theorem dX8_readNumber_27 : decode cX8_readNumber 27 = .ok (.ifCond .eq 39, 3) := by decide +kernel
theorem dX8_readNumber_30 : decode cX8_readNumber 30 = .ok (.aload_n 0, 1) := by decide +kernel
theorem dX8_readNumber_31 : decode cX8_readNumber 31 = .ok (.aload_n 0, 1) := by decide +kernel
theorem dX8_readNumber_32 : decode cX8_readNumber 32 = .ok (.getfield 55, 3) := by decide +kernel
theorem dX8_readNumber_35 : decode cX8_readNumber 35 = .ok (.bipush 10, 2) := by decide +kernel
theorem dX8_readNumber_37 : decode cX8_readNumber 37 = .ok (.imul, 1) := by decide +kernel
theorem dX8_readNumber_38 : decode cX8_readNumber 38 = .ok (.aload_n 0, 1) := by decide +kernel
theorem dX8_readNumber_39 : decode cX8_readNumber 39 = .ok (.aload_n 0, 1) := by decide +kernel
theorem dX8_readNumber_40 : decode cX8_readNumber 40 = .ok (.getfield 19, 3) := by decide +kernel
theorem dX8_readNumber_43 : decode cX8_readNumber 43 = .ok (.invokevirtual 28, 3) := by decide +kernel
theorem dX8_readNumber_46 : decode cX8_readNumber 46 = .ok (.iadd, 1) := by decide +kernel
theorem dX8_readNumber_47 : decode cX8_readNumber 47 = .ok (.bipush 48, 2) := by decide +kernel
theorem dX8_readNumber_49 : decode cX8_readNumber 49 = .ok (.isub, 1) := by decide +kernel
theorem dX8_readNumber_50 : decode cX8_readNumber 50 = .ok (.putfield 55, 3) := by decide +kernel
theorem dX8_readNumber_53 : decode cX8_readNumber 53 = .ok (.aload_n 0, 1) := by decide +kernel
theorem dX8_readNumber_54 : decode cX8_readNumber 54 = .ok (.dup, 1) := by decide +kernel
theorem dX8_readNumber_55 : decode cX8_readNumber 55 = .ok (.getfield 19, 3) := by decide +kernel
theorem dX8_readNumber_58 : decode cX8_readNumber 58 = .ok (.iconst 1, 1) := by decide +kernel
theorem dX8_readNumber_59 : decode cX8_readNumber 59 = .ok (.iadd, 1) := by decide +kernel
theorem dX8_readNumber_60 : decode cX8_readNumber 60 = .ok (.putfield 19, 3) := by decide +kernel
theorem dX8_readNumber_63 : decode cX8_readNumber 63 = .ok (.goto (-58), 3) := by decide +kernel
theorem dX8_readNumber_66 : decode cX8_readNumber 66 = .ok (.aload_n 0, 1) := by decide +kernel
theorem dX8_readNumber_67 : decode cX8_readNumber 67 = .ok (.aload_n 0, 1) := by decide +kernel
theorem dX8_readNumber_68 : decode cX8_readNumber 68 = .ok (.getfield 19, 3) := by decide +kernel
theorem dX8_readNumber_71 : decode cX8_readNumber 71 = .ok (.aload_n 0, 1) := by decide +kernel
theorem dX8_readNumber_72 : decode cX8_readNumber 72 = .ok (.getfield 25, 3) := by decide +kernel
theorem dX8_readNumber_75 : decode cX8_readNumber 75 = .ok (.isub, 1) := by decide +kernel
theorem dX8_readNumber_76 : decode cX8_readNumber 76 = .ok (.iconst 4, 1) := by decide +kernel
theorem dX8_readNumber_77 : decode cX8_readNumber 77 = .ok (.if_icmp .le 7, 3) := by decide +kernel
theorem dX8_readNumber_80 : decode cX8_readNumber 80 = .ok (.iconst 4, 1) := by decide +kernel
theorem dX8_readNumber_81 : decode cX8_readNumber 81 = .ok (.goto 4, 3) := by decide +kernel
theorem dX8_readNumber_84 : decode cX8_readNumber 84 = .ok (.iconst 2, 1) := by decide +kernel
theorem dX8_readNumber_85 : decode cX8_readNumber 85 = .ok (.putfield 36, 3) := by decide +kernel
theorem dX8_readNumber_88 : decode cX8_readNumber 88 = .ok (.return_, 1) := by decide +kernel
theorem dX8_at_0 : decode cX8_at 0 = .ok (.iload_n 1, 1) := by decide +kernel
theorem dX8_at_1 : decode cX8_at 1 = .ok (.ifCond .lt 31, 3) := by decide +kernel
theorem dX8_at_4 : decode cX8_at 4 = .ok (.iload_n 1, 1) := by decide +kernel
theorem dX8_at_5 : decode cX8_at 5 = .ok (.aload_n 0, 1) := by decide +kernel
theorem dX8_at_6 : decode cX8_at 6 = .ok (.getfield 15, 3) := by decide +kernel
theorem dX8_at_9 : decode cX8_at 9 = .ok (.if_icmp .ge 23, 3) := by decide +kernel
theorem dX8_at_12 : decode cX8_at 12 = .ok (.iload_n 1, 1) := by decide +kernel
theorem dX8_at_13 : decode cX8_at 13 = .ok (.sipush 160, 3) := by decide +kernel
theorem dX8_at_16 : decode cX8_at 16 = .ok (.if_icmp .ge 16, 3) := by decide +kernel
theorem dX8_at_19 : decode cX8_at 19 = .ok (.aload_n 0, 1) := by decide +kernel
theorem dX8_at_20 : decode cX8_at 20 = .ok (.getfield 9, 3) := by decide +kernel
theorem dX8_at_23 : decode cX8_at 23 = .ok (.iload_n 1, 1) := by decide +kernel
theorem dX8_at_24 : decode cX8_at 24 = .ok (.baload, 1) := by decide +kernel
theorem dX8_at_25 : decode cX8_at 25 = .ok (.sipush 255, 3) := by decide +kernel
theorem dX8_at_28 : decode cX8_at 28 = .ok (.iand, 1) := by decide +kernel
theorem dX8_at_29 : decode cX8_at 29 = .ok (.goto 4, 3) := by decide +kernel
theorem dX8_at_32 : decode cX8_at 32 = .ok (.iconst 0, 1) := by decide +kernel
theorem dX8_at_33 : decode cX8_at 33 = .ok (.ireturn, 1) := by decide +kernel
theorem dX8_isBlank_0 : decode cX8_isBlank 0 = .ok (.iload_n 0, 1) := by decide +kernel
theorem dX8_isBlank_1 : decode cX8_isBlank 1 = .ok (.bipush 32, 2) := by decide +kernel
theorem dX8_isBlank_3 : decode cX8_isBlank 3 = .ok (.if_icmp .eq 9, 3) := by decide +kernel
theorem dX8_isBlank_6 : decode cX8_isBlank 6 = .ok (.iload_n 0, 1) := by decide +kernel
theorem dX8_isBlank_7 : decode cX8_isBlank 7 = .ok (.bipush 10, 2) := by decide +kernel
theorem dX8_isBlank_9 : decode cX8_isBlank 9 = .ok (.if_icmp .ne 7, 3) := by decide +kernel
theorem dX8_isBlank_12 : decode cX8_isBlank 12 = .ok (.iconst 1, 1) := by decide +kernel
theorem dX8_isBlank_13 : decode cX8_isBlank 13 = .ok (.goto 4, 3) := by decide +kernel
theorem dX8_isBlank_16 : decode cX8_isBlank 16 = .ok (.iconst 0, 1) := by decide +kernel
theorem dX8_isBlank_17 : decode cX8_isBlank 17 = .ok (.ireturn, 1) := by decide +kernel
theorem dX8_isLetter_0 : decode cX8_isLetter 0 = .ok (.iload_n 0, 1) := by decide +kernel
theorem dX8_isLetter_1 : decode cX8_isLetter 1 = .ok (.bipush 97, 2) := by decide +kernel
theorem dX8_isLetter_3 : decode cX8_isLetter 3 = .ok (.if_icmp .lt 13, 3) := by decide +kernel
theorem dX8_isLetter_6 : decode cX8_isLetter 6 = .ok (.iload_n 0, 1) := by decide +kernel
theorem dX8_isLetter_7 : decode cX8_isLetter 7 = .ok (.bipush 122, 2) := by decide +kernel
theorem dX8_isLetter_9 : decode cX8_isLetter 9 = .ok (.if_icmp .gt 7, 3) := by decide +kernel
theorem dX8_isLetter_12 : decode cX8_isLetter 12 = .ok (.iconst 1, 1) := by decide +kernel
theorem dX8_isLetter_13 : decode cX8_isLetter 13 = .ok (.goto 4, 3) := by decide +kernel
theorem dX8_isLetter_16 : decode cX8_isLetter 16 = .ok (.iconst 0, 1) := by decide +kernel
theorem dX8_isLetter_17 : decode cX8_isLetter 17 = .ok (.ireturn, 1) := by decide +kernel
theorem dX8_isDigit_0 : decode cX8_isDigit 0 = .ok (.iload_n 0, 1) := by decide +kernel
theorem dX8_isDigit_1 : decode cX8_isDigit 1 = .ok (.bipush 48, 2) := by decide +kernel
theorem dX8_isDigit_3 : decode cX8_isDigit 3 = .ok (.if_icmp .lt 13, 3) := by decide +kernel
theorem dX8_isDigit_6 : decode cX8_isDigit 6 = .ok (.iload_n 0, 1) := by decide +kernel
theorem dX8_isDigit_7 : decode cX8_isDigit 7 = .ok (.bipush 57, 2) := by decide +kernel
theorem dX8_isDigit_9 : decode cX8_isDigit 9 = .ok (.if_icmp .gt 7, 3) := by decide +kernel
theorem dX8_isDigit_12 : decode cX8_isDigit 12 = .ok (.iconst 1, 1) := by decide +kernel
theorem dX8_isDigit_13 : decode cX8_isDigit 13 = .ok (.goto 4, 3) := by decide +kernel
theorem dX8_isDigit_16 : decode cX8_isDigit 16 = .ok (.iconst 0, 1) := by decide +kernel
theorem dX8_isDigit_17 : decode cX8_isDigit 17 = .ok (.ireturn, 1) := by decide +kernel
theorem dX8_isEnd_0 : decode cX8_isEnd 0 = .ok (.aload_n 0, 1) := by decide +kernel
theorem dX8_isEnd_1 : decode cX8_isEnd 1 = .ok (.getfield 36, 3) := by decide +kernel
theorem dX8_isEnd_4 : decode cX8_isEnd 4 = .ok (.ifCond .ne 7, 3) := by decide +kernel
theorem dX8_isEnd_7 : decode cX8_isEnd 7 = .ok (.iconst 1, 1) := by decide +kernel
theorem dX8_isEnd_8 : decode cX8_isEnd 8 = .ok (.goto 4, 3) := by decide +kernel
theorem dX8_isEnd_11 : decode cX8_isEnd 11 = .ok (.iconst 0, 1) := by decide +kernel
theorem dX8_isEnd_12 : decode cX8_isEnd 12 = .ok (.ireturn, 1) := by decide +kernel
theorem dX8_isNumber_0 : decode cX8_isNumber 0 = .ok (.aload_n 0, 1) := by decide +kernel
theorem dX8_isNumber_1 : decode cX8_isNumber 1 = .ok (.getfield 36, 3) := by decide +kernel
theorem dX8_isNumber_4 : decode cX8_isNumber 4 = .ok (.iconst 2, 1) := by decide +kernel
theorem dX8_isNumber_5 : decode cX8_isNumber 5 = .ok (.if_icmp .ne 7, 3) := by decide +kernel
theorem dX8_isNumber_8 : decode cX8_isNumber 8 = .ok (.iconst 1, 1) := by decide +kernel
theorem dX8_isNumber_9 : decode cX8_isNumber 9 = .ok (.goto 4, 3) := by decide +kernel
theorem dX8_isNumber_12 : decode cX8_isNumber 12 = .ok (.iconst 0, 1) := by decide +kernel
theorem dX8_isNumber_13 : decode cX8_isNumber 13 = .ok (.ireturn, 1) := by decide +kernel
theorem dX8_isSign_0 : decode cX8_isSign 0 = .ok (.aload_n 0, 1) := by decide +kernel
theorem dX8_isSign_1 : decode cX8_isSign 1 = .ok (.getfield 36, 3) := by decide +kernel
theorem dX8_isSign_4 : decode cX8_isSign 4 = .ok (.iconst 3, 1) := by decide +kernel
theorem dX8_isSign_5 : decode cX8_isSign 5 = .ok (.if_icmp .ne 19, 3) := by decide +kernel
theorem dX8_isSign_8 : decode cX8_isSign 8 = .ok (.aload_n 0, 1) := by decide +kernel
theorem dX8_isSign_9 : decode cX8_isSign 9 = .ok (.aload_n 0, 1) := by decide +kernel
theorem dX8_isSign_10 : decode cX8_isSign 10 = .ok (.getfield 25, 3) := by decide +kernel
theorem dX8_isSign_13 : decode cX8_isSign 13 = .ok (.invokevirtual 28, 3) := by decide +kernel
theorem dX8_isSign_16 : decode cX8_isSign 16 = .ok (.iload_n 1, 1) := by decide +kernel
theorem dX8_isSign_17 : decode cX8_isSign 17 = .ok (.if_icmp .ne 7, 3) := by decide +kernel
theorem dX8_isSign_20 : decode cX8_isSign 20 = .ok (.iconst 1, 1) := by decide +kernel
theorem dX8_isSign_21 : decode cX8_isSign 21 = .ok (.goto 4, 3) := by decide +kernel
theorem dX8_isSign_24 : decode cX8_isSign 24 = .ok (.iconst 0, 1) := by decide +kernel
theorem dX8_isSign_25 : decode cX8_isSign 25 = .ok (.ireturn, 1) := by decide +kernel
theorem dX8_takesSign_0 : decode cX8_takesSign 0 = .ok (.aload_n 0, 1) := by decide +kernel
theorem dX8_takesSign_1 : decode cX8_takesSign 1 = .ok (.iload_n 1, 1) := by decide +kernel
theorem dX8_takesSign_2 : decode cX8_takesSign 2 = .ok (.invokevirtual 58, 3) := by decide +kernel
theorem dX8_takesSign_5 : decode cX8_takesSign 5 = .ok (.istore_n 2, 1) := by decide +kernel
theorem dX8_takesSign_6 : decode cX8_takesSign 6 = .ok (.iload_n 2, 1) := by decide +kernel
theorem dX8_takesSign_7 : decode cX8_takesSign 7 = .ok (.ifCond .eq 7, 3) := by decide +kernel
theorem dX8_takesSign_10 : decode cX8_takesSign 10 = .ok (.aload_n 0, 1) := by decide +kernel
theorem dX8_takesSign_11 : decode cX8_takesSign 11 = .ok (.invokevirtual 22, 3) := by decide +kernel
theorem dX8_takesSign_14 : decode cX8_takesSign 14 = .ok (.iload_n 2, 1) := by decide +kernel
theorem dX8_takesSign_15 : decode cX8_takesSign 15 = .ok (.ireturn, 1) := by decide +kernel
theorem dX8_takesWord_0 : decode cX8_takesWord 0 = .ok (.aload_n 0, 1) := by decide +kernel
theorem dX8_takesWord_1 : decode cX8_takesWord 1 = .ok (.aload_n 1, 1) := by decide +kernel
theorem dX8_takesWord_2 : decode cX8_takesWord 2 = .ok (.invokevirtual 62, 3) := by decide +kernel
theorem dX8_takesWord_5 : decode cX8_takesWord 5 = .ok (.ifCond .ne 7, 3) := by decide +kernel
theorem dX8_takesWord_8 : decode cX8_takesWord 8 = .ok (.iconst 1, 1) := by decide +kernel
theorem dX8_takesWord_9 : decode cX8_takesWord 9 = .ok (.goto 4, 3) := by decide +kernel
theorem dX8_takesWord_12 : decode cX8_takesWord 12 = .ok (.iconst 0, 1) := by decide +kernel
theorem dX8_takesWord_13 : decode cX8_takesWord 13 = .ok (.istore_n 2, 1) := by decide +kernel
theorem dX8_takesWord_14 : decode cX8_takesWord 14 = .ok (.iload_n 2, 1) := by decide +kernel
theorem dX8_takesWord_15 : decode cX8_takesWord 15 = .ok (.ifCond .eq 7, 3) := by decide +kernel
theorem dX8_takesWord_18 : decode cX8_takesWord 18 = .ok (.aload_n 0, 1) := by decide +kernel
theorem dX8_takesWord_19 : decode cX8_takesWord 19 = .ok (.invokevirtual 22, 3) := by decide +kernel
theorem dX8_takesWord_22 : decode cX8_takesWord 22 = .ok (.iload_n 2, 1) := by decide +kernel
theorem dX8_takesWord_23 : decode cX8_takesWord 23 = .ok (.ireturn, 1) := by decide +kernel
theorem dX8_which_0 : decode cX8_which 0 = .ok (.aload_n 0, 1) := by decide +kernel
theorem dX8_which_1 : decode cX8_which 1 = .ok (.getfield 36, 3) := by decide +kernel
theorem dX8_which_4 : decode cX8_which 4 = .ok (.iconst 1, 1) := by decide +kernel
theorem dX8_which_5 : decode cX8_which 5 = .ok (.if_icmp .eq 5, 3) := by decide +kernel
theorem dX8_which_8 : decode cX8_which 8 = .ok (.iconst (-1), 1) := by decide +kernel
theorem dX8_which_9 : decode cX8_which 9 = .ok (.ireturn, 1) := by decide +kernel
theorem dX8_which_10 : decode cX8_which 10 = .ok (.iconst 0, 1) := by decide +kernel
theorem dX8_which_11 : decode cX8_which 11 = .ok (.istore_n 2, 1) := by decide +kernel
theorem dX8_which_12 : decode cX8_which 12 = .ok (.iconst 0, 1) := by decide +kernel
theorem dX8_which_13 : decode cX8_which 13 = .ok (.istore_n 3, 1) := by decide +kernel
theorem dX8_which_14 : decode cX8_which 14 = .ok (.iconst 0, 1) := by decide +kernel
theorem dX8_which_15 : decode cX8_which 15 = .ok (.istore 4, 2) := by decide +kernel
theorem dX8_which_17 : decode cX8_which 17 = .ok (.iload 4, 2) := by decide +kernel
theorem dX8_which_19 : decode cX8_which 19 = .ok (.aload_n 1, 1) := by decide +kernel
theorem dX8_which_20 : decode cX8_which 20 = .ok (.invokevirtual 66, 3) := by decide +kernel
theorem dX8_which_23 : decode cX8_which 23 = .ok (.if_icmp .gt 50, 3) := by decide +kernel
theorem dX8_which_26 : decode cX8_which 26 = .ok (.iload 4, 2) := by decide +kernel
theorem dX8_which_28 : decode cX8_which 28 = .ok (.aload_n 1, 1) := by decide +kernel
theorem dX8_which_29 : decode cX8_which 29 = .ok (.invokevirtual 66, 3) := by decide +kernel
theorem dX8_which_32 : decode cX8_which 32 = .ok (.if_icmp .eq 14, 3) := by decide +kernel
theorem dX8_which_35 : decode cX8_which 35 = .ok (.aload_n 1, 1) := by decide +kernel
theorem dX8_which_36 : decode cX8_which 36 = .ok (.iload 4, 2) := by decide +kernel
theorem dX8_which_38 : decode cX8_which 38 = .ok (.invokevirtual 70, 3) := by decide +kernel
theorem dX8_which_41 : decode cX8_which 41 = .ok (.bipush 32, 2) := by decide +kernel
theorem dX8_which_43 : decode cX8_which 43 = .ok (.if_icmp .ne 24, 3) := by decide +kernel
theorem dX8_which_46 : decode cX8_which 46 = .ok (.aload_n 0, 1) := by decide +kernel
theorem dX8_which_47 : decode cX8_which 47 = .ok (.aload_n 1, 1) := by decide +kernel
theorem dX8_which_48 : decode cX8_which 48 = .ok (.iload_n 3, 1) := by decide +kernel
theorem dX8_which_49 : decode cX8_which 49 = .ok (.iload 4, 2) := by decide +kernel
theorem dX8_which_51 : decode cX8_which 51 = .ok (.invokevirtual 74, 3) := by decide +kernel
theorem dX8_which_54 : decode cX8_which 54 = .ok (.ifCond .eq 5, 3) := by decide +kernel
theorem dX8_which_57 : decode cX8_which 57 = .ok (.iload_n 2, 1) := by decide +kernel
theorem dX8_which_58 : decode cX8_which 58 = .ok (.ireturn, 1) := by decide +kernel
theorem dX8_which_59 : decode cX8_which 59 = .ok (.iinc 2 1, 3) := by decide +kernel
theorem dX8_which_62 : decode cX8_which 62 = .ok (.iload 4, 2) := by decide +kernel
theorem dX8_which_64 : decode cX8_which 64 = .ok (.iconst 1, 1) := by decide +kernel
theorem dX8_which_65 : decode cX8_which 65 = .ok (.iadd, 1) := by decide +kernel
theorem dX8_which_66 : decode cX8_which 66 = .ok (.istore_n 3, 1) := by decide +kernel
theorem dX8_which_67 : decode cX8_which 67 = .ok (.iinc 4 1, 3) := by decide +kernel
theorem dX8_which_70 : decode cX8_which 70 = .ok (.goto (-53), 3) := by decide +kernel
theorem dX8_which_73 : decode cX8_which 73 = .ok (.iconst (-1), 1) := by decide +kernel
theorem dX8_which_74 : decode cX8_which 74 = .ok (.ireturn, 1) := by decide +kernel
theorem dX8_isSame_0 : decode cX8_isSame 0 = .ok (.iload_n 3, 1) := by decide +kernel
theorem dX8_isSame_1 : decode cX8_isSame 1 = .ok (.iload_n 2, 1) := by decide +kernel
theorem dX8_isSame_2 : decode cX8_isSame 2 = .ok (.isub, 1) := by decide +kernel
theorem dX8_isSame_3 : decode cX8_isSame 3 = .ok (.aload_n 0, 1) := by decide +kernel
theorem dX8_isSame_4 : decode cX8_isSame 4 = .ok (.getfield 19, 3) := by decide +kernel
theorem dX8_isSame_7 : decode cX8_isSame 7 = .ok (.aload_n 0, 1) := by decide +kernel
theorem dX8_isSame_8 : decode cX8_isSame 8 = .ok (.getfield 25, 3) := by decide +kernel
theorem dX8_isSame_11 : decode cX8_isSame 11 = .ok (.isub, 1) := by decide +kernel
theorem dX8_isSame_12 : decode cX8_isSame 12 = .ok (.if_icmp .eq 5, 3) := by decide +kernel
theorem dX8_isSame_15 : decode cX8_isSame 15 = .ok (.iconst 0, 1) := by decide +kernel
theorem dX8_isSame_16 : decode cX8_isSame 16 = .ok (.ireturn, 1) := by decide +kernel
theorem dX8_isSame_17 : decode cX8_isSame 17 = .ok (.iload_n 2, 1) := by decide +kernel
theorem dX8_isSame_18 : decode cX8_isSame 18 = .ok (.istore 4, 2) := by decide +kernel
theorem dX8_isSame_20 : decode cX8_isSame 20 = .ok (.iload 4, 2) := by decide +kernel
theorem dX8_isSame_22 : decode cX8_isSame 22 = .ok (.iload_n 3, 1) := by decide +kernel
theorem dX8_isSame_23 : decode cX8_isSame 23 = .ok (.if_icmp .ge 33, 3) := by decide +kernel
theorem dX8_isSame_26 : decode cX8_isSame 26 = .ok (.aload_n 1, 1) := by decide +kernel
theorem dX8_isSame_27 : decode cX8_isSame 27 = .ok (.iload 4, 2) := by decide +kernel
theorem dX8_isSame_29 : decode cX8_isSame 29 = .ok (.invokevirtual 70, 3) := by decide +kernel
theorem dX8_isSame_32 : decode cX8_isSame 32 = .ok (.aload_n 0, 1) := by decide +kernel
theorem dX8_isSame_33 : decode cX8_isSame 33 = .ok (.aload_n 0, 1) := by decide +kernel
theorem dX8_isSame_34 : decode cX8_isSame 34 = .ok (.getfield 25, 3) := by decide +kernel
theorem dX8_isSame_37 : decode cX8_isSame 37 = .ok (.iload 4, 2) := by decide +kernel
theorem dX8_isSame_39 : decode cX8_isSame 39 = .ok (.iadd, 1) := by decide +kernel
theorem dX8_isSame_40 : decode cX8_isSame 40 = .ok (.iload_n 2, 1) := by decide +kernel
theorem dX8_isSame_41 : decode cX8_isSame 41 = .ok (.isub, 1) := by decide +kernel
theorem dX8_isSame_42 : decode cX8_isSame 42 = .ok (.invokevirtual 28, 3) := by decide +kernel
theorem dX8_isSame_45 : decode cX8_isSame 45 = .ok (.if_icmp .eq 5, 3) := by decide +kernel
theorem dX8_isSame_48 : decode cX8_isSame 48 = .ok (.iconst 0, 1) := by decide +kernel
theorem dX8_isSame_49 : decode cX8_isSame 49 = .ok (.ireturn, 1) := by decide +kernel
theorem dX8_isSame_50 : decode cX8_isSame 50 = .ok (.iinc 4 1, 3) := by decide +kernel
theorem dX8_isSame_53 : decode cX8_isSame 53 = .ok (.goto (-33), 3) := by decide +kernel
theorem dX8_isSame_56 : decode cX8_isSame 56 = .ok (.iconst 1, 1) := by decide +kernel
theorem dX8_isSame_57 : decode cX8_isSame 57 = .ok (.ireturn, 1) := by decide +kernel
