theorem dX0_init_0 : decode cX0_init 0 = .ok (.aload_n 0, 1) := by decide +kernel
theorem dX0_init_1 : decode cX0_init 1 = .ok (.invokespecial 3, 3) := by decide +kernel
theorem dX0_init_4 : decode cX0_init 4 = .ok (.aload_n 0, 1) := by decide +kernel
theorem dX0_init_5 : decode cX0_init 5 = .ok (.bipush 6, 2) := by decide +kernel
theorem dX0_init_7 : decode cX0_init 7 = .ok (.anewarray 9, 3) := by decide +kernel
theorem dX0_init_10 : decode cX0_init 10 = .ok (.putfield 11, 3) := by decide +kernel
theorem dX0_init_13 : decode cX0_init 13 = .ok (.aload_n 0, 1) := by decide +kernel
theorem dX0_init_14 : decode cX0_init 14 = .ok (.iconst 3, 1) := by decide +kernel
theorem dX0_init_15 : decode cX0_init 15 = .ok (.newarray .int, 2) := by decide +kernel
theorem dX0_init_17 : decode cX0_init 17 = .ok (.putfield 17, 3) := by decide +kernel
theorem dX0_init_20 : decode cX0_init 20 = .ok (.aload_n 0, 1) := by decide +kernel
theorem dX0_init_21 : decode cX0_init 21 = .ok (.bipush 6, 2) := by decide +kernel
theorem dX0_init_23 : decode cX0_init 23 = .ok (.bipush 6, 2) := by decide +kernel
theorem dX0_init_25 : decode cX0_init 25 = .ok (.multianewarray 21 2, 4) := by decide +kernel
theorem dX0_init_29 : decode cX0_init 29 = .ok (.putfield 23, 3) := by decide +kernel
theorem dX0_init_32 : decode cX0_init 32 = .ok (.iconst 0, 1) := by decide +kernel
theorem dX0_init_33 : decode cX0_init 33 = .ok (.istore_n 1, 1) := by decide +kernel
theorem dX0_init_34 : decode cX0_init 34 = .ok (.iload_n 1, 1) := by decide +kernel
theorem dX0_init_35 : decode cX0_init 35 = .ok (.bipush 6, 2) := by decide +kernel
theorem dX0_init_37 : decode cX0_init 37 = .ok (.if_icmp .ge 22, 3) := by decide +kernel
theorem dX0_init_40 : decode cX0_init 40 = .ok (.aload_n 0, 1) := by decide +kernel
theorem dX0_init_41 : decode cX0_init 41 = .ok (.getfield 11, 3) := by decide +kernel
theorem dX0_init_44 : decode cX0_init 44 = .ok (.iload_n 1, 1) := by decide +kernel
theorem dX0_init_45 : decode cX0_init 45 = .ok (.new 9, 3) := by decide +kernel
theorem dX0_init_48 : decode cX0_init 48 = .ok (.dup, 1) := by decide +kernel
theorem dX0_init_49 : decode cX0_init 49 = .ok (.invokespecial 26, 3) := by decide +kernel
theorem dX0_init_52 : decode cX0_init 52 = .ok (.aastore, 1) := by decide +kernel
theorem dX0_init_53 : decode cX0_init 53 = .ok (.iinc 1 1, 3) := by decide +kernel
theorem dX0_init_56 : decode cX0_init 56 = .ok (.goto (-22), 3) := by decide +kernel
theorem dX0_init_59 : decode cX0_init 59 = .ok (.iconst 0, 1) := by decide +kernel
theorem dX0_init_60 : decode cX0_init 60 = .ok (.istore_n 1, 1) := by decide +kernel
theorem dX0_init_61 : decode cX0_init 61 = .ok (.iload_n 1, 1) := by decide +kernel
theorem dX0_init_62 : decode cX0_init 62 = .ok (.iconst 3, 1) := by decide +kernel
theorem dX0_init_63 : decode cX0_init 63 = .ok (.if_icmp .ge 20, 3) := by decide +kernel
theorem dX0_init_66 : decode cX0_init 66 = .ok (.aload_n 0, 1) := by decide +kernel
theorem dX0_init_67 : decode cX0_init 67 = .ok (.getfield 17, 3) := by decide +kernel
theorem dX0_init_70 : decode cX0_init 70 = .ok (.iload_n 1, 1) := by decide +kernel
theorem dX0_init_71 : decode cX0_init 71 = .ok (.getstatic 27, 3) := by decide +kernel
theorem dX0_init_74 : decode cX0_init 74 = .ok (.iload_n 1, 1) := by decide +kernel
theorem dX0_init_75 : decode cX0_init 75 = .ok (.iaload, 1) := by decide +kernel
theorem dX0_init_76 : decode cX0_init 76 = .ok (.iastore, 1) := by decide +kernel
theorem dX0_init_77 : decode cX0_init 77 = .ok (.iinc 1 1, 3) := by decide +kernel
theorem dX0_init_80 : decode cX0_init 80 = .ok (.goto (-19), 3) := by decide +kernel
theorem dX0_init_83 : decode cX0_init 83 = .ok (.return_, 1) := by decide +kernel
theorem dX0_takeFrom_0 : decode cX0_takeFrom 0 = .ok (.iconst 0, 1) := by decide +kernel
theorem dX0_takeFrom_1 : decode cX0_takeFrom 1 = .ok (.istore_n 2, 1) := by decide +kernel
theorem dX0_takeFrom_2 : decode cX0_takeFrom 2 = .ok (.iload_n 2, 1) := by decide +kernel
theorem dX0_takeFrom_3 : decode cX0_takeFrom 3 = .ok (.bipush 6, 2) := by decide +kernel
theorem dX0_takeFrom_5 : decode cX0_takeFrom 5 = .ok (.if_icmp .ge 39, 3) := by decide +kernel
theorem dX0_takeFrom_8 : decode cX0_takeFrom 8 = .ok (.aload_n 0, 1) := by decide +kernel
theorem dX0_takeFrom_9 : decode cX0_takeFrom 9 = .ok (.getfield 11, 3) := by decide +kernel
theorem dX0_takeFrom_12 : decode cX0_takeFrom 12 = .ok (.iload_n 2, 1) := by decide +kernel
theorem dX0_takeFrom_13 : decode cX0_takeFrom 13 = .ok (.aaload, 1) := by decide +kernel
theorem dX0_takeFrom_14 : decode cX0_takeFrom 14 = .ok (.aload_n 1, 1) := by decide +kernel
theorem dX0_takeFrom_15 : decode cX0_takeFrom 15 = .ok (.getfield 11, 3) := by decide +kernel
theorem dX0_takeFrom_18 : decode cX0_takeFrom 18 = .ok (.iload_n 2, 1) := by decide +kernel
theorem dX0_takeFrom_19 : decode cX0_takeFrom 19 = .ok (.aaload, 1) := by decide +kernel
theorem dX0_takeFrom_20 : decode cX0_takeFrom 20 = .ok (.invokevirtual 30, 3) := by decide +kernel
theorem dX0_takeFrom_23 : decode cX0_takeFrom 23 = .ok (.aload_n 1, 1) := by decide +kernel
theorem dX0_takeFrom_24 : decode cX0_takeFrom 24 = .ok (.getfield 23, 3) := by decide +kernel
theorem dX0_takeFrom_27 : decode cX0_takeFrom 27 = .ok (.iload_n 2, 1) := by decide +kernel
theorem dX0_takeFrom_28 : decode cX0_takeFrom 28 = .ok (.aaload, 1) := by decide +kernel
theorem dX0_takeFrom_29 : decode cX0_takeFrom 29 = .ok (.aload_n 0, 1) := by decide +kernel
theorem dX0_takeFrom_30 : decode cX0_takeFrom 30 = .ok (.getfield 23, 3) := by decide +kernel
theorem dX0_takeFrom_33 : decode cX0_takeFrom 33 = .ok (.iload_n 2, 1) := by decide +kernel
theorem dX0_takeFrom_34 : decode cX0_takeFrom 34 = .ok (.aaload, 1) := by decide +kernel
theorem dX0_takeFrom_35 : decode cX0_takeFrom 35 = .ok (.invokestatic 34, 3) := by decide +kernel
theorem dX0_takeFrom_38 : decode cX0_takeFrom 38 = .ok (.iinc 2 1, 3) := by decide +kernel
theorem dX0_takeFrom_41 : decode cX0_takeFrom 41 = .ok (.goto (-39), 3) := by decide +kernel
theorem dX0_takeFrom_44 : decode cX0_takeFrom 44 = .ok (.aload_n 0, 1) := by decide +kernel
theorem dX0_takeFrom_45 : decode cX0_takeFrom 45 = .ok (.aload_n 1, 1) := by decide +kernel
theorem dX0_takeFrom_46 : decode cX0_takeFrom 46 = .ok (.getfield 38, 3) := by decide +kernel
theorem dX0_takeFrom_49 : decode cX0_takeFrom 49 = .ok (.putfield 38, 3) := by decide +kernel
theorem dX0_takeFrom_52 : decode cX0_takeFrom 52 = .ok (.aload_n 1, 1) := by decide +kernel
theorem dX0_takeFrom_53 : decode cX0_takeFrom 53 = .ok (.getfield 17, 3) := by decide +kernel
theorem dX0_takeFrom_56 : decode cX0_takeFrom 56 = .ok (.aload_n 0, 1) := by decide +kernel
theorem dX0_takeFrom_57 : decode cX0_takeFrom 57 = .ok (.getfield 17, 3) := by decide +kernel
theorem dX0_takeFrom_60 : decode cX0_takeFrom 60 = .ok (.invokestatic 34, 3) := by decide +kernel
theorem dX0_takeFrom_63 : decode cX0_takeFrom 63 = .ok (.aload_n 0, 1) := by decide +kernel
theorem dX0_takeFrom_64 : decode cX0_takeFrom 64 = .ok (.aload_n 1, 1) := by decide +kernel
theorem dX0_takeFrom_65 : decode cX0_takeFrom 65 = .ok (.getfield 42, 3) := by decide +kernel
theorem dX0_takeFrom_68 : decode cX0_takeFrom 68 = .ok (.putfield 42, 3) := by decide +kernel
theorem dX0_takeFrom_71 : decode cX0_takeFrom 71 = .ok (.aload_n 0, 1) := by decide +kernel
theorem dX0_takeFrom_72 : decode cX0_takeFrom 72 = .ok (.aload_n 1, 1) := by decide +kernel
theorem dX0_takeFrom_73 : decode cX0_takeFrom 73 = .ok (.getfield 45, 3) := by decide +kernel
theorem dX0_takeFrom_76 : decode cX0_takeFrom 76 = .ok (.putfield 45, 3) := by decide +kernel
theorem dX0_takeFrom_79 : decode cX0_takeFrom 79 = .ok (.aload_n 0, 1) := by decide +kernel
theorem dX0_takeFrom_80 : decode cX0_takeFrom 80 = .ok (.aload_n 1, 1) := by decide +kernel
theorem dX0_takeFrom_81 : decode cX0_takeFrom 81 = .ok (.getfield 48, 3) := by decide +kernel
theorem dX0_takeFrom_84 : decode cX0_takeFrom 84 = .ok (.putfield 48, 3) := by decide +kernel
theorem dX0_takeFrom_87 : decode cX0_takeFrom 87 = .ok (.aload_n 0, 1) := by decide +kernel
theorem dX0_takeFrom_88 : decode cX0_takeFrom 88 = .ok (.aload_n 1, 1) := by decide +kernel
theorem dX0_takeFrom_89 : decode cX0_takeFrom 89 = .ok (.getfield 51, 3) := by decide +kernel
theorem dX0_takeFrom_92 : decode cX0_takeFrom 92 = .ok (.putfield 51, 3) := by decide +kernel
theorem dX0_takeFrom_95 : decode cX0_takeFrom 95 = .ok (.return_, 1) := by decide +kernel
theorem dX0_carry_0 : decode cX0_carry 0 = .ok (.aload_n 0, 1) := by decide +kernel
theorem dX0_carry_1 : decode cX0_carry 1 = .ok (.getfield 11, 3) := by decide +kernel
theorem dX0_carry_4 : decode cX0_carry 4 = .ok (.iload_n 1, 1) := by decide +kernel
theorem dX0_carry_5 : decode cX0_carry 5 = .ok (.aaload, 1) := by decide +kernel
theorem dX0_carry_6 : decode cX0_carry 6 = .ok (.dup, 1) := by decide +kernel
theorem dX0_carry_7 : decode cX0_carry 7 = .ok (.getfield 54, 3) := by decide +kernel
theorem dX0_carry_10 : decode cX0_carry 10 = .ok (.iload_n 3, 1) := by decide +kernel
theorem dX0_carry_11 : decode cX0_carry 11 = .ok (.isub, 1) := by decide +kernel
theorem dX0_carry_12 : decode cX0_carry 12 = .ok (.putfield 54, 3) := by decide +kernel
theorem dX0_carry_15 : decode cX0_carry 15 = .ok (.aload_n 0, 1) := by decide +kernel
theorem dX0_carry_16 : decode cX0_carry 16 = .ok (.getfield 11, 3) := by decide +kernel
theorem dX0_carry_19 : decode cX0_carry 19 = .ok (.iload_n 2, 1) := by decide +kernel
theorem dX0_carry_20 : decode cX0_carry 20 = .ok (.aaload, 1) := by decide +kernel
theorem dX0_carry_21 : decode cX0_carry 21 = .ok (.dup, 1) := by decide +kernel
theorem dX0_carry_22 : decode cX0_carry 22 = .ok (.getfield 54, 3) := by decide +kernel
theorem dX0_carry_25 : decode cX0_carry 25 = .ok (.iload_n 3, 1) := by decide +kernel
theorem dX0_carry_26 : decode cX0_carry 26 = .ok (.iadd, 1) := by decide +kernel
theorem dX0_carry_27 : decode cX0_carry 27 = .ok (.putfield 54, 3) := by decide +kernel
theorem dX0_carry_30 : decode cX0_carry 30 = .ok (.return_, 1) := by decide +kernel
theorem dX0_takeRing_0 : decode cX0_takeRing 0 = .ok (.iconst 0, 1) := by decide +kernel
theorem dX0_takeRing_1 : decode cX0_takeRing 1 = .ok (.istore_n 2, 1) := by decide +kernel
theorem dX0_takeRing_2 : decode cX0_takeRing 2 = .ok (.iload_n 2, 1) := by decide +kernel
theorem dX0_takeRing_3 : decode cX0_takeRing 3 = .ok (.aload_n 1, 1) := by decide +kernel
theorem dX0_takeRing_4 : decode cX0_takeRing 4 = .ok (.getfield 57, 3) := by decide +kernel
theorem dX0_takeRing_7 : decode cX0_takeRing 7 = .ok (.if_icmp .ge 33, 3) := by decide +kernel
theorem dX0_takeRing_10 : decode cX0_takeRing 10 = .ok (.aload_n 0, 1) := by decide +kernel
theorem dX0_takeRing_11 : decode cX0_takeRing 11 = .ok (.getfield 23, 3) := by decide +kernel
theorem dX0_takeRing_14 : decode cX0_takeRing 14 = .ok (.aload_n 1, 1) := by decide +kernel
theorem dX0_takeRing_15 : decode cX0_takeRing 15 = .ok (.getfield 62, 3) := by decide +kernel
theorem dX0_takeRing_18 : decode cX0_takeRing 18 = .ok (.iload_n 2, 1) := by decide +kernel
theorem dX0_takeRing_19 : decode cX0_takeRing 19 = .ok (.iaload, 1) := by decide +kernel
theorem dX0_takeRing_20 : decode cX0_takeRing 20 = .ok (.aaload, 1) := by decide +kernel
theorem dX0_takeRing_21 : decode cX0_takeRing 21 = .ok (.aload_n 1, 1) := by decide +kernel
theorem dX0_takeRing_22 : decode cX0_takeRing 22 = .ok (.iload_n 2, 1) := by decide +kernel
theorem dX0_takeRing_23 : decode cX0_takeRing 23 = .ok (.invokevirtual 65, 3) := by decide +kernel
theorem dX0_takeRing_26 : decode cX0_takeRing 26 = .ok (.dup2, 1) := by decide +kernel
theorem dX0_takeRing_27 : decode cX0_takeRing 27 = .ok (.iaload, 1) := by decide +kernel
theorem dX0_takeRing_28 : decode cX0_takeRing 28 = .ok (.aload_n 1, 1) := by decide +kernel
theorem dX0_takeRing_29 : decode cX0_takeRing 29 = .ok (.getfield 69, 3) := by decide +kernel
theorem dX0_takeRing_32 : decode cX0_takeRing 32 = .ok (.isub, 1) := by decide +kernel
theorem dX0_takeRing_33 : decode cX0_takeRing 33 = .ok (.iastore, 1) := by decide +kernel
theorem dX0_takeRing_34 : decode cX0_takeRing 34 = .ok (.iinc 2 1, 3) := by decide +kernel
theorem dX0_takeRing_37 : decode cX0_takeRing 37 = .ok (.goto (-35), 3) := by decide +kernel
theorem dX0_takeRing_40 : decode cX0_takeRing 40 = .ok (.aload_n 0, 1) := by decide +kernel
theorem dX0_takeRing_41 : decode cX0_takeRing 41 = .ok (.dup, 1) := by decide +kernel
theorem dX0_takeRing_42 : decode cX0_takeRing 42 = .ok (.getfield 48, 3) := by decide +kernel
theorem dX0_takeRing_45 : decode cX0_takeRing 45 = .ok (.iconst 1, 1) := by decide +kernel
theorem dX0_takeRing_46 : decode cX0_takeRing 46 = .ok (.iadd, 1) := by decide +kernel
theorem dX0_takeRing_47 : decode cX0_takeRing 47 = .ok (.putfield 48, 3) := by decide +kernel
theorem dX0_takeRing_50 : decode cX0_takeRing 50 = .ok (.aload_n 0, 1) := by decide +kernel
theorem dX0_takeRing_51 : decode cX0_takeRing 51 = .ok (.dup, 1) := by decide +kernel
theorem dX0_takeRing_52 : decode cX0_takeRing 52 = .ok (.getfield 51, 3) := by decide +kernel
theorem dX0_takeRing_55 : decode cX0_takeRing 55 = .ok (.aload_n 1, 1) := by decide +kernel
theorem dX0_takeRing_56 : decode cX0_takeRing 56 = .ok (.getfield 69, 3) := by decide +kernel
theorem dX0_takeRing_59 : decode cX0_takeRing 59 = .ok (.aload_n 1, 1) := by decide +kernel
theorem dX0_takeRing_60 : decode cX0_takeRing 60 = .ok (.getfield 57, 3) := by decide +kernel
theorem dX0_takeRing_63 : decode cX0_takeRing 63 = .ok (.imul, 1) := by decide +kernel
theorem dX0_takeRing_64 : decode cX0_takeRing 64 = .ok (.iadd, 1) := by decide +kernel
theorem dX0_takeRing_65 : decode cX0_takeRing 65 = .ok (.putfield 51, 3) := by decide +kernel
theorem dX0_takeRing_68 : decode cX0_takeRing 68 = .ok (.return_, 1) := by decide +kernel
theorem dX0_owedBy_0 : decode cX0_owedBy 0 = .ok (.iconst 0, 1) := by decide +kernel
theorem dX0_owedBy_1 : decode cX0_owedBy 1 = .ok (.istore_n 2, 1) := by decide +kernel
theorem dX0_owedBy_2 : decode cX0_owedBy 2 = .ok (.iconst 0, 1) := by decide +kernel
theorem dX0_owedBy_3 : decode cX0_owedBy 3 = .ok (.istore_n 3, 1) := by decide +kernel
theorem dX0_owedBy_4 : decode cX0_owedBy 4 = .ok (.iload_n 3, 1) := by decide +kernel
theorem dX0_owedBy_5 : decode cX0_owedBy 5 = .ok (.aload_n 0, 1) := by decide +kernel
theorem dX0_owedBy_6 : decode cX0_owedBy 6 = .ok (.getfield 38, 3) := by decide +kernel
theorem dX0_owedBy_9 : decode cX0_owedBy 9 = .ok (.if_icmp .ge 20, 3) := by decide +kernel
theorem dX0_owedBy_12 : decode cX0_owedBy 12 = .ok (.iload_n 2, 1) := by decide +kernel
theorem dX0_owedBy_13 : decode cX0_owedBy 13 = .ok (.aload_n 0, 1) := by decide +kernel
theorem dX0_owedBy_14 : decode cX0_owedBy 14 = .ok (.getfield 23, 3) := by decide +kernel
theorem dX0_owedBy_17 : decode cX0_owedBy 17 = .ok (.iload_n 1, 1) := by decide +kernel
theorem dX0_owedBy_18 : decode cX0_owedBy 18 = .ok (.aaload, 1) := by decide +kernel
theorem dX0_owedBy_19 : decode cX0_owedBy 19 = .ok (.iload_n 3, 1) := by decide +kernel
theorem dX0_owedBy_20 : decode cX0_owedBy 20 = .ok (.iaload, 1) := by decide +kernel
theorem dX0_owedBy_21 : decode cX0_owedBy 21 = .ok (.iadd, 1) := by decide +kernel
theorem dX0_owedBy_22 : decode cX0_owedBy 22 = .ok (.istore_n 2, 1) := by decide +kernel
theorem dX0_owedBy_23 : decode cX0_owedBy 23 = .ok (.iinc 3 1, 3) := by decide +kernel
theorem dX0_owedBy_26 : decode cX0_owedBy 26 = .ok (.goto (-22), 3) := by decide +kernel
theorem dX0_owedBy_29 : decode cX0_owedBy 29 = .ok (.iload_n 2, 1) := by decide +kernel
theorem dX0_owedBy_30 : decode cX0_owedBy 30 = .ok (.ireturn, 1) := by decide +kernel
theorem dX0_owedTo_0 : decode cX0_owedTo 0 = .ok (.iconst 0, 1) := by decide +kernel
theorem dX0_owedTo_1 : decode cX0_owedTo 1 = .ok (.istore_n 2, 1) := by decide +kernel
theorem dX0_owedTo_2 : decode cX0_owedTo 2 = .ok (.iconst 0, 1) := by decide +kernel
theorem dX0_owedTo_3 : decode cX0_owedTo 3 = .ok (.istore_n 3, 1) := by decide +kernel
theorem dX0_owedTo_4 : decode cX0_owedTo 4 = .ok (.iload_n 3, 1) := by decide +kernel
theorem dX0_owedTo_5 : decode cX0_owedTo 5 = .ok (.aload_n 0, 1) := by decide +kernel
theorem dX0_owedTo_6 : decode cX0_owedTo 6 = .ok (.getfield 38, 3) := by decide +kernel
theorem dX0_owedTo_9 : decode cX0_owedTo 9 = .ok (.if_icmp .ge 20, 3) := by decide +kernel
theorem dX0_owedTo_12 : decode cX0_owedTo 12 = .ok (.iload_n 2, 1) := by decide +kernel
theorem dX0_owedTo_13 : decode cX0_owedTo 13 = .ok (.aload_n 0, 1) := by decide +kernel
theorem dX0_owedTo_14 : decode cX0_owedTo 14 = .ok (.getfield 23, 3) := by decide +kernel
theorem dX0_owedTo_17 : decode cX0_owedTo 17 = .ok (.iload_n 3, 1) := by decide +kernel
theorem dX0_owedTo_18 : decode cX0_owedTo 18 = .ok (.aaload, 1) := by decide +kernel
theorem dX0_owedTo_19 : decode cX0_owedTo 19 = .ok (.iload_n 1, 1) := by decide +kernel
theorem dX0_owedTo_20 : decode cX0_owedTo 20 = .ok (.iaload, 1) := by decide +kernel
theorem dX0_owedTo_21 : decode cX0_owedTo 21 = .ok (.iadd, 1) := by decide +kernel
theorem dX0_owedTo_22 : decode cX0_owedTo 22 = .ok (.istore_n 2, 1) := by decide +kernel
theorem dX0_owedTo_23 : decode cX0_owedTo 23 = .ok (.iinc 3 1, 3) := by decide +kernel
theorem dX0_owedTo_26 : decode cX0_owedTo 26 = .ok (.goto (-22), 3) := by decide +kernel
theorem dX0_owedTo_29 : decode cX0_owedTo 29 = .ok (.iload_n 2, 1) := by decide +kernel
theorem dX0_owedTo_30 : decode cX0_owedTo 30 = .ok (.ireturn, 1) := by decide +kernel
theorem dX0_allDebts_0 : decode cX0_allDebts 0 = .ok (.iconst 0, 1) := by decide +kernel
theorem dX0_allDebts_1 : decode cX0_allDebts 1 = .ok (.istore_n 1, 1) := by decide +kernel
theorem dX0_allDebts_2 : decode cX0_allDebts 2 = .ok (.iconst 0, 1) := by decide +kernel
theorem dX0_allDebts_3 : decode cX0_allDebts 3 = .ok (.istore_n 2, 1) := by decide +kernel
theorem dX0_allDebts_4 : decode cX0_allDebts 4 = .ok (.iload_n 2, 1) := by decide +kernel
theorem dX0_allDebts_5 : decode cX0_allDebts 5 = .ok (.aload_n 0, 1) := by decide +kernel
theorem dX0_allDebts_6 : decode cX0_allDebts 6 = .ok (.getfield 38, 3) := by decide +kernel
theorem dX0_allDebts_9 : decode cX0_allDebts 9 = .ok (.if_icmp .ge 17, 3) := by decide +kernel
theorem dX0_allDebts_12 : decode cX0_allDebts 12 = .ok (.iload_n 1, 1) := by decide +kernel
theorem dX0_allDebts_13 : decode cX0_allDebts 13 = .ok (.aload_n 0, 1) := by decide +kernel
theorem dX0_allDebts_14 : decode cX0_allDebts 14 = .ok (.iload_n 2, 1) := by decide +kernel
theorem dX0_allDebts_15 : decode cX0_allDebts 15 = .ok (.invokevirtual 72, 3) := by decide +kernel
theorem dX0_allDebts_18 : decode cX0_allDebts 18 = .ok (.iadd, 1) := by decide +kernel
theorem dX0_allDebts_19 : decode cX0_allDebts 19 = .ok (.istore_n 1, 1) := by decide +kernel
theorem dX0_allDebts_20 : decode cX0_allDebts 20 = .ok (.iinc 2 1, 3) := by decide +kernel
theorem dX0_allDebts_23 : decode cX0_allDebts 23 = .ok (.goto (-19), 3) := by decide +kernel
theorem dX0_allDebts_26 : decode cX0_allDebts 26 = .ok (.iload_n 1, 1) := by decide +kernel
theorem dX0_allDebts_27 : decode cX0_allDebts 27 = .ok (.ireturn, 1) := by decide +kernel
theorem dX0_owingPairs_0 : decode cX0_owingPairs 0 = .ok (.iconst 0, 1) := by decide +kernel
theorem dX0_owingPairs_1 : decode cX0_owingPairs 1 = .ok (.istore_n 1, 1) := by decide +kernel
theorem dX0_owingPairs_2 : decode cX0_owingPairs 2 = .ok (.iconst 0, 1) := by decide +kernel
theorem dX0_owingPairs_3 : decode cX0_owingPairs 3 = .ok (.istore_n 2, 1) := by decide +kernel
theorem dX0_owingPairs_4 : decode cX0_owingPairs 4 = .ok (.iload_n 2, 1) := by decide +kernel
theorem dX0_owingPairs_5 : decode cX0_owingPairs 5 = .ok (.aload_n 0, 1) := by decide +kernel
theorem dX0_owingPairs_6 : decode cX0_owingPairs 6 = .ok (.getfield 38, 3) := by decide +kernel
theorem dX0_owingPairs_9 : decode cX0_owingPairs 9 = .ok (.if_icmp .ge 44, 3) := by decide +kernel
theorem dX0_owingPairs_12 : decode cX0_owingPairs 12 = .ok (.iconst 0, 1) := by decide +kernel
theorem dX0_owingPairs_13 : decode cX0_owingPairs 13 = .ok (.istore_n 3, 1) := by decide +kernel
theorem dX0_owingPairs_14 : decode cX0_owingPairs 14 = .ok (.iload_n 3, 1) := by decide +kernel
theorem dX0_owingPairs_15 : decode cX0_owingPairs 15 = .ok (.aload_n 0, 1) := by decide +kernel
theorem dX0_owingPairs_16 : decode cX0_owingPairs 16 = .ok (.getfield 38, 3) := by decide +kernel
theorem dX0_owingPairs_19 : decode cX0_owingPairs 19 = .ok (.if_icmp .ge 28, 3) := by decide +kernel
theorem dX0_owingPairs_22 : decode cX0_owingPairs 22 = .ok (.iload_n 1, 1) := by decide +kernel
theorem dX0_owingPairs_23 : decode cX0_owingPairs 23 = .ok (.aload_n 0, 1) := by decide +kernel
theorem dX0_owingPairs_24 : decode cX0_owingPairs 24 = .ok (.getfield 23, 3) := by decide +kernel
theorem dX0_owingPairs_27 : decode cX0_owingPairs 27 = .ok (.iload_n 2, 1) := by decide +kernel
theorem dX0_owingPairs_28 : decode cX0_owingPairs 28 = .ok (.aaload, 1) := by decide +kernel
theorem dX0_owingPairs_29 : decode cX0_owingPairs 29 = .ok (.iload_n 3, 1) := by decide +kernel
theorem dX0_owingPairs_30 : decode cX0_owingPairs 30 = .ok (.iaload, 1) := by decide +kernel
theorem dX0_owingPairs_31 : decode cX0_owingPairs 31 = .ok (.ifCond .le 7, 3) := by decide +kernel
theorem dX0_owingPairs_34 : decode cX0_owingPairs 34 = .ok (.iconst 1, 1) := by decide +kernel
theorem dX0_owingPairs_35 : decode cX0_owingPairs 35 = .ok (.goto 4, 3) := by decide +kernel
theorem dX0_owingPairs_38 : decode cX0_owingPairs 38 = .ok (.iconst 0, 1) := by decide +kernel
theorem dX0_owingPairs_39 : decode cX0_owingPairs 39 = .ok (.iadd, 1) := by decide +kernel
theorem dX0_owingPairs_40 : decode cX0_owingPairs 40 = .ok (.istore_n 1, 1) := by decide +kernel
theorem dX0_owingPairs_41 : decode cX0_owingPairs 41 = .ok (.iinc 3 1, 3) := by decide +kernel
theorem dX0_owingPairs_44 : decode cX0_owingPairs 44 = .ok (.goto (-30), 3) := by decide +kernel
theorem dX0_owingPairs_47 : decode cX0_owingPairs 47 = .ok (.iinc 2 1, 3) := by decide +kernel
theorem dX0_owingPairs_50 : decode cX0_owingPairs 50 = .ok (.goto (-46), 3) := by decide +kernel
theorem dX0_owingPairs_53 : decode cX0_owingPairs 53 = .ok (.iload_n 1, 1) := by decide +kernel
theorem dX0_owingPairs_54 : decode cX0_owingPairs 54 = .ok (.ireturn, 1) := by decide +kernel
theorem dX0_pinsInBoxes_0 : decode cX0_pinsInBoxes 0 = .ok (.iconst 0, 1) := by decide +kernel
theorem dX0_pinsInBoxes_1 : decode cX0_pinsInBoxes 1 = .ok (.istore_n 1, 1) := by decide +kernel
theorem dX0_pinsInBoxes_2 : decode cX0_pinsInBoxes 2 = .ok (.iconst 0, 1) := by decide +kernel
theorem dX0_pinsInBoxes_3 : decode cX0_pinsInBoxes 3 = .ok (.istore_n 2, 1) := by decide +kernel
theorem dX0_pinsInBoxes_4 : decode cX0_pinsInBoxes 4 = .ok (.iload_n 2, 1) := by decide +kernel
theorem dX0_pinsInBoxes_5 : decode cX0_pinsInBoxes 5 = .ok (.aload_n 0, 1) := by decide +kernel
theorem dX0_pinsInBoxes_6 : decode cX0_pinsInBoxes 6 = .ok (.getfield 38, 3) := by decide +kernel
theorem dX0_pinsInBoxes_9 : decode cX0_pinsInBoxes 9 = .ok (.if_icmp .ge 21, 3) := by decide +kernel
theorem dX0_pinsInBoxes_12 : decode cX0_pinsInBoxes 12 = .ok (.iload_n 1, 1) := by decide +kernel
theorem dX0_pinsInBoxes_13 : decode cX0_pinsInBoxes 13 = .ok (.aload_n 0, 1) := by decide +kernel
theorem dX0_pinsInBoxes_14 : decode cX0_pinsInBoxes 14 = .ok (.getfield 11, 3) := by decide +kernel
theorem dX0_pinsInBoxes_17 : decode cX0_pinsInBoxes 17 = .ok (.iload_n 2, 1) := by decide +kernel
theorem dX0_pinsInBoxes_18 : decode cX0_pinsInBoxes 18 = .ok (.aaload, 1) := by decide +kernel
theorem dX0_pinsInBoxes_19 : decode cX0_pinsInBoxes 19 = .ok (.getfield 54, 3) := by decide +kernel
theorem dX0_pinsInBoxes_22 : decode cX0_pinsInBoxes 22 = .ok (.iadd, 1) := by decide +kernel
theorem dX0_pinsInBoxes_23 : decode cX0_pinsInBoxes 23 = .ok (.istore_n 1, 1) := by decide +kernel
theorem dX0_pinsInBoxes_24 : decode cX0_pinsInBoxes 24 = .ok (.iinc 2 1, 3) := by decide +kernel
theorem dX0_pinsInBoxes_27 : decode cX0_pinsInBoxes 27 = .ok (.goto (-23), 3) := by decide +kernel
theorem dX0_pinsInBoxes_30 : decode cX0_pinsInBoxes 30 = .ok (.iload_n 1, 1) := by decide +kernel
theorem dX0_pinsInBoxes_31 : decode cX0_pinsInBoxes 31 = .ok (.ireturn, 1) := by decide +kernel
theorem dX0_pinsInDrums_0 : decode cX0_pinsInDrums 0 = .ok (.iconst 0, 1) := by decide +kernel
theorem dX0_pinsInDrums_1 : decode cX0_pinsInDrums 1 = .ok (.istore_n 1, 1) := by decide +kernel
theorem dX0_pinsInDrums_2 : decode cX0_pinsInDrums 2 = .ok (.iconst 0, 1) := by decide +kernel
theorem dX0_pinsInDrums_3 : decode cX0_pinsInDrums 3 = .ok (.istore_n 2, 1) := by decide +kernel
theorem dX0_pinsInDrums_4 : decode cX0_pinsInDrums 4 = .ok (.iload_n 2, 1) := by decide +kernel
theorem dX0_pinsInDrums_5 : decode cX0_pinsInDrums 5 = .ok (.aload_n 0, 1) := by decide +kernel
theorem dX0_pinsInDrums_6 : decode cX0_pinsInDrums 6 = .ok (.getfield 38, 3) := by decide +kernel
theorem dX0_pinsInDrums_9 : decode cX0_pinsInDrums 9 = .ok (.if_icmp .ge 24, 3) := by decide +kernel
theorem dX0_pinsInDrums_12 : decode cX0_pinsInDrums 12 = .ok (.iload_n 1, 1) := by decide +kernel
theorem dX0_pinsInDrums_13 : decode cX0_pinsInDrums 13 = .ok (.aload_n 0, 1) := by decide +kernel
theorem dX0_pinsInDrums_14 : decode cX0_pinsInDrums 14 = .ok (.getfield 11, 3) := by decide +kernel
theorem dX0_pinsInDrums_17 : decode cX0_pinsInDrums 17 = .ok (.iload_n 2, 1) := by decide +kernel
theorem dX0_pinsInDrums_18 : decode cX0_pinsInDrums 18 = .ok (.aaload, 1) := by decide +kernel
theorem dX0_pinsInDrums_19 : decode cX0_pinsInDrums 19 = .ok (.getfield 75, 3) := by decide +kernel
theorem dX0_pinsInDrums_22 : decode cX0_pinsInDrums 22 = .ok (.invokestatic 78, 3) := by decide +kernel
theorem dX0_pinsInDrums_25 : decode cX0_pinsInDrums 25 = .ok (.iadd, 1) := by decide +kernel
theorem dX0_pinsInDrums_26 : decode cX0_pinsInDrums 26 = .ok (.istore_n 1, 1) := by decide +kernel
theorem dX0_pinsInDrums_27 : decode cX0_pinsInDrums 27 = .ok (.iinc 2 1, 3) := by decide +kernel
theorem dX0_pinsInDrums_30 : decode cX0_pinsInDrums 30 = .ok (.goto (-26), 3) := by decide +kernel
theorem dX0_pinsInDrums_33 : decode cX0_pinsInDrums 33 = .ok (.iload_n 1, 1) := by decide +kernel
theorem dX0_pinsInDrums_34 : decode cX0_pinsInDrums 34 = .ok (.ireturn, 1) := by decide +kernel
theorem dX0_allRightPins_0 : decode cX0_allRightPins 0 = .ok (.iconst 0, 1) := by decide +kernel
theorem dX0_allRightPins_1 : decode cX0_allRightPins 1 = .ok (.istore_n 1, 1) := by decide +kernel
theorem dX0_allRightPins_2 : decode cX0_allRightPins 2 = .ok (.iconst 0, 1) := by decide +kernel
theorem dX0_allRightPins_3 : decode cX0_allRightPins 3 = .ok (.istore_n 2, 1) := by decide +kernel
theorem dX0_allRightPins_4 : decode cX0_allRightPins 4 = .ok (.iload_n 2, 1) := by decide +kernel
theorem dX0_allRightPins_5 : decode cX0_allRightPins 5 = .ok (.aload_n 0, 1) := by decide +kernel
theorem dX0_allRightPins_6 : decode cX0_allRightPins 6 = .ok (.getfield 38, 3) := by decide +kernel
theorem dX0_allRightPins_9 : decode cX0_allRightPins 9 = .ok (.if_icmp .ge 21, 3) := by decide +kernel
theorem dX0_allRightPins_12 : decode cX0_allRightPins 12 = .ok (.iload_n 1, 1) := by decide +kernel
theorem dX0_allRightPins_13 : decode cX0_allRightPins 13 = .ok (.aload_n 0, 1) := by decide +kernel
theorem dX0_allRightPins_14 : decode cX0_allRightPins 14 = .ok (.getfield 11, 3) := by decide +kernel
theorem dX0_allRightPins_17 : decode cX0_allRightPins 17 = .ok (.iload_n 2, 1) := by decide +kernel
theorem dX0_allRightPins_18 : decode cX0_allRightPins 18 = .ok (.aaload, 1) := by decide +kernel
theorem dX0_allRightPins_19 : decode cX0_allRightPins 19 = .ok (.invokevirtual 82, 3) := by decide +kernel
theorem dX0_allRightPins_22 : decode cX0_allRightPins 22 = .ok (.iadd, 1) := by decide +kernel
theorem dX0_allRightPins_23 : decode cX0_allRightPins 23 = .ok (.istore_n 1, 1) := by decide +kernel
theorem dX0_allRightPins_24 : decode cX0_allRightPins 24 = .ok (.iinc 2 1, 3) := by decide +kernel
theorem dX0_allRightPins_27 : decode cX0_allRightPins 27 = .ok (.goto (-23), 3) := by decide +kernel
theorem dX0_allRightPins_30 : decode cX0_allRightPins 30 = .ok (.iload_n 1, 1) := by decide +kernel
theorem dX0_allRightPins_31 : decode cX0_allRightPins 31 = .ok (.ireturn, 1) := by decide +kernel
theorem dX1_init_0 : decode cX1_init 0 = .ok (.aload_n 0, 1) := by decide +kernel
theorem dX1_init_1 : decode cX1_init 1 = .ok (.invokespecial 3, 3) := by decide +kernel
theorem dX1_init_4 : decode cX1_init 4 = .ok (.aload_n 0, 1) := by decide +kernel
theorem dX1_init_5 : decode cX1_init 5 = .ok (.bipush 24, 2) := by decide +kernel
theorem dX1_init_7 : decode cX1_init 7 = .ok (.newarray .int, 2) := by decide +kernel
theorem dX1_init_9 : decode cX1_init 9 = .ok (.putfield 9, 3) := by decide +kernel
theorem dX1_init_12 : decode cX1_init 12 = .ok (.aload_n 0, 1) := by decide +kernel
theorem dX1_init_13 : decode cX1_init 13 = .ok (.bipush 12, 2) := by decide +kernel
theorem dX1_init_15 : decode cX1_init 15 = .ok (.newarray .int, 2) := by decide +kernel
theorem dX1_init_17 : decode cX1_init 17 = .ok (.putfield 15, 3) := by decide +kernel
theorem dX1_init_20 : decode cX1_init 20 = .ok (.aload_n 0, 1) := by decide +kernel
theorem dX1_init_21 : decode cX1_init 21 = .ok (.bipush 12, 2) := by decide +kernel
theorem dX1_init_23 : decode cX1_init 23 = .ok (.newarray .int, 2) := by decide +kernel
theorem dX1_init_25 : decode cX1_init 25 = .ok (.putfield 18, 3) := by decide +kernel
theorem dX1_init_28 : decode cX1_init 28 = .ok (.aload_n 0, 1) := by decide +kernel
theorem dX1_init_29 : decode cX1_init 29 = .ok (.bipush 24, 2) := by decide +kernel
theorem dX1_init_31 : decode cX1_init 31 = .ok (.newarray .int, 2) := by decide +kernel
theorem dX1_init_33 : decode cX1_init 33 = .ok (.putfield 21, 3) := by decide +kernel
theorem dX1_init_36 : decode cX1_init 36 = .ok (.return_, 1) := by decide +kernel
theorem dX1_begin_0 : decode cX1_begin 0 = .ok (.aload_n 1, 1) := by decide +kernel
theorem dX1_begin_1 : decode cX1_begin 1 = .ok (.getfield 24, 3) := by decide +kernel
theorem dX1_begin_4 : decode cX1_begin 4 = .ok (.aload_n 0, 1) := by decide +kernel
theorem dX1_begin_5 : decode cX1_begin 5 = .ok (.getfield 9, 3) := by decide +kernel
theorem dX1_begin_8 : decode cX1_begin 8 = .ok (.invokestatic 27, 3) := by decide +kernel
theorem dX1_begin_11 : decode cX1_begin 11 = .ok (.aload_n 1, 1) := by decide +kernel
theorem dX1_begin_12 : decode cX1_begin 12 = .ok (.getfield 31, 3) := by decide +kernel
theorem dX1_begin_15 : decode cX1_begin 15 = .ok (.aload_n 0, 1) := by decide +kernel
theorem dX1_begin_16 : decode cX1_begin 16 = .ok (.getfield 15, 3) := by decide +kernel
theorem dX1_begin_19 : decode cX1_begin 19 = .ok (.invokestatic 27, 3) := by decide +kernel
theorem dX1_begin_22 : decode cX1_begin 22 = .ok (.aload_n 0, 1) := by decide +kernel
theorem dX1_begin_23 : decode cX1_begin 23 = .ok (.aload_n 2, 1) := by decide +kernel
theorem dX1_begin_24 : decode cX1_begin 24 = .ok (.iconst 0, 1) := by decide +kernel
theorem dX1_begin_25 : decode cX1_begin 25 = .ok (.iaload, 1) := by decide +kernel
theorem dX1_begin_26 : decode cX1_begin 26 = .ok (.putfield 32, 3) := by decide +kernel
theorem dX1_begin_29 : decode cX1_begin 29 = .ok (.aload_n 0, 1) := by decide +kernel
theorem dX1_begin_30 : decode cX1_begin 30 = .ok (.aload_n 2, 1) := by decide +kernel
theorem dX1_begin_31 : decode cX1_begin 31 = .ok (.iconst 1, 1) := by decide +kernel
theorem dX1_begin_32 : decode cX1_begin 32 = .ok (.iaload, 1) := by decide +kernel
theorem dX1_begin_33 : decode cX1_begin 33 = .ok (.putfield 36, 3) := by decide +kernel
theorem dX1_begin_36 : decode cX1_begin 36 = .ok (.return_, 1) := by decide +kernel
theorem dX1_goThrough_0 : decode cX1_goThrough 0 = .ok (.aload_n 0, 1) := by decide +kernel
theorem dX1_goThrough_1 : decode cX1_goThrough 1 = .ok (.invokevirtual 39, 3) := by decide +kernel
theorem dX1_goThrough_4 : decode cX1_goThrough 4 = .ok (.iconst 0, 1) := by decide +kernel
theorem dX1_goThrough_5 : decode cX1_goThrough 5 = .ok (.istore_n 2, 1) := by decide +kernel
theorem dX1_goThrough_6 : decode cX1_goThrough 6 = .ok (.iload_n 2, 1) := by decide +kernel
theorem dX1_goThrough_7 : decode cX1_goThrough 7 = .ok (.bipush 24, 2) := by decide +kernel
theorem dX1_goThrough_9 : decode cX1_goThrough 9 = .ok (.if_icmp .ge 26, 3) := by decide +kernel
theorem dX1_goThrough_12 : decode cX1_goThrough 12 = .ok (.aload_n 0, 1) := by decide +kernel
theorem dX1_goThrough_13 : decode cX1_goThrough 13 = .ok (.getfield 9, 3) := by decide +kernel
theorem dX1_goThrough_16 : decode cX1_goThrough 16 = .ok (.iload_n 2, 1) := by decide +kernel
theorem dX1_goThrough_17 : decode cX1_goThrough 17 = .ok (.iaload, 1) := by decide +kernel
theorem dX1_goThrough_18 : decode cX1_goThrough 18 = .ok (.ifCond .eq 11, 3) := by decide +kernel
theorem dX1_goThrough_21 : decode cX1_goThrough 21 = .ok (.aload_n 0, 1) := by decide +kernel
theorem dX1_goThrough_22 : decode cX1_goThrough 22 = .ok (.iload_n 2, 1) := by decide +kernel
theorem dX1_goThrough_23 : decode cX1_goThrough 23 = .ok (.aload_n 1, 1) := by decide +kernel
theorem dX1_goThrough_24 : decode cX1_goThrough 24 = .ok (.iload_n 2, 1) := by decide +kernel
theorem dX1_goThrough_25 : decode cX1_goThrough 25 = .ok (.iaload, 1) := by decide +kernel
theorem dX1_goThrough_26 : decode cX1_goThrough 26 = .ok (.invokevirtual 42, 3) := by decide +kernel
theorem dX1_goThrough_29 : decode cX1_goThrough 29 = .ok (.iinc 2 1, 3) := by decide +kernel
theorem dX1_goThrough_32 : decode cX1_goThrough 32 = .ok (.goto (-26), 3) := by decide +kernel
theorem dX1_goThrough_35 : decode cX1_goThrough 35 = .ok (.return_, 1) := by decide +kernel
theorem dX1_passStep_0 : decode cX1_passStep 0 = .ok (.iconst 0, 1) := by decide +kernel
theorem dX1_passStep_1 : decode cX1_passStep 1 = .ok (.istore_n 3, 1) := by decide +kernel
theorem dX1_passStep_2 : decode cX1_passStep 2 = .ok (.iload_n 3, 1) := by decide +kernel
theorem dX1_passStep_3 : decode cX1_passStep 3 = .ok (.bipush 12, 2) := by decide +kernel
theorem dX1_passStep_5 : decode cX1_passStep 5 = .ok (.if_icmp .ge 41, 3) := by decide +kernel
theorem dX1_passStep_8 : decode cX1_passStep 8 = .ok (.aload_n 0, 1) := by decide +kernel
theorem dX1_passStep_9 : decode cX1_passStep 9 = .ok (.getfield 9, 3) := by decide +kernel
theorem dX1_passStep_12 : decode cX1_passStep 12 = .ok (.iload_n 1, 1) := by decide +kernel
theorem dX1_passStep_13 : decode cX1_passStep 13 = .ok (.iaload, 1) := by decide +kernel
theorem dX1_passStep_14 : decode cX1_passStep 14 = .ok (.iconst 1, 1) := by decide +kernel
theorem dX1_passStep_15 : decode cX1_passStep 15 = .ok (.iload_n 3, 1) := by decide +kernel
theorem dX1_passStep_16 : decode cX1_passStep 16 = .ok (.ishl, 1) := by decide +kernel
theorem dX1_passStep_17 : decode cX1_passStep 17 = .ok (.iand, 1) := by decide +kernel
theorem dX1_passStep_18 : decode cX1_passStep 18 = .ok (.ifCond .eq 22, 3) := by decide +kernel
theorem dX1_passStep_21 : decode cX1_passStep 21 = .ok (.aload_n 0, 1) := by decide +kernel
theorem dX1_passStep_22 : decode cX1_passStep 22 = .ok (.iload_n 1, 1) := by decide +kernel
theorem dX1_passStep_23 : decode cX1_passStep 23 = .ok (.iload_n 3, 1) := by decide +kernel
theorem dX1_passStep_24 : decode cX1_passStep 24 = .ok (.iload_n 2, 1) := by decide +kernel
theorem dX1_passStep_25 : decode cX1_passStep 25 = .ok (.iconst 1, 1) := by decide +kernel
theorem dX1_passStep_26 : decode cX1_passStep 26 = .ok (.iload_n 3, 1) := by decide +kernel
theorem dX1_passStep_27 : decode cX1_passStep 27 = .ok (.ishl, 1) := by decide +kernel
theorem dX1_passStep_28 : decode cX1_passStep 28 = .ok (.iand, 1) := by decide +kernel
theorem dX1_passStep_29 : decode cX1_passStep 29 = .ok (.ifCond .eq 7, 3) := by decide +kernel
theorem dX1_passStep_32 : decode cX1_passStep 32 = .ok (.iconst 1, 1) := by decide +kernel
theorem dX1_passStep_33 : decode cX1_passStep 33 = .ok (.goto 4, 3) := by decide +kernel
theorem dX1_passStep_36 : decode cX1_passStep 36 = .ok (.iconst 0, 1) := by decide +kernel
theorem dX1_passStep_37 : decode cX1_passStep 37 = .ok (.invokevirtual 46, 3) := by decide +kernel
theorem dX1_passStep_40 : decode cX1_passStep 40 = .ok (.iinc 3 1, 3) := by decide +kernel
theorem dX1_passStep_43 : decode cX1_passStep 43 = .ok (.goto (-41), 3) := by decide +kernel
theorem dX1_passStep_46 : decode cX1_passStep 46 = .ok (.return_, 1) := by decide +kernel
theorem dX1_forgetSounds_0 : decode cX1_forgetSounds 0 = .ok (.aload_n 0, 1) := by decide +kernel
theorem dX1_forgetSounds_1 : decode cX1_forgetSounds 1 = .ok (.iconst 0, 1) := by decide +kernel
theorem dX1_forgetSounds_2 : decode cX1_forgetSounds 2 = .ok (.putfield 50, 3) := by decide +kernel
theorem dX1_forgetSounds_5 : decode cX1_forgetSounds 5 = .ok (.aload_n 0, 1) := by decide +kernel
theorem dX1_forgetSounds_6 : decode cX1_forgetSounds 6 = .ok (.iconst 0, 1) := by decide +kernel
theorem dX1_forgetSounds_7 : decode cX1_forgetSounds 7 = .ok (.putfield 53, 3) := by decide +kernel
theorem dX1_forgetSounds_10 : decode cX1_forgetSounds 10 = .ok (.aload_n 0, 1) := by decide +kernel
theorem dX1_forgetSounds_11 : decode cX1_forgetSounds 11 = .ok (.iconst 0, 1) := by decide +kernel
theorem dX1_forgetSounds_12 : decode cX1_forgetSounds 12 = .ok (.putfield 56, 3) := by decide +kernel
theorem dX1_forgetSounds_15 : decode cX1_forgetSounds 15 = .ok (.aload_n 0, 1) := by decide +kernel
theorem dX1_forgetSounds_16 : decode cX1_forgetSounds 16 = .ok (.iconst 0, 1) := by decide +kernel
theorem dX1_forgetSounds_17 : decode cX1_forgetSounds 17 = .ok (.putfield 59, 3) := by decide +kernel
theorem dX1_forgetSounds_20 : decode cX1_forgetSounds 20 = .ok (.aload_n 0, 1) := by decide +kernel
theorem dX1_forgetSounds_21 : decode cX1_forgetSounds 21 = .ok (.iconst 0, 1) := by decide +kernel
theorem dX1_forgetSounds_22 : decode cX1_forgetSounds 22 = .ok (.putfield 62, 3) := by decide +kernel
theorem dX1_forgetSounds_25 : decode cX1_forgetSounds 25 = .ok (.iconst 0, 1) := by decide +kernel
theorem dX1_forgetSounds_26 : decode cX1_forgetSounds 26 = .ok (.istore_n 1, 1) := by decide +kernel
theorem dX1_forgetSounds_27 : decode cX1_forgetSounds 27 = .ok (.iload_n 1, 1) := by decide +kernel
theorem dX1_forgetSounds_28 : decode cX1_forgetSounds 28 = .ok (.bipush 24, 2) := by decide +kernel
theorem dX1_forgetSounds_30 : decode cX1_forgetSounds 30 = .ok (.if_icmp .ge 16, 3) := by decide +kernel
theorem dX1_forgetSounds_33 : decode cX1_forgetSounds 33 = .ok (.aload_n 0, 1) := by decide +kernel
theorem dX1_forgetSounds_34 : decode cX1_forgetSounds 34 = .ok (.getfield 21, 3) := by decide +kernel
theorem dX1_forgetSounds_37 : decode cX1_forgetSounds 37 = .ok (.iload_n 1, 1) := by decide +kernel
theorem dX1_forgetSounds_38 : decode cX1_forgetSounds 38 = .ok (.iconst 0, 1) := by decide +kernel
theorem dX1_forgetSounds_39 : decode cX1_forgetSounds 39 = .ok (.iastore, 1) := by decide +kernel
theorem dX1_forgetSounds_40 : decode cX1_forgetSounds 40 = .ok (.iinc 1 1, 3) := by decide +kernel
theorem dX1_forgetSounds_43 : decode cX1_forgetSounds 43 = .ok (.goto (-16), 3) := by decide +kernel
theorem dX1_forgetSounds_46 : decode cX1_forgetSounds 46 = .ok (.iconst 0, 1) := by decide +kernel
theorem dX1_forgetSounds_47 : decode cX1_forgetSounds 47 = .ok (.istore_n 1, 1) := by decide +kernel
theorem dX1_forgetSounds_48 : decode cX1_forgetSounds 48 = .ok (.iload_n 1, 1) := by decide +kernel
theorem dX1_forgetSounds_49 : decode cX1_forgetSounds 49 = .ok (.bipush 12, 2) := by decide +kernel
theorem dX1_forgetSounds_51 : decode cX1_forgetSounds 51 = .ok (.if_icmp .ge 17, 3) := by decide +kernel
theorem dX1_forgetSounds_54 : decode cX1_forgetSounds 54 = .ok (.aload_n 0, 1) := by decide +kernel
theorem dX1_forgetSounds_55 : decode cX1_forgetSounds 55 = .ok (.getfield 18, 3) := by decide +kernel
theorem dX1_forgetSounds_58 : decode cX1_forgetSounds 58 = .ok (.iload_n 1, 1) := by decide +kernel
theorem dX1_forgetSounds_59 : decode cX1_forgetSounds 59 = .ok (.bipush (-24), 2) := by decide +kernel
theorem dX1_forgetSounds_61 : decode cX1_forgetSounds 61 = .ok (.iastore, 1) := by decide +kernel
theorem dX1_forgetSounds_62 : decode cX1_forgetSounds 62 = .ok (.iinc 1 1, 3) := by decide +kernel
theorem dX1_forgetSounds_65 : decode cX1_forgetSounds 65 = .ok (.goto (-17), 3) := by decide +kernel
theorem dX1_forgetSounds_68 : decode cX1_forgetSounds 68 = .ok (.return_, 1) := by decide +kernel
theorem dX1_meetPin_0 : decode cX1_meetPin 0 = .ok (.aload_n 0, 1) := by decide +kernel
theorem dX1_meetPin_1 : decode cX1_meetPin 1 = .ok (.getfield 15, 3) := by decide +kernel
theorem dX1_meetPin_4 : decode cX1_meetPin 4 = .ok (.iload_n 2, 1) := by decide +kernel
theorem dX1_meetPin_5 : decode cX1_meetPin 5 = .ok (.iaload, 1) := by decide +kernel
theorem dX1_meetPin_6 : decode cX1_meetPin 6 = .ok (.aload_n 0, 1) := by decide +kernel
theorem dX1_meetPin_7 : decode cX1_meetPin 7 = .ok (.getfield 36, 3) := by decide +kernel
theorem dX1_meetPin_10 : decode cX1_meetPin 10 = .ok (.if_icmp .lt 48, 3) := by decide +kernel
theorem dX1_meetPin_13 : decode cX1_meetPin 13 = .ok (.aload_n 0, 1) := by decide +kernel
theorem dX1_meetPin_14 : decode cX1_meetPin 14 = .ok (.getfield 9, 3) := by decide +kernel
theorem dX1_meetPin_17 : decode cX1_meetPin 17 = .ok (.iload_n 1, 1) := by decide +kernel
theorem dX1_meetPin_18 : decode cX1_meetPin 18 = .ok (.dup2, 1) := by decide +kernel
theorem dX1_meetPin_19 : decode cX1_meetPin 19 = .ok (.iaload, 1) := by decide +kernel
theorem dX1_meetPin_20 : decode cX1_meetPin 20 = .ok (.iconst 1, 1) := by decide +kernel
theorem dX1_meetPin_21 : decode cX1_meetPin 21 = .ok (.iload_n 2, 1) := by decide +kernel
theorem dX1_meetPin_22 : decode cX1_meetPin 22 = .ok (.ishl, 1) := by decide +kernel
theorem dX1_meetPin_23 : decode cX1_meetPin 23 = .ok (.iconst (-1), 1) := by decide +kernel
theorem dX1_meetPin_24 : decode cX1_meetPin 24 = .ok (.ixor, 1) := by decide +kernel
theorem dX1_meetPin_25 : decode cX1_meetPin 25 = .ok (.iand, 1) := by decide +kernel
theorem dX1_meetPin_26 : decode cX1_meetPin 26 = .ok (.iastore, 1) := by decide +kernel
theorem dX1_meetPin_27 : decode cX1_meetPin 27 = .ok (.aload_n 0, 1) := by decide +kernel
theorem dX1_meetPin_28 : decode cX1_meetPin 28 = .ok (.dup, 1) := by decide +kernel
theorem dX1_meetPin_29 : decode cX1_meetPin 29 = .ok (.getfield 56, 3) := by decide +kernel
theorem dX1_meetPin_32 : decode cX1_meetPin 32 = .ok (.iconst 1, 1) := by decide +kernel
theorem dX1_meetPin_33 : decode cX1_meetPin 33 = .ok (.iadd, 1) := by decide +kernel
theorem dX1_meetPin_34 : decode cX1_meetPin 34 = .ok (.putfield 56, 3) := by decide +kernel
theorem dX1_meetPin_37 : decode cX1_meetPin 37 = .ok (.aload_n 0, 1) := by decide +kernel
theorem dX1_meetPin_38 : decode cX1_meetPin 38 = .ok (.dup, 1) := by decide +kernel
theorem dX1_meetPin_39 : decode cX1_meetPin 39 = .ok (.getfield 62, 3) := by decide +kernel
theorem dX1_meetPin_42 : decode cX1_meetPin 42 = .ok (.iload_n 3, 1) := by decide +kernel
theorem dX1_meetPin_43 : decode cX1_meetPin 43 = .ok (.ifCond .eq 7, 3) := by decide +kernel
theorem dX1_meetPin_46 : decode cX1_meetPin 46 = .ok (.iconst 1, 1) := by decide +kernel
theorem dX1_meetPin_47 : decode cX1_meetPin 47 = .ok (.goto 4, 3) := by decide +kernel
theorem dX1_meetPin_50 : decode cX1_meetPin 50 = .ok (.iconst 0, 1) := by decide +kernel
theorem dX1_meetPin_51 : decode cX1_meetPin 51 = .ok (.iadd, 1) := by decide +kernel
theorem dX1_meetPin_52 : decode cX1_meetPin 52 = .ok (.putfield 62, 3) := by decide +kernel
theorem dX1_meetPin_55 : decode cX1_meetPin 55 = .ok (.goto 88, 3) := by decide +kernel
theorem dX1_meetPin_58 : decode cX1_meetPin 58 = .ok (.iload_n 1, 1) := by decide +kernel
theorem dX1_meetPin_59 : decode cX1_meetPin 59 = .ok (.aload_n 0, 1) := by decide +kernel
theorem dX1_meetPin_60 : decode cX1_meetPin 60 = .ok (.getfield 18, 3) := by decide +kernel
theorem dX1_meetPin_63 : decode cX1_meetPin 63 = .ok (.iload_n 2, 1) := by decide +kernel
theorem dX1_meetPin_64 : decode cX1_meetPin 64 = .ok (.iaload, 1) := by decide +kernel
theorem dX1_meetPin_65 : decode cX1_meetPin 65 = .ok (.isub, 1) := by decide +kernel
theorem dX1_meetPin_66 : decode cX1_meetPin 66 = .ok (.aload_n 0, 1) := by decide +kernel
theorem dX1_meetPin_67 : decode cX1_meetPin 67 = .ok (.getfield 32, 3) := by decide +kernel
theorem dX1_meetPin_70 : decode cX1_meetPin 70 = .ok (.if_icmp .ge 16, 3) := by decide +kernel
theorem dX1_meetPin_73 : decode cX1_meetPin 73 = .ok (.aload_n 0, 1) := by decide +kernel
theorem dX1_meetPin_74 : decode cX1_meetPin 74 = .ok (.dup, 1) := by decide +kernel
theorem dX1_meetPin_75 : decode cX1_meetPin 75 = .ok (.getfield 53, 3) := by decide +kernel
theorem dX1_meetPin_78 : decode cX1_meetPin 78 = .ok (.iconst 1, 1) := by decide +kernel
theorem dX1_meetPin_79 : decode cX1_meetPin 79 = .ok (.iadd, 1) := by decide +kernel
theorem dX1_meetPin_80 : decode cX1_meetPin 80 = .ok (.putfield 53, 3) := by decide +kernel
theorem dX1_meetPin_83 : decode cX1_meetPin 83 = .ok (.goto 60, 3) := by decide +kernel
theorem dX1_meetPin_86 : decode cX1_meetPin 86 = .ok (.aload_n 0, 1) := by decide +kernel
theorem dX1_meetPin_87 : decode cX1_meetPin 87 = .ok (.getfield 21, 3) := by decide +kernel
theorem dX1_meetPin_90 : decode cX1_meetPin 90 = .ok (.iload_n 1, 1) := by decide +kernel
theorem dX1_meetPin_91 : decode cX1_meetPin 91 = .ok (.dup2, 1) := by decide +kernel
theorem dX1_meetPin_92 : decode cX1_meetPin 92 = .ok (.iaload, 1) := by decide +kernel
theorem dX1_meetPin_93 : decode cX1_meetPin 93 = .ok (.iconst 1, 1) := by decide +kernel
theorem dX1_meetPin_94 : decode cX1_meetPin 94 = .ok (.iload_n 2, 1) := by decide +kernel
theorem dX1_meetPin_95 : decode cX1_meetPin 95 = .ok (.ishl, 1) := by decide +kernel
theorem dX1_meetPin_96 : decode cX1_meetPin 96 = .ok (.ior, 1) := by decide +kernel
theorem dX1_meetPin_97 : decode cX1_meetPin 97 = .ok (.iastore, 1) := by decide +kernel
theorem dX1_meetPin_98 : decode cX1_meetPin 98 = .ok (.aload_n 0, 1) := by decide +kernel
theorem dX1_meetPin_99 : decode cX1_meetPin 99 = .ok (.getfield 18, 3) := by decide +kernel
theorem dX1_meetPin_102 : decode cX1_meetPin 102 = .ok (.iload_n 2, 1) := by decide +kernel
theorem dX1_meetPin_103 : decode cX1_meetPin 103 = .ok (.iload_n 1, 1) := by decide +kernel
theorem dX1_meetPin_104 : decode cX1_meetPin 104 = .ok (.iastore, 1) := by decide +kernel
theorem dX1_meetPin_105 : decode cX1_meetPin 105 = .ok (.aload_n 0, 1) := by decide +kernel
theorem dX1_meetPin_106 : decode cX1_meetPin 106 = .ok (.getfield 15, 3) := by decide +kernel
theorem dX1_meetPin_109 : decode cX1_meetPin 109 = .ok (.iload_n 2, 1) := by decide +kernel
theorem dX1_meetPin_110 : decode cX1_meetPin 110 = .ok (.dup2, 1) := by decide +kernel
theorem dX1_meetPin_111 : decode cX1_meetPin 111 = .ok (.iaload, 1) := by decide +kernel
theorem dX1_meetPin_112 : decode cX1_meetPin 112 = .ok (.iconst 1, 1) := by decide +kernel
theorem dX1_meetPin_113 : decode cX1_meetPin 113 = .ok (.iadd, 1) := by decide +kernel
theorem dX1_meetPin_114 : decode cX1_meetPin 114 = .ok (.iastore, 1) := by decide +kernel
theorem dX1_meetPin_115 : decode cX1_meetPin 115 = .ok (.aload_n 0, 1) := by decide +kernel
theorem dX1_meetPin_116 : decode cX1_meetPin 116 = .ok (.dup, 1) := by decide +kernel
theorem dX1_meetPin_117 : decode cX1_meetPin 117 = .ok (.getfield 50, 3) := by decide +kernel
theorem dX1_meetPin_120 : decode cX1_meetPin 120 = .ok (.iconst 1, 1) := by decide +kernel
theorem dX1_meetPin_121 : decode cX1_meetPin 121 = .ok (.iadd, 1) := by decide +kernel
theorem dX1_meetPin_122 : decode cX1_meetPin 122 = .ok (.putfield 50, 3) := by decide +kernel
theorem dX1_meetPin_125 : decode cX1_meetPin 125 = .ok (.aload_n 0, 1) := by decide +kernel
theorem dX1_meetPin_126 : decode cX1_meetPin 126 = .ok (.dup, 1) := by decide +kernel
theorem dX1_meetPin_127 : decode cX1_meetPin 127 = .ok (.getfield 59, 3) := by decide +kernel
theorem dX1_meetPin_130 : decode cX1_meetPin 130 = .ok (.iload_n 3, 1) := by decide +kernel
theorem dX1_meetPin_131 : decode cX1_meetPin 131 = .ok (.ifCond .eq 7, 3) := by decide +kernel
theorem dX1_meetPin_134 : decode cX1_meetPin 134 = .ok (.iconst 1, 1) := by decide +kernel
theorem dX1_meetPin_135 : decode cX1_meetPin 135 = .ok (.goto 4, 3) := by decide +kernel
theorem dX1_meetPin_138 : decode cX1_meetPin 138 = .ok (.iconst 0, 1) := by decide +kernel
theorem dX1_meetPin_139 : decode cX1_meetPin 139 = .ok (.iadd, 1) := by decide +kernel
theorem dX1_meetPin_140 : decode cX1_meetPin 140 = .ok (.putfield 59, 3) := by decide +kernel
theorem dX1_meetPin_143 : decode cX1_meetPin 143 = .ok (.return_, 1) := by decide +kernel
theorem dX1_tell_0 : decode cX1_tell 0 = .ok (.iload_n 1, 1) := by decide +kernel
theorem dX1_tell_1 : decode cX1_tell 1 = .ok (.tableswitch 51 0 3 #[31, 36, 41, 46], 31) := by decide +kernel
theorem dX1_tell_32 : decode cX1_tell 32 = .ok (.aload_n 0, 1) := by decide +kernel
theorem dX1_tell_33 : decode cX1_tell 33 = .ok (.getfield 50, 3) := by decide +kernel
theorem dX1_tell_36 : decode cX1_tell 36 = .ok (.ireturn, 1) := by decide +kernel
theorem dX1_tell_37 : decode cX1_tell 37 = .ok (.aload_n 0, 1) := by decide +kernel
theorem dX1_tell_38 : decode cX1_tell 38 = .ok (.getfield 53, 3) := by decide +kernel
theorem dX1_tell_41 : decode cX1_tell 41 = .ok (.ireturn, 1) := by decide +kernel
theorem dX1_tell_42 : decode cX1_tell 42 = .ok (.aload_n 0, 1) := by decide +kernel
theorem dX1_tell_43 : decode cX1_tell 43 = .ok (.getfield 56, 3) := by decide +kernel
theorem dX1_tell_46 : decode cX1_tell 46 = .ok (.ireturn, 1) := by decide +kernel
theorem dX1_tell_47 : decode cX1_tell 47 = .ok (.aload_n 0, 1) := by decide +kernel
theorem dX1_tell_48 : decode cX1_tell 48 = .ok (.getfield 59, 3) := by decide +kernel
theorem dX1_tell_51 : decode cX1_tell 51 = .ok (.ireturn, 1) := by decide +kernel
theorem dX1_tell_52 : decode cX1_tell 52 = .ok (.aload_n 0, 1) := by decide +kernel
theorem dX1_tell_53 : decode cX1_tell 53 = .ok (.getfield 15, 3) := by decide +kernel
theorem dX1_tell_56 : decode cX1_tell 56 = .ok (.aload_n 0, 1) := by decide +kernel
theorem dX1_tell_57 : decode cX1_tell 57 = .ok (.getfield 36, 3) := by decide +kernel
theorem dX1_tell_60 : decode cX1_tell 60 = .ok (.invokestatic 65, 3) := by decide +kernel
theorem dX1_tell_63 : decode cX1_tell 63 = .ok (.ireturn, 1) := by decide +kernel
theorem dX2_init_0 : decode cX2_init 0 = .ok (.aload_n 0, 1) := by decide +kernel
theorem dX2_init_1 : decode cX2_init 1 = .ok (.invokespecial 3, 3) := by decide +kernel
theorem dX2_init_4 : decode cX2_init 4 = .ok (.aload_n 0, 1) := by decide +kernel
theorem dX2_init_5 : decode cX2_init 5 = .ok (.bipush 6, 2) := by decide +kernel
theorem dX2_init_7 : decode cX2_init 7 = .ok (.newarray .int, 2) := by decide +kernel
theorem dX2_init_9 : decode cX2_init 9 = .ok (.putfield 9, 3) := by decide +kernel
theorem dX2_init_12 : decode cX2_init 12 = .ok (.return_, 1) := by decide +kernel
theorem dX2_find_0 : decode cX2_find 0 = .ok (.aload_n 0, 1) := by decide +kernel
theorem dX2_find_1 : decode cX2_find 1 = .ok (.iconst 0, 1) := by decide +kernel
theorem dX2_find_2 : decode cX2_find 2 = .ok (.putfield 15, 3) := by decide +kernel
theorem dX2_find_5 : decode cX2_find 5 = .ok (.aload_n 0, 1) := by decide +kernel
theorem dX2_find_6 : decode cX2_find 6 = .ok (.iconst 0, 1) := by decide +kernel
theorem dX2_find_7 : decode cX2_find 7 = .ok (.putfield 19, 3) := by decide +kernel
theorem dX2_find_10 : decode cX2_find 10 = .ok (.iconst 2, 1) := by decide +kernel
theorem dX2_find_11 : decode cX2_find 11 = .ok (.istore_n 2, 1) := by decide +kernel
theorem dX2_find_12 : decode cX2_find 12 = .ok (.iload_n 2, 1) := by decide +kernel
theorem dX2_find_13 : decode cX2_find 13 = .ok (.aload_n 1, 1) := by decide +kernel
theorem dX2_find_14 : decode cX2_find 14 = .ok (.getfield 22, 3) := by decide +kernel
theorem dX2_find_17 : decode cX2_find 17 = .ok (.if_icmp .gt 66, 3) := by decide +kernel
theorem dX2_find_20 : decode cX2_find 20 = .ok (.iconst 0, 1) := by decide +kernel
theorem dX2_find_21 : decode cX2_find 21 = .ok (.istore_n 3, 1) := by decide +kernel
theorem dX2_find_22 : decode cX2_find 22 = .ok (.iload_n 3, 1) := by decide +kernel
theorem dX2_find_23 : decode cX2_find 23 = .ok (.aload_n 1, 1) := by decide +kernel
theorem dX2_find_24 : decode cX2_find 24 = .ok (.getfield 22, 3) := by decide +kernel
theorem dX2_find_27 : decode cX2_find 27 = .ok (.if_icmp .ge 50, 3) := by decide +kernel
theorem dX2_find_30 : decode cX2_find 30 = .ok (.aload_n 0, 1) := by decide +kernel
theorem dX2_find_31 : decode cX2_find 31 = .ok (.getfield 9, 3) := by decide +kernel
theorem dX2_find_34 : decode cX2_find 34 = .ok (.iconst 0, 1) := by decide +kernel
theorem dX2_find_35 : decode cX2_find 35 = .ok (.iload_n 3, 1) := by decide +kernel
theorem dX2_find_36 : decode cX2_find 36 = .ok (.iastore, 1) := by decide +kernel
theorem dX2_find_37 : decode cX2_find 37 = .ok (.aload_n 1, 1) := by decide +kernel
theorem dX2_find_38 : decode cX2_find 38 = .ok (.aload_n 0, 1) := by decide +kernel
theorem dX2_find_39 : decode cX2_find 39 = .ok (.getfield 9, 3) := by decide +kernel
theorem dX2_find_42 : decode cX2_find 42 = .ok (.iload_n 2, 1) := by decide +kernel
theorem dX2_find_43 : decode cX2_find 43 = .ok (.iconst 1, 1) := by decide +kernel
theorem dX2_find_44 : decode cX2_find 44 = .ok (.iconst 1, 1) := by decide +kernel
theorem dX2_find_45 : decode cX2_find 45 = .ok (.iload_n 3, 1) := by decide +kernel
theorem dX2_find_46 : decode cX2_find 46 = .ok (.ishl, 1) := by decide +kernel
theorem dX2_find_47 : decode cX2_find 47 = .ok (.invokestatic 27, 3) := by decide +kernel
theorem dX2_find_50 : decode cX2_find 50 = .ok (.ifCond .eq 21, 3) := by decide +kernel
theorem dX2_find_53 : decode cX2_find 53 = .ok (.aload_n 0, 1) := by decide +kernel
theorem dX2_find_54 : decode cX2_find 54 = .ok (.iload_n 2, 1) := by decide +kernel
theorem dX2_find_55 : decode cX2_find 55 = .ok (.putfield 15, 3) := by decide +kernel
theorem dX2_find_58 : decode cX2_find 58 = .ok (.aload_n 0, 1) := by decide +kernel
theorem dX2_find_59 : decode cX2_find 59 = .ok (.aload_n 0, 1) := by decide +kernel
theorem dX2_find_60 : decode cX2_find 60 = .ok (.aload_n 1, 1) := by decide +kernel
theorem dX2_find_61 : decode cX2_find 61 = .ok (.getfield 31, 3) := by decide +kernel
theorem dX2_find_64 : decode cX2_find 64 = .ok (.invokevirtual 35, 3) := by decide +kernel
theorem dX2_find_67 : decode cX2_find 67 = .ok (.putfield 19, 3) := by decide +kernel
theorem dX2_find_70 : decode cX2_find 70 = .ok (.return_, 1) := by decide +kernel
theorem dX2_find_71 : decode cX2_find 71 = .ok (.iinc 3 1, 3) := by decide +kernel
theorem dX2_find_74 : decode cX2_find 74 = .ok (.goto (-52), 3) := by decide +kernel
theorem dX2_find_77 : decode cX2_find 77 = .ok (.iinc 2 1, 3) := by decide +kernel
theorem dX2_find_80 : decode cX2_find 80 = .ok (.goto (-68), 3) := by decide +kernel
theorem dX2_find_83 : decode cX2_find 83 = .ok (.return_, 1) := by decide +kernel
theorem dX2_isClosed_0 : decode cX2_isClosed 0 = .ok (.iload_n 3, 1) := by decide +kernel
theorem dX2_isClosed_1 : decode cX2_isClosed 1 = .ok (.iconst 1, 1) := by decide +kernel
theorem dX2_isClosed_2 : decode cX2_isClosed 2 = .ok (.if_icmp .lt 14, 3) := by decide +kernel
theorem dX2_isClosed_5 : decode cX2_isClosed 5 = .ok (.iload_n 3, 1) := by decide +kernel
theorem dX2_isClosed_6 : decode cX2_isClosed 6 = .ok (.iload_n 2, 1) := by decide +kernel
theorem dX2_isClosed_7 : decode cX2_isClosed 7 = .ok (.if_icmp .gt 9, 3) := by decide +kernel
theorem dX2_isClosed_10 : decode cX2_isClosed 10 = .ok (.iload_n 2, 1) := by decide +kernel
theorem dX2_isClosed_11 : decode cX2_isClosed 11 = .ok (.bipush 6, 2) := by decide +kernel
theorem dX2_isClosed_13 : decode cX2_isClosed 13 = .ok (.if_icmp .le 5, 3) := by decide +kernel
theorem dX2_isClosed_16 : decode cX2_isClosed 16 = .ok (.iconst 0, 1) := by decide +kernel
theorem dX2_isClosed_17 : decode cX2_isClosed 17 = .ok (.ireturn, 1) := by decide +kernel
theorem dX2_isClosed_18 : decode cX2_isClosed 18 = .ok (.aload_n 1, 1) := by decide +kernel
theorem dX2_isClosed_19 : decode cX2_isClosed 19 = .ok (.iload_n 3, 1) := by decide +kernel
theorem dX2_isClosed_20 : decode cX2_isClosed 20 = .ok (.iconst 1, 1) := by decide +kernel
theorem dX2_isClosed_21 : decode cX2_isClosed 21 = .ok (.isub, 1) := by decide +kernel
theorem dX2_isClosed_22 : decode cX2_isClosed 22 = .ok (.iaload, 1) := by decide +kernel
theorem dX2_isClosed_23 : decode cX2_isClosed 23 = .ok (.istore 5, 2) := by decide +kernel
theorem dX2_isClosed_25 : decode cX2_isClosed 25 = .ok (.iload_n 3, 1) := by decide +kernel
theorem dX2_isClosed_26 : decode cX2_isClosed 26 = .ok (.iload_n 2, 1) := by decide +kernel
theorem dX2_isClosed_27 : decode cX2_isClosed 27 = .ok (.if_icmp .ne 23, 3) := by decide +kernel
theorem dX2_isClosed_30 : decode cX2_isClosed 30 = .ok (.aload_n 0, 1) := by decide +kernel
theorem dX2_isClosed_31 : decode cX2_isClosed 31 = .ok (.getfield 31, 3) := by decide +kernel
theorem dX2_isClosed_34 : decode cX2_isClosed 34 = .ok (.iload 5, 2) := by decide +kernel
theorem dX2_isClosed_36 : decode cX2_isClosed 36 = .ok (.aaload, 1) := by decide +kernel
theorem dX2_isClosed_37 : decode cX2_isClosed 37 = .ok (.aload_n 1, 1) := by decide +kernel
theorem dX2_isClosed_38 : decode cX2_isClosed 38 = .ok (.iconst 0, 1) := by decide +kernel
theorem dX2_isClosed_39 : decode cX2_isClosed 39 = .ok (.iaload, 1) := by decide +kernel
theorem dX2_isClosed_40 : decode cX2_isClosed 40 = .ok (.iaload, 1) := by decide +kernel
theorem dX2_isClosed_41 : decode cX2_isClosed 41 = .ok (.ifCond .le 7, 3) := by decide +kernel
theorem dX2_isClosed_44 : decode cX2_isClosed 44 = .ok (.iconst 1, 1) := by decide +kernel
theorem dX2_isClosed_45 : decode cX2_isClosed 45 = .ok (.goto 4, 3) := by decide +kernel
theorem dX2_isClosed_48 : decode cX2_isClosed 48 = .ok (.iconst 0, 1) := by decide +kernel
theorem dX2_isClosed_49 : decode cX2_isClosed 49 = .ok (.ireturn, 1) := by decide +kernel
theorem dX2_isClosed_50 : decode cX2_isClosed 50 = .ok (.aload_n 1, 1) := by decide +kernel
theorem dX2_isClosed_51 : decode cX2_isClosed 51 = .ok (.iconst 0, 1) := by decide +kernel
theorem dX2_isClosed_52 : decode cX2_isClosed 52 = .ok (.iaload, 1) := by decide +kernel
theorem dX2_isClosed_53 : decode cX2_isClosed 53 = .ok (.iconst 1, 1) := by decide +kernel
theorem dX2_isClosed_54 : decode cX2_isClosed 54 = .ok (.iadd, 1) := by decide +kernel
theorem dX2_isClosed_55 : decode cX2_isClosed 55 = .ok (.istore 6, 2) := by decide +kernel
theorem dX2_isClosed_57 : decode cX2_isClosed 57 = .ok (.iload 6, 2) := by decide +kernel
theorem dX2_isClosed_59 : decode cX2_isClosed 59 = .ok (.aload_n 0, 1) := by decide +kernel
theorem dX2_isClosed_60 : decode cX2_isClosed 60 = .ok (.getfield 22, 3) := by decide +kernel
theorem dX2_isClosed_63 : decode cX2_isClosed 63 = .ok (.if_icmp .ge 58, 3) := by decide +kernel
theorem dX2_isClosed_66 : decode cX2_isClosed 66 = .ok (.iload 4, 2) := by decide +kernel
theorem dX2_isClosed_68 : decode cX2_isClosed 68 = .ok (.iconst 1, 1) := by decide +kernel
theorem dX2_isClosed_69 : decode cX2_isClosed 69 = .ok (.iload 6, 2) := by decide +kernel
theorem dX2_isClosed_71 : decode cX2_isClosed 71 = .ok (.ishl, 1) := by decide +kernel
theorem dX2_isClosed_72 : decode cX2_isClosed 72 = .ok (.iand, 1) := by decide +kernel
theorem dX2_isClosed_73 : decode cX2_isClosed 73 = .ok (.ifCond .ne 42, 3) := by decide +kernel
theorem dX2_isClosed_76 : decode cX2_isClosed 76 = .ok (.aload_n 0, 1) := by decide +kernel
theorem dX2_isClosed_77 : decode cX2_isClosed 77 = .ok (.getfield 31, 3) := by decide +kernel
theorem dX2_isClosed_80 : decode cX2_isClosed 80 = .ok (.iload 5, 2) := by decide +kernel
theorem dX2_isClosed_82 : decode cX2_isClosed 82 = .ok (.aaload, 1) := by decide +kernel
theorem dX2_isClosed_83 : decode cX2_isClosed 83 = .ok (.iload 6, 2) := by decide +kernel
theorem dX2_isClosed_85 : decode cX2_isClosed 85 = .ok (.iaload, 1) := by decide +kernel
theorem dX2_isClosed_86 : decode cX2_isClosed 86 = .ok (.ifCond .le 29, 3) := by decide +kernel
theorem dX2_isClosed_89 : decode cX2_isClosed 89 = .ok (.aload_n 1, 1) := by decide +kernel
theorem dX2_isClosed_90 : decode cX2_isClosed 90 = .ok (.iload_n 3, 1) := by decide +kernel
theorem dX2_isClosed_91 : decode cX2_isClosed 91 = .ok (.iload 6, 2) := by decide +kernel
theorem dX2_isClosed_93 : decode cX2_isClosed 93 = .ok (.iastore, 1) := by decide +kernel
theorem dX2_isClosed_94 : decode cX2_isClosed 94 = .ok (.aload_n 0, 1) := by decide +kernel
theorem dX2_isClosed_95 : decode cX2_isClosed 95 = .ok (.aload_n 1, 1) := by decide +kernel
theorem dX2_isClosed_96 : decode cX2_isClosed 96 = .ok (.iload_n 2, 1) := by decide +kernel
theorem dX2_isClosed_97 : decode cX2_isClosed 97 = .ok (.iload_n 3, 1) := by decide +kernel
theorem dX2_isClosed_98 : decode cX2_isClosed 98 = .ok (.iconst 1, 1) := by decide +kernel
theorem dX2_isClosed_99 : decode cX2_isClosed 99 = .ok (.iadd, 1) := by decide +kernel
theorem dX2_isClosed_100 : decode cX2_isClosed 100 = .ok (.iload 4, 2) := by decide +kernel
theorem dX2_isClosed_102 : decode cX2_isClosed 102 = .ok (.iconst 1, 1) := by decide +kernel
theorem dX2_isClosed_103 : decode cX2_isClosed 103 = .ok (.iload 6, 2) := by decide +kernel
theorem dX2_isClosed_105 : decode cX2_isClosed 105 = .ok (.ishl, 1) := by decide +kernel
theorem dX2_isClosed_106 : decode cX2_isClosed 106 = .ok (.ior, 1) := by decide +kernel
theorem dX2_isClosed_107 : decode cX2_isClosed 107 = .ok (.invokestatic 27, 3) := by decide +kernel
theorem dX2_isClosed_110 : decode cX2_isClosed 110 = .ok (.ifCond .eq 5, 3) := by decide +kernel
theorem dX2_isClosed_113 : decode cX2_isClosed 113 = .ok (.iconst 1, 1) := by decide +kernel
theorem dX2_isClosed_114 : decode cX2_isClosed 114 = .ok (.ireturn, 1) := by decide +kernel
theorem dX2_isClosed_115 : decode cX2_isClosed 115 = .ok (.iinc 6 1, 3) := by decide +kernel
theorem dX2_isClosed_118 : decode cX2_isClosed 118 = .ok (.goto (-61), 3) := by decide +kernel
theorem dX2_isClosed_121 : decode cX2_isClosed 121 = .ok (.iconst 0, 1) := by decide +kernel
theorem dX2_isClosed_122 : decode cX2_isClosed 122 = .ok (.ireturn, 1) := by decide +kernel
theorem dX2_following_0 : decode cX2_following 0 = .ok (.iload_n 1, 1) := by decide +kernel
theorem dX2_following_1 : decode cX2_following 1 = .ok (.iconst 1, 1) := by decide +kernel
theorem dX2_following_2 : decode cX2_following 2 = .ok (.iadd, 1) := by decide +kernel
theorem dX2_following_3 : decode cX2_following 3 = .ok (.aload_n 0, 1) := by decide +kernel
theorem dX2_following_4 : decode cX2_following 4 = .ok (.getfield 15, 3) := by decide +kernel
theorem dX2_following_7 : decode cX2_following 7 = .ok (.if_icmp .ge 14, 3) := by decide +kernel
theorem dX2_following_10 : decode cX2_following 10 = .ok (.aload_n 0, 1) := by decide +kernel
theorem dX2_following_11 : decode cX2_following 11 = .ok (.getfield 9, 3) := by decide +kernel
theorem dX2_following_14 : decode cX2_following 14 = .ok (.iload_n 1, 1) := by decide +kernel
theorem dX2_following_15 : decode cX2_following 15 = .ok (.iconst 1, 1) := by decide +kernel
theorem dX2_following_16 : decode cX2_following 16 = .ok (.iadd, 1) := by decide +kernel
theorem dX2_following_17 : decode cX2_following 17 = .ok (.iaload, 1) := by decide +kernel
theorem dX2_following_18 : decode cX2_following 18 = .ok (.goto 9, 3) := by decide +kernel
theorem dX2_following_21 : decode cX2_following 21 = .ok (.aload_n 0, 1) := by decide +kernel
theorem dX2_following_22 : decode cX2_following 22 = .ok (.getfield 9, 3) := by decide +kernel
theorem dX2_following_25 : decode cX2_following 25 = .ok (.iconst 0, 1) := by decide +kernel
theorem dX2_following_26 : decode cX2_following 26 = .ok (.iaload, 1) := by decide +kernel
theorem dX2_following_27 : decode cX2_following 27 = .ok (.ireturn, 1) := by decide +kernel
theorem dX2_leastDebt_0 : decode cX2_leastDebt 0 = .ok (.aload_n 1, 1) := by decide +kernel
theorem dX2_leastDebt_1 : decode cX2_leastDebt 1 = .ok (.aload_n 0, 1) := by decide +kernel
theorem dX2_leastDebt_2 : decode cX2_leastDebt 2 = .ok (.getfield 9, 3) := by decide +kernel
theorem dX2_leastDebt_5 : decode cX2_leastDebt 5 = .ok (.iconst 0, 1) := by decide +kernel
theorem dX2_leastDebt_6 : decode cX2_leastDebt 6 = .ok (.iaload, 1) := by decide +kernel
theorem dX2_leastDebt_7 : decode cX2_leastDebt 7 = .ok (.aaload, 1) := by decide +kernel
theorem dX2_leastDebt_8 : decode cX2_leastDebt 8 = .ok (.aload_n 0, 1) := by decide +kernel
theorem dX2_leastDebt_9 : decode cX2_leastDebt 9 = .ok (.iconst 0, 1) := by decide +kernel
theorem dX2_leastDebt_10 : decode cX2_leastDebt 10 = .ok (.invokevirtual 39, 3) := by decide +kernel
theorem dX2_leastDebt_13 : decode cX2_leastDebt 13 = .ok (.iaload, 1) := by decide +kernel
theorem dX2_leastDebt_14 : decode cX2_leastDebt 14 = .ok (.istore_n 2, 1) := by decide +kernel
theorem dX2_leastDebt_15 : decode cX2_leastDebt 15 = .ok (.iconst 1, 1) := by decide +kernel
theorem dX2_leastDebt_16 : decode cX2_leastDebt 16 = .ok (.istore_n 3, 1) := by decide +kernel
theorem dX2_leastDebt_17 : decode cX2_leastDebt 17 = .ok (.iload_n 3, 1) := by decide +kernel
theorem dX2_leastDebt_18 : decode cX2_leastDebt 18 = .ok (.aload_n 0, 1) := by decide +kernel
theorem dX2_leastDebt_19 : decode cX2_leastDebt 19 = .ok (.getfield 15, 3) := by decide +kernel
theorem dX2_leastDebt_22 : decode cX2_leastDebt 22 = .ok (.if_icmp .ge 28, 3) := by decide +kernel
theorem dX2_leastDebt_25 : decode cX2_leastDebt 25 = .ok (.iload_n 2, 1) := by decide +kernel
theorem dX2_leastDebt_26 : decode cX2_leastDebt 26 = .ok (.aload_n 1, 1) := by decide +kernel
theorem dX2_leastDebt_27 : decode cX2_leastDebt 27 = .ok (.aload_n 0, 1) := by decide +kernel
theorem dX2_leastDebt_28 : decode cX2_leastDebt 28 = .ok (.getfield 9, 3) := by decide +kernel
theorem dX2_leastDebt_31 : decode cX2_leastDebt 31 = .ok (.iload_n 3, 1) := by decide +kernel
theorem dX2_leastDebt_32 : decode cX2_leastDebt 32 = .ok (.iaload, 1) := by decide +kernel
theorem dX2_leastDebt_33 : decode cX2_leastDebt 33 = .ok (.aaload, 1) := by decide +kernel
theorem dX2_leastDebt_34 : decode cX2_leastDebt 34 = .ok (.aload_n 0, 1) := by decide +kernel
theorem dX2_leastDebt_35 : decode cX2_leastDebt 35 = .ok (.iload_n 3, 1) := by decide +kernel
theorem dX2_leastDebt_36 : decode cX2_leastDebt 36 = .ok (.invokevirtual 39, 3) := by decide +kernel
theorem dX2_leastDebt_39 : decode cX2_leastDebt 39 = .ok (.iaload, 1) := by decide +kernel
theorem dX2_leastDebt_40 : decode cX2_leastDebt 40 = .ok (.invokestatic 43, 3) := by decide +kernel
theorem dX2_leastDebt_43 : decode cX2_leastDebt 43 = .ok (.istore_n 2, 1) := by decide +kernel
theorem dX2_leastDebt_44 : decode cX2_leastDebt 44 = .ok (.iinc 3 1, 3) := by decide +kernel
theorem dX2_leastDebt_47 : decode cX2_leastDebt 47 = .ok (.goto (-30), 3) := by decide +kernel
theorem dX2_leastDebt_50 : decode cX2_leastDebt 50 = .ok (.iload_n 2, 1) := by decide +kernel
theorem dX2_leastDebt_51 : decode cX2_leastDebt 51 = .ok (.ireturn, 1) := by decide +kernel
theorem dX2_tell_0 : decode cX2_tell 0 = .ok (.aload_n 0, 1) := by decide +kernel
theorem dX2_tell_1 : decode cX2_tell 1 = .ok (.getfield 15, 3) := by decide +kernel
theorem dX2_tell_4 : decode cX2_tell 4 = .ok (.ifCond .ne 5, 3) := by decide +kernel
theorem dX2_tell_7 : decode cX2_tell 7 = .ok (.iconst (-1), 1) := by decide +kernel
theorem dX2_tell_8 : decode cX2_tell 8 = .ok (.ireturn, 1) := by decide +kernel
theorem dX2_tell_9 : decode cX2_tell 9 = .ok (.iload_n 1, 1) := by decide +kernel
theorem dX2_tell_10 : decode cX2_tell 10 = .ok (.bipush 10, 2) := by decide +kernel
theorem dX2_tell_12 : decode cX2_tell 12 = .ok (.if_icmp .ge 19, 3) := by decide +kernel
theorem dX2_tell_15 : decode cX2_tell 15 = .ok (.iload_n 1, 1) := by decide +kernel
theorem dX2_tell_16 : decode cX2_tell 16 = .ok (.ifCond .ne 10, 3) := by decide +kernel
theorem dX2_tell_19 : decode cX2_tell 19 = .ok (.aload_n 0, 1) := by decide +kernel
theorem dX2_tell_20 : decode cX2_tell 20 = .ok (.getfield 15, 3) := by decide +kernel
theorem dX2_tell_23 : decode cX2_tell 23 = .ok (.goto 7, 3) := by decide +kernel
theorem dX2_tell_26 : decode cX2_tell 26 = .ok (.aload_n 0, 1) := by decide +kernel
theorem dX2_tell_27 : decode cX2_tell 27 = .ok (.getfield 19, 3) := by decide +kernel
theorem dX2_tell_30 : decode cX2_tell 30 = .ok (.ireturn, 1) := by decide +kernel
theorem dX2_tell_31 : decode cX2_tell 31 = .ok (.iload_n 1, 1) := by decide +kernel
theorem dX2_tell_32 : decode cX2_tell 32 = .ok (.bipush 10, 2) := by decide +kernel
theorem dX2_tell_34 : decode cX2_tell 34 = .ok (.isub, 1) := by decide +kernel
theorem dX2_tell_35 : decode cX2_tell 35 = .ok (.istore_n 2, 1) := by decide +kernel
theorem dX2_tell_36 : decode cX2_tell 36 = .ok (.iload_n 2, 1) := by decide +kernel
theorem dX2_tell_37 : decode cX2_tell 37 = .ok (.aload_n 0, 1) := by decide +kernel
theorem dX2_tell_38 : decode cX2_tell 38 = .ok (.getfield 15, 3) := by decide +kernel
theorem dX2_tell_41 : decode cX2_tell 41 = .ok (.if_icmp .ge 12, 3) := by decide +kernel
theorem dX2_tell_44 : decode cX2_tell 44 = .ok (.aload_n 0, 1) := by decide +kernel
theorem dX2_tell_45 : decode cX2_tell 45 = .ok (.getfield 9, 3) := by decide +kernel
theorem dX2_tell_48 : decode cX2_tell 48 = .ok (.iload_n 2, 1) := by decide +kernel
theorem dX2_tell_49 : decode cX2_tell 49 = .ok (.iaload, 1) := by decide +kernel
theorem dX2_tell_50 : decode cX2_tell 50 = .ok (.goto 4, 3) := by decide +kernel
theorem dX2_tell_53 : decode cX2_tell 53 = .ok (.iconst (-1), 1) := by decide +kernel
theorem dX2_tell_54 : decode cX2_tell 54 = .ok (.ireturn, 1) := by decide +kernel
theorem dX3_init_0 : decode cX3_init 0 = .ok (.aload_n 0, 1) := by decide +kernel
theorem dX3_init_1 : decode cX3_init 1 = .ok (.invokespecial 3, 3) := by decide +kernel
theorem dX3_init_4 : decode cX3_init 4 = .ok (.aload_n 0, 1) := by decide +kernel
theorem dX3_init_5 : decode cX3_init 5 = .ok (.bipush 24, 2) := by decide +kernel
theorem dX3_init_7 : decode cX3_init 7 = .ok (.newarray .int, 2) := by decide +kernel
theorem dX3_init_9 : decode cX3_init 9 = .ok (.putfield 9, 3) := by decide +kernel
theorem dX3_init_12 : decode cX3_init 12 = .ok (.aload_n 0, 1) := by decide +kernel
theorem dX3_init_13 : decode cX3_init 13 = .ok (.bipush 24, 2) := by decide +kernel
theorem dX3_init_15 : decode cX3_init 15 = .ok (.newarray .int, 2) := by decide +kernel
theorem dX3_init_17 : decode cX3_init 17 = .ok (.putfield 15, 3) := by decide +kernel
theorem dX3_init_20 : decode cX3_init 20 = .ok (.aload_n 0, 1) := by decide +kernel
theorem dX3_init_21 : decode cX3_init 21 = .ok (.bipush 12, 2) := by decide +kernel
theorem dX3_init_23 : decode cX3_init 23 = .ok (.newarray .int, 2) := by decide +kernel
theorem dX3_init_25 : decode cX3_init 25 = .ok (.putfield 18, 3) := by decide +kernel
theorem dX3_init_28 : decode cX3_init 28 = .ok (.return_, 1) := by decide +kernel
theorem dX3_hasPin_0 : decode cX3_hasPin 0 = .ok (.aload_n 0, 1) := by decide +kernel
theorem dX3_hasPin_1 : decode cX3_hasPin 1 = .ok (.getfield 9, 3) := by decide +kernel
theorem dX3_hasPin_4 : decode cX3_hasPin 4 = .ok (.iload_n 1, 1) := by decide +kernel
theorem dX3_hasPin_5 : decode cX3_hasPin 5 = .ok (.iaload, 1) := by decide +kernel
theorem dX3_hasPin_6 : decode cX3_hasPin 6 = .ok (.iconst 1, 1) := by decide +kernel
theorem dX3_hasPin_7 : decode cX3_hasPin 7 = .ok (.iload_n 2, 1) := by decide +kernel
theorem dX3_hasPin_8 : decode cX3_hasPin 8 = .ok (.ishl, 1) := by decide +kernel
theorem dX3_hasPin_9 : decode cX3_hasPin 9 = .ok (.iand, 1) := by decide +kernel
theorem dX3_hasPin_10 : decode cX3_hasPin 10 = .ok (.ifCond .eq 7, 3) := by decide +kernel
theorem dX3_hasPin_13 : decode cX3_hasPin 13 = .ok (.iconst 1, 1) := by decide +kernel
theorem dX3_hasPin_14 : decode cX3_hasPin 14 = .ok (.goto 4, 3) := by decide +kernel
theorem dX3_hasPin_17 : decode cX3_hasPin 17 = .ok (.iconst 0, 1) := by decide +kernel
theorem dX3_hasPin_18 : decode cX3_hasPin 18 = .ok (.ireturn, 1) := by decide +kernel
theorem dX3_rightPins_0 : decode cX3_rightPins 0 = .ok (.aload_n 0, 1) := by decide +kernel
theorem dX3_rightPins_1 : decode cX3_rightPins 1 = .ok (.getfield 9, 3) := by decide +kernel
theorem dX3_rightPins_4 : decode cX3_rightPins 4 = .ok (.aload_n 0, 1) := by decide +kernel
theorem dX3_rightPins_5 : decode cX3_rightPins 5 = .ok (.getfield 15, 3) := by decide +kernel
theorem dX3_rightPins_8 : decode cX3_rightPins 8 = .ok (.invokestatic 21, 3) := by decide +kernel
theorem dX3_rightPins_11 : decode cX3_rightPins 11 = .ok (.ireturn, 1) := by decide +kernel
theorem dX3_rightIfTurned_0 : decode cX3_rightIfTurned 0 = .ok (.iconst 0, 1) := by decide +kernel
theorem dX3_rightIfTurned_1 : decode cX3_rightIfTurned 1 = .ok (.istore_n 2, 1) := by decide +kernel
theorem dX3_rightIfTurned_2 : decode cX3_rightIfTurned 2 = .ok (.iconst 0, 1) := by decide +kernel
theorem dX3_rightIfTurned_3 : decode cX3_rightIfTurned 3 = .ok (.istore_n 3, 1) := by decide +kernel
theorem dX3_rightIfTurned_4 : decode cX3_rightIfTurned 4 = .ok (.iload_n 3, 1) := by decide +kernel
theorem dX3_rightIfTurned_5 : decode cX3_rightIfTurned 5 = .ok (.bipush 24, 2) := by decide +kernel
theorem dX3_rightIfTurned_7 : decode cX3_rightIfTurned 7 = .ok (.if_icmp .ge 33, 3) := by decide +kernel
theorem dX3_rightIfTurned_10 : decode cX3_rightIfTurned 10 = .ok (.iload_n 2, 1) := by decide +kernel
theorem dX3_rightIfTurned_11 : decode cX3_rightIfTurned 11 = .ok (.aload_n 0, 1) := by decide +kernel
theorem dX3_rightIfTurned_12 : decode cX3_rightIfTurned 12 = .ok (.getfield 9, 3) := by decide +kernel
theorem dX3_rightIfTurned_15 : decode cX3_rightIfTurned 15 = .ok (.iload_n 3, 1) := by decide +kernel
theorem dX3_rightIfTurned_16 : decode cX3_rightIfTurned 16 = .ok (.iaload, 1) := by decide +kernel
theorem dX3_rightIfTurned_17 : decode cX3_rightIfTurned 17 = .ok (.aload_n 0, 1) := by decide +kernel
theorem dX3_rightIfTurned_18 : decode cX3_rightIfTurned 18 = .ok (.getfield 15, 3) := by decide +kernel
theorem dX3_rightIfTurned_21 : decode cX3_rightIfTurned 21 = .ok (.iload_n 3, 1) := by decide +kernel
theorem dX3_rightIfTurned_22 : decode cX3_rightIfTurned 22 = .ok (.iload_n 1, 1) := by decide +kernel
theorem dX3_rightIfTurned_23 : decode cX3_rightIfTurned 23 = .ok (.iadd, 1) := by decide +kernel
theorem dX3_rightIfTurned_24 : decode cX3_rightIfTurned 24 = .ok (.bipush 24, 2) := by decide +kernel
theorem dX3_rightIfTurned_26 : decode cX3_rightIfTurned 26 = .ok (.irem, 1) := by decide +kernel
theorem dX3_rightIfTurned_27 : decode cX3_rightIfTurned 27 = .ok (.iaload, 1) := by decide +kernel
theorem dX3_rightIfTurned_28 : decode cX3_rightIfTurned 28 = .ok (.iand, 1) := by decide +kernel
theorem dX3_rightIfTurned_29 : decode cX3_rightIfTurned 29 = .ok (.invokestatic 25, 3) := by decide +kernel
theorem dX3_rightIfTurned_32 : decode cX3_rightIfTurned 32 = .ok (.iadd, 1) := by decide +kernel
theorem dX3_rightIfTurned_33 : decode cX3_rightIfTurned 33 = .ok (.istore_n 2, 1) := by decide +kernel
theorem dX3_rightIfTurned_34 : decode cX3_rightIfTurned 34 = .ok (.iinc 3 1, 3) := by decide +kernel
theorem dX3_rightIfTurned_37 : decode cX3_rightIfTurned 37 = .ok (.goto (-33), 3) := by decide +kernel
theorem dX3_rightIfTurned_40 : decode cX3_rightIfTurned 40 = .ok (.iload_n 2, 1) := by decide +kernel
theorem dX3_rightIfTurned_41 : decode cX3_rightIfTurned 41 = .ok (.ireturn, 1) := by decide +kernel
theorem dX3_takeOver_0 : decode cX3_takeOver 0 = .ok (.aload_n 1, 1) := by decide +kernel
theorem dX3_takeOver_1 : decode cX3_takeOver 1 = .ok (.getfield 31, 3) := by decide +kernel
theorem dX3_takeOver_4 : decode cX3_takeOver 4 = .ok (.aload_n 0, 1) := by decide +kernel
theorem dX3_takeOver_5 : decode cX3_takeOver 5 = .ok (.getfield 9, 3) := by decide +kernel
theorem dX3_takeOver_8 : decode cX3_takeOver 8 = .ok (.invokestatic 34, 3) := by decide +kernel
theorem dX3_takeOver_11 : decode cX3_takeOver 11 = .ok (.aload_n 1, 1) := by decide +kernel
theorem dX3_takeOver_12 : decode cX3_takeOver 12 = .ok (.getfield 38, 3) := by decide +kernel
theorem dX3_takeOver_15 : decode cX3_takeOver 15 = .ok (.aload_n 0, 1) := by decide +kernel
theorem dX3_takeOver_16 : decode cX3_takeOver 16 = .ok (.getfield 18, 3) := by decide +kernel
theorem dX3_takeOver_19 : decode cX3_takeOver 19 = .ok (.invokestatic 34, 3) := by decide +kernel
theorem dX3_takeOver_22 : decode cX3_takeOver 22 = .ok (.aload_n 0, 1) := by decide +kernel
theorem dX3_takeOver_23 : decode cX3_takeOver 23 = .ok (.dup, 1) := by decide +kernel
theorem dX3_takeOver_24 : decode cX3_takeOver 24 = .ok (.getfield 39, 3) := by decide +kernel
theorem dX3_takeOver_27 : decode cX3_takeOver 27 = .ok (.aload_n 1, 1) := by decide +kernel
theorem dX3_takeOver_28 : decode cX3_takeOver 28 = .ok (.getfield 43, 3) := by decide +kernel
theorem dX3_takeOver_31 : decode cX3_takeOver 31 = .ok (.iadd, 1) := by decide +kernel
theorem dX3_takeOver_32 : decode cX3_takeOver 32 = .ok (.putfield 39, 3) := by decide +kernel
theorem dX3_takeOver_35 : decode cX3_takeOver 35 = .ok (.aload_n 0, 1) := by decide +kernel
theorem dX3_takeOver_36 : decode cX3_takeOver 36 = .ok (.dup, 1) := by decide +kernel
theorem dX3_takeOver_37 : decode cX3_takeOver 37 = .ok (.getfield 46, 3) := by decide +kernel
theorem dX3_takeOver_40 : decode cX3_takeOver 40 = .ok (.iconst 1, 1) := by decide +kernel
theorem dX3_takeOver_41 : decode cX3_takeOver 41 = .ok (.iadd, 1) := by decide +kernel
theorem dX3_takeOver_42 : decode cX3_takeOver 42 = .ok (.putfield 46, 3) := by decide +kernel
theorem dX3_takeOver_45 : decode cX3_takeOver 45 = .ok (.aload_n 0, 1) := by decide +kernel
theorem dX3_takeOver_46 : decode cX3_takeOver 46 = .ok (.dup, 1) := by decide +kernel
theorem dX3_takeOver_47 : decode cX3_takeOver 47 = .ok (.getfield 49, 3) := by decide +kernel
theorem dX3_takeOver_50 : decode cX3_takeOver 50 = .ok (.aload_n 1, 1) := by decide +kernel
theorem dX3_takeOver_51 : decode cX3_takeOver 51 = .ok (.getfield 52, 3) := by decide +kernel
theorem dX3_takeOver_54 : decode cX3_takeOver 54 = .ok (.iadd, 1) := by decide +kernel
theorem dX3_takeOver_55 : decode cX3_takeOver 55 = .ok (.putfield 49, 3) := by decide +kernel
theorem dX3_takeOver_58 : decode cX3_takeOver 58 = .ok (.aload_n 0, 1) := by decide +kernel
theorem dX3_takeOver_59 : decode cX3_takeOver 59 = .ok (.dup, 1) := by decide +kernel
theorem dX3_takeOver_60 : decode cX3_takeOver 60 = .ok (.getfield 53, 3) := by decide +kernel
theorem dX3_takeOver_63 : decode cX3_takeOver 63 = .ok (.aload_n 1, 1) := by decide +kernel
theorem dX3_takeOver_64 : decode cX3_takeOver 64 = .ok (.getfield 43, 3) := by decide +kernel
theorem dX3_takeOver_67 : decode cX3_takeOver 67 = .ok (.iadd, 1) := by decide +kernel
theorem dX3_takeOver_68 : decode cX3_takeOver 68 = .ok (.putfield 53, 3) := by decide +kernel
theorem dX3_takeOver_71 : decode cX3_takeOver 71 = .ok (.return_, 1) := by decide +kernel
theorem dX3_takeFrom_0 : decode cX3_takeFrom 0 = .ok (.aload_n 0, 1) := by decide +kernel
theorem dX3_takeFrom_1 : decode cX3_takeFrom 1 = .ok (.aload_n 1, 1) := by decide +kernel
theorem dX3_takeFrom_2 : decode cX3_takeFrom 2 = .ok (.getfield 39, 3) := by decide +kernel
theorem dX3_takeFrom_5 : decode cX3_takeFrom 5 = .ok (.putfield 39, 3) := by decide +kernel
theorem dX3_takeFrom_8 : decode cX3_takeFrom 8 = .ok (.aload_n 1, 1) := by decide +kernel
theorem dX3_takeFrom_9 : decode cX3_takeFrom 9 = .ok (.getfield 9, 3) := by decide +kernel
theorem dX3_takeFrom_12 : decode cX3_takeFrom 12 = .ok (.aload_n 0, 1) := by decide +kernel
theorem dX3_takeFrom_13 : decode cX3_takeFrom 13 = .ok (.getfield 9, 3) := by decide +kernel
theorem dX3_takeFrom_16 : decode cX3_takeFrom 16 = .ok (.invokestatic 34, 3) := by decide +kernel
theorem dX3_takeFrom_19 : decode cX3_takeFrom 19 = .ok (.aload_n 1, 1) := by decide +kernel
theorem dX3_takeFrom_20 : decode cX3_takeFrom 20 = .ok (.getfield 15, 3) := by decide +kernel
theorem dX3_takeFrom_23 : decode cX3_takeFrom 23 = .ok (.aload_n 0, 1) := by decide +kernel
theorem dX3_takeFrom_24 : decode cX3_takeFrom 24 = .ok (.getfield 15, 3) := by decide +kernel
theorem dX3_takeFrom_27 : decode cX3_takeFrom 27 = .ok (.invokestatic 34, 3) := by decide +kernel
theorem dX3_takeFrom_30 : decode cX3_takeFrom 30 = .ok (.aload_n 1, 1) := by decide +kernel
theorem dX3_takeFrom_31 : decode cX3_takeFrom 31 = .ok (.getfield 18, 3) := by decide +kernel
theorem dX3_takeFrom_34 : decode cX3_takeFrom 34 = .ok (.aload_n 0, 1) := by decide +kernel
theorem dX3_takeFrom_35 : decode cX3_takeFrom 35 = .ok (.getfield 18, 3) := by decide +kernel
theorem dX3_takeFrom_38 : decode cX3_takeFrom 38 = .ok (.invokestatic 34, 3) := by decide +kernel
theorem dX3_takeFrom_41 : decode cX3_takeFrom 41 = .ok (.aload_n 0, 1) := by decide +kernel
theorem dX3_takeFrom_42 : decode cX3_takeFrom 42 = .ok (.aload_n 1, 1) := by decide +kernel
theorem dX3_takeFrom_43 : decode cX3_takeFrom 43 = .ok (.getfield 46, 3) := by decide +kernel
theorem dX3_takeFrom_46 : decode cX3_takeFrom 46 = .ok (.putfield 46, 3) := by decide +kernel
theorem dX3_takeFrom_49 : decode cX3_takeFrom 49 = .ok (.aload_n 0, 1) := by decide +kernel
theorem dX3_takeFrom_50 : decode cX3_takeFrom 50 = .ok (.aload_n 1, 1) := by decide +kernel
theorem dX3_takeFrom_51 : decode cX3_takeFrom 51 = .ok (.getfield 49, 3) := by decide +kernel
theorem dX3_takeFrom_54 : decode cX3_takeFrom 54 = .ok (.putfield 49, 3) := by decide +kernel
theorem dX3_takeFrom_57 : decode cX3_takeFrom 57 = .ok (.aload_n 0, 1) := by decide +kernel
theorem dX3_takeFrom_58 : decode cX3_takeFrom 58 = .ok (.aload_n 1, 1) := by decide +kernel
theorem dX3_takeFrom_59 : decode cX3_takeFrom 59 = .ok (.getfield 53, 3) := by decide +kernel
theorem dX3_takeFrom_62 : decode cX3_takeFrom 62 = .ok (.putfield 53, 3) := by decide +kernel
theorem dX3_takeFrom_65 : decode cX3_takeFrom 65 = .ok (.return_, 1) := by decide +kernel
theorem dX4_init_0 : decode cX4_init 0 = .ok (.aload_n 0, 1) := by decide +kernel
theorem dX4_init_1 : decode cX4_init 1 = .ok (.invokespecial 3, 3) := by decide +kernel
theorem dX4_init_4 : decode cX4_init 4 = .ok (.aload_n 0, 1) := by decide +kernel
theorem dX4_init_5 : decode cX4_init 5 = .ok (.bipush 6, 2) := by decide +kernel
theorem dX4_init_7 : decode cX4_init 7 = .ok (.bipush 6, 2) := by decide +kernel
theorem dX4_init_9 : decode cX4_init 9 = .ok (.multianewarray 9 2, 4) := by decide +kernel
theorem dX4_init_13 : decode cX4_init 13 = .ok (.putfield 11, 3) := by decide +kernel
theorem dX4_init_16 : decode cX4_init 16 = .ok (.aload_n 0, 1) := by decide +kernel
theorem dX4_init_17 : decode cX4_init 17 = .ok (.bipush 64, 2) := by decide +kernel
theorem dX4_init_19 : decode cX4_init 19 = .ok (.newarray .int, 2) := by decide +kernel
theorem dX4_init_21 : decode cX4_init 21 = .ok (.putfield 16, 3) := by decide +kernel
theorem dX4_init_24 : decode cX4_init 24 = .ok (.aload_n 0, 1) := by decide +kernel
theorem dX4_init_25 : decode cX4_init 25 = .ok (.bipush 6, 2) := by decide +kernel
theorem dX4_init_27 : decode cX4_init 27 = .ok (.newarray .int, 2) := by decide +kernel
theorem dX4_init_29 : decode cX4_init 29 = .ok (.putfield 20, 3) := by decide +kernel
theorem dX4_init_32 : decode cX4_init 32 = .ok (.return_, 1) := by decide +kernel
theorem dX4_find_0 : decode cX4_find 0 = .ok (.aload_n 0, 1) := by decide +kernel
theorem dX4_find_1 : decode cX4_find 1 = .ok (.aload_n 1, 1) := by decide +kernel
theorem dX4_find_2 : decode cX4_find 2 = .ok (.getfield 23, 3) := by decide +kernel
theorem dX4_find_5 : decode cX4_find 5 = .ok (.putfield 29, 3) := by decide +kernel
theorem dX4_find_8 : decode cX4_find 8 = .ok (.iconst 0, 1) := by decide +kernel
theorem dX4_find_9 : decode cX4_find 9 = .ok (.istore_n 2, 1) := by decide +kernel
theorem dX4_find_10 : decode cX4_find 10 = .ok (.iload_n 2, 1) := by decide +kernel
theorem dX4_find_11 : decode cX4_find 11 = .ok (.aload_n 0, 1) := by decide +kernel
theorem dX4_find_12 : decode cX4_find 12 = .ok (.getfield 29, 3) := by decide +kernel
theorem dX4_find_15 : decode cX4_find 15 = .ok (.if_icmp .ge 54, 3) := by decide +kernel
theorem dX4_find_18 : decode cX4_find 18 = .ok (.iconst 0, 1) := by decide +kernel
theorem dX4_find_19 : decode cX4_find 19 = .ok (.istore_n 3, 1) := by decide +kernel
theorem dX4_find_20 : decode cX4_find 20 = .ok (.iload_n 3, 1) := by decide +kernel
theorem dX4_find_21 : decode cX4_find 21 = .ok (.aload_n 0, 1) := by decide +kernel
theorem dX4_find_22 : decode cX4_find 22 = .ok (.getfield 29, 3) := by decide +kernel
theorem dX4_find_25 : decode cX4_find 25 = .ok (.if_icmp .ge 38, 3) := by decide +kernel
theorem dX4_find_28 : decode cX4_find 28 = .ok (.aload_n 0, 1) := by decide +kernel
theorem dX4_find_29 : decode cX4_find 29 = .ok (.getfield 11, 3) := by decide +kernel
theorem dX4_find_32 : decode cX4_find 32 = .ok (.iload_n 2, 1) := by decide +kernel
theorem dX4_find_33 : decode cX4_find 33 = .ok (.aaload, 1) := by decide +kernel
theorem dX4_find_34 : decode cX4_find 34 = .ok (.iload_n 3, 1) := by decide +kernel
theorem dX4_find_35 : decode cX4_find 35 = .ok (.aload_n 1, 1) := by decide +kernel
theorem dX4_find_36 : decode cX4_find 36 = .ok (.getfield 30, 3) := by decide +kernel
theorem dX4_find_39 : decode cX4_find 39 = .ok (.iload_n 3, 1) := by decide +kernel
theorem dX4_find_40 : decode cX4_find 40 = .ok (.aaload, 1) := by decide +kernel
theorem dX4_find_41 : decode cX4_find 41 = .ok (.getfield 34, 3) := by decide +kernel
theorem dX4_find_44 : decode cX4_find 44 = .ok (.aload_n 1, 1) := by decide +kernel
theorem dX4_find_45 : decode cX4_find 45 = .ok (.getfield 30, 3) := by decide +kernel
theorem dX4_find_48 : decode cX4_find 48 = .ok (.iload_n 2, 1) := by decide +kernel
theorem dX4_find_49 : decode cX4_find 49 = .ok (.aaload, 1) := by decide +kernel
theorem dX4_find_50 : decode cX4_find 50 = .ok (.getfield 39, 3) := by decide +kernel
theorem dX4_find_53 : decode cX4_find 53 = .ok (.invokestatic 42, 3) := by decide +kernel
theorem dX4_find_56 : decode cX4_find 56 = .ok (.iastore, 1) := by decide +kernel
theorem dX4_find_57 : decode cX4_find 57 = .ok (.iinc 3 1, 3) := by decide +kernel
theorem dX4_find_60 : decode cX4_find 60 = .ok (.goto (-40), 3) := by decide +kernel
theorem dX4_find_63 : decode cX4_find 63 = .ok (.iinc 2 1, 3) := by decide +kernel
theorem dX4_find_66 : decode cX4_find 66 = .ok (.goto (-56), 3) := by decide +kernel
theorem dX4_find_69 : decode cX4_find 69 = .ok (.iconst 1, 1) := by decide +kernel
theorem dX4_find_70 : decode cX4_find 70 = .ok (.aload_n 0, 1) := by decide +kernel
theorem dX4_find_71 : decode cX4_find 71 = .ok (.getfield 29, 3) := by decide +kernel
theorem dX4_find_74 : decode cX4_find 74 = .ok (.ishl, 1) := by decide +kernel
theorem dX4_find_75 : decode cX4_find 75 = .ok (.iconst 1, 1) := by decide +kernel
theorem dX4_find_76 : decode cX4_find 76 = .ok (.isub, 1) := by decide +kernel
theorem dX4_find_77 : decode cX4_find 77 = .ok (.istore_n 2, 1) := by decide +kernel
theorem dX4_find_78 : decode cX4_find 78 = .ok (.aload_n 0, 1) := by decide +kernel
theorem dX4_find_79 : decode cX4_find 79 = .ok (.getfield 16, 3) := by decide +kernel
theorem dX4_find_82 : decode cX4_find 82 = .ok (.iload_n 2, 1) := by decide +kernel
theorem dX4_find_83 : decode cX4_find 83 = .ok (.iconst 0, 1) := by decide +kernel
theorem dX4_find_84 : decode cX4_find 84 = .ok (.iastore, 1) := by decide +kernel
theorem dX4_find_85 : decode cX4_find 85 = .ok (.iload_n 2, 1) := by decide +kernel
theorem dX4_find_86 : decode cX4_find 86 = .ok (.iconst 1, 1) := by decide +kernel
theorem dX4_find_87 : decode cX4_find 87 = .ok (.isub, 1) := by decide +kernel
theorem dX4_find_88 : decode cX4_find 88 = .ok (.istore_n 3, 1) := by decide +kernel
theorem dX4_find_89 : decode cX4_find 89 = .ok (.iload_n 3, 1) := by decide +kernel
theorem dX4_find_90 : decode cX4_find 90 = .ok (.ifCond .lt 33, 3) := by decide +kernel
theorem dX4_find_93 : decode cX4_find 93 = .ok (.iload_n 3, 1) := by decide +kernel
theorem dX4_find_94 : decode cX4_find 94 = .ok (.invokestatic 46, 3) := by decide +kernel
theorem dX4_find_97 : decode cX4_find 97 = .ok (.istore 4, 2) := by decide +kernel
theorem dX4_find_99 : decode cX4_find 99 = .ok (.aload_n 0, 1) := by decide +kernel
theorem dX4_find_100 : decode cX4_find 100 = .ok (.getfield 16, 3) := by decide +kernel
theorem dX4_find_103 : decode cX4_find 103 = .ok (.iload_n 3, 1) := by decide +kernel
theorem dX4_find_104 : decode cX4_find 104 = .ok (.aload_n 0, 1) := by decide +kernel
theorem dX4_find_105 : decode cX4_find 105 = .ok (.iload 4, 2) := by decide +kernel
theorem dX4_find_107 : decode cX4_find 107 = .ok (.aload_n 0, 1) := by decide +kernel
theorem dX4_find_108 : decode cX4_find 108 = .ok (.iload_n 3, 1) := by decide +kernel
theorem dX4_find_109 : decode cX4_find 109 = .ok (.invokevirtual 52, 3) := by decide +kernel
theorem dX4_find_112 : decode cX4_find 112 = .ok (.iload_n 3, 1) := by decide +kernel
theorem dX4_find_113 : decode cX4_find 113 = .ok (.invokevirtual 55, 3) := by decide +kernel
theorem dX4_find_116 : decode cX4_find 116 = .ok (.iastore, 1) := by decide +kernel
theorem dX4_find_117 : decode cX4_find 117 = .ok (.iinc 3 (-1), 3) := by decide +kernel
theorem dX4_find_120 : decode cX4_find 120 = .ok (.goto (-31), 3) := by decide +kernel
theorem dX4_find_123 : decode cX4_find 123 = .ok (.aload_n 0, 1) := by decide +kernel
theorem dX4_find_124 : decode cX4_find 124 = .ok (.aload_n 0, 1) := by decide +kernel
theorem dX4_find_125 : decode cX4_find 125 = .ok (.getfield 16, 3) := by decide +kernel
theorem dX4_find_128 : decode cX4_find 128 = .ok (.iconst 0, 1) := by decide +kernel
theorem dX4_find_129 : decode cX4_find 129 = .ok (.iaload, 1) := by decide +kernel
theorem dX4_find_130 : decode cX4_find 130 = .ok (.putfield 59, 3) := by decide +kernel
theorem dX4_find_133 : decode cX4_find 133 = .ok (.aload_n 0, 1) := by decide +kernel
theorem dX4_find_134 : decode cX4_find 134 = .ok (.invokevirtual 62, 3) := by decide +kernel
theorem dX4_find_137 : decode cX4_find 137 = .ok (.return_, 1) := by decide +kernel
theorem dX4_choose_0 : decode cX4_choose 0 = .ok (.iconst 0, 1) := by decide +kernel
theorem dX4_choose_1 : decode cX4_choose 1 = .ok (.istore_n 1, 1) := by decide +kernel
theorem dX4_choose_2 : decode cX4_choose 2 = .ok (.iconst 0, 1) := by decide +kernel
theorem dX4_choose_3 : decode cX4_choose 3 = .ok (.istore_n 2, 1) := by decide +kernel
theorem dX4_choose_4 : decode cX4_choose 4 = .ok (.iload_n 2, 1) := by decide +kernel
theorem dX4_choose_5 : decode cX4_choose 5 = .ok (.aload_n 0, 1) := by decide +kernel
theorem dX4_choose_6 : decode cX4_choose 6 = .ok (.getfield 29, 3) := by decide +kernel
theorem dX4_choose_9 : decode cX4_choose 9 = .ok (.if_icmp .ge 28, 3) := by decide +kernel
theorem dX4_choose_12 : decode cX4_choose 12 = .ok (.aload_n 0, 1) := by decide +kernel
theorem dX4_choose_13 : decode cX4_choose 13 = .ok (.iload_n 1, 1) := by decide +kernel
theorem dX4_choose_14 : decode cX4_choose 14 = .ok (.invokevirtual 52, 3) := by decide +kernel
theorem dX4_choose_17 : decode cX4_choose 17 = .ok (.istore_n 3, 1) := by decide +kernel
theorem dX4_choose_18 : decode cX4_choose 18 = .ok (.aload_n 0, 1) := by decide +kernel
theorem dX4_choose_19 : decode cX4_choose 19 = .ok (.getfield 20, 3) := by decide +kernel
theorem dX4_choose_22 : decode cX4_choose 22 = .ok (.iload_n 2, 1) := by decide +kernel
theorem dX4_choose_23 : decode cX4_choose 23 = .ok (.iload_n 3, 1) := by decide +kernel
theorem dX4_choose_24 : decode cX4_choose 24 = .ok (.iastore, 1) := by decide +kernel
theorem dX4_choose_25 : decode cX4_choose 25 = .ok (.iload_n 1, 1) := by decide +kernel
theorem dX4_choose_26 : decode cX4_choose 26 = .ok (.iconst 1, 1) := by decide +kernel
theorem dX4_choose_27 : decode cX4_choose 27 = .ok (.iload_n 3, 1) := by decide +kernel
theorem dX4_choose_28 : decode cX4_choose 28 = .ok (.ishl, 1) := by decide +kernel
theorem dX4_choose_29 : decode cX4_choose 29 = .ok (.ior, 1) := by decide +kernel
theorem dX4_choose_30 : decode cX4_choose 30 = .ok (.istore_n 1, 1) := by decide +kernel
theorem dX4_choose_31 : decode cX4_choose 31 = .ok (.iinc 2 1, 3) := by decide +kernel
theorem dX4_choose_34 : decode cX4_choose 34 = .ok (.goto (-30), 3) := by decide +kernel
theorem dX4_choose_37 : decode cX4_choose 37 = .ok (.return_, 1) := by decide +kernel
theorem dX4_firstBest_0 : decode cX4_firstBest 0 = .ok (.iload_n 1, 1) := by decide +kernel
theorem dX4_firstBest_1 : decode cX4_firstBest 1 = .ok (.invokestatic 46, 3) := by decide +kernel
theorem dX4_firstBest_4 : decode cX4_firstBest 4 = .ok (.istore_n 2, 1) := by decide +kernel
theorem dX4_firstBest_5 : decode cX4_firstBest 5 = .ok (.iconst 0, 1) := by decide +kernel
theorem dX4_firstBest_6 : decode cX4_firstBest 6 = .ok (.istore_n 3, 1) := by decide +kernel
theorem dX4_firstBest_7 : decode cX4_firstBest 7 = .ok (.iconst (-1), 1) := by decide +kernel
theorem dX4_firstBest_8 : decode cX4_firstBest 8 = .ok (.istore 4, 2) := by decide +kernel
theorem dX4_firstBest_10 : decode cX4_firstBest 10 = .ok (.iconst 0, 1) := by decide +kernel
theorem dX4_firstBest_11 : decode cX4_firstBest 11 = .ok (.istore 5, 2) := by decide +kernel
theorem dX4_firstBest_13 : decode cX4_firstBest 13 = .ok (.iload 5, 2) := by decide +kernel
theorem dX4_firstBest_15 : decode cX4_firstBest 15 = .ok (.aload_n 0, 1) := by decide +kernel
theorem dX4_firstBest_16 : decode cX4_firstBest 16 = .ok (.getfield 29, 3) := by decide +kernel
theorem dX4_firstBest_19 : decode cX4_firstBest 19 = .ok (.if_icmp .ge 44, 3) := by decide +kernel
theorem dX4_firstBest_22 : decode cX4_firstBest 22 = .ok (.iload_n 1, 1) := by decide +kernel
theorem dX4_firstBest_23 : decode cX4_firstBest 23 = .ok (.iconst 1, 1) := by decide +kernel
theorem dX4_firstBest_24 : decode cX4_firstBest 24 = .ok (.iload 5, 2) := by decide +kernel
theorem dX4_firstBest_26 : decode cX4_firstBest 26 = .ok (.ishl, 1) := by decide +kernel
theorem dX4_firstBest_27 : decode cX4_firstBest 27 = .ok (.iand, 1) := by decide +kernel
theorem dX4_firstBest_28 : decode cX4_firstBest 28 = .ok (.ifCond .ne 29, 3) := by decide +kernel
theorem dX4_firstBest_31 : decode cX4_firstBest 31 = .ok (.aload_n 0, 1) := by decide +kernel
theorem dX4_firstBest_32 : decode cX4_firstBest 32 = .ok (.iload_n 2, 1) := by decide +kernel
theorem dX4_firstBest_33 : decode cX4_firstBest 33 = .ok (.iload 5, 2) := by decide +kernel
theorem dX4_firstBest_35 : decode cX4_firstBest 35 = .ok (.iload_n 1, 1) := by decide +kernel
theorem dX4_firstBest_36 : decode cX4_firstBest 36 = .ok (.invokevirtual 55, 3) := by decide +kernel
theorem dX4_firstBest_39 : decode cX4_firstBest 39 = .ok (.iload 4, 2) := by decide +kernel
theorem dX4_firstBest_41 : decode cX4_firstBest 41 = .ok (.if_icmp .le 16, 3) := by decide +kernel
theorem dX4_firstBest_44 : decode cX4_firstBest 44 = .ok (.iload 5, 2) := by decide +kernel
theorem dX4_firstBest_46 : decode cX4_firstBest 46 = .ok (.istore_n 3, 1) := by decide +kernel
theorem dX4_firstBest_47 : decode cX4_firstBest 47 = .ok (.aload_n 0, 1) := by decide +kernel
theorem dX4_firstBest_48 : decode cX4_firstBest 48 = .ok (.iload_n 2, 1) := by decide +kernel
theorem dX4_firstBest_49 : decode cX4_firstBest 49 = .ok (.iload 5, 2) := by decide +kernel
theorem dX4_firstBest_51 : decode cX4_firstBest 51 = .ok (.iload_n 1, 1) := by decide +kernel
theorem dX4_firstBest_52 : decode cX4_firstBest 52 = .ok (.invokevirtual 55, 3) := by decide +kernel
theorem dX4_firstBest_55 : decode cX4_firstBest 55 = .ok (.istore 4, 2) := by decide +kernel
theorem dX4_firstBest_57 : decode cX4_firstBest 57 = .ok (.iinc 5 1, 3) := by decide +kernel
theorem dX4_firstBest_60 : decode cX4_firstBest 60 = .ok (.goto (-47), 3) := by decide +kernel
theorem dX4_firstBest_63 : decode cX4_firstBest 63 = .ok (.iload_n 3, 1) := by decide +kernel
theorem dX4_firstBest_64 : decode cX4_firstBest 64 = .ok (.ireturn, 1) := by decide +kernel
theorem dX4_broughtBy_0 : decode cX4_broughtBy 0 = .ok (.aload_n 0, 1) := by decide +kernel
theorem dX4_broughtBy_1 : decode cX4_broughtBy 1 = .ok (.getfield 11, 3) := by decide +kernel
theorem dX4_broughtBy_4 : decode cX4_broughtBy 4 = .ok (.iload_n 1, 1) := by decide +kernel
theorem dX4_broughtBy_5 : decode cX4_broughtBy 5 = .ok (.aaload, 1) := by decide +kernel
theorem dX4_broughtBy_6 : decode cX4_broughtBy 6 = .ok (.iload_n 2, 1) := by decide +kernel
theorem dX4_broughtBy_7 : decode cX4_broughtBy 7 = .ok (.iaload, 1) := by decide +kernel
theorem dX4_broughtBy_8 : decode cX4_broughtBy 8 = .ok (.aload_n 0, 1) := by decide +kernel
theorem dX4_broughtBy_9 : decode cX4_broughtBy 9 = .ok (.getfield 16, 3) := by decide +kernel
theorem dX4_broughtBy_12 : decode cX4_broughtBy 12 = .ok (.iload_n 3, 1) := by decide +kernel
theorem dX4_broughtBy_13 : decode cX4_broughtBy 13 = .ok (.iconst 1, 1) := by decide +kernel
theorem dX4_broughtBy_14 : decode cX4_broughtBy 14 = .ok (.iload_n 2, 1) := by decide +kernel
theorem dX4_broughtBy_15 : decode cX4_broughtBy 15 = .ok (.ishl, 1) := by decide +kernel
theorem dX4_broughtBy_16 : decode cX4_broughtBy 16 = .ok (.ior, 1) := by decide +kernel
theorem dX4_broughtBy_17 : decode cX4_broughtBy 17 = .ok (.iaload, 1) := by decide +kernel
theorem dX4_broughtBy_18 : decode cX4_broughtBy 18 = .ok (.iadd, 1) := by decide +kernel
theorem dX4_broughtBy_19 : decode cX4_broughtBy 19 = .ok (.ireturn, 1) := by decide +kernel
theorem dX4_tell_0 : decode cX4_tell 0 = .ok (.iload_n 1, 1) := by decide +kernel
theorem dX4_tell_1 : decode cX4_tell 1 = .ok (.bipush 10, 2) := by decide +kernel
theorem dX4_tell_3 : decode cX4_tell 3 = .ok (.if_icmp .ge 8, 3) := by decide +kernel
theorem dX4_tell_6 : decode cX4_tell 6 = .ok (.aload_n 0, 1) := by decide +kernel
theorem dX4_tell_7 : decode cX4_tell 7 = .ok (.getfield 59, 3) := by decide +kernel
theorem dX4_tell_10 : decode cX4_tell 10 = .ok (.ireturn, 1) := by decide +kernel
theorem dX4_tell_11 : decode cX4_tell 11 = .ok (.iload_n 1, 1) := by decide +kernel
theorem dX4_tell_12 : decode cX4_tell 12 = .ok (.bipush 10, 2) := by decide +kernel
theorem dX4_tell_14 : decode cX4_tell 14 = .ok (.isub, 1) := by decide +kernel
theorem dX4_tell_15 : decode cX4_tell 15 = .ok (.istore_n 2, 1) := by decide +kernel
theorem dX4_tell_16 : decode cX4_tell 16 = .ok (.iload_n 2, 1) := by decide +kernel
theorem dX4_tell_17 : decode cX4_tell 17 = .ok (.aload_n 0, 1) := by decide +kernel
theorem dX4_tell_18 : decode cX4_tell 18 = .ok (.getfield 29, 3) := by decide +kernel
theorem dX4_tell_21 : decode cX4_tell 21 = .ok (.if_icmp .ge 12, 3) := by decide +kernel
theorem dX4_tell_24 : decode cX4_tell 24 = .ok (.aload_n 0, 1) := by decide +kernel
theorem dX4_tell_25 : decode cX4_tell 25 = .ok (.getfield 20, 3) := by decide +kernel
theorem dX4_tell_28 : decode cX4_tell 28 = .ok (.iload_n 2, 1) := by decide +kernel
theorem dX4_tell_29 : decode cX4_tell 29 = .ok (.iaload, 1) := by decide +kernel
theorem dX4_tell_30 : decode cX4_tell 30 = .ok (.goto 4, 3) := by decide +kernel
theorem dX4_tell_33 : decode cX4_tell 33 = .ok (.iconst (-1), 1) := by decide +kernel
theorem dX4_tell_34 : decode cX4_tell 34 = .ok (.ireturn, 1) := by decide +kernel
theorem dX5_init_0 : decode cX5_init 0 = .ok (.aload_n 0, 1) := by decide +kernel
theorem dX5_init_1 : decode cX5_init 1 = .ok (.invokespecial 3, 3) := by decide +kernel
theorem dX5_init_4 : decode cX5_init 4 = .ok (.aload_n 0, 1) := by decide +kernel
theorem dX5_init_5 : decode cX5_init 5 = .ok (.bipush 60, 2) := by decide +kernel
theorem dX5_init_7 : decode cX5_init 7 = .ok (.newarray .int, 2) := by decide +kernel
theorem dX5_init_9 : decode cX5_init 9 = .ok (.putfield 9, 3) := by decide +kernel
theorem dX5_init_12 : decode cX5_init 12 = .ok (.aload_n 0, 1) := by decide +kernel
theorem dX5_init_13 : decode cX5_init 13 = .ok (.bipush 24, 2) := by decide +kernel
theorem dX5_init_15 : decode cX5_init 15 = .ok (.newarray .int, 2) := by decide +kernel
theorem dX5_init_17 : decode cX5_init 17 = .ok (.putfield 15, 3) := by decide +kernel
theorem dX5_init_20 : decode cX5_init 20 = .ok (.return_, 1) := by decide +kernel
theorem dX5_readAll_0 : decode cX5_readAll 0 = .ok (.iconst 0, 1) := by decide +kernel
theorem dX5_readAll_1 : decode cX5_readAll 1 = .ok (.istore_n 1, 1) := by decide +kernel
theorem dX5_readAll_2 : decode cX5_readAll 2 = .ok (.iload_n 1, 1) := by decide +kernel
theorem dX5_readAll_3 : decode cX5_readAll 3 = .ok (.bipush 24, 2) := by decide +kernel
theorem dX5_readAll_5 : decode cX5_readAll 5 = .ok (.if_icmp .ge 16, 3) := by decide +kernel
theorem dX5_readAll_8 : decode cX5_readAll 8 = .ok (.aload_n 0, 1) := by decide +kernel
theorem dX5_readAll_9 : decode cX5_readAll 9 = .ok (.getfield 15, 3) := by decide +kernel
theorem dX5_readAll_12 : decode cX5_readAll 12 = .ok (.iload_n 1, 1) := by decide +kernel
theorem dX5_readAll_13 : decode cX5_readAll 13 = .ok (.iconst 0, 1) := by decide +kernel
theorem dX5_readAll_14 : decode cX5_readAll 14 = .ok (.iastore, 1) := by decide +kernel
theorem dX5_readAll_15 : decode cX5_readAll 15 = .ok (.iinc 1 1, 3) := by decide +kernel
theorem dX5_readAll_18 : decode cX5_readAll 18 = .ok (.goto (-16), 3) := by decide +kernel
theorem dX5_readAll_21 : decode cX5_readAll 21 = .ok (.aload_n 0, 1) := by decide +kernel
theorem dX5_readAll_22 : decode cX5_readAll 22 = .ok (.iconst 0, 1) := by decide +kernel
theorem dX5_readAll_23 : decode cX5_readAll 23 = .ok (.putfield 18, 3) := by decide +kernel
theorem dX5_readAll_26 : decode cX5_readAll 26 = .ok (.aload_n 0, 1) := by decide +kernel
theorem dX5_readAll_27 : decode cX5_readAll 27 = .ok (.iconst 0, 1) := by decide +kernel
theorem dX5_readAll_28 : decode cX5_readAll 28 = .ok (.putfield 22, 3) := by decide +kernel
theorem dX5_readAll_31 : decode cX5_readAll 31 = .ok (.iconst 0, 1) := by decide +kernel
theorem dX5_readAll_32 : decode cX5_readAll 32 = .ok (.istore_n 1, 1) := by decide +kernel
theorem dX5_readAll_33 : decode cX5_readAll 33 = .ok (.iload_n 1, 1) := by decide +kernel
theorem dX5_readAll_34 : decode cX5_readAll 34 = .ok (.aload_n 0, 1) := by decide +kernel
theorem dX5_readAll_35 : decode cX5_readAll 35 = .ok (.getfield 26, 3) := by decide +kernel
theorem dX5_readAll_38 : decode cX5_readAll 38 = .ok (.if_icmp .ge 52, 3) := by decide +kernel
theorem dX5_readAll_41 : decode cX5_readAll 41 = .ok (.iload_n 1, 1) := by decide +kernel
theorem dX5_readAll_42 : decode cX5_readAll 42 = .ok (.bipush 60, 2) := by decide +kernel
theorem dX5_readAll_44 : decode cX5_readAll 44 = .ok (.if_icmp .ge 46, 3) := by decide +kernel
theorem dX5_readAll_47 : decode cX5_readAll 47 = .ok (.aload_n 0, 1) := by decide +kernel
theorem dX5_readAll_48 : decode cX5_readAll 48 = .ok (.getfield 22, 3) := by decide +kernel
theorem dX5_readAll_51 : decode cX5_readAll 51 = .ok (.ifCond .eq 16, 3) := by decide +kernel
theorem dX5_readAll_54 : decode cX5_readAll 54 = .ok (.aload_n 0, 1) := by decide +kernel
theorem dX5_readAll_55 : decode cX5_readAll 55 = .ok (.aload_n 0, 1) := by decide +kernel
theorem dX5_readAll_56 : decode cX5_readAll 56 = .ok (.getfield 9, 3) := by decide +kernel
theorem dX5_readAll_59 : decode cX5_readAll 59 = .ok (.iload_n 1, 1) := by decide +kernel
theorem dX5_readAll_60 : decode cX5_readAll 60 = .ok (.iaload, 1) := by decide +kernel
theorem dX5_readAll_61 : decode cX5_readAll 61 = .ok (.invokevirtual 29, 3) := by decide +kernel
theorem dX5_readAll_64 : decode cX5_readAll 64 = .ok (.goto 13, 3) := by decide +kernel
theorem dX5_readAll_67 : decode cX5_readAll 67 = .ok (.aload_n 0, 1) := by decide +kernel
theorem dX5_readAll_68 : decode cX5_readAll 68 = .ok (.aload_n 0, 1) := by decide +kernel
theorem dX5_readAll_69 : decode cX5_readAll 69 = .ok (.getfield 9, 3) := by decide +kernel
theorem dX5_readAll_72 : decode cX5_readAll 72 = .ok (.iload_n 1, 1) := by decide +kernel
theorem dX5_readAll_73 : decode cX5_readAll 73 = .ok (.iaload, 1) := by decide +kernel
theorem dX5_readAll_74 : decode cX5_readAll 74 = .ok (.invokevirtual 33, 3) := by decide +kernel
theorem dX5_readAll_77 : decode cX5_readAll 77 = .ok (.istore_n 2, 1) := by decide +kernel
theorem dX5_readAll_78 : decode cX5_readAll 78 = .ok (.iload_n 2, 1) := by decide +kernel
theorem dX5_readAll_79 : decode cX5_readAll 79 = .ok (.ifCond .ne 5, 3) := by decide +kernel
theorem dX5_readAll_82 : decode cX5_readAll 82 = .ok (.iload_n 1, 1) := by decide +kernel
theorem dX5_readAll_83 : decode cX5_readAll 83 = .ok (.ireturn, 1) := by decide +kernel
theorem dX5_readAll_84 : decode cX5_readAll 84 = .ok (.iinc 1 1, 3) := by decide +kernel
theorem dX5_readAll_87 : decode cX5_readAll 87 = .ok (.goto (-54), 3) := by decide +kernel
theorem dX5_readAll_90 : decode cX5_readAll 90 = .ok (.aload_n 0, 1) := by decide +kernel
theorem dX5_readAll_91 : decode cX5_readAll 91 = .ok (.getfield 26, 3) := by decide +kernel
theorem dX5_readAll_94 : decode cX5_readAll 94 = .ok (.ireturn, 1) := by decide +kernel
theorem dX5_isComplete_0 : decode cX5_isComplete 0 = .ok (.aload_n 0, 1) := by decide +kernel
theorem dX5_isComplete_1 : decode cX5_isComplete 1 = .ok (.getfield 18, 3) := by decide +kernel
theorem dX5_isComplete_4 : decode cX5_isComplete 4 = .ok (.ifCond .le 14, 3) := by decide +kernel
theorem dX5_isComplete_7 : decode cX5_isComplete 7 = .ok (.aload_n 0, 1) := by decide +kernel
theorem dX5_isComplete_8 : decode cX5_isComplete 8 = .ok (.getfield 22, 3) := by decide +kernel
theorem dX5_isComplete_11 : decode cX5_isComplete 11 = .ok (.ifCond .ne 7, 3) := by decide +kernel
theorem dX5_isComplete_14 : decode cX5_isComplete 14 = .ok (.iconst 1, 1) := by decide +kernel
theorem dX5_isComplete_15 : decode cX5_isComplete 15 = .ok (.goto 4, 3) := by decide +kernel
theorem dX5_isComplete_18 : decode cX5_isComplete 18 = .ok (.iconst 0, 1) := by decide +kernel
theorem dX5_isComplete_19 : decode cX5_isComplete 19 = .ok (.ireturn, 1) := by decide +kernel
theorem dX5_readOutside_0 : decode cX5_readOutside 0 = .ok (.aload_n 0, 1) := by decide +kernel
theorem dX5_readOutside_1 : decode cX5_readOutside 1 = .ok (.getfield 18, 3) := by decide +kernel
theorem dX5_readOutside_4 : decode cX5_readOutside 4 = .ok (.bipush 24, 2) := by decide +kernel
theorem dX5_readOutside_6 : decode cX5_readOutside 6 = .ok (.if_icmp .lt 5, 3) := by decide +kernel
theorem dX5_readOutside_9 : decode cX5_readOutside 9 = .ok (.iconst 0, 1) := by decide +kernel
theorem dX5_readOutside_10 : decode cX5_readOutside 10 = .ok (.ireturn, 1) := by decide +kernel
theorem dX5_readOutside_11 : decode cX5_readOutside 11 = .ok (.iload_n 1, 1) := by decide +kernel
theorem dX5_readOutside_12 : decode cX5_readOutside 12 = .ok (.bipush 40, 2) := by decide +kernel
theorem dX5_readOutside_14 : decode cX5_readOutside 14 = .ok (.if_icmp .ne 15, 3) := by decide +kernel
theorem dX5_readOutside_17 : decode cX5_readOutside 17 = .ok (.aload_n 0, 1) := by decide +kernel
theorem dX5_readOutside_18 : decode cX5_readOutside 18 = .ok (.iconst 1, 1) := by decide +kernel
theorem dX5_readOutside_19 : decode cX5_readOutside 19 = .ok (.putfield 22, 3) := by decide +kernel
theorem dX5_readOutside_22 : decode cX5_readOutside 22 = .ok (.aload_n 0, 1) := by decide +kernel
theorem dX5_readOutside_23 : decode cX5_readOutside 23 = .ok (.iconst 0, 1) := by decide +kernel
theorem dX5_readOutside_24 : decode cX5_readOutside 24 = .ok (.putfield 36, 3) := by decide +kernel
theorem dX5_readOutside_27 : decode cX5_readOutside 27 = .ok (.iconst 1, 1) := by decide +kernel
theorem dX5_readOutside_28 : decode cX5_readOutside 28 = .ok (.ireturn, 1) := by decide +kernel
theorem dX5_readOutside_29 : decode cX5_readOutside 29 = .ok (.iload_n 1, 1) := by decide +kernel
theorem dX5_readOutside_30 : decode cX5_readOutside 30 = .ok (.bipush 45, 2) := by decide +kernel
theorem dX5_readOutside_32 : decode cX5_readOutside 32 = .ok (.if_icmp .eq 10, 3) := by decide +kernel
theorem dX5_readOutside_35 : decode cX5_readOutside 35 = .ok (.iload_n 1, 1) := by decide +kernel
theorem dX5_readOutside_36 : decode cX5_readOutside 36 = .ok (.invokestatic 39, 3) := by decide +kernel
theorem dX5_readOutside_39 : decode cX5_readOutside 39 = .ok (.ifCond .eq 25, 3) := by decide +kernel
theorem dX5_readOutside_42 : decode cX5_readOutside 42 = .ok (.aload_n 0, 1) := by decide +kernel
theorem dX5_readOutside_43 : decode cX5_readOutside 43 = .ok (.iload_n 1, 1) := by decide +kernel
theorem dX5_readOutside_44 : decode cX5_readOutside 44 = .ok (.bipush 45, 2) := by decide +kernel
theorem dX5_readOutside_46 : decode cX5_readOutside 46 = .ok (.if_icmp .ne 7, 3) := by decide +kernel
theorem dX5_readOutside_49 : decode cX5_readOutside 49 = .ok (.iconst 0, 1) := by decide +kernel
theorem dX5_readOutside_50 : decode cX5_readOutside 50 = .ok (.goto 9, 3) := by decide +kernel
theorem dX5_readOutside_53 : decode cX5_readOutside 53 = .ok (.iconst 1, 1) := by decide +kernel
theorem dX5_readOutside_54 : decode cX5_readOutside 54 = .ok (.iload_n 1, 1) := by decide +kernel
theorem dX5_readOutside_55 : decode cX5_readOutside 55 = .ok (.bipush 97, 2) := by decide +kernel
theorem dX5_readOutside_57 : decode cX5_readOutside 57 = .ok (.isub, 1) := by decide +kernel
theorem dX5_readOutside_58 : decode cX5_readOutside 58 = .ok (.ishl, 1) := by decide +kernel
theorem dX5_readOutside_59 : decode cX5_readOutside 59 = .ok (.invokevirtual 42, 3) := by decide +kernel
theorem dX5_readOutside_62 : decode cX5_readOutside 62 = .ok (.iconst 1, 1) := by decide +kernel
theorem dX5_readOutside_63 : decode cX5_readOutside 63 = .ok (.ireturn, 1) := by decide +kernel
theorem dX5_readOutside_64 : decode cX5_readOutside 64 = .ok (.iconst 0, 1) := by decide +kernel
theorem dX5_readOutside_65 : decode cX5_readOutside 65 = .ok (.ireturn, 1) := by decide +kernel
theorem dX5_readInside_0 : decode cX5_readInside 0 = .ok (.iload_n 1, 1) := by decide +kernel
theorem dX5_readInside_1 : decode cX5_readInside 1 = .ok (.bipush 41, 2) := by decide +kernel
theorem dX5_readInside_3 : decode cX5_readInside 3 = .ok (.if_icmp .ne 29, 3) := by decide +kernel
theorem dX5_readInside_6 : decode cX5_readInside 6 = .ok (.aload_n 0, 1) := by decide +kernel
theorem dX5_readInside_7 : decode cX5_readInside 7 = .ok (.getfield 36, 3) := by decide +kernel
theorem dX5_readInside_10 : decode cX5_readInside 10 = .ok (.invokestatic 46, 3) := by decide +kernel
theorem dX5_readInside_13 : decode cX5_readInside 13 = .ok (.iconst 2, 1) := by decide +kernel
theorem dX5_readInside_14 : decode cX5_readInside 14 = .ok (.if_icmp .lt 18, 3) := by decide +kernel
theorem dX5_readInside_17 : decode cX5_readInside 17 = .ok (.aload_n 0, 1) := by decide +kernel
theorem dX5_readInside_18 : decode cX5_readInside 18 = .ok (.iconst 0, 1) := by decide +kernel
theorem dX5_readInside_19 : decode cX5_readInside 19 = .ok (.putfield 22, 3) := by decide +kernel
theorem dX5_readInside_22 : decode cX5_readInside 22 = .ok (.aload_n 0, 1) := by decide +kernel
theorem dX5_readInside_23 : decode cX5_readInside 23 = .ok (.aload_n 0, 1) := by decide +kernel
theorem dX5_readInside_24 : decode cX5_readInside 24 = .ok (.getfield 36, 3) := by decide +kernel
theorem dX5_readInside_27 : decode cX5_readInside 27 = .ok (.invokevirtual 42, 3) := by decide +kernel
theorem dX5_readInside_30 : decode cX5_readInside 30 = .ok (.iconst 1, 1) := by decide +kernel
theorem dX5_readInside_31 : decode cX5_readInside 31 = .ok (.ireturn, 1) := by decide +kernel
theorem dX5_readInside_32 : decode cX5_readInside 32 = .ok (.iload_n 1, 1) := by decide +kernel
theorem dX5_readInside_33 : decode cX5_readInside 33 = .ok (.invokestatic 39, 3) := by decide +kernel
theorem dX5_readInside_36 : decode cX5_readInside 36 = .ok (.ifCond .ne 5, 3) := by decide +kernel
theorem dX5_readInside_39 : decode cX5_readInside 39 = .ok (.iconst 0, 1) := by decide +kernel
theorem dX5_readInside_40 : decode cX5_readInside 40 = .ok (.ireturn, 1) := by decide +kernel
theorem dX5_readInside_41 : decode cX5_readInside 41 = .ok (.iconst 1, 1) := by decide +kernel
theorem dX5_readInside_42 : decode cX5_readInside 42 = .ok (.iload_n 1, 1) := by decide +kernel
theorem dX5_readInside_43 : decode cX5_readInside 43 = .ok (.bipush 97, 2) := by decide +kernel
theorem dX5_readInside_45 : decode cX5_readInside 45 = .ok (.isub, 1) := by decide +kernel
theorem dX5_readInside_46 : decode cX5_readInside 46 = .ok (.ishl, 1) := by decide +kernel
theorem dX5_readInside_47 : decode cX5_readInside 47 = .ok (.istore_n 2, 1) := by decide +kernel
theorem dX5_readInside_48 : decode cX5_readInside 48 = .ok (.aload_n 0, 1) := by decide +kernel
theorem dX5_readInside_49 : decode cX5_readInside 49 = .ok (.getfield 36, 3) := by decide +kernel
theorem dX5_readInside_52 : decode cX5_readInside 52 = .ok (.ifCond .ne 13, 3) := by decide +kernel
theorem dX5_readInside_55 : decode cX5_readInside 55 = .ok (.iload_n 1, 1) := by decide +kernel
theorem dX5_readInside_56 : decode cX5_readInside 56 = .ok (.bipush 108, 2) := by decide +kernel
theorem dX5_readInside_58 : decode cX5_readInside 58 = .ok (.if_icmp .ne 7, 3) := by decide +kernel
theorem dX5_readInside_61 : decode cX5_readInside 61 = .ok (.iconst 1, 1) := by decide +kernel
theorem dX5_readInside_62 : decode cX5_readInside 62 = .ok (.goto 4, 3) := by decide +kernel
theorem dX5_readInside_65 : decode cX5_readInside 65 = .ok (.iconst 0, 1) := by decide +kernel
theorem dX5_readInside_66 : decode cX5_readInside 66 = .ok (.istore_n 3, 1) := by decide +kernel
theorem dX5_readInside_67 : decode cX5_readInside 67 = .ok (.iload_n 2, 1) := by decide +kernel
theorem dX5_readInside_68 : decode cX5_readInside 68 = .ok (.aload_n 0, 1) := by decide +kernel
theorem dX5_readInside_69 : decode cX5_readInside 69 = .ok (.getfield 36, 3) := by decide +kernel
theorem dX5_readInside_72 : decode cX5_readInside 72 = .ok (.if_icmp .le 7, 3) := by decide +kernel
theorem dX5_readInside_75 : decode cX5_readInside 75 = .ok (.iload_n 3, 1) := by decide +kernel
theorem dX5_readInside_76 : decode cX5_readInside 76 = .ok (.ifCond .eq 5, 3) := by decide +kernel
theorem dX5_readInside_79 : decode cX5_readInside 79 = .ok (.iconst 0, 1) := by decide +kernel
theorem dX5_readInside_80 : decode cX5_readInside 80 = .ok (.ireturn, 1) := by decide +kernel
theorem dX5_readInside_81 : decode cX5_readInside 81 = .ok (.aload_n 0, 1) := by decide +kernel
theorem dX5_readInside_82 : decode cX5_readInside 82 = .ok (.dup, 1) := by decide +kernel
theorem dX5_readInside_83 : decode cX5_readInside 83 = .ok (.getfield 36, 3) := by decide +kernel
theorem dX5_readInside_86 : decode cX5_readInside 86 = .ok (.iload_n 2, 1) := by decide +kernel
theorem dX5_readInside_87 : decode cX5_readInside 87 = .ok (.ior, 1) := by decide +kernel
theorem dX5_readInside_88 : decode cX5_readInside 88 = .ok (.putfield 36, 3) := by decide +kernel
theorem dX5_readInside_91 : decode cX5_readInside 91 = .ok (.iconst 1, 1) := by decide +kernel
theorem dX5_readInside_92 : decode cX5_readInside 92 = .ok (.ireturn, 1) := by decide +kernel
theorem dX5_endStep_0 : decode cX5_endStep 0 = .ok (.aload_n 0, 1) := by decide +kernel
theorem dX5_endStep_1 : decode cX5_endStep 1 = .ok (.getfield 18, 3) := by decide +kernel
theorem dX5_endStep_4 : decode cX5_endStep 4 = .ok (.bipush 24, 2) := by decide +kernel
theorem dX5_endStep_6 : decode cX5_endStep 6 = .ok (.if_icmp .ge 23, 3) := by decide +kernel
theorem dX5_endStep_9 : decode cX5_endStep 9 = .ok (.aload_n 0, 1) := by decide +kernel
theorem dX5_endStep_10 : decode cX5_endStep 10 = .ok (.getfield 15, 3) := by decide +kernel
theorem dX5_endStep_13 : decode cX5_endStep 13 = .ok (.aload_n 0, 1) := by decide +kernel
theorem dX5_endStep_14 : decode cX5_endStep 14 = .ok (.getfield 18, 3) := by decide +kernel
theorem dX5_endStep_17 : decode cX5_endStep 17 = .ok (.iload_n 1, 1) := by decide +kernel
theorem dX5_endStep_18 : decode cX5_endStep 18 = .ok (.iastore, 1) := by decide +kernel
theorem dX5_endStep_19 : decode cX5_endStep 19 = .ok (.aload_n 0, 1) := by decide +kernel
theorem dX5_endStep_20 : decode cX5_endStep 20 = .ok (.dup, 1) := by decide +kernel
theorem dX5_endStep_21 : decode cX5_endStep 21 = .ok (.getfield 18, 3) := by decide +kernel
theorem dX5_endStep_24 : decode cX5_endStep 24 = .ok (.iconst 1, 1) := by decide +kernel
theorem dX5_endStep_25 : decode cX5_endStep 25 = .ok (.iadd, 1) := by decide +kernel
theorem dX5_endStep_26 : decode cX5_endStep 26 = .ok (.putfield 18, 3) := by decide +kernel
theorem dX5_endStep_29 : decode cX5_endStep 29 = .ok (.return_, 1) := by decide +kernel
theorem dX5_isTooth_0 : decode cX5_isTooth 0 = .ok (.iload_n 0, 1) := by decide +kernel
theorem dX5_isTooth_1 : decode cX5_isTooth 1 = .ok (.bipush 97, 2) := by decide +kernel
theorem dX5_isTooth_3 : decode cX5_isTooth 3 = .ok (.if_icmp .lt 13, 3) := by decide +kernel
theorem dX5_isTooth_6 : decode cX5_isTooth 6 = .ok (.iload_n 0, 1) := by decide +kernel
theorem dX5_isTooth_7 : decode cX5_isTooth 7 = .ok (.bipush 109, 2) := by decide +kernel
theorem dX5_isTooth_9 : decode cX5_isTooth 9 = .ok (.if_icmp .ge 7, 3) := by decide +kernel
theorem dX5_isTooth_12 : decode cX5_isTooth 12 = .ok (.iconst 1, 1) := by decide +kernel
theorem dX5_isTooth_13 : decode cX5_isTooth 13 = .ok (.goto 4, 3) := by decide +kernel
theorem dX5_isTooth_16 : decode cX5_isTooth 16 = .ok (.iconst 0, 1) := by decide +kernel
theorem dX5_isTooth_17 : decode cX5_isTooth 17 = .ok (.ireturn, 1) := by decide +kernel
theorem dX6_init_0 : decode cX6_init 0 = .ok (.aload_n 0, 1) := by decide +kernel
theorem dX6_init_1 : decode cX6_init 1 = .ok (.invokespecial 1, 3) := by decide +kernel
theorem dX6_init_4 : decode cX6_init 4 = .ok (.aload_n 0, 1) := by decide +kernel
theorem dX6_init_5 : decode cX6_init 5 = .ok (.new 7, 3) := by decide +kernel
theorem dX6_init_8 : decode cX6_init 8 = .ok (.dup, 1) := by decide +kernel
theorem dX6_init_9 : decode cX6_init 9 = .ok (.invokespecial 9, 3) := by decide +kernel
theorem dX6_init_12 : decode cX6_init 12 = .ok (.putfield 10, 3) := by decide +kernel
theorem dX6_init_15 : decode cX6_init 15 = .ok (.aload_n 0, 1) := by decide +kernel
theorem dX6_init_16 : decode cX6_init 16 = .ok (.bipush 6, 2) := by decide +kernel
theorem dX6_init_18 : decode cX6_init 18 = .ok (.anewarray 7, 3) := by decide +kernel
theorem dX6_init_21 : decode cX6_init 21 = .ok (.putfield 16, 3) := by decide +kernel
theorem dX6_init_24 : decode cX6_init 24 = .ok (.iconst 0, 1) := by decide +kernel
theorem dX6_init_25 : decode cX6_init 25 = .ok (.istore_n 1, 1) := by decide +kernel
theorem dX6_init_26 : decode cX6_init 26 = .ok (.iload_n 1, 1) := by decide +kernel
theorem dX6_init_27 : decode cX6_init 27 = .ok (.bipush 6, 2) := by decide +kernel
theorem dX6_init_29 : decode cX6_init 29 = .ok (.if_icmp .ge 22, 3) := by decide +kernel
theorem dX6_init_32 : decode cX6_init 32 = .ok (.aload_n 0, 1) := by decide +kernel
theorem dX6_init_33 : decode cX6_init 33 = .ok (.getfield 16, 3) := by decide +kernel
theorem dX6_init_36 : decode cX6_init 36 = .ok (.iload_n 1, 1) := by decide +kernel
theorem dX6_init_37 : decode cX6_init 37 = .ok (.new 7, 3) := by decide +kernel
theorem dX6_init_40 : decode cX6_init 40 = .ok (.dup, 1) := by decide +kernel
theorem dX6_init_41 : decode cX6_init 41 = .ok (.invokespecial 9, 3) := by decide +kernel
theorem dX6_init_44 : decode cX6_init 44 = .ok (.aastore, 1) := by decide +kernel
theorem dX6_init_45 : decode cX6_init 45 = .ok (.iinc 1 1, 3) := by decide +kernel
theorem dX6_init_48 : decode cX6_init 48 = .ok (.goto (-22), 3) := by decide +kernel
theorem dX6_init_51 : decode cX6_init 51 = .ok (.aload_n 0, 1) := by decide +kernel
theorem dX6_init_52 : decode cX6_init 52 = .ok (.new 20, 3) := by decide +kernel
theorem dX6_init_55 : decode cX6_init 55 = .ok (.dup, 1) := by decide +kernel
theorem dX6_init_56 : decode cX6_init 56 = .ok (.invokespecial 22, 3) := by decide +kernel
theorem dX6_init_59 : decode cX6_init 59 = .ok (.putfield 23, 3) := by decide +kernel
theorem dX6_init_62 : decode cX6_init 62 = .ok (.aload_n 0, 1) := by decide +kernel
theorem dX6_init_63 : decode cX6_init 63 = .ok (.new 27, 3) := by decide +kernel
theorem dX6_init_66 : decode cX6_init 66 = .ok (.dup, 1) := by decide +kernel
theorem dX6_init_67 : decode cX6_init 67 = .ok (.invokespecial 29, 3) := by decide +kernel
theorem dX6_init_70 : decode cX6_init 70 = .ok (.putfield 30, 3) := by decide +kernel
theorem dX6_init_73 : decode cX6_init 73 = .ok (.aload_n 0, 1) := by decide +kernel
theorem dX6_init_74 : decode cX6_init 74 = .ok (.new 34, 3) := by decide +kernel
theorem dX6_init_77 : decode cX6_init 77 = .ok (.dup, 1) := by decide +kernel
theorem dX6_init_78 : decode cX6_init 78 = .ok (.invokespecial 36, 3) := by decide +kernel
theorem dX6_init_81 : decode cX6_init 81 = .ok (.putfield 37, 3) := by decide +kernel
theorem dX6_init_84 : decode cX6_init 84 = .ok (.aload_n 0, 1) := by decide +kernel
theorem dX6_init_85 : decode cX6_init 85 = .ok (.new 41, 3) := by decide +kernel
theorem dX6_init_88 : decode cX6_init 88 = .ok (.dup, 1) := by decide +kernel
theorem dX6_init_89 : decode cX6_init 89 = .ok (.invokespecial 43, 3) := by decide +kernel
theorem dX6_init_92 : decode cX6_init 92 = .ok (.putfield 44, 3) := by decide +kernel
theorem dX6_init_95 : decode cX6_init 95 = .ok (.aload_n 0, 1) := by decide +kernel
theorem dX6_init_96 : decode cX6_init 96 = .ok (.bipush 24, 2) := by decide +kernel
theorem dX6_init_98 : decode cX6_init 98 = .ok (.newarray .int, 2) := by decide +kernel
theorem dX6_init_100 : decode cX6_init 100 = .ok (.putfield 48, 3) := by decide +kernel
theorem dX6_init_103 : decode cX6_init 103 = .ok (.return_, 1) := by decide +kernel
theorem dX6_addTown_0 : decode cX6_addTown 0 = .ok (.iload_n 1, 1) := by decide +kernel
theorem dX6_addTown_1 : decode cX6_addTown 1 = .ok (.ifCond .lt 10, 3) := by decide +kernel
theorem dX6_addTown_4 : decode cX6_addTown 4 = .ok (.iload_n 1, 1) := by decide +kernel
theorem dX6_addTown_5 : decode cX6_addTown 5 = .ok (.sipush 200, 3) := by decide +kernel
theorem dX6_addTown_8 : decode cX6_addTown 8 = .ok (.if_icmp .le 13, 3) := by decide +kernel
theorem dX6_addTown_11 : decode cX6_addTown 11 = .ok (.new 52, 3) := by decide +kernel
theorem dX6_addTown_14 : decode cX6_addTown 14 = .ok (.dup, 1) := by decide +kernel
theorem dX6_addTown_15 : decode cX6_addTown 15 = .ok (.ldc 54, 2) := by decide +kernel
theorem dX6_addTown_17 : decode cX6_addTown 17 = .ok (.invokespecial 56, 3) := by decide +kernel
theorem dX6_addTown_20 : decode cX6_addTown 20 = .ok (.athrow, 1) := by decide +kernel
theorem dX6_addTown_21 : decode cX6_addTown 21 = .ok (.aload_n 0, 1) := by decide +kernel
theorem dX6_addTown_22 : decode cX6_addTown 22 = .ok (.getfield 10, 3) := by decide +kernel
theorem dX6_addTown_25 : decode cX6_addTown 25 = .ok (.getfield 59, 3) := by decide +kernel
theorem dX6_addTown_28 : decode cX6_addTown 28 = .ok (.bipush 6, 2) := by decide +kernel
theorem dX6_addTown_30 : decode cX6_addTown 30 = .ok (.if_icmp .lt 13, 3) := by decide +kernel
theorem dX6_addTown_33 : decode cX6_addTown 33 = .ok (.new 63, 3) := by decide +kernel
theorem dX6_addTown_36 : decode cX6_addTown 36 = .ok (.dup, 1) := by decide +kernel
theorem dX6_addTown_37 : decode cX6_addTown 37 = .ok (.ldc 65, 2) := by decide +kernel
theorem dX6_addTown_39 : decode cX6_addTown 39 = .ok (.invokespecial 67, 3) := by decide +kernel
theorem dX6_addTown_42 : decode cX6_addTown 42 = .ok (.athrow, 1) := by decide +kernel
theorem dX6_addTown_43 : decode cX6_addTown 43 = .ok (.iload_n 1, 1) := by decide +kernel
theorem dX6_addTown_44 : decode cX6_addTown 44 = .ok (.aload_n 0, 1) := by decide +kernel
theorem dX6_addTown_45 : decode cX6_addTown 45 = .ok (.getfield 10, 3) := by decide +kernel
theorem dX6_addTown_48 : decode cX6_addTown 48 = .ok (.getfield 68, 3) := by decide +kernel
theorem dX6_addTown_51 : decode cX6_addTown 51 = .ok (.iconst 2, 1) := by decide +kernel
theorem dX6_addTown_52 : decode cX6_addTown 52 = .ok (.iaload, 1) := by decide +kernel
theorem dX6_addTown_53 : decode cX6_addTown 53 = .ok (.if_icmp .le 13, 3) := by decide +kernel
theorem dX6_addTown_56 : decode cX6_addTown 56 = .ok (.new 63, 3) := by decide +kernel
theorem dX6_addTown_59 : decode cX6_addTown 59 = .ok (.dup, 1) := by decide +kernel
theorem dX6_addTown_60 : decode cX6_addTown 60 = .ok (.ldc 71, 2) := by decide +kernel
theorem dX6_addTown_62 : decode cX6_addTown 62 = .ok (.invokespecial 67, 3) := by decide +kernel
theorem dX6_addTown_65 : decode cX6_addTown 65 = .ok (.athrow, 1) := by decide +kernel
theorem dX6_addTown_66 : decode cX6_addTown 66 = .ok (.aload_n 0, 1) := by decide +kernel
theorem dX6_addTown_67 : decode cX6_addTown 67 = .ok (.invokevirtual 73, 3) := by decide +kernel
theorem dX6_addTown_70 : decode cX6_addTown 70 = .ok (.aload_n 0, 1) := by decide +kernel
theorem dX6_addTown_71 : decode cX6_addTown 71 = .ok (.getfield 10, 3) := by decide +kernel
theorem dX6_addTown_74 : decode cX6_addTown 74 = .ok (.getfield 59, 3) := by decide +kernel
theorem dX6_addTown_77 : decode cX6_addTown 77 = .ok (.istore_n 2, 1) := by decide +kernel
theorem dX6_addTown_78 : decode cX6_addTown 78 = .ok (.aload_n 0, 1) := by decide +kernel
theorem dX6_addTown_79 : decode cX6_addTown 79 = .ok (.getfield 10, 3) := by decide +kernel
theorem dX6_addTown_82 : decode cX6_addTown 82 = .ok (.getfield 76, 3) := by decide +kernel
theorem dX6_addTown_85 : decode cX6_addTown 85 = .ok (.iload_n 2, 1) := by decide +kernel
theorem dX6_addTown_86 : decode cX6_addTown 86 = .ok (.aaload, 1) := by decide +kernel
theorem dX6_addTown_87 : decode cX6_addTown 87 = .ok (.iload_n 1, 1) := by decide +kernel
theorem dX6_addTown_88 : decode cX6_addTown 88 = .ok (.putfield 80, 3) := by decide +kernel
theorem dX6_addTown_91 : decode cX6_addTown 91 = .ok (.aload_n 0, 1) := by decide +kernel
theorem dX6_addTown_92 : decode cX6_addTown 92 = .ok (.getfield 10, 3) := by decide +kernel
theorem dX6_addTown_95 : decode cX6_addTown 95 = .ok (.iload_n 2, 1) := by decide +kernel
theorem dX6_addTown_96 : decode cX6_addTown 96 = .ok (.iconst 1, 1) := by decide +kernel
theorem dX6_addTown_97 : decode cX6_addTown 97 = .ok (.iadd, 1) := by decide +kernel
theorem dX6_addTown_98 : decode cX6_addTown 98 = .ok (.putfield 59, 3) := by decide +kernel
theorem dX6_addTown_101 : decode cX6_addTown 101 = .ok (.iload_n 2, 1) := by decide +kernel
theorem dX6_addTown_102 : decode cX6_addTown 102 = .ok (.ireturn, 1) := by decide +kernel
theorem dX6_set_0 : decode cX6_set 0 = .ok (.iload_n 1, 1) := by decide +kernel
theorem dX6_set_1 : decode cX6_set 1 = .ok (.invokestatic 85, 3) := by decide +kernel
theorem dX6_set_4 : decode cX6_set 4 = .ok (.iload_n 2, 1) := by decide +kernel
theorem dX6_set_5 : decode cX6_set 5 = .ok (.getstatic 89, 3) := by decide +kernel
theorem dX6_set_8 : decode cX6_set 8 = .ok (.iload_n 1, 1) := by decide +kernel
theorem dX6_set_9 : decode cX6_set 9 = .ok (.iaload, 1) := by decide +kernel
theorem dX6_set_10 : decode cX6_set 10 = .ok (.if_icmp .lt 12, 3) := by decide +kernel
theorem dX6_set_13 : decode cX6_set 13 = .ok (.iload_n 2, 1) := by decide +kernel
theorem dX6_set_14 : decode cX6_set 14 = .ok (.getstatic 92, 3) := by decide +kernel
theorem dX6_set_17 : decode cX6_set 17 = .ok (.iload_n 1, 1) := by decide +kernel
theorem dX6_set_18 : decode cX6_set 18 = .ok (.iaload, 1) := by decide +kernel
theorem dX6_set_19 : decode cX6_set 19 = .ok (.if_icmp .le 13, 3) := by decide +kernel
theorem dX6_set_22 : decode cX6_set 22 = .ok (.new 52, 3) := by decide +kernel
theorem dX6_set_25 : decode cX6_set 25 = .ok (.dup, 1) := by decide +kernel
theorem dX6_set_26 : decode cX6_set 26 = .ok (.ldc 95, 2) := by decide +kernel
theorem dX6_set_28 : decode cX6_set 28 = .ok (.invokespecial 56, 3) := by decide +kernel
theorem dX6_set_31 : decode cX6_set 31 = .ok (.athrow, 1) := by decide +kernel
theorem dX6_set_32 : decode cX6_set 32 = .ok (.aload_n 0, 1) := by decide +kernel
theorem dX6_set_33 : decode cX6_set 33 = .ok (.invokevirtual 73, 3) := by decide +kernel
theorem dX6_set_36 : decode cX6_set 36 = .ok (.aload_n 0, 1) := by decide +kernel
theorem dX6_set_37 : decode cX6_set 37 = .ok (.getfield 10, 3) := by decide +kernel
theorem dX6_set_40 : decode cX6_set 40 = .ok (.getfield 68, 3) := by decide +kernel
theorem dX6_set_43 : decode cX6_set 43 = .ok (.iload_n 1, 1) := by decide +kernel
theorem dX6_set_44 : decode cX6_set 44 = .ok (.iaload, 1) := by decide +kernel
theorem dX6_set_45 : decode cX6_set 45 = .ok (.istore_n 3, 1) := by decide +kernel
theorem dX6_set_46 : decode cX6_set 46 = .ok (.aload_n 0, 1) := by decide +kernel
theorem dX6_set_47 : decode cX6_set 47 = .ok (.getfield 10, 3) := by decide +kernel
theorem dX6_set_50 : decode cX6_set 50 = .ok (.getfield 68, 3) := by decide +kernel
theorem dX6_set_53 : decode cX6_set 53 = .ok (.iload_n 1, 1) := by decide +kernel
theorem dX6_set_54 : decode cX6_set 54 = .ok (.iload_n 2, 1) := by decide +kernel
theorem dX6_set_55 : decode cX6_set 55 = .ok (.iastore, 1) := by decide +kernel
theorem dX6_set_56 : decode cX6_set 56 = .ok (.iload_n 3, 1) := by decide +kernel
theorem dX6_set_57 : decode cX6_set 57 = .ok (.ireturn, 1) := by decide +kernel
theorem dX6_put_0 : decode cX6_put 0 = .ok (.aload_n 0, 1) := by decide +kernel
theorem dX6_put_1 : decode cX6_put 1 = .ok (.iload_n 1, 1) := by decide +kernel
theorem dX6_put_2 : decode cX6_put 2 = .ok (.iload_n 2, 1) := by decide +kernel
theorem dX6_put_3 : decode cX6_put 3 = .ok (.iload_n 3, 1) := by decide +kernel
theorem dX6_put_4 : decode cX6_put 4 = .ok (.invokevirtual 97, 3) := by decide +kernel
theorem dX6_put_7 : decode cX6_put 7 = .ok (.aload_n 0, 1) := by decide +kernel
theorem dX6_put_8 : decode cX6_put 8 = .ok (.getfield 10, 3) := by decide +kernel
theorem dX6_put_11 : decode cX6_put 11 = .ok (.getfield 76, 3) := by decide +kernel
theorem dX6_put_14 : decode cX6_put 14 = .ok (.iload_n 1, 1) := by decide +kernel
theorem dX6_put_15 : decode cX6_put 15 = .ok (.aaload, 1) := by decide +kernel
theorem dX6_put_16 : decode cX6_put 16 = .ok (.astore 4, 2) := by decide +kernel
theorem dX6_put_18 : decode cX6_put 18 = .ok (.aload 4, 2) := by decide +kernel
theorem dX6_put_20 : decode cX6_put 20 = .ok (.iload_n 2, 1) := by decide +kernel
theorem dX6_put_21 : decode cX6_put 21 = .ok (.iload_n 3, 1) := by decide +kernel
theorem dX6_put_22 : decode cX6_put 22 = .ok (.invokevirtual 101, 3) := by decide +kernel
theorem dX6_put_25 : decode cX6_put 25 = .ok (.ifCond .eq 13, 3) := by decide +kernel
theorem dX6_put_28 : decode cX6_put 28 = .ok (.new 63, 3) := by decide +kernel
theorem dX6_put_31 : decode cX6_put 31 = .ok (.dup, 1) := by decide +kernel
theorem dX6_put_32 : decode cX6_put 32 = .ok (.ldc 105, 2) := by decide +kernel
theorem dX6_put_34 : decode cX6_put 34 = .ok (.invokespecial 67, 3) := by decide +kernel
theorem dX6_put_37 : decode cX6_put 37 = .ok (.athrow, 1) := by decide +kernel
theorem dX6_put_38 : decode cX6_put 38 = .ok (.aload 4, 2) := by decide +kernel
theorem dX6_put_40 : decode cX6_put 40 = .ok (.getfield 80, 3) := by decide +kernel
theorem dX6_put_43 : decode cX6_put 43 = .ok (.ifCond .ne 13, 3) := by decide +kernel
theorem dX6_put_46 : decode cX6_put 46 = .ok (.new 63, 3) := by decide +kernel
theorem dX6_put_49 : decode cX6_put 49 = .ok (.dup, 1) := by decide +kernel
theorem dX6_put_50 : decode cX6_put 50 = .ok (.ldc 107, 2) := by decide +kernel
theorem dX6_put_52 : decode cX6_put 52 = .ok (.invokespecial 67, 3) := by decide +kernel
theorem dX6_put_55 : decode cX6_put 55 = .ok (.athrow, 1) := by decide +kernel
theorem dX6_put_56 : decode cX6_put 56 = .ok (.aload_n 0, 1) := by decide +kernel
theorem dX6_put_57 : decode cX6_put 57 = .ok (.invokevirtual 73, 3) := by decide +kernel
theorem dX6_put_60 : decode cX6_put 60 = .ok (.aload 4, 2) := by decide +kernel
theorem dX6_put_62 : decode cX6_put 62 = .ok (.dup, 1) := by decide +kernel
theorem dX6_put_63 : decode cX6_put 63 = .ok (.getfield 80, 3) := by decide +kernel
theorem dX6_put_66 : decode cX6_put 66 = .ok (.iconst 1, 1) := by decide +kernel
theorem dX6_put_67 : decode cX6_put 67 = .ok (.isub, 1) := by decide +kernel
theorem dX6_put_68 : decode cX6_put 68 = .ok (.putfield 80, 3) := by decide +kernel
theorem dX6_put_71 : decode cX6_put 71 = .ok (.aload 4, 2) := by decide +kernel
theorem dX6_put_73 : decode cX6_put 73 = .ok (.getfield 109, 3) := by decide +kernel
theorem dX6_put_76 : decode cX6_put 76 = .ok (.iload_n 2, 1) := by decide +kernel
theorem dX6_put_77 : decode cX6_put 77 = .ok (.dup2, 1) := by decide +kernel
theorem dX6_put_78 : decode cX6_put 78 = .ok (.iaload, 1) := by decide +kernel
theorem dX6_put_79 : decode cX6_put 79 = .ok (.iconst 1, 1) := by decide +kernel
theorem dX6_put_80 : decode cX6_put 80 = .ok (.iload_n 3, 1) := by decide +kernel
theorem dX6_put_81 : decode cX6_put 81 = .ok (.ishl, 1) := by decide +kernel
theorem dX6_put_82 : decode cX6_put 82 = .ok (.ior, 1) := by decide +kernel
theorem dX6_put_83 : decode cX6_put 83 = .ok (.iastore, 1) := by decide +kernel
theorem dX6_put_84 : decode cX6_put 84 = .ok (.aload 4, 2) := by decide +kernel
theorem dX6_put_86 : decode cX6_put 86 = .ok (.getfield 109, 3) := by decide +kernel
theorem dX6_put_89 : decode cX6_put 89 = .ok (.invokestatic 112, 3) := by decide +kernel
theorem dX6_put_92 : decode cX6_put 92 = .ok (.ireturn, 1) := by decide +kernel
theorem dX6_pull_0 : decode cX6_pull 0 = .ok (.aload_n 0, 1) := by decide +kernel
theorem dX6_pull_1 : decode cX6_pull 1 = .ok (.iload_n 1, 1) := by decide +kernel
theorem dX6_pull_2 : decode cX6_pull 2 = .ok (.iload_n 2, 1) := by decide +kernel
theorem dX6_pull_3 : decode cX6_pull 3 = .ok (.iload_n 3, 1) := by decide +kernel
theorem dX6_pull_4 : decode cX6_pull 4 = .ok (.invokevirtual 97, 3) := by decide +kernel
theorem dX6_pull_7 : decode cX6_pull 7 = .ok (.aload_n 0, 1) := by decide +kernel
theorem dX6_pull_8 : decode cX6_pull 8 = .ok (.getfield 10, 3) := by decide +kernel
theorem dX6_pull_11 : decode cX6_pull 11 = .ok (.getfield 76, 3) := by decide +kernel
theorem dX6_pull_14 : decode cX6_pull 14 = .ok (.iload_n 1, 1) := by decide +kernel
theorem dX6_pull_15 : decode cX6_pull 15 = .ok (.aaload, 1) := by decide +kernel
theorem dX6_pull_16 : decode cX6_pull 16 = .ok (.astore 4, 2) := by decide +kernel
theorem dX6_pull_18 : decode cX6_pull 18 = .ok (.aload 4, 2) := by decide +kernel
theorem dX6_pull_20 : decode cX6_pull 20 = .ok (.iload_n 2, 1) := by decide +kernel
theorem dX6_pull_21 : decode cX6_pull 21 = .ok (.iload_n 3, 1) := by decide +kernel
theorem dX6_pull_22 : decode cX6_pull 22 = .ok (.invokevirtual 101, 3) := by decide +kernel
theorem dX6_pull_25 : decode cX6_pull 25 = .ok (.ifCond .ne 13, 3) := by decide +kernel
theorem dX6_pull_28 : decode cX6_pull 28 = .ok (.new 63, 3) := by decide +kernel
theorem dX6_pull_31 : decode cX6_pull 31 = .ok (.dup, 1) := by decide +kernel
theorem dX6_pull_32 : decode cX6_pull 32 = .ok (.ldc 116, 2) := by decide +kernel
theorem dX6_pull_34 : decode cX6_pull 34 = .ok (.invokespecial 67, 3) := by decide +kernel
theorem dX6_pull_37 : decode cX6_pull 37 = .ok (.athrow, 1) := by decide +kernel
theorem dX6_pull_38 : decode cX6_pull 38 = .ok (.aload 4, 2) := by decide +kernel
theorem dX6_pull_40 : decode cX6_pull 40 = .ok (.getfield 80, 3) := by decide +kernel
theorem dX6_pull_43 : decode cX6_pull 43 = .ok (.aload_n 0, 1) := by decide +kernel
theorem dX6_pull_44 : decode cX6_pull 44 = .ok (.getfield 10, 3) := by decide +kernel
theorem dX6_pull_47 : decode cX6_pull 47 = .ok (.getfield 68, 3) := by decide +kernel
theorem dX6_pull_50 : decode cX6_pull 50 = .ok (.iconst 2, 1) := by decide +kernel
theorem dX6_pull_51 : decode cX6_pull 51 = .ok (.iaload, 1) := by decide +kernel
theorem dX6_pull_52 : decode cX6_pull 52 = .ok (.if_icmp .lt 13, 3) := by decide +kernel
theorem dX6_pull_55 : decode cX6_pull 55 = .ok (.new 63, 3) := by decide +kernel
theorem dX6_pull_58 : decode cX6_pull 58 = .ok (.dup, 1) := by decide +kernel
theorem dX6_pull_59 : decode cX6_pull 59 = .ok (.ldc 118, 2) := by decide +kernel
theorem dX6_pull_61 : decode cX6_pull 61 = .ok (.invokespecial 67, 3) := by decide +kernel
theorem dX6_pull_64 : decode cX6_pull 64 = .ok (.athrow, 1) := by decide +kernel
theorem dX6_pull_65 : decode cX6_pull 65 = .ok (.aload_n 0, 1) := by decide +kernel
theorem dX6_pull_66 : decode cX6_pull 66 = .ok (.invokevirtual 73, 3) := by decide +kernel
theorem dX6_pull_69 : decode cX6_pull 69 = .ok (.aload 4, 2) := by decide +kernel
theorem dX6_pull_71 : decode cX6_pull 71 = .ok (.getfield 109, 3) := by decide +kernel
theorem dX6_pull_74 : decode cX6_pull 74 = .ok (.iload_n 2, 1) := by decide +kernel
theorem dX6_pull_75 : decode cX6_pull 75 = .ok (.dup2, 1) := by decide +kernel
theorem dX6_pull_76 : decode cX6_pull 76 = .ok (.iaload, 1) := by decide +kernel
theorem dX6_pull_77 : decode cX6_pull 77 = .ok (.iconst 1, 1) := by decide +kernel
theorem dX6_pull_78 : decode cX6_pull 78 = .ok (.iload_n 3, 1) := by decide +kernel
theorem dX6_pull_79 : decode cX6_pull 79 = .ok (.ishl, 1) := by decide +kernel
theorem dX6_pull_80 : decode cX6_pull 80 = .ok (.iconst (-1), 1) := by decide +kernel
theorem dX6_pull_81 : decode cX6_pull 81 = .ok (.ixor, 1) := by decide +kernel
theorem dX6_pull_82 : decode cX6_pull 82 = .ok (.iand, 1) := by decide +kernel
theorem dX6_pull_83 : decode cX6_pull 83 = .ok (.iastore, 1) := by decide +kernel
theorem dX6_pull_84 : decode cX6_pull 84 = .ok (.aload 4, 2) := by decide +kernel
theorem dX6_pull_86 : decode cX6_pull 86 = .ok (.dup, 1) := by decide +kernel
theorem dX6_pull_87 : decode cX6_pull 87 = .ok (.getfield 80, 3) := by decide +kernel
theorem dX6_pull_90 : decode cX6_pull 90 = .ok (.iconst 1, 1) := by decide +kernel
theorem dX6_pull_91 : decode cX6_pull 91 = .ok (.iadd, 1) := by decide +kernel
theorem dX6_pull_92 : decode cX6_pull 92 = .ok (.putfield 80, 3) := by decide +kernel
theorem dX6_pull_95 : decode cX6_pull 95 = .ok (.aload 4, 2) := by decide +kernel
theorem dX6_pull_97 : decode cX6_pull 97 = .ok (.getfield 80, 3) := by decide +kernel
theorem dX6_pull_100 : decode cX6_pull 100 = .ok (.ireturn, 1) := by decide +kernel
theorem dX6_move_0 : decode cX6_move 0 = .ok (.aload_n 0, 1) := by decide +kernel
theorem dX6_move_1 : decode cX6_move 1 = .ok (.iload_n 1, 1) := by decide +kernel
theorem dX6_move_2 : decode cX6_move 2 = .ok (.iload_n 3, 1) := by decide +kernel
theorem dX6_move_3 : decode cX6_move 3 = .ok (.iload 4, 2) := by decide +kernel
theorem dX6_move_5 : decode cX6_move 5 = .ok (.invokevirtual 97, 3) := by decide +kernel
theorem dX6_move_8 : decode cX6_move 8 = .ok (.aload_n 0, 1) := by decide +kernel
theorem dX6_move_9 : decode cX6_move 9 = .ok (.iload_n 2, 1) := by decide +kernel
theorem dX6_move_10 : decode cX6_move 10 = .ok (.invokevirtual 120, 3) := by decide +kernel
theorem dX6_move_13 : decode cX6_move 13 = .ok (.iload_n 1, 1) := by decide +kernel
theorem dX6_move_14 : decode cX6_move 14 = .ok (.iload_n 2, 1) := by decide +kernel
theorem dX6_move_15 : decode cX6_move 15 = .ok (.invokestatic 123, 3) := by decide +kernel
theorem dX6_move_18 : decode cX6_move 18 = .ok (.aload_n 0, 1) := by decide +kernel
theorem dX6_move_19 : decode cX6_move 19 = .ok (.getfield 10, 3) := by decide +kernel
theorem dX6_move_22 : decode cX6_move 22 = .ok (.getfield 76, 3) := by decide +kernel
theorem dX6_move_25 : decode cX6_move 25 = .ok (.iload_n 1, 1) := by decide +kernel
theorem dX6_move_26 : decode cX6_move 26 = .ok (.aaload, 1) := by decide +kernel
theorem dX6_move_27 : decode cX6_move 27 = .ok (.astore 5, 2) := by decide +kernel
theorem dX6_move_29 : decode cX6_move 29 = .ok (.aload_n 0, 1) := by decide +kernel
theorem dX6_move_30 : decode cX6_move 30 = .ok (.getfield 10, 3) := by decide +kernel
theorem dX6_move_33 : decode cX6_move 33 = .ok (.getfield 76, 3) := by decide +kernel
theorem dX6_move_36 : decode cX6_move 36 = .ok (.iload_n 2, 1) := by decide +kernel
theorem dX6_move_37 : decode cX6_move 37 = .ok (.aaload, 1) := by decide +kernel
theorem dX6_move_38 : decode cX6_move 38 = .ok (.astore 6, 2) := by decide +kernel
theorem dX6_move_40 : decode cX6_move 40 = .ok (.aload 5, 2) := by decide +kernel
theorem dX6_move_42 : decode cX6_move 42 = .ok (.iload_n 3, 1) := by decide +kernel
theorem dX6_move_43 : decode cX6_move 43 = .ok (.iload 4, 2) := by decide +kernel
theorem dX6_move_45 : decode cX6_move 45 = .ok (.invokevirtual 101, 3) := by decide +kernel
theorem dX6_move_48 : decode cX6_move 48 = .ok (.ifCond .ne 13, 3) := by decide +kernel
theorem dX6_move_51 : decode cX6_move 51 = .ok (.new 63, 3) := by decide +kernel
theorem dX6_move_54 : decode cX6_move 54 = .ok (.dup, 1) := by decide +kernel
theorem dX6_move_55 : decode cX6_move 55 = .ok (.ldc 116, 2) := by decide +kernel
theorem dX6_move_57 : decode cX6_move 57 = .ok (.invokespecial 67, 3) := by decide +kernel
theorem dX6_move_60 : decode cX6_move 60 = .ok (.athrow, 1) := by decide +kernel
theorem dX6_move_61 : decode cX6_move 61 = .ok (.aload 6, 2) := by decide +kernel
theorem dX6_move_63 : decode cX6_move 63 = .ok (.iload_n 3, 1) := by decide +kernel
theorem dX6_move_64 : decode cX6_move 64 = .ok (.iload 4, 2) := by decide +kernel
theorem dX6_move_66 : decode cX6_move 66 = .ok (.invokevirtual 101, 3) := by decide +kernel
theorem dX6_move_69 : decode cX6_move 69 = .ok (.ifCond .eq 13, 3) := by decide +kernel
theorem dX6_move_72 : decode cX6_move 72 = .ok (.new 63, 3) := by decide +kernel
theorem dX6_move_75 : decode cX6_move 75 = .ok (.dup, 1) := by decide +kernel
theorem dX6_move_76 : decode cX6_move 76 = .ok (.ldc 127, 2) := by decide +kernel
theorem dX6_move_78 : decode cX6_move 78 = .ok (.invokespecial 67, 3) := by decide +kernel
theorem dX6_move_81 : decode cX6_move 81 = .ok (.athrow, 1) := by decide +kernel
theorem dX6_move_82 : decode cX6_move 82 = .ok (.aload_n 0, 1) := by decide +kernel
theorem dX6_move_83 : decode cX6_move 83 = .ok (.invokevirtual 73, 3) := by decide +kernel
theorem dX6_move_86 : decode cX6_move 86 = .ok (.aload 5, 2) := by decide +kernel
theorem dX6_move_88 : decode cX6_move 88 = .ok (.getfield 109, 3) := by decide +kernel
theorem dX6_move_91 : decode cX6_move 91 = .ok (.iload_n 3, 1) := by decide +kernel
theorem dX6_move_92 : decode cX6_move 92 = .ok (.dup2, 1) := by decide +kernel
theorem dX6_move_93 : decode cX6_move 93 = .ok (.iaload, 1) := by decide +kernel
theorem dX6_move_94 : decode cX6_move 94 = .ok (.iconst 1, 1) := by decide +kernel
theorem dX6_move_95 : decode cX6_move 95 = .ok (.iload 4, 2) := by decide +kernel
theorem dX6_move_97 : decode cX6_move 97 = .ok (.ishl, 1) := by decide +kernel
theorem dX6_move_98 : decode cX6_move 98 = .ok (.iconst (-1), 1) := by decide +kernel
theorem dX6_move_99 : decode cX6_move 99 = .ok (.ixor, 1) := by decide +kernel
theorem dX6_move_100 : decode cX6_move 100 = .ok (.iand, 1) := by decide +kernel
theorem dX6_move_101 : decode cX6_move 101 = .ok (.iastore, 1) := by decide +kernel
theorem dX6_move_102 : decode cX6_move 102 = .ok (.aload 6, 2) := by decide +kernel
theorem dX6_move_104 : decode cX6_move 104 = .ok (.getfield 109, 3) := by decide +kernel
theorem dX6_move_107 : decode cX6_move 107 = .ok (.iload_n 3, 1) := by decide +kernel
theorem dX6_move_108 : decode cX6_move 108 = .ok (.dup2, 1) := by decide +kernel
theorem dX6_move_109 : decode cX6_move 109 = .ok (.iaload, 1) := by decide +kernel
theorem dX6_move_110 : decode cX6_move 110 = .ok (.iconst 1, 1) := by decide +kernel
theorem dX6_move_111 : decode cX6_move 111 = .ok (.iload 4, 2) := by decide +kernel
theorem dX6_move_113 : decode cX6_move 113 = .ok (.ishl, 1) := by decide +kernel
theorem dX6_move_114 : decode cX6_move 114 = .ok (.ior, 1) := by decide +kernel
theorem dX6_move_115 : decode cX6_move 115 = .ok (.iastore, 1) := by decide +kernel
theorem dX6_move_116 : decode cX6_move 116 = .ok (.aload 6, 2) := by decide +kernel
theorem dX6_move_118 : decode cX6_move 118 = .ok (.getfield 109, 3) := by decide +kernel
theorem dX6_move_121 : decode cX6_move 121 = .ok (.invokestatic 112, 3) := by decide +kernel
theorem dX6_move_124 : decode cX6_move 124 = .ok (.ireturn, 1) := by decide +kernel
theorem dX6_trade_0 : decode cX6_trade 0 = .ok (.aload_n 0, 1) := by decide +kernel
theorem dX6_trade_1 : decode cX6_trade 1 = .ok (.iload_n 1, 1) := by decide +kernel
theorem dX6_trade_2 : decode cX6_trade 2 = .ok (.invokevirtual 120, 3) := by decide +kernel
theorem dX6_trade_5 : decode cX6_trade 5 = .ok (.aload_n 0, 1) := by decide +kernel
theorem dX6_trade_6 : decode cX6_trade 6 = .ok (.iload_n 2, 1) := by decide +kernel
theorem dX6_trade_7 : decode cX6_trade 7 = .ok (.invokevirtual 120, 3) := by decide +kernel
theorem dX6_trade_10 : decode cX6_trade 10 = .ok (.iload_n 1, 1) := by decide +kernel
theorem dX6_trade_11 : decode cX6_trade 11 = .ok (.iload_n 2, 1) := by decide +kernel
theorem dX6_trade_12 : decode cX6_trade 12 = .ok (.invokestatic 123, 3) := by decide +kernel
theorem dX6_trade_15 : decode cX6_trade 15 = .ok (.aload_n 0, 1) := by decide +kernel
theorem dX6_trade_16 : decode cX6_trade 16 = .ok (.invokevirtual 73, 3) := by decide +kernel
theorem dX6_trade_19 : decode cX6_trade 19 = .ok (.aload_n 0, 1) := by decide +kernel
theorem dX6_trade_20 : decode cX6_trade 20 = .ok (.getfield 10, 3) := by decide +kernel
theorem dX6_trade_23 : decode cX6_trade 23 = .ok (.getfield 76, 3) := by decide +kernel
theorem dX6_trade_26 : decode cX6_trade 26 = .ok (.iload_n 1, 1) := by decide +kernel
theorem dX6_trade_27 : decode cX6_trade 27 = .ok (.aaload, 1) := by decide +kernel
theorem dX6_trade_28 : decode cX6_trade 28 = .ok (.astore_n 3, 1) := by decide +kernel
theorem dX6_trade_29 : decode cX6_trade 29 = .ok (.aload_n 0, 1) := by decide +kernel
theorem dX6_trade_30 : decode cX6_trade 30 = .ok (.getfield 10, 3) := by decide +kernel
theorem dX6_trade_33 : decode cX6_trade 33 = .ok (.getfield 76, 3) := by decide +kernel
theorem dX6_trade_36 : decode cX6_trade 36 = .ok (.iload_n 2, 1) := by decide +kernel
theorem dX6_trade_37 : decode cX6_trade 37 = .ok (.aaload, 1) := by decide +kernel
theorem dX6_trade_38 : decode cX6_trade 38 = .ok (.astore 4, 2) := by decide +kernel
theorem dX6_trade_40 : decode cX6_trade 40 = .ok (.iconst 0, 1) := by decide +kernel
theorem dX6_trade_41 : decode cX6_trade 41 = .ok (.istore 5, 2) := by decide +kernel
theorem dX6_trade_43 : decode cX6_trade 43 = .ok (.iload 5, 2) := by decide +kernel
theorem dX6_trade_45 : decode cX6_trade 45 = .ok (.bipush 24, 2) := by decide +kernel
theorem dX6_trade_47 : decode cX6_trade 47 = .ok (.if_icmp .ge 43, 3) := by decide +kernel
theorem dX6_trade_50 : decode cX6_trade 50 = .ok (.aload_n 3, 1) := by decide +kernel
theorem dX6_trade_51 : decode cX6_trade 51 = .ok (.getfield 109, 3) := by decide +kernel
theorem dX6_trade_54 : decode cX6_trade 54 = .ok (.iload 5, 2) := by decide +kernel
theorem dX6_trade_56 : decode cX6_trade 56 = .ok (.iaload, 1) := by decide +kernel
theorem dX6_trade_57 : decode cX6_trade 57 = .ok (.istore 6, 2) := by decide +kernel
theorem dX6_trade_59 : decode cX6_trade 59 = .ok (.aload_n 3, 1) := by decide +kernel
theorem dX6_trade_60 : decode cX6_trade 60 = .ok (.getfield 109, 3) := by decide +kernel
theorem dX6_trade_63 : decode cX6_trade 63 = .ok (.iload 5, 2) := by decide +kernel
theorem dX6_trade_65 : decode cX6_trade 65 = .ok (.aload 4, 2) := by decide +kernel
theorem dX6_trade_67 : decode cX6_trade 67 = .ok (.getfield 109, 3) := by decide +kernel
theorem dX6_trade_70 : decode cX6_trade 70 = .ok (.iload 5, 2) := by decide +kernel
theorem dX6_trade_72 : decode cX6_trade 72 = .ok (.iaload, 1) := by decide +kernel
theorem dX6_trade_73 : decode cX6_trade 73 = .ok (.iastore, 1) := by decide +kernel
theorem dX6_trade_74 : decode cX6_trade 74 = .ok (.aload 4, 2) := by decide +kernel
theorem dX6_trade_76 : decode cX6_trade 76 = .ok (.getfield 109, 3) := by decide +kernel
theorem dX6_trade_79 : decode cX6_trade 79 = .ok (.iload 5, 2) := by decide +kernel
theorem dX6_trade_81 : decode cX6_trade 81 = .ok (.iload 6, 2) := by decide +kernel
theorem dX6_trade_83 : decode cX6_trade 83 = .ok (.iastore, 1) := by decide +kernel
theorem dX6_trade_84 : decode cX6_trade 84 = .ok (.iinc 5 1, 3) := by decide +kernel
theorem dX6_trade_87 : decode cX6_trade 87 = .ok (.goto (-44), 3) := by decide +kernel
theorem dX6_trade_90 : decode cX6_trade 90 = .ok (.aload_n 3, 1) := by decide +kernel
theorem dX6_trade_91 : decode cX6_trade 91 = .ok (.invokevirtual 129, 3) := by decide +kernel
theorem dX6_trade_94 : decode cX6_trade 94 = .ok (.aload 4, 2) := by decide +kernel
theorem dX6_trade_96 : decode cX6_trade 96 = .ok (.invokevirtual 129, 3) := by decide +kernel
theorem dX6_trade_99 : decode cX6_trade 99 = .ok (.iadd, 1) := by decide +kernel
theorem dX6_trade_100 : decode cX6_trade 100 = .ok (.ireturn, 1) := by decide +kernel
theorem dX6_turn_0 : decode cX6_turn 0 = .ok (.aload_n 0, 1) := by decide +kernel
theorem dX6_turn_1 : decode cX6_turn 1 = .ok (.iload_n 1, 1) := by decide +kernel
theorem dX6_turn_2 : decode cX6_turn 2 = .ok (.invokevirtual 120, 3) := by decide +kernel
theorem dX6_turn_5 : decode cX6_turn 5 = .ok (.iload_n 2, 1) := by decide +kernel
theorem dX6_turn_6 : decode cX6_turn 6 = .ok (.ifCond .lt 9, 3) := by decide +kernel
theorem dX6_turn_9 : decode cX6_turn 9 = .ok (.iload_n 2, 1) := by decide +kernel
theorem dX6_turn_10 : decode cX6_turn 10 = .ok (.bipush 24, 2) := by decide +kernel
theorem dX6_turn_12 : decode cX6_turn 12 = .ok (.if_icmp .lt 13, 3) := by decide +kernel
theorem dX6_turn_15 : decode cX6_turn 15 = .ok (.new 52, 3) := by decide +kernel
theorem dX6_turn_18 : decode cX6_turn 18 = .ok (.dup, 1) := by decide +kernel
theorem dX6_turn_19 : decode cX6_turn 19 = .ok (.ldc 133, 2) := by decide +kernel
theorem dX6_turn_21 : decode cX6_turn 21 = .ok (.invokespecial 56, 3) := by decide +kernel
theorem dX6_turn_24 : decode cX6_turn 24 = .ok (.athrow, 1) := by decide +kernel
theorem dX6_turn_25 : decode cX6_turn 25 = .ok (.aload_n 0, 1) := by decide +kernel
theorem dX6_turn_26 : decode cX6_turn 26 = .ok (.invokevirtual 73, 3) := by decide +kernel
theorem dX6_turn_29 : decode cX6_turn 29 = .ok (.aload_n 0, 1) := by decide +kernel
theorem dX6_turn_30 : decode cX6_turn 30 = .ok (.getfield 10, 3) := by decide +kernel
theorem dX6_turn_33 : decode cX6_turn 33 = .ok (.getfield 76, 3) := by decide +kernel
theorem dX6_turn_36 : decode cX6_turn 36 = .ok (.iload_n 1, 1) := by decide +kernel
theorem dX6_turn_37 : decode cX6_turn 37 = .ok (.aaload, 1) := by decide +kernel
theorem dX6_turn_38 : decode cX6_turn 38 = .ok (.astore_n 3, 1) := by decide +kernel
theorem dX6_turn_39 : decode cX6_turn 39 = .ok (.iconst 0, 1) := by decide +kernel
theorem dX6_turn_40 : decode cX6_turn 40 = .ok (.istore 4, 2) := by decide +kernel
theorem dX6_turn_42 : decode cX6_turn 42 = .ok (.iload 4, 2) := by decide +kernel
theorem dX6_turn_44 : decode cX6_turn 44 = .ok (.bipush 24, 2) := by decide +kernel
theorem dX6_turn_46 : decode cX6_turn 46 = .ok (.if_icmp .ge 28, 3) := by decide +kernel
theorem dX6_turn_49 : decode cX6_turn 49 = .ok (.aload_n 0, 1) := by decide +kernel
theorem dX6_turn_50 : decode cX6_turn 50 = .ok (.getfield 48, 3) := by decide +kernel
theorem dX6_turn_53 : decode cX6_turn 53 = .ok (.iload 4, 2) := by decide +kernel
theorem dX6_turn_55 : decode cX6_turn 55 = .ok (.iload_n 2, 1) := by decide +kernel
theorem dX6_turn_56 : decode cX6_turn 56 = .ok (.iadd, 1) := by decide +kernel
theorem dX6_turn_57 : decode cX6_turn 57 = .ok (.bipush 24, 2) := by decide +kernel
theorem dX6_turn_59 : decode cX6_turn 59 = .ok (.irem, 1) := by decide +kernel
theorem dX6_turn_60 : decode cX6_turn 60 = .ok (.aload_n 3, 1) := by decide +kernel
theorem dX6_turn_61 : decode cX6_turn 61 = .ok (.getfield 109, 3) := by decide +kernel
theorem dX6_turn_64 : decode cX6_turn 64 = .ok (.iload 4, 2) := by decide +kernel
theorem dX6_turn_66 : decode cX6_turn 66 = .ok (.iaload, 1) := by decide +kernel
theorem dX6_turn_67 : decode cX6_turn 67 = .ok (.iastore, 1) := by decide +kernel
theorem dX6_turn_68 : decode cX6_turn 68 = .ok (.iinc 4 1, 3) := by decide +kernel
theorem dX6_turn_71 : decode cX6_turn 71 = .ok (.goto (-29), 3) := by decide +kernel
theorem dX6_turn_74 : decode cX6_turn 74 = .ok (.aload_n 0, 1) := by decide +kernel
theorem dX6_turn_75 : decode cX6_turn 75 = .ok (.getfield 48, 3) := by decide +kernel
theorem dX6_turn_78 : decode cX6_turn 78 = .ok (.aload_n 3, 1) := by decide +kernel
theorem dX6_turn_79 : decode cX6_turn 79 = .ok (.getfield 109, 3) := by decide +kernel
theorem dX6_turn_82 : decode cX6_turn 82 = .ok (.invokestatic 135, 3) := by decide +kernel
theorem dX6_turn_85 : decode cX6_turn 85 = .ok (.aload_n 3, 1) := by decide +kernel
theorem dX6_turn_86 : decode cX6_turn 86 = .ok (.invokevirtual 129, 3) := by decide +kernel
theorem dX6_turn_89 : decode cX6_turn 89 = .ok (.ireturn, 1) := by decide +kernel
theorem dX6_file_0 : decode cX6_file 0 = .ok (.aload_n 0, 1) := by decide +kernel
theorem dX6_file_1 : decode cX6_file 1 = .ok (.iload_n 1, 1) := by decide +kernel
theorem dX6_file_2 : decode cX6_file 2 = .ok (.invokevirtual 120, 3) := by decide +kernel
theorem dX6_file_5 : decode cX6_file 5 = .ok (.iload_n 2, 1) := by decide +kernel
theorem dX6_file_6 : decode cX6_file 6 = .ok (.invokestatic 139, 3) := by decide +kernel
theorem dX6_file_9 : decode cX6_file 9 = .ok (.aload_n 0, 1) := by decide +kernel
theorem dX6_file_10 : decode cX6_file 10 = .ok (.invokevirtual 73, 3) := by decide +kernel
theorem dX6_file_13 : decode cX6_file 13 = .ok (.aload_n 0, 1) := by decide +kernel
theorem dX6_file_14 : decode cX6_file 14 = .ok (.getfield 10, 3) := by decide +kernel
theorem dX6_file_17 : decode cX6_file 17 = .ok (.getfield 76, 3) := by decide +kernel
theorem dX6_file_20 : decode cX6_file 20 = .ok (.iload_n 1, 1) := by decide +kernel
theorem dX6_file_21 : decode cX6_file 21 = .ok (.aaload, 1) := by decide +kernel
theorem dX6_file_22 : decode cX6_file 22 = .ok (.getfield 142, 3) := by decide +kernel
theorem dX6_file_25 : decode cX6_file 25 = .ok (.iload_n 2, 1) := by decide +kernel
theorem dX6_file_26 : decode cX6_file 26 = .ok (.iaload, 1) := by decide +kernel
theorem dX6_file_27 : decode cX6_file 27 = .ok (.istore_n 3, 1) := by decide +kernel
theorem dX6_file_28 : decode cX6_file 28 = .ok (.aload_n 0, 1) := by decide +kernel
theorem dX6_file_29 : decode cX6_file 29 = .ok (.getfield 10, 3) := by decide +kernel
theorem dX6_file_32 : decode cX6_file 32 = .ok (.getfield 76, 3) := by decide +kernel
theorem dX6_file_35 : decode cX6_file 35 = .ok (.iload_n 1, 1) := by decide +kernel
theorem dX6_file_36 : decode cX6_file 36 = .ok (.aaload, 1) := by decide +kernel
theorem dX6_file_37 : decode cX6_file 37 = .ok (.getfield 142, 3) := by decide +kernel
theorem dX6_file_40 : decode cX6_file 40 = .ok (.iload_n 2, 1) := by decide +kernel
theorem dX6_file_41 : decode cX6_file 41 = .ok (.iconst 0, 1) := by decide +kernel
theorem dX6_file_42 : decode cX6_file 42 = .ok (.iastore, 1) := by decide +kernel
theorem dX6_file_43 : decode cX6_file 43 = .ok (.iload_n 3, 1) := by decide +kernel
theorem dX6_file_44 : decode cX6_file 44 = .ok (.ireturn, 1) := by decide +kernel
theorem dX6_play_0 : decode cX6_play 0 = .ok (.aload_n 0, 1) := by decide +kernel
theorem dX6_play_1 : decode cX6_play 1 = .ok (.iload_n 1, 1) := by decide +kernel
theorem dX6_play_2 : decode cX6_play 2 = .ok (.invokevirtual 120, 3) := by decide +kernel
theorem dX6_play_5 : decode cX6_play 5 = .ok (.aload_n 0, 1) := by decide +kernel
theorem dX6_play_6 : decode cX6_play 6 = .ok (.invokevirtual 73, 3) := by decide +kernel
theorem dX6_play_9 : decode cX6_play 9 = .ok (.aload_n 0, 1) := by decide +kernel
theorem dX6_play_10 : decode cX6_play 10 = .ok (.iload_n 1, 1) := by decide +kernel
theorem dX6_play_11 : decode cX6_play 11 = .ok (.invokevirtual 145, 3) := by decide +kernel
theorem dX6_play_14 : decode cX6_play 14 = .ok (.aload_n 0, 1) := by decide +kernel
theorem dX6_play_15 : decode cX6_play 15 = .ok (.getfield 10, 3) := by decide +kernel
theorem dX6_play_18 : decode cX6_play 18 = .ok (.getfield 76, 3) := by decide +kernel
theorem dX6_play_21 : decode cX6_play 21 = .ok (.iload_n 1, 1) := by decide +kernel
theorem dX6_play_22 : decode cX6_play 22 = .ok (.aaload, 1) := by decide +kernel
theorem dX6_play_23 : decode cX6_play 23 = .ok (.aload_n 0, 1) := by decide +kernel
theorem dX6_play_24 : decode cX6_play 24 = .ok (.getfield 30, 3) := by decide +kernel
theorem dX6_play_27 : decode cX6_play 27 = .ok (.invokevirtual 148, 3) := by decide +kernel
theorem dX6_play_30 : decode cX6_play 30 = .ok (.aload_n 0, 1) := by decide +kernel
theorem dX6_play_31 : decode cX6_play 31 = .ok (.getfield 30, 3) := by decide +kernel
theorem dX6_play_34 : decode cX6_play 34 = .ok (.getfield 152, 3) := by decide +kernel
theorem dX6_play_37 : decode cX6_play 37 = .ok (.ireturn, 1) := by decide +kernel
theorem dX6_lend_0 : decode cX6_lend 0 = .ok (.aload_n 0, 1) := by decide +kernel
theorem dX6_lend_1 : decode cX6_lend 1 = .ok (.iload_n 1, 1) := by decide +kernel
theorem dX6_lend_2 : decode cX6_lend 2 = .ok (.invokevirtual 120, 3) := by decide +kernel
theorem dX6_lend_5 : decode cX6_lend 5 = .ok (.aload_n 0, 1) := by decide +kernel
theorem dX6_lend_6 : decode cX6_lend 6 = .ok (.iload_n 2, 1) := by decide +kernel
theorem dX6_lend_7 : decode cX6_lend 7 = .ok (.invokevirtual 120, 3) := by decide +kernel
theorem dX6_lend_10 : decode cX6_lend 10 = .ok (.iload_n 1, 1) := by decide +kernel
theorem dX6_lend_11 : decode cX6_lend 11 = .ok (.iload_n 2, 1) := by decide +kernel
theorem dX6_lend_12 : decode cX6_lend 12 = .ok (.invokestatic 123, 3) := by decide +kernel
theorem dX6_lend_15 : decode cX6_lend 15 = .ok (.iload_n 3, 1) := by decide +kernel
theorem dX6_lend_16 : decode cX6_lend 16 = .ok (.invokestatic 155, 3) := by decide +kernel
theorem dX6_lend_19 : decode cX6_lend 19 = .ok (.aload_n 0, 1) := by decide +kernel
theorem dX6_lend_20 : decode cX6_lend 20 = .ok (.iload_n 1, 1) := by decide +kernel
theorem dX6_lend_21 : decode cX6_lend 21 = .ok (.iload_n 2, 1) := by decide +kernel
theorem dX6_lend_22 : decode cX6_lend 22 = .ok (.iload_n 3, 1) := by decide +kernel
theorem dX6_lend_23 : decode cX6_lend 23 = .ok (.invokevirtual 158, 3) := by decide +kernel
theorem dX6_lend_26 : decode cX6_lend 26 = .ok (.aload_n 0, 1) := by decide +kernel
theorem dX6_lend_27 : decode cX6_lend 27 = .ok (.invokevirtual 73, 3) := by decide +kernel
theorem dX6_lend_30 : decode cX6_lend 30 = .ok (.aload_n 0, 1) := by decide +kernel
theorem dX6_lend_31 : decode cX6_lend 31 = .ok (.getfield 10, 3) := by decide +kernel
theorem dX6_lend_34 : decode cX6_lend 34 = .ok (.iload_n 1, 1) := by decide +kernel
theorem dX6_lend_35 : decode cX6_lend 35 = .ok (.iload_n 2, 1) := by decide +kernel
theorem dX6_lend_36 : decode cX6_lend 36 = .ok (.iload_n 3, 1) := by decide +kernel
theorem dX6_lend_37 : decode cX6_lend 37 = .ok (.invokevirtual 161, 3) := by decide +kernel
theorem dX6_lend_40 : decode cX6_lend 40 = .ok (.aload_n 0, 1) := by decide +kernel
theorem dX6_lend_41 : decode cX6_lend 41 = .ok (.getfield 10, 3) := by decide +kernel
theorem dX6_lend_44 : decode cX6_lend 44 = .ok (.getfield 164, 3) := by decide +kernel
theorem dX6_lend_47 : decode cX6_lend 47 = .ok (.iload_n 2, 1) := by decide +kernel
theorem dX6_lend_48 : decode cX6_lend 48 = .ok (.aaload, 1) := by decide +kernel
theorem dX6_lend_49 : decode cX6_lend 49 = .ok (.iload_n 1, 1) := by decide +kernel
theorem dX6_lend_50 : decode cX6_lend 50 = .ok (.dup2, 1) := by decide +kernel
theorem dX6_lend_51 : decode cX6_lend 51 = .ok (.iaload, 1) := by decide +kernel
theorem dX6_lend_52 : decode cX6_lend 52 = .ok (.iload_n 3, 1) := by decide +kernel
theorem dX6_lend_53 : decode cX6_lend 53 = .ok (.iadd, 1) := by decide +kernel
theorem dX6_lend_54 : decode cX6_lend 54 = .ok (.iastore, 1) := by decide +kernel
theorem dX6_lend_55 : decode cX6_lend 55 = .ok (.aload_n 0, 1) := by decide +kernel
theorem dX6_lend_56 : decode cX6_lend 56 = .ok (.getfield 10, 3) := by decide +kernel
theorem dX6_lend_59 : decode cX6_lend 59 = .ok (.dup, 1) := by decide +kernel
theorem dX6_lend_60 : decode cX6_lend 60 = .ok (.getfield 168, 3) := by decide +kernel
theorem dX6_lend_63 : decode cX6_lend 63 = .ok (.iload_n 3, 1) := by decide +kernel
theorem dX6_lend_64 : decode cX6_lend 64 = .ok (.iadd, 1) := by decide +kernel
theorem dX6_lend_65 : decode cX6_lend 65 = .ok (.putfield 168, 3) := by decide +kernel
theorem dX6_lend_68 : decode cX6_lend 68 = .ok (.aload_n 0, 1) := by decide +kernel
theorem dX6_lend_69 : decode cX6_lend 69 = .ok (.getfield 10, 3) := by decide +kernel
theorem dX6_lend_72 : decode cX6_lend 72 = .ok (.getfield 164, 3) := by decide +kernel
theorem dX6_lend_75 : decode cX6_lend 75 = .ok (.iload_n 2, 1) := by decide +kernel
theorem dX6_lend_76 : decode cX6_lend 76 = .ok (.aaload, 1) := by decide +kernel
theorem dX6_lend_77 : decode cX6_lend 77 = .ok (.iload_n 1, 1) := by decide +kernel
theorem dX6_lend_78 : decode cX6_lend 78 = .ok (.iaload, 1) := by decide +kernel
theorem dX6_lend_79 : decode cX6_lend 79 = .ok (.ireturn, 1) := by decide +kernel
theorem dX6_repay_0 : decode cX6_repay 0 = .ok (.aload_n 0, 1) := by decide +kernel
theorem dX6_repay_1 : decode cX6_repay 1 = .ok (.iload_n 1, 1) := by decide +kernel
theorem dX6_repay_2 : decode cX6_repay 2 = .ok (.invokevirtual 120, 3) := by decide +kernel
theorem dX6_repay_5 : decode cX6_repay 5 = .ok (.aload_n 0, 1) := by decide +kernel
theorem dX6_repay_6 : decode cX6_repay 6 = .ok (.iload_n 2, 1) := by decide +kernel
theorem dX6_repay_7 : decode cX6_repay 7 = .ok (.invokevirtual 120, 3) := by decide +kernel
theorem dX6_repay_10 : decode cX6_repay 10 = .ok (.iload_n 1, 1) := by decide +kernel
theorem dX6_repay_11 : decode cX6_repay 11 = .ok (.iload_n 2, 1) := by decide +kernel
theorem dX6_repay_12 : decode cX6_repay 12 = .ok (.invokestatic 123, 3) := by decide +kernel
theorem dX6_repay_15 : decode cX6_repay 15 = .ok (.iload_n 3, 1) := by decide +kernel
theorem dX6_repay_16 : decode cX6_repay 16 = .ok (.invokestatic 155, 3) := by decide +kernel
theorem dX6_repay_19 : decode cX6_repay 19 = .ok (.aload_n 0, 1) := by decide +kernel
theorem dX6_repay_20 : decode cX6_repay 20 = .ok (.getfield 10, 3) := by decide +kernel
theorem dX6_repay_23 : decode cX6_repay 23 = .ok (.getfield 164, 3) := by decide +kernel
theorem dX6_repay_26 : decode cX6_repay 26 = .ok (.iload_n 1, 1) := by decide +kernel
theorem dX6_repay_27 : decode cX6_repay 27 = .ok (.aaload, 1) := by decide +kernel
theorem dX6_repay_28 : decode cX6_repay 28 = .ok (.iload_n 2, 1) := by decide +kernel
theorem dX6_repay_29 : decode cX6_repay 29 = .ok (.iaload, 1) := by decide +kernel
theorem dX6_repay_30 : decode cX6_repay 30 = .ok (.iload_n 3, 1) := by decide +kernel
theorem dX6_repay_31 : decode cX6_repay 31 = .ok (.if_icmp .ge 13, 3) := by decide +kernel
theorem dX6_repay_34 : decode cX6_repay 34 = .ok (.new 63, 3) := by decide +kernel
theorem dX6_repay_37 : decode cX6_repay 37 = .ok (.dup, 1) := by decide +kernel
theorem dX6_repay_38 : decode cX6_repay 38 = .ok (.ldc 171, 2) := by decide +kernel
theorem dX6_repay_40 : decode cX6_repay 40 = .ok (.invokespecial 67, 3) := by decide +kernel
theorem dX6_repay_43 : decode cX6_repay 43 = .ok (.athrow, 1) := by decide +kernel
theorem dX6_repay_44 : decode cX6_repay 44 = .ok (.aload_n 0, 1) := by decide +kernel
theorem dX6_repay_45 : decode cX6_repay 45 = .ok (.iload_n 1, 1) := by decide +kernel
theorem dX6_repay_46 : decode cX6_repay 46 = .ok (.iload_n 2, 1) := by decide +kernel
theorem dX6_repay_47 : decode cX6_repay 47 = .ok (.iload_n 3, 1) := by decide +kernel
theorem dX6_repay_48 : decode cX6_repay 48 = .ok (.invokevirtual 158, 3) := by decide +kernel
theorem dX6_repay_51 : decode cX6_repay 51 = .ok (.aload_n 0, 1) := by decide +kernel
theorem dX6_repay_52 : decode cX6_repay 52 = .ok (.invokevirtual 73, 3) := by decide +kernel
theorem dX6_repay_55 : decode cX6_repay 55 = .ok (.aload_n 0, 1) := by decide +kernel
theorem dX6_repay_56 : decode cX6_repay 56 = .ok (.getfield 10, 3) := by decide +kernel
theorem dX6_repay_59 : decode cX6_repay 59 = .ok (.iload_n 1, 1) := by decide +kernel
theorem dX6_repay_60 : decode cX6_repay 60 = .ok (.iload_n 2, 1) := by decide +kernel
theorem dX6_repay_61 : decode cX6_repay 61 = .ok (.iload_n 3, 1) := by decide +kernel
theorem dX6_repay_62 : decode cX6_repay 62 = .ok (.invokevirtual 161, 3) := by decide +kernel
theorem dX6_repay_65 : decode cX6_repay 65 = .ok (.aload_n 0, 1) := by decide +kernel
theorem dX6_repay_66 : decode cX6_repay 66 = .ok (.getfield 10, 3) := by decide +kernel
theorem dX6_repay_69 : decode cX6_repay 69 = .ok (.getfield 164, 3) := by decide +kernel
theorem dX6_repay_72 : decode cX6_repay 72 = .ok (.iload_n 1, 1) := by decide +kernel
theorem dX6_repay_73 : decode cX6_repay 73 = .ok (.aaload, 1) := by decide +kernel
theorem dX6_repay_74 : decode cX6_repay 74 = .ok (.iload_n 2, 1) := by decide +kernel
theorem dX6_repay_75 : decode cX6_repay 75 = .ok (.dup2, 1) := by decide +kernel
theorem dX6_repay_76 : decode cX6_repay 76 = .ok (.iaload, 1) := by decide +kernel
theorem dX6_repay_77 : decode cX6_repay 77 = .ok (.iload_n 3, 1) := by decide +kernel
theorem dX6_repay_78 : decode cX6_repay 78 = .ok (.isub, 1) := by decide +kernel
theorem dX6_repay_79 : decode cX6_repay 79 = .ok (.iastore, 1) := by decide +kernel
theorem dX6_repay_80 : decode cX6_repay 80 = .ok (.aload_n 0, 1) := by decide +kernel
theorem dX6_repay_81 : decode cX6_repay 81 = .ok (.getfield 10, 3) := by decide +kernel
theorem dX6_repay_84 : decode cX6_repay 84 = .ok (.dup, 1) := by decide +kernel
theorem dX6_repay_85 : decode cX6_repay 85 = .ok (.getfield 173, 3) := by decide +kernel
theorem dX6_repay_88 : decode cX6_repay 88 = .ok (.iload_n 3, 1) := by decide +kernel
theorem dX6_repay_89 : decode cX6_repay 89 = .ok (.iadd, 1) := by decide +kernel
theorem dX6_repay_90 : decode cX6_repay 90 = .ok (.putfield 173, 3) := by decide +kernel
theorem dX6_repay_93 : decode cX6_repay 93 = .ok (.aload_n 0, 1) := by decide +kernel
theorem dX6_repay_94 : decode cX6_repay 94 = .ok (.getfield 10, 3) := by decide +kernel
theorem dX6_repay_97 : decode cX6_repay 97 = .ok (.getfield 164, 3) := by decide +kernel
theorem dX6_repay_100 : decode cX6_repay 100 = .ok (.iload_n 1, 1) := by decide +kernel
theorem dX6_repay_101 : decode cX6_repay 101 = .ok (.aaload, 1) := by decide +kernel
theorem dX6_repay_102 : decode cX6_repay 102 = .ok (.iload_n 2, 1) := by decide +kernel
theorem dX6_repay_103 : decode cX6_repay 103 = .ok (.iaload, 1) := by decide +kernel
theorem dX6_repay_104 : decode cX6_repay 104 = .ok (.ireturn, 1) := by decide +kernel
theorem dX6_settle_0 : decode cX6_settle 0 = .ok (.aload_n 0, 1) := by decide +kernel
theorem dX6_settle_1 : decode cX6_settle 1 = .ok (.invokevirtual 73, 3) := by decide +kernel
theorem dX6_settle_4 : decode cX6_settle 4 = .ok (.iconst 0, 1) := by decide +kernel
theorem dX6_settle_5 : decode cX6_settle 5 = .ok (.istore_n 1, 1) := by decide +kernel
theorem dX6_settle_6 : decode cX6_settle 6 = .ok (.aload_n 0, 1) := by decide +kernel
theorem dX6_settle_7 : decode cX6_settle 7 = .ok (.getfield 37, 3) := by decide +kernel
theorem dX6_settle_10 : decode cX6_settle 10 = .ok (.aload_n 0, 1) := by decide +kernel
theorem dX6_settle_11 : decode cX6_settle 11 = .ok (.getfield 10, 3) := by decide +kernel
theorem dX6_settle_14 : decode cX6_settle 14 = .ok (.invokevirtual 176, 3) := by decide +kernel
theorem dX6_settle_17 : decode cX6_settle 17 = .ok (.aload_n 0, 1) := by decide +kernel
theorem dX6_settle_18 : decode cX6_settle 18 = .ok (.getfield 37, 3) := by decide +kernel
theorem dX6_settle_21 : decode cX6_settle 21 = .ok (.getfield 180, 3) := by decide +kernel
theorem dX6_settle_24 : decode cX6_settle 24 = .ok (.ifCond .le 37, 3) := by decide +kernel
theorem dX6_settle_27 : decode cX6_settle 27 = .ok (.iload_n 1, 1) := by decide +kernel
theorem dX6_settle_28 : decode cX6_settle 28 = .ok (.bipush 30, 2) := by decide +kernel
theorem dX6_settle_30 : decode cX6_settle 30 = .ok (.if_icmp .ge 31, 3) := by decide +kernel
theorem dX6_settle_33 : decode cX6_settle 33 = .ok (.aload_n 0, 1) := by decide +kernel
theorem dX6_settle_34 : decode cX6_settle 34 = .ok (.getfield 10, 3) := by decide +kernel
theorem dX6_settle_37 : decode cX6_settle 37 = .ok (.aload_n 0, 1) := by decide +kernel
theorem dX6_settle_38 : decode cX6_settle 38 = .ok (.getfield 37, 3) := by decide +kernel
theorem dX6_settle_41 : decode cX6_settle 41 = .ok (.invokevirtual 183, 3) := by decide +kernel
theorem dX6_settle_44 : decode cX6_settle 44 = .ok (.iinc 1 1, 3) := by decide +kernel
theorem dX6_settle_47 : decode cX6_settle 47 = .ok (.aload_n 0, 1) := by decide +kernel
theorem dX6_settle_48 : decode cX6_settle 48 = .ok (.getfield 37, 3) := by decide +kernel
theorem dX6_settle_51 : decode cX6_settle 51 = .ok (.aload_n 0, 1) := by decide +kernel
theorem dX6_settle_52 : decode cX6_settle 52 = .ok (.getfield 10, 3) := by decide +kernel
theorem dX6_settle_55 : decode cX6_settle 55 = .ok (.invokevirtual 176, 3) := by decide +kernel
theorem dX6_settle_58 : decode cX6_settle 58 = .ok (.goto (-41), 3) := by decide +kernel
theorem dX6_settle_61 : decode cX6_settle 61 = .ok (.iload_n 1, 1) := by decide +kernel
theorem dX6_settle_62 : decode cX6_settle 62 = .ok (.ireturn, 1) := by decide +kernel
theorem dX6_append_0 : decode cX6_append 0 = .ok (.iload_n 1, 1) := by decide +kernel
theorem dX6_append_1 : decode cX6_append 1 = .ok (.bipush 33, 2) := by decide +kernel
theorem dX6_append_3 : decode cX6_append 3 = .ok (.if_icmp .lt 9, 3) := by decide +kernel
theorem dX6_append_6 : decode cX6_append 6 = .ok (.iload_n 1, 1) := by decide +kernel
theorem dX6_append_7 : decode cX6_append 7 = .ok (.bipush 126, 2) := by decide +kernel
theorem dX6_append_9 : decode cX6_append 9 = .ok (.if_icmp .le 13, 3) := by decide +kernel
theorem dX6_append_12 : decode cX6_append 12 = .ok (.new 52, 3) := by decide +kernel
theorem dX6_append_15 : decode cX6_append 15 = .ok (.dup, 1) := by decide +kernel
theorem dX6_append_16 : decode cX6_append 16 = .ok (.ldc 187, 2) := by decide +kernel
theorem dX6_append_18 : decode cX6_append 18 = .ok (.invokespecial 56, 3) := by decide +kernel
theorem dX6_append_21 : decode cX6_append 21 = .ok (.athrow, 1) := by decide +kernel
theorem dX6_append_22 : decode cX6_append 22 = .ok (.aload_n 0, 1) := by decide +kernel
theorem dX6_append_23 : decode cX6_append 23 = .ok (.getfield 23, 3) := by decide +kernel
theorem dX6_append_26 : decode cX6_append 26 = .ok (.getfield 189, 3) := by decide +kernel
theorem dX6_append_29 : decode cX6_append 29 = .ok (.bipush 60, 2) := by decide +kernel
theorem dX6_append_31 : decode cX6_append 31 = .ok (.if_icmp .lt 13, 3) := by decide +kernel
theorem dX6_append_34 : decode cX6_append 34 = .ok (.new 63, 3) := by decide +kernel
theorem dX6_append_37 : decode cX6_append 37 = .ok (.dup, 1) := by decide +kernel
theorem dX6_append_38 : decode cX6_append 38 = .ok (.ldc 190, 2) := by decide +kernel
theorem dX6_append_40 : decode cX6_append 40 = .ok (.invokespecial 67, 3) := by decide +kernel
theorem dX6_append_43 : decode cX6_append 43 = .ok (.athrow, 1) := by decide +kernel
theorem dX6_append_44 : decode cX6_append 44 = .ok (.aload_n 0, 1) := by decide +kernel
theorem dX6_append_45 : decode cX6_append 45 = .ok (.getfield 23, 3) := by decide +kernel
theorem dX6_append_48 : decode cX6_append 48 = .ok (.getfield 192, 3) := by decide +kernel
theorem dX6_append_51 : decode cX6_append 51 = .ok (.aload_n 0, 1) := by decide +kernel
theorem dX6_append_52 : decode cX6_append 52 = .ok (.getfield 23, 3) := by decide +kernel
theorem dX6_append_55 : decode cX6_append 55 = .ok (.getfield 189, 3) := by decide +kernel
theorem dX6_append_58 : decode cX6_append 58 = .ok (.iload_n 1, 1) := by decide +kernel
theorem dX6_append_59 : decode cX6_append 59 = .ok (.iastore, 1) := by decide +kernel
theorem dX6_append_60 : decode cX6_append 60 = .ok (.aload_n 0, 1) := by decide +kernel
theorem dX6_append_61 : decode cX6_append 61 = .ok (.getfield 23, 3) := by decide +kernel
theorem dX6_append_64 : decode cX6_append 64 = .ok (.dup, 1) := by decide +kernel
theorem dX6_append_65 : decode cX6_append 65 = .ok (.getfield 189, 3) := by decide +kernel
theorem dX6_append_68 : decode cX6_append 68 = .ok (.iconst 1, 1) := by decide +kernel
theorem dX6_append_69 : decode cX6_append 69 = .ok (.iadd, 1) := by decide +kernel
theorem dX6_append_70 : decode cX6_append 70 = .ok (.putfield 189, 3) := by decide +kernel
theorem dX6_append_73 : decode cX6_append 73 = .ok (.aload_n 0, 1) := by decide +kernel
theorem dX6_append_74 : decode cX6_append 74 = .ok (.getfield 23, 3) := by decide +kernel
theorem dX6_append_77 : decode cX6_append 77 = .ok (.getfield 189, 3) := by decide +kernel
theorem dX6_append_80 : decode cX6_append 80 = .ok (.ireturn, 1) := by decide +kernel
theorem dX6_learn_0 : decode cX6_learn 0 = .ok (.aload_n 0, 1) := by decide +kernel
theorem dX6_learn_1 : decode cX6_learn 1 = .ok (.iload_n 1, 1) := by decide +kernel
theorem dX6_learn_2 : decode cX6_learn 2 = .ok (.invokevirtual 120, 3) := by decide +kernel
theorem dX6_learn_5 : decode cX6_learn 5 = .ok (.aload_n 0, 1) := by decide +kernel
theorem dX6_learn_6 : decode cX6_learn 6 = .ok (.getfield 23, 3) := by decide +kernel
theorem dX6_learn_9 : decode cX6_learn 9 = .ok (.invokevirtual 195, 3) := by decide +kernel
theorem dX6_learn_12 : decode cX6_learn 12 = .ok (.aload_n 0, 1) := by decide +kernel
theorem dX6_learn_13 : decode cX6_learn 13 = .ok (.getfield 23, 3) := by decide +kernel
theorem dX6_learn_16 : decode cX6_learn 16 = .ok (.getfield 189, 3) := by decide +kernel
theorem dX6_learn_19 : decode cX6_learn 19 = .ok (.if_icmp .lt 13, 3) := by decide +kernel
theorem dX6_learn_22 : decode cX6_learn 22 = .ok (.aload_n 0, 1) := by decide +kernel
theorem dX6_learn_23 : decode cX6_learn 23 = .ok (.getfield 23, 3) := by decide +kernel
theorem dX6_learn_26 : decode cX6_learn 26 = .ok (.invokevirtual 198, 3) := by decide +kernel
theorem dX6_learn_29 : decode cX6_learn 29 = .ok (.ifCond .ne 13, 3) := by decide +kernel
theorem dX6_learn_32 : decode cX6_learn 32 = .ok (.new 52, 3) := by decide +kernel
theorem dX6_learn_35 : decode cX6_learn 35 = .ok (.dup, 1) := by decide +kernel
theorem dX6_learn_36 : decode cX6_learn 36 = .ok (.ldc 202, 2) := by decide +kernel
theorem dX6_learn_38 : decode cX6_learn 38 = .ok (.invokespecial 56, 3) := by decide +kernel
theorem dX6_learn_41 : decode cX6_learn 41 = .ok (.athrow, 1) := by decide +kernel
theorem dX6_learn_42 : decode cX6_learn 42 = .ok (.aload_n 0, 1) := by decide +kernel
theorem dX6_learn_43 : decode cX6_learn 43 = .ok (.invokevirtual 73, 3) := by decide +kernel
theorem dX6_learn_46 : decode cX6_learn 46 = .ok (.aload_n 0, 1) := by decide +kernel
theorem dX6_learn_47 : decode cX6_learn 47 = .ok (.getfield 10, 3) := by decide +kernel
theorem dX6_learn_50 : decode cX6_learn 50 = .ok (.getfield 76, 3) := by decide +kernel
theorem dX6_learn_53 : decode cX6_learn 53 = .ok (.iload_n 1, 1) := by decide +kernel
theorem dX6_learn_54 : decode cX6_learn 54 = .ok (.aaload, 1) := by decide +kernel
theorem dX6_learn_55 : decode cX6_learn 55 = .ok (.astore_n 2, 1) := by decide +kernel
theorem dX6_learn_56 : decode cX6_learn 56 = .ok (.aload_n 0, 1) := by decide +kernel
theorem dX6_learn_57 : decode cX6_learn 57 = .ok (.getfield 23, 3) := by decide +kernel
theorem dX6_learn_60 : decode cX6_learn 60 = .ok (.getfield 204, 3) := by decide +kernel
theorem dX6_learn_63 : decode cX6_learn 63 = .ok (.aload_n 2, 1) := by decide +kernel
theorem dX6_learn_64 : decode cX6_learn 64 = .ok (.getfield 207, 3) := by decide +kernel
theorem dX6_learn_67 : decode cX6_learn 67 = .ok (.invokestatic 135, 3) := by decide +kernel
theorem dX6_learn_70 : decode cX6_learn 70 = .ok (.aload_n 0, 1) := by decide +kernel
theorem dX6_learn_71 : decode cX6_learn 71 = .ok (.getfield 23, 3) := by decide +kernel
theorem dX6_learn_74 : decode cX6_learn 74 = .ok (.iconst 0, 1) := by decide +kernel
theorem dX6_learn_75 : decode cX6_learn 75 = .ok (.putfield 189, 3) := by decide +kernel
theorem dX6_learn_78 : decode cX6_learn 78 = .ok (.aload_n 2, 1) := by decide +kernel
theorem dX6_learn_79 : decode cX6_learn 79 = .ok (.getfield 207, 3) := by decide +kernel
theorem dX6_learn_82 : decode cX6_learn 82 = .ok (.invokestatic 112, 3) := by decide +kernel
theorem dX6_learn_85 : decode cX6_learn 85 = .ok (.ireturn, 1) := by decide +kernel
theorem dX6_undo_0 : decode cX6_undo 0 = .ok (.aload_n 0, 1) := by decide +kernel
theorem dX6_undo_1 : decode cX6_undo 1 = .ok (.getfield 208, 3) := by decide +kernel
theorem dX6_undo_4 : decode cX6_undo 4 = .ok (.ifCond .gt 13, 3) := by decide +kernel
theorem dX6_undo_7 : decode cX6_undo 7 = .ok (.new 63, 3) := by decide +kernel
theorem dX6_undo_10 : decode cX6_undo 10 = .ok (.dup, 1) := by decide +kernel
theorem dX6_undo_11 : decode cX6_undo 11 = .ok (.ldc 211, 2) := by decide +kernel
theorem dX6_undo_13 : decode cX6_undo 13 = .ok (.invokespecial 67, 3) := by decide +kernel
theorem dX6_undo_16 : decode cX6_undo 16 = .ok (.athrow, 1) := by decide +kernel
theorem dX6_undo_17 : decode cX6_undo 17 = .ok (.aload_n 0, 1) := by decide +kernel
theorem dX6_undo_18 : decode cX6_undo 18 = .ok (.dup, 1) := by decide +kernel
theorem dX6_undo_19 : decode cX6_undo 19 = .ok (.getfield 208, 3) := by decide +kernel
theorem dX6_undo_22 : decode cX6_undo 22 = .ok (.iconst 1, 1) := by decide +kernel
theorem dX6_undo_23 : decode cX6_undo 23 = .ok (.isub, 1) := by decide +kernel
theorem dX6_undo_24 : decode cX6_undo 24 = .ok (.putfield 208, 3) := by decide +kernel
theorem dX6_undo_27 : decode cX6_undo 27 = .ok (.aload_n 0, 1) := by decide +kernel
theorem dX6_undo_28 : decode cX6_undo 28 = .ok (.getfield 10, 3) := by decide +kernel
theorem dX6_undo_31 : decode cX6_undo 31 = .ok (.aload_n 0, 1) := by decide +kernel
theorem dX6_undo_32 : decode cX6_undo 32 = .ok (.getfield 16, 3) := by decide +kernel
theorem dX6_undo_35 : decode cX6_undo 35 = .ok (.aload_n 0, 1) := by decide +kernel
