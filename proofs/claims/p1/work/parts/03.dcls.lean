theorem d_Sj_init_0 : decode b_Sj_init 0 = .ok (.aload_n 0, 1) := by decide +kernel
theorem d_Sj_init_1 : decode b_Sj_init 1 = .ok (.invokespecial 1, 3) := by decide +kernel
theorem d_Sj_init_4 : decode b_Sj_init 4 = .ok (.aload_n 0, 1) := by decide +kernel
theorem d_Sj_init_5 : decode b_Sj_init 5 = .ok (.new 7, 3) := by decide +kernel
theorem d_Sj_init_8 : decode b_Sj_init 8 = .ok (.dup, 1) := by decide +kernel
theorem d_Sj_init_9 : decode b_Sj_init 9 = .ok (.invokespecial 9, 3) := by decide +kernel
theorem d_Sj_init_12 : decode b_Sj_init 12 = .ok (.putfield 10, 3) := by decide +kernel
theorem d_Sj_init_15 : decode b_Sj_init 15 = .ok (.aload_n 0, 1) := by decide +kernel
theorem d_Sj_init_16 : decode b_Sj_init 16 = .ok (.new 16, 3) := by decide +kernel
theorem d_Sj_init_19 : decode b_Sj_init 19 = .ok (.dup, 1) := by decide +kernel
theorem d_Sj_init_20 : decode b_Sj_init 20 = .ok (.invokespecial 18, 3) := by decide +kernel
theorem d_Sj_init_23 : decode b_Sj_init 23 = .ok (.putfield 19, 3) := by decide +kernel
theorem d_Sj_init_26 : decode b_Sj_init 26 = .ok (.aload_n 0, 1) := by decide +kernel
theorem d_Sj_init_27 : decode b_Sj_init 27 = .ok (.new 23, 3) := by decide +kernel
theorem d_Sj_init_30 : decode b_Sj_init 30 = .ok (.dup, 1) := by decide +kernel
theorem d_Sj_init_31 : decode b_Sj_init 31 = .ok (.invokespecial 25, 3) := by decide +kernel
theorem d_Sj_init_34 : decode b_Sj_init 34 = .ok (.putfield 26, 3) := by decide +kernel
theorem d_Sj_init_37 : decode b_Sj_init 37 = .ok (.aload_n 0, 1) := by decide +kernel
theorem d_Sj_init_38 : decode b_Sj_init 38 = .ok (.new 30, 3) := by decide +kernel
theorem d_Sj_init_41 : decode b_Sj_init 41 = .ok (.dup, 1) := by decide +kernel
theorem d_Sj_init_42 : decode b_Sj_init 42 = .ok (.aload_n 0, 1) := by decide +kernel
theorem d_Sj_init_43 : decode b_Sj_init 43 = .ok (.getfield 10, 3) := by decide +kernel
theorem d_Sj_init_46 : decode b_Sj_init 46 = .ok (.aload_n 0, 1) := by decide +kernel
theorem d_Sj_init_47 : decode b_Sj_init 47 = .ok (.getfield 26, 3) := by decide +kernel
theorem d_Sj_init_50 : decode b_Sj_init 50 = .ok (.new 32, 3) := by decide +kernel
theorem d_Sj_init_53 : decode b_Sj_init 53 = .ok (.dup, 1) := by decide +kernel
theorem d_Sj_init_54 : decode b_Sj_init 54 = .ok (.aload_n 0, 1) := by decide +kernel
theorem d_Sj_init_55 : decode b_Sj_init 55 = .ok (.getfield 10, 3) := by decide +kernel
theorem d_Sj_init_58 : decode b_Sj_init 58 = .ok (.aload_n 0, 1) := by decide +kernel
theorem d_Sj_init_59 : decode b_Sj_init 59 = .ok (.getfield 19, 3) := by decide +kernel
theorem d_Sj_init_62 : decode b_Sj_init 62 = .ok (.invokespecial 34, 3) := by decide +kernel
theorem d_Sj_init_65 : decode b_Sj_init 65 = .ok (.invokespecial 37, 3) := by decide +kernel
theorem d_Sj_init_68 : decode b_Sj_init 68 = .ok (.putfield 40, 3) := by decide +kernel
theorem d_Sj_init_71 : decode b_Sj_init 71 = .ok (.return_, 1) := by decide +kernel
theorem d_Va_init_0 : decode b_Va_init 0 = .ok (.aload_n 0, 1) := by decide +kernel
theorem d_Va_init_1 : decode b_Va_init 1 = .ok (.invokespecial 1, 3) := by decide +kernel
theorem d_Va_init_4 : decode b_Va_init 4 = .ok (.aload_n 0, 1) := by decide +kernel
theorem d_Va_init_5 : decode b_Va_init 5 = .ok (.bipush 40, 2) := by decide +kernel
theorem d_Va_init_7 : decode b_Va_init 7 = .ok (.newarray .int, 2) := by decide +kernel
theorem d_Va_init_9 : decode b_Va_init 9 = .ok (.putfield 9, 3) := by decide +kernel
theorem d_Va_init_12 : decode b_Va_init 12 = .ok (.aload_n 0, 1) := by decide +kernel
theorem d_Va_init_13 : decode b_Va_init 13 = .ok (.bipush 40, 2) := by decide +kernel
theorem d_Va_init_15 : decode b_Va_init 15 = .ok (.newarray .long, 2) := by decide +kernel
theorem d_Va_init_17 : decode b_Va_init 17 = .ok (.putfield 13, 3) := by decide +kernel
theorem d_Va_init_20 : decode b_Va_init 20 = .ok (.aload_n 0, 1) := by decide +kernel
theorem d_Va_init_21 : decode b_Va_init 21 = .ok (.bipush 40, 2) := by decide +kernel
theorem d_Va_init_23 : decode b_Va_init 23 = .ok (.newarray .int, 2) := by decide +kernel
theorem d_Va_init_25 : decode b_Va_init 25 = .ok (.putfield 17, 3) := by decide +kernel
theorem d_Va_init_28 : decode b_Va_init 28 = .ok (.aload_n 0, 1) := by decide +kernel
theorem d_Va_init_29 : decode b_Va_init 29 = .ok (.sipush 480, 3) := by decide +kernel
theorem d_Va_init_32 : decode b_Va_init 32 = .ok (.newarray .int, 2) := by decide +kernel
theorem d_Va_init_34 : decode b_Va_init 34 = .ok (.putfield 20, 3) := by decide +kernel
theorem d_Va_init_37 : decode b_Va_init 37 = .ok (.aload_n 0, 1) := by decide +kernel
theorem d_Va_init_38 : decode b_Va_init 38 = .ok (.bipush 40, 2) := by decide +kernel
theorem d_Va_init_40 : decode b_Va_init 40 = .ok (.newarray .int, 2) := by decide +kernel
theorem d_Va_init_42 : decode b_Va_init 42 = .ok (.putfield 23, 3) := by decide +kernel
theorem d_Va_init_45 : decode b_Va_init 45 = .ok (.return_, 1) := by decide +kernel
theorem d_Pa_init_0 : decode b_Pa_init 0 = .ok (.aload_n 0, 1) := by decide +kernel
theorem d_Pa_init_1 : decode b_Pa_init 1 = .ok (.invokespecial 1, 3) := by decide +kernel
theorem d_Pa_init_4 : decode b_Pa_init 4 = .ok (.aload_n 0, 1) := by decide +kernel
theorem d_Pa_init_5 : decode b_Pa_init 5 = .ok (.bipush 8, 2) := by decide +kernel
theorem d_Pa_init_7 : decode b_Pa_init 7 = .ok (.newarray .int, 2) := by decide +kernel
theorem d_Pa_init_9 : decode b_Pa_init 9 = .ok (.putfield 9, 3) := by decide +kernel
theorem d_Pa_init_12 : decode b_Pa_init 12 = .ok (.aload_n 0, 1) := by decide +kernel
theorem d_Pa_init_13 : decode b_Pa_init 13 = .ok (.bipush 48, 2) := by decide +kernel
theorem d_Pa_init_15 : decode b_Pa_init 15 = .ok (.newarray .int, 2) := by decide +kernel
theorem d_Pa_init_17 : decode b_Pa_init 17 = .ok (.putfield 13, 3) := by decide +kernel
theorem d_Pa_init_20 : decode b_Pa_init 20 = .ok (.aload_n 0, 1) := by decide +kernel
theorem d_Pa_init_21 : decode b_Pa_init 21 = .ok (.bipush 48, 2) := by decide +kernel
theorem d_Pa_init_23 : decode b_Pa_init 23 = .ok (.newarray .int, 2) := by decide +kernel
theorem d_Pa_init_25 : decode b_Pa_init 25 = .ok (.putfield 16, 3) := by decide +kernel
theorem d_Pa_init_28 : decode b_Pa_init 28 = .ok (.aload_n 0, 1) := by decide +kernel
theorem d_Pa_init_29 : decode b_Pa_init 29 = .ok (.bipush 8, 2) := by decide +kernel
theorem d_Pa_init_31 : decode b_Pa_init 31 = .ok (.newarray .boolean, 2) := by decide +kernel
theorem d_Pa_init_33 : decode b_Pa_init 33 = .ok (.putfield 19, 3) := by decide +kernel
theorem d_Pa_init_36 : decode b_Pa_init 36 = .ok (.aload_n 0, 1) := by decide +kernel
theorem d_Pa_init_37 : decode b_Pa_init 37 = .ok (.bipush 8, 2) := by decide +kernel
theorem d_Pa_init_39 : decode b_Pa_init 39 = .ok (.newarray .boolean, 2) := by decide +kernel
theorem d_Pa_init_41 : decode b_Pa_init 41 = .ok (.putfield 23, 3) := by decide +kernel
theorem d_Pa_init_44 : decode b_Pa_init 44 = .ok (.return_, 1) := by decide +kernel
theorem d_Sc_init_0 : decode b_Sc_init 0 = .ok (.aload_n 0, 1) := by decide +kernel
theorem d_Sc_init_1 : decode b_Sc_init 1 = .ok (.invokespecial 3, 3) := by decide +kernel
theorem d_Sc_init_4 : decode b_Sc_init 4 = .ok (.aload_n 0, 1) := by decide +kernel
theorem d_Sc_init_5 : decode b_Sc_init 5 = .ok (.sipush 696, 3) := by decide +kernel
theorem d_Sc_init_8 : decode b_Sc_init 8 = .ok (.newarray .int, 2) := by decide +kernel
theorem d_Sc_init_10 : decode b_Sc_init 10 = .ok (.putfield 11, 3) := by decide +kernel
theorem d_Sc_init_13 : decode b_Sc_init 13 = .ok (.aload_n 0, 1) := by decide +kernel
theorem d_Sc_init_14 : decode b_Sc_init 14 = .ok (.getfield 11, 3) := by decide +kernel
theorem d_Sc_init_17 : decode b_Sc_init 17 = .ok (.iconst (-1), 1) := by decide +kernel
theorem d_Sc_init_18 : decode b_Sc_init 18 = .ok (.invokestatic 15, 3) := by decide +kernel
theorem d_Sc_init_21 : decode b_Sc_init 21 = .ok (.aload_n 0, 1) := by decide +kernel
theorem d_Sc_init_22 : decode b_Sc_init 22 = .ok (.bipush 96, 2) := by decide +kernel
theorem d_Sc_init_24 : decode b_Sc_init 24 = .ok (.newarray .int, 2) := by decide +kernel
theorem d_Sc_init_26 : decode b_Sc_init 26 = .ok (.putfield 21, 3) := by decide +kernel
theorem d_Sc_init_29 : decode b_Sc_init 29 = .ok (.aload_n 0, 1) := by decide +kernel
theorem d_Sc_init_30 : decode b_Sc_init 30 = .ok (.sipush 288, 3) := by decide +kernel
theorem d_Sc_init_33 : decode b_Sc_init 33 = .ok (.newarray .int, 2) := by decide +kernel
theorem d_Sc_init_35 : decode b_Sc_init 35 = .ok (.putfield 24, 3) := by decide +kernel
theorem d_Sc_init_38 : decode b_Sc_init 38 = .ok (.aload_n 0, 1) := by decide +kernel
theorem d_Sc_init_39 : decode b_Sc_init 39 = .ok (.sipush 864, 3) := by decide +kernel
theorem d_Sc_init_42 : decode b_Sc_init 42 = .ok (.newarray .int, 2) := by decide +kernel
theorem d_Sc_init_44 : decode b_Sc_init 44 = .ok (.putfield 29, 3) := by decide +kernel
theorem d_Sc_init_47 : decode b_Sc_init 47 = .ok (.aload_n 0, 1) := by decide +kernel
theorem d_Sc_init_48 : decode b_Sc_init 48 = .ok (.getfield 29, 3) := by decide +kernel
theorem d_Sc_init_51 : decode b_Sc_init 51 = .ok (.iconst (-1), 1) := by decide +kernel
theorem d_Sc_init_52 : decode b_Sc_init 52 = .ok (.invokestatic 15, 3) := by decide +kernel
theorem d_Sc_init_55 : decode b_Sc_init 55 = .ok (.aload_n 0, 1) := by decide +kernel
theorem d_Sc_init_56 : decode b_Sc_init 56 = .ok (.bipush 24, 2) := by decide +kernel
theorem d_Sc_init_58 : decode b_Sc_init 58 = .ok (.newarray .int, 2) := by decide +kernel
theorem d_Sc_init_60 : decode b_Sc_init 60 = .ok (.putfield 32, 3) := by decide +kernel
theorem d_Sc_init_63 : decode b_Sc_init 63 = .ok (.aload_n 0, 1) := by decide +kernel
theorem d_Sc_init_64 : decode b_Sc_init 64 = .ok (.bipush 24, 2) := by decide +kernel
theorem d_Sc_init_66 : decode b_Sc_init 66 = .ok (.newarray .int, 2) := by decide +kernel
theorem d_Sc_init_68 : decode b_Sc_init 68 = .ok (.putfield 35, 3) := by decide +kernel
theorem d_Sc_init_71 : decode b_Sc_init 71 = .ok (.return_, 1) := by decide +kernel
theorem d_Ar_fill_0 : decode b_Ar_fill 0 = .ok (.iconst 0, 1) := by decide +kernel
theorem d_Ar_fill_1 : decode b_Ar_fill 1 = .ok (.istore_n 2, 1) := by decide +kernel
theorem d_Ar_fill_2 : decode b_Ar_fill 2 = .ok (.aload_n 0, 1) := by decide +kernel
theorem d_Ar_fill_3 : decode b_Ar_fill 3 = .ok (.arraylength, 1) := by decide +kernel
theorem d_Ar_fill_4 : decode b_Ar_fill 4 = .ok (.istore_n 3, 1) := by decide +kernel
theorem d_Ar_fill_5 : decode b_Ar_fill 5 = .ok (.iload_n 2, 1) := by decide +kernel
theorem d_Ar_fill_6 : decode b_Ar_fill 6 = .ok (.iload_n 3, 1) := by decide +kernel
theorem d_Ar_fill_7 : decode b_Ar_fill 7 = .ok (.if_icmp .ge 13, 3) := by decide +kernel
theorem d_Ar_fill_10 : decode b_Ar_fill 10 = .ok (.aload_n 0, 1) := by decide +kernel
theorem d_Ar_fill_11 : decode b_Ar_fill 11 = .ok (.iload_n 2, 1) := by decide +kernel
theorem d_Ar_fill_12 : decode b_Ar_fill 12 = .ok (.iload_n 1, 1) := by decide +kernel
theorem d_Ar_fill_13 : decode b_Ar_fill 13 = .ok (.iastore, 1) := by decide +kernel
theorem d_Ar_fill_14 : decode b_Ar_fill 14 = .ok (.iinc 2 1, 3) := by decide +kernel
theorem d_Ar_fill_17 : decode b_Ar_fill 17 = .ok (.goto (-12), 3) := by decide +kernel
theorem d_Ar_fill_20 : decode b_Ar_fill 20 = .ok (.return_, 1) := by decide +kernel
theorem d_Pl_init_0 : decode b_Pl_init 0 = .ok (.aload_n 0, 1) := by decide +kernel
theorem d_Pl_init_1 : decode b_Pl_init 1 = .ok (.invokespecial 1, 3) := by decide +kernel
theorem d_Pl_init_4 : decode b_Pl_init 4 = .ok (.aload_n 0, 1) := by decide +kernel
theorem d_Pl_init_5 : decode b_Pl_init 5 = .ok (.aload_n 1, 1) := by decide +kernel
theorem d_Pl_init_6 : decode b_Pl_init 6 = .ok (.putfield 7, 3) := by decide +kernel
theorem d_Pl_init_9 : decode b_Pl_init 9 = .ok (.aload_n 0, 1) := by decide +kernel
theorem d_Pl_init_10 : decode b_Pl_init 10 = .ok (.aload_n 2, 1) := by decide +kernel
theorem d_Pl_init_11 : decode b_Pl_init 11 = .ok (.putfield 13, 3) := by decide +kernel
theorem d_Pl_init_14 : decode b_Pl_init 14 = .ok (.return_, 1) := by decide +kernel
theorem d_Ju_init_0 : decode b_Ju_init 0 = .ok (.aload_n 0, 1) := by decide +kernel
theorem d_Ju_init_1 : decode b_Ju_init 1 = .ok (.invokespecial 5, 3) := by decide +kernel
theorem d_Ju_init_4 : decode b_Ju_init 4 = .ok (.aload_n 0, 1) := by decide +kernel
theorem d_Ju_init_5 : decode b_Ju_init 5 = .ok (.aload_n 1, 1) := by decide +kernel
theorem d_Ju_init_6 : decode b_Ju_init 6 = .ok (.putfield 11, 3) := by decide +kernel
theorem d_Ju_init_9 : decode b_Ju_init 9 = .ok (.aload_n 0, 1) := by decide +kernel
theorem d_Ju_init_10 : decode b_Ju_init 10 = .ok (.aload_n 2, 1) := by decide +kernel
theorem d_Ju_init_11 : decode b_Ju_init 11 = .ok (.putfield 17, 3) := by decide +kernel
theorem d_Ju_init_14 : decode b_Ju_init 14 = .ok (.aload_n 0, 1) := by decide +kernel
theorem d_Ju_init_15 : decode b_Ju_init 15 = .ok (.aload_n 3, 1) := by decide +kernel
theorem d_Ju_init_16 : decode b_Ju_init 16 = .ok (.putfield 21, 3) := by decide +kernel
theorem d_Ju_init_19 : decode b_Ju_init 19 = .ok (.aload_n 0, 1) := by decide +kernel
theorem d_Ju_init_20 : decode b_Ju_init 20 = .ok (.sipush 960, 3) := by decide +kernel
theorem d_Ju_init_23 : decode b_Ju_init 23 = .ok (.newarray .int, 2) := by decide +kernel
theorem d_Ju_init_25 : decode b_Ju_init 25 = .ok (.putfield 25, 3) := by decide +kernel
theorem d_Ju_init_28 : decode b_Ju_init 28 = .ok (.aload_n 0, 1) := by decide +kernel
theorem d_Ju_init_29 : decode b_Ju_init 29 = .ok (.sipush 960, 3) := by decide +kernel
theorem d_Ju_init_32 : decode b_Ju_init 32 = .ok (.newarray .int, 2) := by decide +kernel
theorem d_Ju_init_34 : decode b_Ju_init 34 = .ok (.putfield 29, 3) := by decide +kernel
theorem d_Ju_init_37 : decode b_Ju_init 37 = .ok (.aload_n 0, 1) := by decide +kernel
theorem d_Ju_init_38 : decode b_Ju_init 38 = .ok (.sipush 960, 3) := by decide +kernel
theorem d_Ju_init_41 : decode b_Ju_init 41 = .ok (.newarray .long, 2) := by decide +kernel
theorem d_Ju_init_43 : decode b_Ju_init 43 = .ok (.putfield 32, 3) := by decide +kernel
theorem d_Ju_init_46 : decode b_Ju_init 46 = .ok (.return_, 1) := by decide +kernel
theorem d_Sj_faults_0 : decode b_Sj_faults 0 = .ok (.aload_n 0, 1) := by decide +kernel
theorem d_Sj_faults_1 : decode b_Sj_faults 1 = .ok (.getfield 40, 3) := by decide +kernel
theorem d_Sj_faults_4 : decode b_Sj_faults 4 = .ok (.invokevirtual 184, 3) := by decide +kernel
theorem d_Sj_faults_7 : decode b_Sj_faults 7 = .ok (.ireturn, 1) := by decide +kernel
theorem d_Ju_countFaults_0 : decode b_Ju_countFaults 0 = .ok (.iconst 0, 1) := by decide +kernel
theorem d_Ju_countFaults_1 : decode b_Ju_countFaults 1 = .ok (.istore_n 1, 1) := by decide +kernel
theorem d_Ju_countFaults_2 : decode b_Ju_countFaults 2 = .ok (.iconst 0, 1) := by decide +kernel
theorem d_Ju_countFaults_3 : decode b_Ju_countFaults 3 = .ok (.istore_n 2, 1) := by decide +kernel
theorem d_Ju_countFaults_4 : decode b_Ju_countFaults 4 = .ok (.iload_n 2, 1) := by decide +kernel
theorem d_Ju_countFaults_5 : decode b_Ju_countFaults 5 = .ok (.sipush 960, 3) := by decide +kernel
theorem d_Ju_countFaults_8 : decode b_Ju_countFaults 8 = .ok (.if_icmp .ge 21, 3) := by decide +kernel
theorem d_Ju_countFaults_11 : decode b_Ju_countFaults 11 = .ok (.iload_n 1, 1) := by decide +kernel
theorem d_Ju_countFaults_12 : decode b_Ju_countFaults 12 = .ok (.aload_n 0, 1) := by decide +kernel
theorem d_Ju_countFaults_13 : decode b_Ju_countFaults 13 = .ok (.getfield 32, 3) := by decide +kernel
theorem d_Ju_countFaults_16 : decode b_Ju_countFaults 16 = .ok (.iload_n 2, 1) := by decide +kernel
theorem d_Ju_countFaults_17 : decode b_Ju_countFaults 17 = .ok (.laload, 1) := by decide +kernel
theorem d_Ju_countFaults_18 : decode b_Ju_countFaults 18 = .ok (.invokestatic 63, 3) := by decide +kernel
theorem d_Ju_countFaults_21 : decode b_Ju_countFaults 21 = .ok (.iadd, 1) := by decide +kernel
theorem d_Ju_countFaults_22 : decode b_Ju_countFaults 22 = .ok (.istore_n 1, 1) := by decide +kernel
theorem d_Ju_countFaults_23 : decode b_Ju_countFaults 23 = .ok (.iinc 2 1, 3) := by decide +kernel
theorem d_Ju_countFaults_26 : decode b_Ju_countFaults 26 = .ok (.goto (-22), 3) := by decide +kernel
theorem d_Ju_countFaults_29 : decode b_Ju_countFaults 29 = .ok (.iload_n 1, 1) := by decide +kernel
theorem d_Ju_countFaults_30 : decode b_Ju_countFaults 30 = .ok (.ireturn, 1) := by decide +kernel
theorem d_Lo_bitCount_0 : decode b_Lo_bitCount 0 = .ok (.lload_n 0, 1) := by decide +kernel
theorem d_Lo_bitCount_1 : decode b_Lo_bitCount 1 = .ok (.lload_n 0, 1) := by decide +kernel
theorem d_Lo_bitCount_2 : decode b_Lo_bitCount 2 = .ok (.iconst 1, 1) := by decide +kernel
theorem d_Lo_bitCount_3 : decode b_Lo_bitCount 3 = .ok (.lushr, 1) := by decide +kernel
theorem d_Lo_bitCount_4 : decode b_Lo_bitCount 4 = .ok (.ldc2_w 314, 3) := by decide +kernel
theorem d_Lo_bitCount_7 : decode b_Lo_bitCount 7 = .ok (.land, 1) := by decide +kernel
theorem d_Lo_bitCount_8 : decode b_Lo_bitCount 8 = .ok (.lsub, 1) := by decide +kernel
theorem d_Lo_bitCount_9 : decode b_Lo_bitCount 9 = .ok (.lstore_n 0, 1) := by decide +kernel
theorem d_Lo_bitCount_10 : decode b_Lo_bitCount 10 = .ok (.lload_n 0, 1) := by decide +kernel
theorem d_Lo_bitCount_11 : decode b_Lo_bitCount 11 = .ok (.ldc2_w 316, 3) := by decide +kernel
theorem d_Lo_bitCount_14 : decode b_Lo_bitCount 14 = .ok (.land, 1) := by decide +kernel
theorem d_Lo_bitCount_15 : decode b_Lo_bitCount 15 = .ok (.lload_n 0, 1) := by decide +kernel
theorem d_Lo_bitCount_16 : decode b_Lo_bitCount 16 = .ok (.iconst 2, 1) := by decide +kernel
theorem d_Lo_bitCount_17 : decode b_Lo_bitCount 17 = .ok (.lushr, 1) := by decide +kernel
theorem d_Lo_bitCount_18 : decode b_Lo_bitCount 18 = .ok (.ldc2_w 316, 3) := by decide +kernel
theorem d_Lo_bitCount_21 : decode b_Lo_bitCount 21 = .ok (.land, 1) := by decide +kernel
theorem d_Lo_bitCount_22 : decode b_Lo_bitCount 22 = .ok (.ladd, 1) := by decide +kernel
theorem d_Lo_bitCount_23 : decode b_Lo_bitCount 23 = .ok (.lstore_n 0, 1) := by decide +kernel
theorem d_Lo_bitCount_24 : decode b_Lo_bitCount 24 = .ok (.lload_n 0, 1) := by decide +kernel
theorem d_Lo_bitCount_25 : decode b_Lo_bitCount 25 = .ok (.lload_n 0, 1) := by decide +kernel
theorem d_Lo_bitCount_26 : decode b_Lo_bitCount 26 = .ok (.iconst 4, 1) := by decide +kernel
theorem d_Lo_bitCount_27 : decode b_Lo_bitCount 27 = .ok (.lushr, 1) := by decide +kernel
theorem d_Lo_bitCount_28 : decode b_Lo_bitCount 28 = .ok (.ladd, 1) := by decide +kernel
theorem d_Lo_bitCount_29 : decode b_Lo_bitCount 29 = .ok (.ldc2_w 318, 3) := by decide +kernel
theorem d_Lo_bitCount_32 : decode b_Lo_bitCount 32 = .ok (.land, 1) := by decide +kernel
theorem d_Lo_bitCount_33 : decode b_Lo_bitCount 33 = .ok (.lstore_n 0, 1) := by decide +kernel
theorem d_Lo_bitCount_34 : decode b_Lo_bitCount 34 = .ok (.lload_n 0, 1) := by decide +kernel
theorem d_Lo_bitCount_35 : decode b_Lo_bitCount 35 = .ok (.lload_n 0, 1) := by decide +kernel
theorem d_Lo_bitCount_36 : decode b_Lo_bitCount 36 = .ok (.bipush 8, 2) := by decide +kernel
theorem d_Lo_bitCount_38 : decode b_Lo_bitCount 38 = .ok (.lushr, 1) := by decide +kernel
theorem d_Lo_bitCount_39 : decode b_Lo_bitCount 39 = .ok (.ladd, 1) := by decide +kernel
theorem d_Lo_bitCount_40 : decode b_Lo_bitCount 40 = .ok (.lstore_n 0, 1) := by decide +kernel
theorem d_Lo_bitCount_41 : decode b_Lo_bitCount 41 = .ok (.lload_n 0, 1) := by decide +kernel
theorem d_Lo_bitCount_42 : decode b_Lo_bitCount 42 = .ok (.lload_n 0, 1) := by decide +kernel
theorem d_Lo_bitCount_43 : decode b_Lo_bitCount 43 = .ok (.bipush 16, 2) := by decide +kernel
theorem d_Lo_bitCount_45 : decode b_Lo_bitCount 45 = .ok (.lushr, 1) := by decide +kernel
theorem d_Lo_bitCount_46 : decode b_Lo_bitCount 46 = .ok (.ladd, 1) := by decide +kernel
theorem d_Lo_bitCount_47 : decode b_Lo_bitCount 47 = .ok (.lstore_n 0, 1) := by decide +kernel
theorem d_Lo_bitCount_48 : decode b_Lo_bitCount 48 = .ok (.lload_n 0, 1) := by decide +kernel
theorem d_Lo_bitCount_49 : decode b_Lo_bitCount 49 = .ok (.lload_n 0, 1) := by decide +kernel
theorem d_Lo_bitCount_50 : decode b_Lo_bitCount 50 = .ok (.bipush 32, 2) := by decide +kernel
theorem d_Lo_bitCount_52 : decode b_Lo_bitCount 52 = .ok (.lushr, 1) := by decide +kernel
theorem d_Lo_bitCount_53 : decode b_Lo_bitCount 53 = .ok (.ladd, 1) := by decide +kernel
theorem d_Lo_bitCount_54 : decode b_Lo_bitCount 54 = .ok (.lstore_n 0, 1) := by decide +kernel
theorem d_Lo_bitCount_55 : decode b_Lo_bitCount 55 = .ok (.lload_n 0, 1) := by decide +kernel
theorem d_Lo_bitCount_56 : decode b_Lo_bitCount 56 = .ok (.l2i, 1) := by decide +kernel
theorem d_Lo_bitCount_57 : decode b_Lo_bitCount 57 = .ok (.bipush 127, 2) := by decide +kernel
theorem d_Lo_bitCount_59 : decode b_Lo_bitCount 59 = .ok (.iand, 1) := by decide +kernel
theorem d_Lo_bitCount_60 : decode b_Lo_bitCount 60 = .ok (.ireturn, 1) := by decide +kernel
theorem d_Sj_make_0 : decode b_Sj_make 0 = .ok (.iload_n 1, 1) := by decide +kernel
theorem d_Sj_make_1 : decode b_Sj_make 1 = .ok (.ifCond .eq 23, 3) := by decide +kernel
theorem d_Sj_make_4 : decode b_Sj_make 4 = .ok (.iload_n 1, 1) := by decide +kernel
theorem d_Sj_make_5 : decode b_Sj_make 5 = .ok (.iconst 4, 1) := by decide +kernel
theorem d_Sj_make_6 : decode b_Sj_make 6 = .ok (.if_icmp .eq 18, 3) := by decide +kernel
theorem d_Sj_make_9 : decode b_Sj_make 9 = .ok (.iload_n 1, 1) := by decide +kernel
theorem d_Sj_make_10 : decode b_Sj_make 10 = .ok (.iconst 5, 1) := by decide +kernel
theorem d_Sj_make_11 : decode b_Sj_make 11 = .ok (.if_icmp .eq 13, 3) := by decide +kernel
theorem d_Sj_make_14 : decode b_Sj_make 14 = .ok (.new 46, 3) := by decide +kernel
theorem d_Sj_make_17 : decode b_Sj_make 17 = .ok (.dup, 1) := by decide +kernel
theorem d_Sj_make_18 : decode b_Sj_make 18 = .ok (.ldc 48, 2) := by decide +kernel
theorem d_Sj_make_20 : decode b_Sj_make 20 = .ok (.invokespecial 50, 3) := by decide +kernel
theorem d_Sj_make_23 : decode b_Sj_make 23 = .ok (.athrow, 1) := by decide +kernel
theorem d_Sj_make_24 : decode b_Sj_make 24 = .ok (.aload_n 0, 1) := by decide +kernel
theorem d_Sj_make_25 : decode b_Sj_make 25 = .ok (.iload_n 1, 1) := by decide +kernel
theorem d_Sj_make_26 : decode b_Sj_make 26 = .ok (.lconst 0, 1) := by decide +kernel
theorem d_Sj_make_27 : decode b_Sj_make 27 = .ok (.invokevirtual 53, 3) := by decide +kernel
theorem d_Sj_make_30 : decode b_Sj_make 30 = .ok (.ireturn, 1) := by decide +kernel
theorem d_Sj_addedValue_0 : decode b_Sj_addedValue 0 = .ok (.aload_n 0, 1) := by decide +kernel
theorem d_Sj_addedValue_1 : decode b_Sj_addedValue 1 = .ok (.getfield 10, 3) := by decide +kernel
theorem d_Sj_addedValue_4 : decode b_Sj_addedValue 4 = .ok (.invokevirtual 203, 3) := by decide +kernel
theorem d_Sj_addedValue_7 : decode b_Sj_addedValue 7 = .ok (.ifCond .eq 13, 3) := by decide +kernel
theorem d_Sj_addedValue_10 : decode b_Sj_addedValue 10 = .ok (.new 87, 3) := by decide +kernel
theorem d_Sj_addedValue_13 : decode b_Sj_addedValue 13 = .ok (.dup, 1) := by decide +kernel
theorem d_Sj_addedValue_14 : decode b_Sj_addedValue 14 = .ok (.ldc 204, 2) := by decide +kernel
theorem d_Sj_addedValue_16 : decode b_Sj_addedValue 16 = .ok (.invokespecial 91, 3) := by decide +kernel
theorem d_Sj_addedValue_19 : decode b_Sj_addedValue 19 = .ok (.athrow, 1) := by decide +kernel
theorem d_Sj_addedValue_20 : decode b_Sj_addedValue 20 = .ok (.aload_n 0, 1) := by decide +kernel
theorem d_Sj_addedValue_21 : decode b_Sj_addedValue 21 = .ok (.getfield 10, 3) := by decide +kernel
theorem d_Sj_addedValue_24 : decode b_Sj_addedValue 24 = .ok (.iload_n 1, 1) := by decide +kernel
theorem d_Sj_addedValue_25 : decode b_Sj_addedValue 25 = .ok (.lload_n 2, 1) := by decide +kernel
theorem d_Sj_addedValue_26 : decode b_Sj_addedValue 26 = .ok (.invokevirtual 206, 3) := by decide +kernel
theorem d_Sj_addedValue_29 : decode b_Sj_addedValue 29 = .ok (.ireturn, 1) := by decide +kernel
theorem d_Va_areFull_0 : decode b_Va_areFull 0 = .ok (.aload_n 0, 1) := by decide +kernel
theorem d_Va_areFull_1 : decode b_Va_areFull 1 = .ok (.getfield 26, 3) := by decide +kernel
theorem d_Va_areFull_4 : decode b_Va_areFull 4 = .ok (.bipush 40, 2) := by decide +kernel
theorem d_Va_areFull_6 : decode b_Va_areFull 6 = .ok (.if_icmp .lt 7, 3) := by decide +kernel
theorem d_Va_areFull_9 : decode b_Va_areFull 9 = .ok (.iconst 1, 1) := by decide +kernel
theorem d_Va_areFull_10 : decode b_Va_areFull 10 = .ok (.goto 4, 3) := by decide +kernel
theorem d_Va_areFull_13 : decode b_Va_areFull 13 = .ok (.iconst 0, 1) := by decide +kernel
theorem d_Va_areFull_14 : decode b_Va_areFull 14 = .ok (.ireturn, 1) := by decide +kernel
theorem d_Va_add_0 : decode b_Va_add 0 = .ok (.aload_n 0, 1) := by decide +kernel
theorem d_Va_add_1 : decode b_Va_add 1 = .ok (.getfield 9, 3) := by decide +kernel
theorem d_Va_add_4 : decode b_Va_add 4 = .ok (.aload_n 0, 1) := by decide +kernel
theorem d_Va_add_5 : decode b_Va_add 5 = .ok (.getfield 26, 3) := by decide +kernel
theorem d_Va_add_8 : decode b_Va_add 8 = .ok (.iload_n 1, 1) := by decide +kernel
theorem d_Va_add_9 : decode b_Va_add 9 = .ok (.iastore, 1) := by decide +kernel
theorem d_Va_add_10 : decode b_Va_add 10 = .ok (.aload_n 0, 1) := by decide +kernel
theorem d_Va_add_11 : decode b_Va_add 11 = .ok (.getfield 13, 3) := by decide +kernel
theorem d_Va_add_14 : decode b_Va_add 14 = .ok (.aload_n 0, 1) := by decide +kernel
theorem d_Va_add_15 : decode b_Va_add 15 = .ok (.getfield 26, 3) := by decide +kernel
theorem d_Va_add_18 : decode b_Va_add 18 = .ok (.lload_n 2, 1) := by decide +kernel
theorem d_Va_add_19 : decode b_Va_add 19 = .ok (.lastore, 1) := by decide +kernel
theorem d_Va_add_20 : decode b_Va_add 20 = .ok (.aload_n 0, 1) := by decide +kernel
theorem d_Va_add_21 : decode b_Va_add 21 = .ok (.dup, 1) := by decide +kernel
theorem d_Va_add_22 : decode b_Va_add 22 = .ok (.getfield 26, 3) := by decide +kernel
theorem d_Va_add_25 : decode b_Va_add 25 = .ok (.iconst 1, 1) := by decide +kernel
theorem d_Va_add_26 : decode b_Va_add 26 = .ok (.iadd, 1) := by decide +kernel
theorem d_Va_add_27 : decode b_Va_add 27 = .ok (.putfield 26, 3) := by decide +kernel
theorem d_Va_add_30 : decode b_Va_add 30 = .ok (.aload_n 0, 1) := by decide +kernel
theorem d_Va_add_31 : decode b_Va_add 31 = .ok (.getfield 26, 3) := by decide +kernel
theorem d_Va_add_34 : decode b_Va_add 34 = .ok (.iconst 1, 1) := by decide +kernel
theorem d_Va_add_35 : decode b_Va_add 35 = .ok (.isub, 1) := by decide +kernel
theorem d_Va_add_36 : decode b_Va_add 36 = .ok (.ireturn, 1) := by decide +kernel
theorem d_Sj_truth_0 : decode b_Sj_truth 0 = .ok (.aload_n 0, 1) := by decide +kernel
theorem d_Sj_truth_1 : decode b_Sj_truth 1 = .ok (.iconst 1, 1) := by decide +kernel
theorem d_Sj_truth_2 : decode b_Sj_truth 2 = .ok (.iload_n 1, 1) := by decide +kernel
theorem d_Sj_truth_3 : decode b_Sj_truth 3 = .ok (.ifCond .eq 7, 3) := by decide +kernel
theorem d_Sj_truth_6 : decode b_Sj_truth 6 = .ok (.lconst 1, 1) := by decide +kernel
theorem d_Sj_truth_7 : decode b_Sj_truth 7 = .ok (.goto 4, 3) := by decide +kernel
theorem d_Sj_truth_10 : decode b_Sj_truth 10 = .ok (.lconst 0, 1) := by decide +kernel
theorem d_Sj_truth_11 : decode b_Sj_truth 11 = .ok (.invokevirtual 53, 3) := by decide +kernel
theorem d_Sj_truth_14 : decode b_Sj_truth 14 = .ok (.ireturn, 1) := by decide +kernel
theorem d_Sj_number_0 : decode b_Sj_number 0 = .ok (.iload_n 1, 1) := by decide +kernel
theorem d_Sj_number_1 : decode b_Sj_number 1 = .ok (.ldc 57, 2) := by decide +kernel
theorem d_Sj_number_3 : decode b_Sj_number 3 = .ok (.ldc 58, 2) := by decide +kernel
theorem d_Sj_number_5 : decode b_Sj_number 5 = .ok (.invokestatic 59, 3) := by decide +kernel
theorem d_Sj_number_8 : decode b_Sj_number 8 = .ok (.ifCond .eq 13, 3) := by decide +kernel
theorem d_Sj_number_11 : decode b_Sj_number 11 = .ok (.iload_n 2, 1) := by decide +kernel
theorem d_Sj_number_12 : decode b_Sj_number 12 = .ok (.bipush (-3), 2) := by decide +kernel
theorem d_Sj_number_14 : decode b_Sj_number 14 = .ok (.iconst 3, 1) := by decide +kernel
theorem d_Sj_number_15 : decode b_Sj_number 15 = .ok (.invokestatic 59, 3) := by decide +kernel
theorem d_Sj_number_18 : decode b_Sj_number 18 = .ok (.ifCond .ne 13, 3) := by decide +kernel
theorem d_Sj_number_21 : decode b_Sj_number 21 = .ok (.new 46, 3) := by decide +kernel
theorem d_Sj_number_24 : decode b_Sj_number 24 = .ok (.dup, 1) := by decide +kernel
theorem d_Sj_number_25 : decode b_Sj_number 25 = .ok (.ldc 63, 2) := by decide +kernel
theorem d_Sj_number_27 : decode b_Sj_number 27 = .ok (.invokespecial 50, 3) := by decide +kernel
theorem d_Sj_number_30 : decode b_Sj_number 30 = .ok (.athrow, 1) := by decide +kernel
theorem d_Sj_number_31 : decode b_Sj_number 31 = .ok (.aload_n 0, 1) := by decide +kernel
theorem d_Sj_number_32 : decode b_Sj_number 32 = .ok (.iconst 2, 1) := by decide +kernel
theorem d_Sj_number_33 : decode b_Sj_number 33 = .ok (.iload_n 1, 1) := by decide +kernel
theorem d_Sj_number_34 : decode b_Sj_number 34 = .ok (.i2l, 1) := by decide +kernel
theorem d_Sj_number_35 : decode b_Sj_number 35 = .ok (.getstatic 65, 3) := by decide +kernel
theorem d_Sj_number_38 : decode b_Sj_number 38 = .ok (.iload_n 2, 1) := by decide +kernel
theorem d_Sj_number_39 : decode b_Sj_number 39 = .ok (.iconst 3, 1) := by decide +kernel
theorem d_Sj_number_40 : decode b_Sj_number 40 = .ok (.iadd, 1) := by decide +kernel
theorem d_Sj_number_41 : decode b_Sj_number 41 = .ok (.iaload, 1) := by decide +kernel
theorem d_Sj_number_42 : decode b_Sj_number 42 = .ok (.i2l, 1) := by decide +kernel
theorem d_Sj_number_43 : decode b_Sj_number 43 = .ok (.lmul, 1) := by decide +kernel
theorem d_Sj_number_44 : decode b_Sj_number 44 = .ok (.invokevirtual 53, 3) := by decide +kernel
theorem d_Sj_number_47 : decode b_Sj_number 47 = .ok (.ireturn, 1) := by decide +kernel
theorem d_Sj_isWithin_0 : decode b_Sj_isWithin 0 = .ok (.iload_n 0, 1) := by decide +kernel
theorem d_Sj_isWithin_1 : decode b_Sj_isWithin 1 = .ok (.iload_n 1, 1) := by decide +kernel
theorem d_Sj_isWithin_2 : decode b_Sj_isWithin 2 = .ok (.if_icmp .lt 12, 3) := by decide +kernel
theorem d_Sj_isWithin_5 : decode b_Sj_isWithin 5 = .ok (.iload_n 0, 1) := by decide +kernel
theorem d_Sj_isWithin_6 : decode b_Sj_isWithin 6 = .ok (.iload_n 2, 1) := by decide +kernel
theorem d_Sj_isWithin_7 : decode b_Sj_isWithin 7 = .ok (.if_icmp .gt 7, 3) := by decide +kernel
theorem d_Sj_isWithin_10 : decode b_Sj_isWithin 10 = .ok (.iconst 1, 1) := by decide +kernel
theorem d_Sj_isWithin_11 : decode b_Sj_isWithin 11 = .ok (.goto 4, 3) := by decide +kernel
theorem d_Sj_isWithin_14 : decode b_Sj_isWithin 14 = .ok (.iconst 0, 1) := by decide +kernel
theorem d_Sj_isWithin_15 : decode b_Sj_isWithin 15 = .ok (.ireturn, 1) := by decide +kernel
theorem d_Sj_text_0 : decode b_Sj_text 0 = .ok (.iload_n 1, 1) := by decide +kernel
theorem d_Sj_text_1 : decode b_Sj_text 1 = .ok (.invokestatic 69, 3) := by decide +kernel
theorem d_Sj_text_4 : decode b_Sj_text 4 = .ok (.ifCond .ne 13, 3) := by decide +kernel
theorem d_Sj_text_7 : decode b_Sj_text 7 = .ok (.new 46, 3) := by decide +kernel
theorem d_Sj_text_10 : decode b_Sj_text 10 = .ok (.dup, 1) := by decide +kernel
theorem d_Sj_text_11 : decode b_Sj_text 11 = .ok (.ldc 75, 2) := by decide +kernel
theorem d_Sj_text_13 : decode b_Sj_text 13 = .ok (.invokespecial 50, 3) := by decide +kernel
theorem d_Sj_text_16 : decode b_Sj_text 16 = .ok (.athrow, 1) := by decide +kernel
theorem d_Sj_text_17 : decode b_Sj_text 17 = .ok (.aload_n 0, 1) := by decide +kernel
theorem d_Sj_text_18 : decode b_Sj_text 18 = .ok (.iconst 3, 1) := by decide +kernel
theorem d_Sj_text_19 : decode b_Sj_text 19 = .ok (.iload_n 1, 1) := by decide +kernel
theorem d_Sj_text_20 : decode b_Sj_text 20 = .ok (.i2l, 1) := by decide +kernel
theorem d_Sj_text_21 : decode b_Sj_text 21 = .ok (.invokevirtual 53, 3) := by decide +kernel
theorem d_Sj_text_24 : decode b_Sj_text 24 = .ok (.ireturn, 1) := by decide +kernel
theorem d_Le_areTold_0 : decode b_Le_areTold 0 = .ok (.iload_n 0, 1) := by decide +kernel
theorem d_Le_areTold_1 : decode b_Le_areTold 1 = .ok (.istore_n 1, 1) := by decide +kernel
theorem d_Le_areTold_2 : decode b_Le_areTold 2 = .ok (.iconst 0, 1) := by decide +kernel
theorem d_Le_areTold_3 : decode b_Le_areTold 3 = .ok (.istore_n 2, 1) := by decide +kernel
theorem d_Le_areTold_4 : decode b_Le_areTold 4 = .ok (.iload_n 2, 1) := by decide +kernel
theorem d_Le_areTold_5 : decode b_Le_areTold 5 = .ok (.bipush 8, 2) := by decide +kernel
theorem d_Le_areTold_7 : decode b_Le_areTold 7 = .ok (.if_icmp .ge 25, 3) := by decide +kernel
theorem d_Le_areTold_10 : decode b_Le_areTold 10 = .ok (.iload_n 1, 1) := by decide +kernel
theorem d_Le_areTold_11 : decode b_Le_areTold 11 = .ok (.ifCond .le 21, 3) := by decide +kernel
theorem d_Le_areTold_14 : decode b_Le_areTold 14 = .ok (.iload_n 1, 1) := by decide +kernel
theorem d_Le_areTold_15 : decode b_Le_areTold 15 = .ok (.iconst 5, 1) := by decide +kernel
theorem d_Le_areTold_16 : decode b_Le_areTold 16 = .ok (.irem, 1) := by decide +kernel
theorem d_Le_areTold_17 : decode b_Le_areTold 17 = .ok (.ifCond .ne 5, 3) := by decide +kernel
theorem d_Le_areTold_20 : decode b_Le_areTold 20 = .ok (.iconst 0, 1) := by decide +kernel
theorem d_Le_areTold_21 : decode b_Le_areTold 21 = .ok (.ireturn, 1) := by decide +kernel
theorem d_Le_areTold_22 : decode b_Le_areTold 22 = .ok (.iload_n 1, 1) := by decide +kernel
theorem d_Le_areTold_23 : decode b_Le_areTold 23 = .ok (.iconst 5, 1) := by decide +kernel
theorem d_Le_areTold_24 : decode b_Le_areTold 24 = .ok (.idiv, 1) := by decide +kernel
theorem d_Le_areTold_25 : decode b_Le_areTold 25 = .ok (.istore_n 1, 1) := by decide +kernel
theorem d_Le_areTold_26 : decode b_Le_areTold 26 = .ok (.iinc 2 1, 3) := by decide +kernel
theorem d_Le_areTold_29 : decode b_Le_areTold 29 = .ok (.goto (-25), 3) := by decide +kernel
theorem d_Le_areTold_32 : decode b_Le_areTold 32 = .ok (.iload_n 1, 1) := by decide +kernel
theorem d_Le_areTold_33 : decode b_Le_areTold 33 = .ok (.ifCond .ne 7, 3) := by decide +kernel
theorem d_Le_areTold_36 : decode b_Le_areTold 36 = .ok (.iconst 1, 1) := by decide +kernel
theorem d_Le_areTold_37 : decode b_Le_areTold 37 = .ok (.goto 4, 3) := by decide +kernel
theorem d_Le_areTold_40 : decode b_Le_areTold 40 = .ok (.iconst 0, 1) := by decide +kernel
theorem d_Le_areTold_41 : decode b_Le_areTold 41 = .ok (.ireturn, 1) := by decide +kernel
theorem d_Sj_push_0 : decode b_Sj_push 0 = .ok (.aload_n 0, 1) := by decide +kernel
theorem d_Sj_push_1 : decode b_Sj_push 1 = .ok (.getfield 10, 3) := by decide +kernel
theorem d_Sj_push_4 : decode b_Sj_push 4 = .ok (.iload_n 1, 1) := by decide +kernel
theorem d_Sj_push_5 : decode b_Sj_push 5 = .ok (.iconst 4, 1) := by decide +kernel
theorem d_Sj_push_6 : decode b_Sj_push 6 = .ok (.invokevirtual 77, 3) := by decide +kernel
theorem d_Sj_push_9 : decode b_Sj_push 9 = .ok (.ifCond .eq 14, 3) := by decide +kernel
theorem d_Sj_push_12 : decode b_Sj_push 12 = .ok (.iload_n 2, 1) := by decide +kernel
theorem d_Sj_push_13 : decode b_Sj_push 13 = .ok (.iconst 0, 1) := by decide +kernel
theorem d_Sj_push_14 : decode b_Sj_push 14 = .ok (.iload_n 1, 1) := by decide +kernel
theorem d_Sj_push_15 : decode b_Sj_push 15 = .ok (.iconst 1, 1) := by decide +kernel
theorem d_Sj_push_16 : decode b_Sj_push 16 = .ok (.isub, 1) := by decide +kernel
theorem d_Sj_push_17 : decode b_Sj_push 17 = .ok (.invokestatic 59, 3) := by decide +kernel
theorem d_Sj_push_20 : decode b_Sj_push 20 = .ok (.ifCond .ne 13, 3) := by decide +kernel
theorem d_Sj_push_23 : decode b_Sj_push 23 = .ok (.new 46, 3) := by decide +kernel
theorem d_Sj_push_26 : decode b_Sj_push 26 = .ok (.dup, 1) := by decide +kernel
theorem d_Sj_push_27 : decode b_Sj_push 27 = .ok (.ldc 81, 2) := by decide +kernel
theorem d_Sj_push_29 : decode b_Sj_push 29 = .ok (.invokespecial 50, 3) := by decide +kernel
theorem d_Sj_push_32 : decode b_Sj_push 32 = .ok (.athrow, 1) := by decide +kernel
theorem d_Sj_push_33 : decode b_Sj_push 33 = .ok (.aload_n 0, 1) := by decide +kernel
theorem d_Sj_push_34 : decode b_Sj_push 34 = .ok (.getfield 10, 3) := by decide +kernel
theorem d_Sj_push_37 : decode b_Sj_push 37 = .ok (.iload_n 1, 1) := by decide +kernel
theorem d_Sj_push_38 : decode b_Sj_push 38 = .ok (.invokevirtual 83, 3) := by decide +kernel
theorem d_Sj_push_41 : decode b_Sj_push 41 = .ok (.bipush 8, 2) := by decide +kernel
theorem d_Sj_push_43 : decode b_Sj_push 43 = .ok (.if_icmp .lt 13, 3) := by decide +kernel
theorem d_Sj_push_46 : decode b_Sj_push 46 = .ok (.new 87, 3) := by decide +kernel
theorem d_Sj_push_49 : decode b_Sj_push 49 = .ok (.dup, 1) := by decide +kernel
theorem d_Sj_push_50 : decode b_Sj_push 50 = .ok (.ldc 89, 2) := by decide +kernel
theorem d_Sj_push_52 : decode b_Sj_push 52 = .ok (.invokespecial 91, 3) := by decide +kernel
theorem d_Sj_push_55 : decode b_Sj_push 55 = .ok (.athrow, 1) := by decide +kernel
theorem d_Sj_push_56 : decode b_Sj_push 56 = .ok (.aload_n 0, 1) := by decide +kernel
theorem d_Sj_push_57 : decode b_Sj_push 57 = .ok (.getfield 10, 3) := by decide +kernel
theorem d_Sj_push_60 : decode b_Sj_push 60 = .ok (.iload_n 1, 1) := by decide +kernel
theorem d_Sj_push_61 : decode b_Sj_push 61 = .ok (.aload_n 0, 1) := by decide +kernel
theorem d_Sj_push_62 : decode b_Sj_push 62 = .ok (.getfield 10, 3) := by decide +kernel
theorem d_Sj_push_65 : decode b_Sj_push 65 = .ok (.iload_n 1, 1) := by decide +kernel
theorem d_Sj_push_66 : decode b_Sj_push 66 = .ok (.invokevirtual 83, 3) := by decide +kernel
theorem d_Sj_push_69 : decode b_Sj_push 69 = .ok (.iload_n 2, 1) := by decide +kernel
theorem d_Sj_push_70 : decode b_Sj_push 70 = .ok (.invokevirtual 92, 3) := by decide +kernel
theorem d_Sj_push_73 : decode b_Sj_push 73 = .ok (.aload_n 0, 1) := by decide +kernel
theorem d_Sj_push_74 : decode b_Sj_push 74 = .ok (.getfield 10, 3) := by decide +kernel
theorem d_Sj_push_77 : decode b_Sj_push 77 = .ok (.iload_n 1, 1) := by decide +kernel
theorem d_Sj_push_78 : decode b_Sj_push 78 = .ok (.invokevirtual 83, 3) := by decide +kernel
theorem d_Sj_push_81 : decode b_Sj_push 81 = .ok (.ireturn, 1) := by decide +kernel
theorem d_Va_isOfKind_0 : decode b_Va_isOfKind 0 = .ok (.aload_n 0, 1) := by decide +kernel
theorem d_Va_isOfKind_1 : decode b_Va_isOfKind 1 = .ok (.iload_n 1, 1) := by decide +kernel
theorem d_Va_isOfKind_2 : decode b_Va_isOfKind 2 = .ok (.invokevirtual 30, 3) := by decide +kernel
theorem d_Va_isOfKind_5 : decode b_Va_isOfKind 5 = .ok (.ifCond .eq 17, 3) := by decide +kernel
theorem d_Va_isOfKind_8 : decode b_Va_isOfKind 8 = .ok (.aload_n 0, 1) := by decide +kernel
theorem d_Va_isOfKind_9 : decode b_Va_isOfKind 9 = .ok (.getfield 9, 3) := by decide +kernel
theorem d_Va_isOfKind_12 : decode b_Va_isOfKind 12 = .ok (.iload_n 1, 1) := by decide +kernel
theorem d_Va_isOfKind_13 : decode b_Va_isOfKind 13 = .ok (.iaload, 1) := by decide +kernel
theorem d_Va_isOfKind_14 : decode b_Va_isOfKind 14 = .ok (.iload_n 2, 1) := by decide +kernel
theorem d_Va_isOfKind_15 : decode b_Va_isOfKind 15 = .ok (.if_icmp .ne 7, 3) := by decide +kernel
theorem d_Va_isOfKind_18 : decode b_Va_isOfKind 18 = .ok (.iconst 1, 1) := by decide +kernel
theorem d_Va_isOfKind_19 : decode b_Va_isOfKind 19 = .ok (.goto 4, 3) := by decide +kernel
theorem d_Va_isOfKind_22 : decode b_Va_isOfKind 22 = .ok (.iconst 0, 1) := by decide +kernel
theorem d_Va_isOfKind_23 : decode b_Va_isOfKind 23 = .ok (.ireturn, 1) := by decide +kernel
theorem d_Va_has_0 : decode b_Va_has 0 = .ok (.iload_n 1, 1) := by decide +kernel
theorem d_Va_has_1 : decode b_Va_has 1 = .ok (.ifCond .lt 15, 3) := by decide +kernel
theorem d_Va_has_4 : decode b_Va_has 4 = .ok (.iload_n 1, 1) := by decide +kernel
theorem d_Va_has_5 : decode b_Va_has 5 = .ok (.aload_n 0, 1) := by decide +kernel
theorem d_Va_has_6 : decode b_Va_has 6 = .ok (.getfield 26, 3) := by decide +kernel
theorem d_Va_has_9 : decode b_Va_has 9 = .ok (.if_icmp .ge 7, 3) := by decide +kernel
theorem d_Va_has_12 : decode b_Va_has 12 = .ok (.iconst 1, 1) := by decide +kernel
theorem d_Va_has_13 : decode b_Va_has 13 = .ok (.goto 4, 3) := by decide +kernel
theorem d_Va_has_16 : decode b_Va_has 16 = .ok (.iconst 0, 1) := by decide +kernel
theorem d_Va_has_17 : decode b_Va_has 17 = .ok (.ireturn, 1) := by decide +kernel
theorem d_Va_sizeOf_0 : decode b_Va_sizeOf 0 = .ok (.aload_n 0, 1) := by decide +kernel
theorem d_Va_sizeOf_1 : decode b_Va_sizeOf 1 = .ok (.getfield 9, 3) := by decide +kernel
theorem d_Va_sizeOf_4 : decode b_Va_sizeOf 4 = .ok (.iload_n 1, 1) := by decide +kernel
theorem d_Va_sizeOf_5 : decode b_Va_sizeOf 5 = .ok (.iaload, 1) := by decide +kernel
theorem d_Va_sizeOf_6 : decode b_Va_sizeOf 6 = .ok (.iconst 3, 1) := by decide +kernel
theorem d_Va_sizeOf_7 : decode b_Va_sizeOf 7 = .ok (.if_icmp .ne 16, 3) := by decide +kernel
theorem d_Va_sizeOf_10 : decode b_Va_sizeOf 10 = .ok (.aload_n 0, 1) := by decide +kernel
theorem d_Va_sizeOf_11 : decode b_Va_sizeOf 11 = .ok (.getfield 13, 3) := by decide +kernel
theorem d_Va_sizeOf_14 : decode b_Va_sizeOf 14 = .ok (.iload_n 1, 1) := by decide +kernel
theorem d_Va_sizeOf_15 : decode b_Va_sizeOf 15 = .ok (.laload, 1) := by decide +kernel
theorem d_Va_sizeOf_16 : decode b_Va_sizeOf 16 = .ok (.l2i, 1) := by decide +kernel
theorem d_Va_sizeOf_17 : decode b_Va_sizeOf 17 = .ok (.invokestatic 45, 3) := by decide +kernel
theorem d_Va_sizeOf_20 : decode b_Va_sizeOf 20 = .ok (.goto 12, 3) := by decide +kernel
theorem d_Va_sizeOf_23 : decode b_Va_sizeOf 23 = .ok (.aload_n 0, 1) := by decide +kernel
theorem d_Va_sizeOf_24 : decode b_Va_sizeOf 24 = .ok (.getfield 17, 3) := by decide +kernel
theorem d_Va_sizeOf_27 : decode b_Va_sizeOf 27 = .ok (.iload_n 1, 1) := by decide +kernel
theorem d_Va_sizeOf_28 : decode b_Va_sizeOf 28 = .ok (.iaload, 1) := by decide +kernel
theorem d_Va_sizeOf_29 : decode b_Va_sizeOf 29 = .ok (.invokestatic 50, 3) := by decide +kernel
theorem d_Va_sizeOf_32 : decode b_Va_sizeOf 32 = .ok (.ireturn, 1) := by decide +kernel
theorem d_Le_count_0 : decode b_Le_count 0 = .ok (.iload_n 0, 1) := by decide +kernel
theorem d_Le_count_1 : decode b_Le_count 1 = .ok (.istore_n 1, 1) := by decide +kernel
theorem d_Le_count_2 : decode b_Le_count 2 = .ok (.iconst 0, 1) := by decide +kernel
theorem d_Le_count_3 : decode b_Le_count 3 = .ok (.istore_n 2, 1) := by decide +kernel
theorem d_Le_count_4 : decode b_Le_count 4 = .ok (.iconst 0, 1) := by decide +kernel
theorem d_Le_count_5 : decode b_Le_count 5 = .ok (.istore_n 3, 1) := by decide +kernel
theorem d_Le_count_6 : decode b_Le_count 6 = .ok (.iload_n 3, 1) := by decide +kernel
theorem d_Le_count_7 : decode b_Le_count 7 = .ok (.bipush 8, 2) := by decide +kernel
theorem d_Le_count_9 : decode b_Le_count 9 = .ok (.if_icmp .ge 20, 3) := by decide +kernel
theorem d_Le_count_12 : decode b_Le_count 12 = .ok (.iload_n 1, 1) := by decide +kernel
theorem d_Le_count_13 : decode b_Le_count 13 = .ok (.ifCond .le 16, 3) := by decide +kernel
theorem d_Le_count_16 : decode b_Le_count 16 = .ok (.iload_n 1, 1) := by decide +kernel
theorem d_Le_count_17 : decode b_Le_count 17 = .ok (.iconst 5, 1) := by decide +kernel
theorem d_Le_count_18 : decode b_Le_count 18 = .ok (.idiv, 1) := by decide +kernel
theorem d_Le_count_19 : decode b_Le_count 19 = .ok (.istore_n 1, 1) := by decide +kernel
theorem d_Le_count_20 : decode b_Le_count 20 = .ok (.iinc 2 1, 3) := by decide +kernel
theorem d_Le_count_23 : decode b_Le_count 23 = .ok (.iinc 3 1, 3) := by decide +kernel
theorem d_Le_count_26 : decode b_Le_count 26 = .ok (.goto (-20), 3) := by decide +kernel
theorem d_Le_count_29 : decode b_Le_count 29 = .ok (.iload_n 2, 1) := by decide +kernel
theorem d_Le_count_30 : decode b_Le_count 30 = .ok (.ireturn, 1) := by decide +kernel
theorem d_In_bitCount_0 : decode b_In_bitCount 0 = .ok (.iload_n 0, 1) := by decide +kernel
theorem d_In_bitCount_1 : decode b_In_bitCount 1 = .ok (.iload_n 0, 1) := by decide +kernel
theorem d_In_bitCount_2 : decode b_In_bitCount 2 = .ok (.iconst 1, 1) := by decide +kernel
theorem d_In_bitCount_3 : decode b_In_bitCount 3 = .ok (.iushr, 1) := by decide +kernel
theorem d_In_bitCount_4 : decode b_In_bitCount 4 = .ok (.ldc_w 265, 3) := by decide +kernel
theorem d_In_bitCount_7 : decode b_In_bitCount 7 = .ok (.iand, 1) := by decide +kernel
theorem d_In_bitCount_8 : decode b_In_bitCount 8 = .ok (.isub, 1) := by decide +kernel
theorem d_In_bitCount_9 : decode b_In_bitCount 9 = .ok (.istore_n 0, 1) := by decide +kernel
theorem d_In_bitCount_10 : decode b_In_bitCount 10 = .ok (.iload_n 0, 1) := by decide +kernel
theorem d_In_bitCount_11 : decode b_In_bitCount 11 = .ok (.ldc_w 266, 3) := by decide +kernel
theorem d_In_bitCount_14 : decode b_In_bitCount 14 = .ok (.iand, 1) := by decide +kernel
theorem d_In_bitCount_15 : decode b_In_bitCount 15 = .ok (.iload_n 0, 1) := by decide +kernel
theorem d_In_bitCount_16 : decode b_In_bitCount 16 = .ok (.iconst 2, 1) := by decide +kernel
theorem d_In_bitCount_17 : decode b_In_bitCount 17 = .ok (.iushr, 1) := by decide +kernel
theorem d_In_bitCount_18 : decode b_In_bitCount 18 = .ok (.ldc_w 266, 3) := by decide +kernel
theorem d_In_bitCount_21 : decode b_In_bitCount 21 = .ok (.iand, 1) := by decide +kernel
theorem d_In_bitCount_22 : decode b_In_bitCount 22 = .ok (.iadd, 1) := by decide +kernel
theorem d_In_bitCount_23 : decode b_In_bitCount 23 = .ok (.istore_n 0, 1) := by decide +kernel
theorem d_In_bitCount_24 : decode b_In_bitCount 24 = .ok (.iload_n 0, 1) := by decide +kernel
theorem d_In_bitCount_25 : decode b_In_bitCount 25 = .ok (.iload_n 0, 1) := by decide +kernel
theorem d_In_bitCount_26 : decode b_In_bitCount 26 = .ok (.iconst 4, 1) := by decide +kernel
theorem d_In_bitCount_27 : decode b_In_bitCount 27 = .ok (.iushr, 1) := by decide +kernel
theorem d_In_bitCount_28 : decode b_In_bitCount 28 = .ok (.iadd, 1) := by decide +kernel
theorem d_In_bitCount_29 : decode b_In_bitCount 29 = .ok (.ldc_w 267, 3) := by decide +kernel
theorem d_In_bitCount_32 : decode b_In_bitCount 32 = .ok (.iand, 1) := by decide +kernel
theorem d_In_bitCount_33 : decode b_In_bitCount 33 = .ok (.istore_n 0, 1) := by decide +kernel
theorem d_In_bitCount_34 : decode b_In_bitCount 34 = .ok (.iload_n 0, 1) := by decide +kernel
theorem d_In_bitCount_35 : decode b_In_bitCount 35 = .ok (.iload_n 0, 1) := by decide +kernel
theorem d_In_bitCount_36 : decode b_In_bitCount 36 = .ok (.bipush 8, 2) := by decide +kernel
theorem d_In_bitCount_38 : decode b_In_bitCount 38 = .ok (.iushr, 1) := by decide +kernel
theorem d_In_bitCount_39 : decode b_In_bitCount 39 = .ok (.iadd, 1) := by decide +kernel
theorem d_In_bitCount_40 : decode b_In_bitCount 40 = .ok (.istore_n 0, 1) := by decide +kernel
theorem d_In_bitCount_41 : decode b_In_bitCount 41 = .ok (.iload_n 0, 1) := by decide +kernel
theorem d_In_bitCount_42 : decode b_In_bitCount 42 = .ok (.iload_n 0, 1) := by decide +kernel
theorem d_In_bitCount_43 : decode b_In_bitCount 43 = .ok (.bipush 16, 2) := by decide +kernel
theorem d_In_bitCount_45 : decode b_In_bitCount 45 = .ok (.iushr, 1) := by decide +kernel
theorem d_In_bitCount_46 : decode b_In_bitCount 46 = .ok (.iadd, 1) := by decide +kernel
theorem d_In_bitCount_47 : decode b_In_bitCount 47 = .ok (.istore_n 0, 1) := by decide +kernel
theorem d_In_bitCount_48 : decode b_In_bitCount 48 = .ok (.iload_n 0, 1) := by decide +kernel
theorem d_In_bitCount_49 : decode b_In_bitCount 49 = .ok (.bipush 63, 2) := by decide +kernel
theorem d_In_bitCount_51 : decode b_In_bitCount 51 = .ok (.iand, 1) := by decide +kernel
theorem d_In_bitCount_52 : decode b_In_bitCount 52 = .ok (.ireturn, 1) := by decide +kernel
theorem d_Va_setPart_0 : decode b_Va_setPart 0 = .ok (.aload_n 0, 1) := by decide +kernel
theorem d_Va_setPart_1 : decode b_Va_setPart 1 = .ok (.getfield 20, 3) := by decide +kernel
theorem d_Va_setPart_4 : decode b_Va_setPart 4 = .ok (.iload_n 1, 1) := by decide +kernel
theorem d_Va_setPart_5 : decode b_Va_setPart 5 = .ok (.bipush 12, 2) := by decide +kernel
theorem d_Va_setPart_7 : decode b_Va_setPart 7 = .ok (.imul, 1) := by decide +kernel
theorem d_Va_setPart_8 : decode b_Va_setPart 8 = .ok (.iload_n 2, 1) := by decide +kernel
theorem d_Va_setPart_9 : decode b_Va_setPart 9 = .ok (.iadd, 1) := by decide +kernel
theorem d_Va_setPart_10 : decode b_Va_setPart 10 = .ok (.iload_n 3, 1) := by decide +kernel
theorem d_Va_setPart_11 : decode b_Va_setPart 11 = .ok (.iastore, 1) := by decide +kernel
theorem d_Va_setPart_12 : decode b_Va_setPart 12 = .ok (.aload_n 0, 1) := by decide +kernel
theorem d_Va_setPart_13 : decode b_Va_setPart 13 = .ok (.getfield 17, 3) := by decide +kernel
theorem d_Va_setPart_16 : decode b_Va_setPart 16 = .ok (.iload_n 1, 1) := by decide +kernel
theorem d_Va_setPart_17 : decode b_Va_setPart 17 = .ok (.dup2, 1) := by decide +kernel
theorem d_Va_setPart_18 : decode b_Va_setPart 18 = .ok (.iaload, 1) := by decide +kernel
theorem d_Va_setPart_19 : decode b_Va_setPart 19 = .ok (.iconst 1, 1) := by decide +kernel
theorem d_Va_setPart_20 : decode b_Va_setPart 20 = .ok (.iload_n 2, 1) := by decide +kernel
theorem d_Va_setPart_21 : decode b_Va_setPart 21 = .ok (.ishl, 1) := by decide +kernel
theorem d_Va_setPart_22 : decode b_Va_setPart 22 = .ok (.ior, 1) := by decide +kernel
theorem d_Va_setPart_23 : decode b_Va_setPart 23 = .ok (.iastore, 1) := by decide +kernel
theorem d_Va_setPart_24 : decode b_Va_setPart 24 = .ok (.aload_n 0, 1) := by decide +kernel
theorem d_Va_setPart_25 : decode b_Va_setPart 25 = .ok (.aload_n 0, 1) := by decide +kernel
theorem d_Va_setPart_26 : decode b_Va_setPart 26 = .ok (.getfield 34, 3) := by decide +kernel
theorem d_Va_setPart_29 : decode b_Va_setPart 29 = .ok (.iload_n 1, 1) := by decide +kernel
theorem d_Va_setPart_30 : decode b_Va_setPart 30 = .ok (.invokestatic 37, 3) := by decide +kernel
theorem d_Va_setPart_33 : decode b_Va_setPart 33 = .ok (.putfield 34, 3) := by decide +kernel
theorem d_Va_setPart_36 : decode b_Va_setPart 36 = .ok (.return_, 1) := by decide +kernel
theorem d_Ma_min_0 : decode b_Ma_min 0 = .ok (.iload_n 0, 1) := by decide +kernel
theorem d_Ma_min_1 : decode b_Ma_min 1 = .ok (.iload_n 1, 1) := by decide +kernel
theorem d_Ma_min_2 : decode b_Ma_min 2 = .ok (.if_icmp .gt 7, 3) := by decide +kernel
theorem d_Ma_min_5 : decode b_Ma_min 5 = .ok (.iload_n 0, 1) := by decide +kernel
theorem d_Ma_min_6 : decode b_Ma_min 6 = .ok (.goto 4, 3) := by decide +kernel
theorem d_Ma_min_9 : decode b_Ma_min 9 = .ok (.iload_n 1, 1) := by decide +kernel
theorem d_Ma_min_10 : decode b_Ma_min 10 = .ok (.ireturn, 1) := by decide +kernel
theorem d_Sj_put_0 : decode b_Sj_put 0 = .ok (.aload_n 0, 1) := by decide +kernel
theorem d_Sj_put_1 : decode b_Sj_put 1 = .ok (.getfield 10, 3) := by decide +kernel
theorem d_Sj_put_4 : decode b_Sj_put 4 = .ok (.iload_n 1, 1) := by decide +kernel
theorem d_Sj_put_5 : decode b_Sj_put 5 = .ok (.iconst 5, 1) := by decide +kernel
theorem d_Sj_put_6 : decode b_Sj_put 6 = .ok (.invokevirtual 77, 3) := by decide +kernel
theorem d_Sj_put_9 : decode b_Sj_put 9 = .ok (.ifCond .eq 21, 3) := by decide +kernel
theorem d_Sj_put_12 : decode b_Sj_put 12 = .ok (.iload_n 2, 1) := by decide +kernel
theorem d_Sj_put_13 : decode b_Sj_put 13 = .ok (.invokestatic 96, 3) := by decide +kernel
theorem d_Sj_put_16 : decode b_Sj_put 16 = .ok (.ifCond .eq 14, 3) := by decide +kernel
theorem d_Sj_put_19 : decode b_Sj_put 19 = .ok (.iload_n 3, 1) := by decide +kernel
theorem d_Sj_put_20 : decode b_Sj_put 20 = .ok (.iconst 0, 1) := by decide +kernel
theorem d_Sj_put_21 : decode b_Sj_put 21 = .ok (.iload_n 1, 1) := by decide +kernel
theorem d_Sj_put_22 : decode b_Sj_put 22 = .ok (.iconst 1, 1) := by decide +kernel
theorem d_Sj_put_23 : decode b_Sj_put 23 = .ok (.isub, 1) := by decide +kernel
theorem d_Sj_put_24 : decode b_Sj_put 24 = .ok (.invokestatic 59, 3) := by decide +kernel
theorem d_Sj_put_27 : decode b_Sj_put 27 = .ok (.ifCond .ne 13, 3) := by decide +kernel
theorem d_Sj_put_30 : decode b_Sj_put 30 = .ok (.new 46, 3) := by decide +kernel
theorem d_Sj_put_33 : decode b_Sj_put 33 = .ok (.dup, 1) := by decide +kernel
theorem d_Sj_put_34 : decode b_Sj_put 34 = .ok (.ldc 99, 2) := by decide +kernel
theorem d_Sj_put_36 : decode b_Sj_put 36 = .ok (.invokespecial 50, 3) := by decide +kernel
theorem d_Sj_put_39 : decode b_Sj_put 39 = .ok (.athrow, 1) := by decide +kernel
theorem d_Sj_put_40 : decode b_Sj_put 40 = .ok (.aload_n 0, 1) := by decide +kernel
theorem d_Sj_put_41 : decode b_Sj_put 41 = .ok (.getfield 10, 3) := by decide +kernel
theorem d_Sj_put_44 : decode b_Sj_put 44 = .ok (.iload_n 1, 1) := by decide +kernel
theorem d_Sj_put_45 : decode b_Sj_put 45 = .ok (.iload_n 2, 1) := by decide +kernel
theorem d_Sj_put_46 : decode b_Sj_put 46 = .ok (.iload_n 3, 1) := by decide +kernel
theorem d_Sj_put_47 : decode b_Sj_put 47 = .ok (.invokevirtual 92, 3) := by decide +kernel
theorem d_Sj_put_50 : decode b_Sj_put 50 = .ok (.return_, 1) := by decide +kernel
theorem d_Sj_isName_0 : decode b_Sj_isName 0 = .ok (.iload_n 0, 1) := by decide +kernel
theorem d_Sj_isName_1 : decode b_Sj_isName 1 = .ok (.iconst 0, 1) := by decide +kernel
theorem d_Sj_isName_2 : decode b_Sj_isName 2 = .ok (.bipush 11, 2) := by decide +kernel
theorem d_Sj_isName_4 : decode b_Sj_isName 4 = .ok (.invokestatic 59, 3) := by decide +kernel
theorem d_Sj_isName_7 : decode b_Sj_isName 7 = .ok (.ireturn, 1) := by decide +kernel
theorem d_Sj_item_0 : decode b_Sj_item 0 = .ok (.iload_n 2, 1) := by decide +kernel
theorem d_Sj_item_1 : decode b_Sj_item 1 = .ok (.iconst 0, 1) := by decide +kernel
theorem d_Sj_item_2 : decode b_Sj_item 2 = .ok (.bipush 15, 2) := by decide +kernel
theorem d_Sj_item_4 : decode b_Sj_item 4 = .ok (.invokestatic 59, 3) := by decide +kernel
theorem d_Sj_item_7 : decode b_Sj_item 7 = .ok (.ifCond .eq 16, 3) := by decide +kernel
theorem d_Sj_item_10 : decode b_Sj_item 10 = .ok (.iload_n 3, 1) := by decide +kernel
theorem d_Sj_item_11 : decode b_Sj_item 11 = .ok (.iconst 0, 1) := by decide +kernel
theorem d_Sj_item_12 : decode b_Sj_item 12 = .ok (.iconst 3, 1) := by decide +kernel
theorem d_Sj_item_13 : decode b_Sj_item 13 = .ok (.invokestatic 59, 3) := by decide +kernel
theorem d_Sj_item_16 : decode b_Sj_item 16 = .ok (.ifCond .eq 7, 3) := by decide +kernel
theorem d_Sj_item_19 : decode b_Sj_item 19 = .ok (.iconst 1, 1) := by decide +kernel
theorem d_Sj_item_20 : decode b_Sj_item 20 = .ok (.goto 4, 3) := by decide +kernel
theorem d_Sj_item_23 : decode b_Sj_item 23 = .ok (.iconst 0, 1) := by decide +kernel
theorem d_Sj_item_24 : decode b_Sj_item 24 = .ok (.istore 4, 2) := by decide +kernel
theorem d_Sj_item_26 : decode b_Sj_item 26 = .ok (.aload_n 0, 1) := by decide +kernel
theorem d_Sj_item_27 : decode b_Sj_item 27 = .ok (.getfield 19, 3) := by decide +kernel
theorem d_Sj_item_30 : decode b_Sj_item 30 = .ok (.iload_n 1, 1) := by decide +kernel
theorem d_Sj_item_31 : decode b_Sj_item 31 = .ok (.invokevirtual 101, 3) := by decide +kernel
theorem d_Sj_item_34 : decode b_Sj_item 34 = .ok (.ifCond .eq 8, 3) := by decide +kernel
theorem d_Sj_item_37 : decode b_Sj_item 37 = .ok (.iload 4, 2) := by decide +kernel
theorem d_Sj_item_39 : decode b_Sj_item 39 = .ok (.ifCond .ne 13, 3) := by decide +kernel
theorem d_Sj_item_42 : decode b_Sj_item 42 = .ok (.new 46, 3) := by decide +kernel
theorem d_Sj_item_45 : decode b_Sj_item 45 = .ok (.dup, 1) := by decide +kernel
theorem d_Sj_item_46 : decode b_Sj_item 46 = .ok (.ldc 104, 2) := by decide +kernel
theorem d_Sj_item_48 : decode b_Sj_item 48 = .ok (.invokespecial 50, 3) := by decide +kernel
theorem d_Sj_item_51 : decode b_Sj_item 51 = .ok (.athrow, 1) := by decide +kernel
theorem d_Sj_item_52 : decode b_Sj_item 52 = .ok (.aload_n 0, 1) := by decide +kernel
theorem d_Sj_item_53 : decode b_Sj_item 53 = .ok (.getfield 19, 3) := by decide +kernel
theorem d_Sj_item_56 : decode b_Sj_item 56 = .ok (.iload_n 1, 1) := by decide +kernel
theorem d_Sj_item_57 : decode b_Sj_item 57 = .ok (.invokevirtual 106, 3) := by decide +kernel
theorem d_Sj_item_60 : decode b_Sj_item 60 = .ok (.ifCond .eq 13, 3) := by decide +kernel
theorem d_Sj_item_63 : decode b_Sj_item 63 = .ok (.new 87, 3) := by decide +kernel
theorem d_Sj_item_66 : decode b_Sj_item 66 = .ok (.dup, 1) := by decide +kernel
theorem d_Sj_item_67 : decode b_Sj_item 67 = .ok (.ldc 109, 2) := by decide +kernel
theorem d_Sj_item_69 : decode b_Sj_item 69 = .ok (.invokespecial 91, 3) := by decide +kernel
theorem d_Sj_item_72 : decode b_Sj_item 72 = .ok (.athrow, 1) := by decide +kernel
theorem d_Sj_item_73 : decode b_Sj_item 73 = .ok (.aload_n 0, 1) := by decide +kernel
theorem d_Sj_item_74 : decode b_Sj_item 74 = .ok (.getfield 19, 3) := by decide +kernel
theorem d_Sj_item_77 : decode b_Sj_item 77 = .ok (.iload_n 1, 1) := by decide +kernel
theorem d_Sj_item_78 : decode b_Sj_item 78 = .ok (.iload_n 2, 1) := by decide +kernel
theorem d_Sj_item_79 : decode b_Sj_item 79 = .ok (.iload_n 3, 1) := by decide +kernel
theorem d_Sj_item_80 : decode b_Sj_item 80 = .ok (.invokevirtual 111, 3) := by decide +kernel
theorem d_Sj_item_83 : decode b_Sj_item 83 = .ok (.ireturn, 1) := by decide +kernel
theorem d_Pa_has_0 : decode b_Pa_has 0 = .ok (.iload_n 1, 1) := by decide +kernel
theorem d_Pa_has_1 : decode b_Pa_has 1 = .ok (.ifCond .lt 13, 3) := by decide +kernel
theorem d_Pa_has_4 : decode b_Pa_has 4 = .ok (.iload_n 1, 1) := by decide +kernel
theorem d_Pa_has_5 : decode b_Pa_has 5 = .ok (.bipush 8, 2) := by decide +kernel
theorem d_Pa_has_7 : decode b_Pa_has 7 = .ok (.if_icmp .ge 7, 3) := by decide +kernel
theorem d_Pa_has_10 : decode b_Pa_has 10 = .ok (.iconst 1, 1) := by decide +kernel
theorem d_Pa_has_11 : decode b_Pa_has 11 = .ok (.goto 4, 3) := by decide +kernel
theorem d_Pa_has_14 : decode b_Pa_has 14 = .ok (.iconst 0, 1) := by decide +kernel
theorem d_Pa_has_15 : decode b_Pa_has 15 = .ok (.ireturn, 1) := by decide +kernel
theorem d_Pa_isFull_0 : decode b_Pa_isFull 0 = .ok (.aload_n 0, 1) := by decide +kernel
theorem d_Pa_isFull_1 : decode b_Pa_isFull 1 = .ok (.getfield 9, 3) := by decide +kernel
theorem d_Pa_isFull_4 : decode b_Pa_isFull 4 = .ok (.iload_n 1, 1) := by decide +kernel
theorem d_Pa_isFull_5 : decode b_Pa_isFull 5 = .ok (.iaload, 1) := by decide +kernel
theorem d_Pa_isFull_6 : decode b_Pa_isFull 6 = .ok (.bipush 6, 2) := by decide +kernel
theorem d_Pa_isFull_8 : decode b_Pa_isFull 8 = .ok (.if_icmp .lt 7, 3) := by decide +kernel
theorem d_Pa_isFull_11 : decode b_Pa_isFull 11 = .ok (.iconst 1, 1) := by decide +kernel
theorem d_Pa_isFull_12 : decode b_Pa_isFull 12 = .ok (.goto 4, 3) := by decide +kernel
theorem d_Pa_isFull_15 : decode b_Pa_isFull 15 = .ok (.iconst 0, 1) := by decide +kernel
theorem d_Pa_isFull_16 : decode b_Pa_isFull 16 = .ok (.ireturn, 1) := by decide +kernel
theorem d_Pa_addItem_0 : decode b_Pa_addItem 0 = .ok (.aload_n 0, 1) := by decide +kernel
theorem d_Pa_addItem_1 : decode b_Pa_addItem 1 = .ok (.getfield 13, 3) := by decide +kernel
theorem d_Pa_addItem_4 : decode b_Pa_addItem 4 = .ok (.iload_n 1, 1) := by decide +kernel
theorem d_Pa_addItem_5 : decode b_Pa_addItem 5 = .ok (.bipush 6, 2) := by decide +kernel
theorem d_Pa_addItem_7 : decode b_Pa_addItem 7 = .ok (.imul, 1) := by decide +kernel
theorem d_Pa_addItem_8 : decode b_Pa_addItem 8 = .ok (.aload_n 0, 1) := by decide +kernel
theorem d_Pa_addItem_9 : decode b_Pa_addItem 9 = .ok (.getfield 9, 3) := by decide +kernel
theorem d_Pa_addItem_12 : decode b_Pa_addItem 12 = .ok (.iload_n 1, 1) := by decide +kernel
theorem d_Pa_addItem_13 : decode b_Pa_addItem 13 = .ok (.iaload, 1) := by decide +kernel
theorem d_Pa_addItem_14 : decode b_Pa_addItem 14 = .ok (.iadd, 1) := by decide +kernel
theorem d_Pa_addItem_15 : decode b_Pa_addItem 15 = .ok (.iload_n 2, 1) := by decide +kernel
theorem d_Pa_addItem_16 : decode b_Pa_addItem 16 = .ok (.iastore, 1) := by decide +kernel
theorem d_Pa_addItem_17 : decode b_Pa_addItem 17 = .ok (.aload_n 0, 1) := by decide +kernel
theorem d_Pa_addItem_18 : decode b_Pa_addItem 18 = .ok (.getfield 16, 3) := by decide +kernel
theorem d_Pa_addItem_21 : decode b_Pa_addItem 21 = .ok (.iload_n 1, 1) := by decide +kernel
theorem d_Pa_addItem_22 : decode b_Pa_addItem 22 = .ok (.bipush 6, 2) := by decide +kernel
theorem d_Pa_addItem_24 : decode b_Pa_addItem 24 = .ok (.imul, 1) := by decide +kernel
theorem d_Pa_addItem_25 : decode b_Pa_addItem 25 = .ok (.aload_n 0, 1) := by decide +kernel
theorem d_Pa_addItem_26 : decode b_Pa_addItem 26 = .ok (.getfield 9, 3) := by decide +kernel
theorem d_Pa_addItem_29 : decode b_Pa_addItem 29 = .ok (.iload_n 1, 1) := by decide +kernel
theorem d_Pa_addItem_30 : decode b_Pa_addItem 30 = .ok (.iaload, 1) := by decide +kernel
theorem d_Pa_addItem_31 : decode b_Pa_addItem 31 = .ok (.iadd, 1) := by decide +kernel
theorem d_Pa_addItem_32 : decode b_Pa_addItem 32 = .ok (.iload_n 3, 1) := by decide +kernel
theorem d_Pa_addItem_33 : decode b_Pa_addItem 33 = .ok (.iastore, 1) := by decide +kernel
theorem d_Pa_addItem_34 : decode b_Pa_addItem 34 = .ok (.aload_n 0, 1) := by decide +kernel
theorem d_Pa_addItem_35 : decode b_Pa_addItem 35 = .ok (.getfield 9, 3) := by decide +kernel
theorem d_Pa_addItem_38 : decode b_Pa_addItem 38 = .ok (.iload_n 1, 1) := by decide +kernel
theorem d_Pa_addItem_39 : decode b_Pa_addItem 39 = .ok (.dup2, 1) := by decide +kernel
theorem d_Pa_addItem_40 : decode b_Pa_addItem 40 = .ok (.iaload, 1) := by decide +kernel
theorem d_Pa_addItem_41 : decode b_Pa_addItem 41 = .ok (.iconst 1, 1) := by decide +kernel
theorem d_Pa_addItem_42 : decode b_Pa_addItem 42 = .ok (.iadd, 1) := by decide +kernel
theorem d_Pa_addItem_43 : decode b_Pa_addItem 43 = .ok (.iastore, 1) := by decide +kernel
theorem d_Pa_addItem_44 : decode b_Pa_addItem 44 = .ok (.aload_n 0, 1) := by decide +kernel
theorem d_Pa_addItem_45 : decode b_Pa_addItem 45 = .ok (.getfield 9, 3) := by decide +kernel
theorem d_Pa_addItem_48 : decode b_Pa_addItem 48 = .ok (.iload_n 1, 1) := by decide +kernel
theorem d_Pa_addItem_49 : decode b_Pa_addItem 49 = .ok (.iaload, 1) := by decide +kernel
theorem d_Pa_addItem_50 : decode b_Pa_addItem 50 = .ok (.ireturn, 1) := by decide +kernel
theorem d_Sj_bind_0 : decode b_Sj_bind 0 = .ok (.aload_n 0, 1) := by decide +kernel
theorem d_Sj_bind_1 : decode b_Sj_bind 1 = .ok (.getfield 19, 3) := by decide +kernel
theorem d_Sj_bind_4 : decode b_Sj_bind 4 = .ok (.iload_n 1, 1) := by decide +kernel
theorem d_Sj_bind_5 : decode b_Sj_bind 5 = .ok (.invokevirtual 101, 3) := by decide +kernel
theorem d_Sj_bind_8 : decode b_Sj_bind 8 = .ok (.ifCond .ne 13, 3) := by decide +kernel
theorem d_Sj_bind_11 : decode b_Sj_bind 11 = .ok (.new 46, 3) := by decide +kernel
theorem d_Sj_bind_14 : decode b_Sj_bind 14 = .ok (.dup, 1) := by decide +kernel
theorem d_Sj_bind_15 : decode b_Sj_bind 15 = .ok (.ldc 115, 2) := by decide +kernel
theorem d_Sj_bind_17 : decode b_Sj_bind 17 = .ok (.invokespecial 50, 3) := by decide +kernel
theorem d_Sj_bind_20 : decode b_Sj_bind 20 = .ok (.athrow, 1) := by decide +kernel
theorem d_Sj_bind_21 : decode b_Sj_bind 21 = .ok (.aload_n 0, 1) := by decide +kernel
theorem d_Sj_bind_22 : decode b_Sj_bind 22 = .ok (.getfield 19, 3) := by decide +kernel
theorem d_Sj_bind_25 : decode b_Sj_bind 25 = .ok (.iload_n 1, 1) := by decide +kernel
theorem d_Sj_bind_26 : decode b_Sj_bind 26 = .ok (.iload_n 2, 1) := by decide +kernel
theorem d_Sj_bind_27 : decode b_Sj_bind 27 = .ok (.iload_n 3, 1) := by decide +kernel
theorem d_Sj_bind_28 : decode b_Sj_bind 28 = .ok (.invokevirtual 117, 3) := by decide +kernel
theorem d_Sj_bind_31 : decode b_Sj_bind 31 = .ok (.return_, 1) := by decide +kernel
theorem d_Pa_setBounds_0 : decode b_Pa_setBounds 0 = .ok (.aload_n 0, 1) := by decide +kernel
theorem d_Pa_setBounds_1 : decode b_Pa_setBounds 1 = .ok (.getfield 19, 3) := by decide +kernel
theorem d_Pa_setBounds_4 : decode b_Pa_setBounds 4 = .ok (.iload_n 1, 1) := by decide +kernel
theorem d_Pa_setBounds_5 : decode b_Pa_setBounds 5 = .ok (.iload_n 2, 1) := by decide +kernel
theorem d_Pa_setBounds_6 : decode b_Pa_setBounds 6 = .ok (.bastore, 1) := by decide +kernel
theorem d_Pa_setBounds_7 : decode b_Pa_setBounds 7 = .ok (.aload_n 0, 1) := by decide +kernel
theorem d_Pa_setBounds_8 : decode b_Pa_setBounds 8 = .ok (.getfield 23, 3) := by decide +kernel
theorem d_Pa_setBounds_11 : decode b_Pa_setBounds 11 = .ok (.iload_n 1, 1) := by decide +kernel
theorem d_Pa_setBounds_12 : decode b_Pa_setBounds 12 = .ok (.iload_n 3, 1) := by decide +kernel
theorem d_Pa_setBounds_13 : decode b_Pa_setBounds 13 = .ok (.bastore, 1) := by decide +kernel
theorem d_Pa_setBounds_14 : decode b_Pa_setBounds 14 = .ok (.return_, 1) := by decide +kernel
theorem d_Sj_schema_0 : decode b_Sj_schema 0 = .ok (.aload_n 0, 1) := by decide +kernel
theorem d_Sj_schema_1 : decode b_Sj_schema 1 = .ok (.getfield 26, 3) := by decide +kernel
theorem d_Sj_schema_4 : decode b_Sj_schema 4 = .ok (.invokevirtual 121, 3) := by decide +kernel
theorem d_Sj_schema_7 : decode b_Sj_schema 7 = .ok (.ifCond .eq 13, 3) := by decide +kernel
theorem d_Sj_schema_10 : decode b_Sj_schema 10 = .ok (.new 87, 3) := by decide +kernel
theorem d_Sj_schema_13 : decode b_Sj_schema 13 = .ok (.dup, 1) := by decide +kernel
theorem d_Sj_schema_14 : decode b_Sj_schema 14 = .ok (.ldc 125, 2) := by decide +kernel
theorem d_Sj_schema_16 : decode b_Sj_schema 16 = .ok (.invokespecial 91, 3) := by decide +kernel
theorem d_Sj_schema_19 : decode b_Sj_schema 19 = .ok (.athrow, 1) := by decide +kernel
theorem d_Sj_schema_20 : decode b_Sj_schema 20 = .ok (.aload_n 0, 1) := by decide +kernel
theorem d_Sj_schema_21 : decode b_Sj_schema 21 = .ok (.getfield 26, 3) := by decide +kernel
theorem d_Sj_schema_24 : decode b_Sj_schema 24 = .ok (.invokevirtual 127, 3) := by decide +kernel
theorem d_Sj_schema_27 : decode b_Sj_schema 27 = .ok (.ireturn, 1) := by decide +kernel
theorem d_Sc_areFull_0 : decode b_Sc_areFull 0 = .ok (.aload_n 0, 1) := by decide +kernel
theorem d_Sc_areFull_1 : decode b_Sc_areFull 1 = .ok (.getfield 38, 3) := by decide +kernel
theorem d_Sc_areFull_4 : decode b_Sc_areFull 4 = .ok (.bipush 24, 2) := by decide +kernel
theorem d_Sc_areFull_6 : decode b_Sc_areFull 6 = .ok (.if_icmp .lt 7, 3) := by decide +kernel
theorem d_Sc_areFull_9 : decode b_Sc_areFull 9 = .ok (.iconst 1, 1) := by decide +kernel
theorem d_Sc_areFull_10 : decode b_Sc_areFull 10 = .ok (.goto 4, 3) := by decide +kernel
theorem d_Sc_areFull_13 : decode b_Sc_areFull 13 = .ok (.iconst 0, 1) := by decide +kernel
theorem d_Sc_areFull_14 : decode b_Sc_areFull 14 = .ok (.ireturn, 1) := by decide +kernel
theorem d_Sc_add_0 : decode b_Sc_add 0 = .ok (.aload_n 0, 1) := by decide +kernel
theorem d_Sc_add_1 : decode b_Sc_add 1 = .ok (.dup, 1) := by decide +kernel
theorem d_Sc_add_2 : decode b_Sc_add 2 = .ok (.getfield 38, 3) := by decide +kernel
theorem d_Sc_add_5 : decode b_Sc_add 5 = .ok (.iconst 1, 1) := by decide +kernel
theorem d_Sc_add_6 : decode b_Sc_add 6 = .ok (.iadd, 1) := by decide +kernel
theorem d_Sc_add_7 : decode b_Sc_add 7 = .ok (.putfield 38, 3) := by decide +kernel
theorem d_Sc_add_10 : decode b_Sc_add 10 = .ok (.aload_n 0, 1) := by decide +kernel
theorem d_Sc_add_11 : decode b_Sc_add 11 = .ok (.getfield 38, 3) := by decide +kernel
theorem d_Sc_add_14 : decode b_Sc_add 14 = .ok (.iconst 1, 1) := by decide +kernel
theorem d_Sc_add_15 : decode b_Sc_add 15 = .ok (.isub, 1) := by decide +kernel
theorem d_Sc_add_16 : decode b_Sc_add 16 = .ok (.ireturn, 1) := by decide +kernel
theorem d_Sj_rule_0 : decode b_Sj_rule 0 = .ok (.aload_n 0, 1) := by decide +kernel
theorem d_Sj_rule_1 : decode b_Sj_rule 1 = .ok (.getfield 26, 3) := by decide +kernel
theorem d_Sj_rule_4 : decode b_Sj_rule 4 = .ok (.iload_n 1, 1) := by decide +kernel
theorem d_Sj_rule_5 : decode b_Sj_rule 5 = .ok (.invokevirtual 131, 3) := by decide +kernel
theorem d_Sj_rule_8 : decode b_Sj_rule 8 = .ok (.ifCond .eq 13, 3) := by decide +kernel
theorem d_Sj_rule_11 : decode b_Sj_rule 11 = .ok (.iload_n 2, 1) := by decide +kernel
theorem d_Sj_rule_12 : decode b_Sj_rule 12 = .ok (.iconst 0, 1) := by decide +kernel
theorem d_Sj_rule_13 : decode b_Sj_rule 13 = .ok (.bipush 28, 2) := by decide +kernel
theorem d_Sj_rule_15 : decode b_Sj_rule 15 = .ok (.invokestatic 59, 3) := by decide +kernel
theorem d_Sj_rule_18 : decode b_Sj_rule 18 = .ok (.ifCond .ne 13, 3) := by decide +kernel
theorem d_Sj_rule_21 : decode b_Sj_rule 21 = .ok (.new 46, 3) := by decide +kernel
theorem d_Sj_rule_24 : decode b_Sj_rule 24 = .ok (.dup, 1) := by decide +kernel
theorem d_Sj_rule_25 : decode b_Sj_rule 25 = .ok (.ldc 134, 2) := by decide +kernel
theorem d_Sj_rule_27 : decode b_Sj_rule 27 = .ok (.invokespecial 50, 3) := by decide +kernel
theorem d_Sj_rule_30 : decode b_Sj_rule 30 = .ok (.athrow, 1) := by decide +kernel
theorem d_Sj_rule_31 : decode b_Sj_rule 31 = .ok (.iload_n 3, 1) := by decide +kernel
theorem d_Sj_rule_32 : decode b_Sj_rule 32 = .ok (.iconst (-1), 1) := by decide +kernel
theorem d_Sj_rule_33 : decode b_Sj_rule 33 = .ok (.if_icmp .eq 22, 3) := by decide +kernel
theorem d_Sj_rule_36 : decode b_Sj_rule 36 = .ok (.aload_n 0, 1) := by decide +kernel
theorem d_Sj_rule_37 : decode b_Sj_rule 37 = .ok (.iload_n 2, 1) := by decide +kernel
theorem d_Sj_rule_38 : decode b_Sj_rule 38 = .ok (.iload_n 3, 1) := by decide +kernel
theorem d_Sj_rule_39 : decode b_Sj_rule 39 = .ok (.invokevirtual 136, 3) := by decide +kernel
theorem d_Sj_rule_42 : decode b_Sj_rule 42 = .ok (.ifCond .ne 13, 3) := by decide +kernel
theorem d_Sj_rule_45 : decode b_Sj_rule 45 = .ok (.new 46, 3) := by decide +kernel
theorem d_Sj_rule_48 : decode b_Sj_rule 48 = .ok (.dup, 1) := by decide +kernel
theorem d_Sj_rule_49 : decode b_Sj_rule 49 = .ok (.ldc 139, 2) := by decide +kernel
theorem d_Sj_rule_51 : decode b_Sj_rule 51 = .ok (.invokespecial 50, 3) := by decide +kernel
theorem d_Sj_rule_54 : decode b_Sj_rule 54 = .ok (.athrow, 1) := by decide +kernel
theorem d_Sj_rule_55 : decode b_Sj_rule 55 = .ok (.aload_n 0, 1) := by decide +kernel
theorem d_Sj_rule_56 : decode b_Sj_rule 56 = .ok (.getfield 26, 3) := by decide +kernel
theorem d_Sj_rule_59 : decode b_Sj_rule 59 = .ok (.iload_n 1, 1) := by decide +kernel
theorem d_Sj_rule_60 : decode b_Sj_rule 60 = .ok (.iload_n 2, 1) := by decide +kernel
theorem d_Sj_rule_61 : decode b_Sj_rule 61 = .ok (.iload_n 3, 1) := by decide +kernel
theorem d_Sj_rule_62 : decode b_Sj_rule 62 = .ok (.invokevirtual 141, 3) := by decide +kernel
theorem d_Sj_rule_65 : decode b_Sj_rule 65 = .ok (.return_, 1) := by decide +kernel
theorem d_Sc_has_0 : decode b_Sc_has 0 = .ok (.iload_n 1, 1) := by decide +kernel
theorem d_Sc_has_1 : decode b_Sc_has 1 = .ok (.ifCond .lt 15, 3) := by decide +kernel
theorem d_Sc_has_4 : decode b_Sc_has 4 = .ok (.iload_n 1, 1) := by decide +kernel
theorem d_Sc_has_5 : decode b_Sc_has 5 = .ok (.aload_n 0, 1) := by decide +kernel
theorem d_Sc_has_6 : decode b_Sc_has 6 = .ok (.getfield 38, 3) := by decide +kernel
theorem d_Sc_has_9 : decode b_Sc_has 9 = .ok (.if_icmp .ge 7, 3) := by decide +kernel
theorem d_Sc_has_12 : decode b_Sc_has 12 = .ok (.iconst 1, 1) := by decide +kernel
theorem d_Sc_has_13 : decode b_Sc_has 13 = .ok (.goto 4, 3) := by decide +kernel
theorem d_Sc_has_16 : decode b_Sc_has 16 = .ok (.iconst 0, 1) := by decide +kernel
theorem d_Sc_has_17 : decode b_Sc_has 17 = .ok (.ireturn, 1) := by decide +kernel
theorem d_Sj_isTaken_0 : decode b_Sj_isTaken 0 = .ok (.iload_n 1, 1) := by decide +kernel
theorem d_Sj_isTaken_1 : decode b_Sj_isTaken 1 = .ok (.tableswitch 220 0 25 #[119, 127, 136, 146, 146, 146, 146, 156, 187, 187, 195, 187, 187, 204, 187, 187, 211, 220, 220, 220, 220, 220, 220, 220, 187, 187], 119) := by decide +kernel
theorem d_Sj_isTaken_120 : decode b_Sj_isTaken 120 = .ok (.iload_n 2, 1) := by decide +kernel
theorem d_Sj_isTaken_121 : decode b_Sj_isTaken 121 = .ok (.iconst 0, 1) := by decide +kernel
theorem d_Sj_isTaken_122 : decode b_Sj_isTaken 122 = .ok (.bipush 127, 2) := by decide +kernel
theorem d_Sj_isTaken_124 : decode b_Sj_isTaken 124 = .ok (.invokestatic 59, 3) := by decide +kernel
theorem d_Sj_isTaken_127 : decode b_Sj_isTaken 127 = .ok (.ireturn, 1) := by decide +kernel
theorem d_Sj_isTaken_128 : decode b_Sj_isTaken 128 = .ok (.aload_n 0, 1) := by decide +kernel
theorem d_Sj_isTaken_129 : decode b_Sj_isTaken 129 = .ok (.getfield 10, 3) := by decide +kernel
theorem d_Sj_isTaken_132 : decode b_Sj_isTaken 132 = .ok (.iload_n 2, 1) := by decide +kernel
theorem d_Sj_isTaken_133 : decode b_Sj_isTaken 133 = .ok (.invokevirtual 159, 3) := by decide +kernel
theorem d_Sj_isTaken_136 : decode b_Sj_isTaken 136 = .ok (.ireturn, 1) := by decide +kernel
theorem d_Sj_isTaken_137 : decode b_Sj_isTaken 137 = .ok (.aload_n 0, 1) := by decide +kernel
theorem d_Sj_isTaken_138 : decode b_Sj_isTaken 138 = .ok (.getfield 10, 3) := by decide +kernel
theorem d_Sj_isTaken_141 : decode b_Sj_isTaken 141 = .ok (.iload_n 2, 1) := by decide +kernel
theorem d_Sj_isTaken_142 : decode b_Sj_isTaken 142 = .ok (.iconst 4, 1) := by decide +kernel
theorem d_Sj_isTaken_143 : decode b_Sj_isTaken 143 = .ok (.invokevirtual 77, 3) := by decide +kernel
theorem d_Sj_isTaken_146 : decode b_Sj_isTaken 146 = .ok (.ireturn, 1) := by decide +kernel
theorem d_Sj_isTaken_147 : decode b_Sj_isTaken 147 = .ok (.aload_n 0, 1) := by decide +kernel
theorem d_Sj_isTaken_148 : decode b_Sj_isTaken 148 = .ok (.getfield 10, 3) := by decide +kernel
theorem d_Sj_isTaken_151 : decode b_Sj_isTaken 151 = .ok (.iload_n 2, 1) := by decide +kernel
theorem d_Sj_isTaken_152 : decode b_Sj_isTaken 152 = .ok (.iconst 2, 1) := by decide +kernel
theorem d_Sj_isTaken_153 : decode b_Sj_isTaken 153 = .ok (.invokevirtual 77, 3) := by decide +kernel
theorem d_Sj_isTaken_156 : decode b_Sj_isTaken 156 = .ok (.ireturn, 1) := by decide +kernel
theorem d_Sj_isTaken_157 : decode b_Sj_isTaken 157 = .ok (.aload_n 0, 1) := by decide +kernel
theorem d_Sj_isTaken_158 : decode b_Sj_isTaken 158 = .ok (.getfield 10, 3) := by decide +kernel
theorem d_Sj_isTaken_161 : decode b_Sj_isTaken 161 = .ok (.iload_n 2, 1) := by decide +kernel
theorem d_Sj_isTaken_162 : decode b_Sj_isTaken 162 = .ok (.iconst 2, 1) := by decide +kernel
theorem d_Sj_isTaken_163 : decode b_Sj_isTaken 163 = .ok (.invokevirtual 77, 3) := by decide +kernel
theorem d_Sj_isTaken_166 : decode b_Sj_isTaken 166 = .ok (.ifCond .eq 20, 3) := by decide +kernel
theorem d_Sj_isTaken_169 : decode b_Sj_isTaken 169 = .ok (.aload_n 0, 1) := by decide +kernel
theorem d_Sj_isTaken_170 : decode b_Sj_isTaken 170 = .ok (.getfield 10, 3) := by decide +kernel
theorem d_Sj_isTaken_173 : decode b_Sj_isTaken 173 = .ok (.iload_n 2, 1) := by decide +kernel
theorem d_Sj_isTaken_174 : decode b_Sj_isTaken 174 = .ok (.invokevirtual 208, 3) := by decide +kernel
theorem d_Sj_isTaken_177 : decode b_Sj_isTaken 177 = .ok (.lconst 0, 1) := by decide +kernel
theorem d_Sj_isTaken_178 : decode b_Sj_isTaken 178 = .ok (.lcmp, 1) := by decide +kernel
theorem d_Sj_isTaken_179 : decode b_Sj_isTaken 179 = .ok (.ifCond .le 7, 3) := by decide +kernel
theorem d_Sj_isTaken_182 : decode b_Sj_isTaken 182 = .ok (.iconst 1, 1) := by decide +kernel
theorem d_Sj_isTaken_183 : decode b_Sj_isTaken 183 = .ok (.goto 4, 3) := by decide +kernel
theorem d_Sj_isTaken_186 : decode b_Sj_isTaken 186 = .ok (.iconst 0, 1) := by decide +kernel
theorem d_Sj_isTaken_187 : decode b_Sj_isTaken 187 = .ok (.ireturn, 1) := by decide +kernel
theorem d_Sj_isTaken_188 : decode b_Sj_isTaken 188 = .ok (.iload_n 2, 1) := by decide +kernel
theorem d_Sj_isTaken_189 : decode b_Sj_isTaken 189 = .ok (.iconst 0, 1) := by decide +kernel
theorem d_Sj_isTaken_190 : decode b_Sj_isTaken 190 = .ok (.bipush 12, 2) := by decide +kernel
theorem d_Sj_isTaken_192 : decode b_Sj_isTaken 192 = .ok (.invokestatic 59, 3) := by decide +kernel
theorem d_Sj_isTaken_195 : decode b_Sj_isTaken 195 = .ok (.ireturn, 1) := by decide +kernel
theorem d_Sj_isTaken_196 : decode b_Sj_isTaken 196 = .ok (.aload_n 0, 1) := by decide +kernel
theorem d_Sj_isTaken_197 : decode b_Sj_isTaken 197 = .ok (.getfield 19, 3) := by decide +kernel
theorem d_Sj_isTaken_200 : decode b_Sj_isTaken 200 = .ok (.iload_n 2, 1) := by decide +kernel
theorem d_Sj_isTaken_201 : decode b_Sj_isTaken 201 = .ok (.invokevirtual 101, 3) := by decide +kernel
theorem d_Sj_isTaken_204 : decode b_Sj_isTaken 204 = .ok (.ireturn, 1) := by decide +kernel
theorem d_Sj_isTaken_205 : decode b_Sj_isTaken 205 = .ok (.iload_n 2, 1) := by decide +kernel
theorem d_Sj_isTaken_206 : decode b_Sj_isTaken 206 = .ok (.iconst 0, 1) := by decide +kernel
theorem d_Sj_isTaken_207 : decode b_Sj_isTaken 207 = .ok (.iconst 1, 1) := by decide +kernel
theorem d_Sj_isTaken_208 : decode b_Sj_isTaken 208 = .ok (.invokestatic 59, 3) := by decide +kernel
theorem d_Sj_isTaken_211 : decode b_Sj_isTaken 211 = .ok (.ireturn, 1) := by decide +kernel
theorem d_Sj_isTaken_212 : decode b_Sj_isTaken 212 = .ok (.iload_n 2, 1) := by decide +kernel
theorem d_Sj_isTaken_213 : decode b_Sj_isTaken 213 = .ok (.iconst 0, 1) := by decide +kernel
theorem d_Sj_isTaken_214 : decode b_Sj_isTaken 214 = .ok (.sipush 4095, 3) := by decide +kernel
theorem d_Sj_isTaken_217 : decode b_Sj_isTaken 217 = .ok (.invokestatic 59, 3) := by decide +kernel
theorem d_Sj_isTaken_220 : decode b_Sj_isTaken 220 = .ok (.ireturn, 1) := by decide +kernel
theorem d_Sj_isTaken_221 : decode b_Sj_isTaken 221 = .ok (.aload_n 0, 1) := by decide +kernel
theorem d_Sj_isTaken_222 : decode b_Sj_isTaken 222 = .ok (.getfield 26, 3) := by decide +kernel
theorem d_Sj_isTaken_225 : decode b_Sj_isTaken 225 = .ok (.iload_n 2, 1) := by decide +kernel
theorem d_Sj_isTaken_226 : decode b_Sj_isTaken 226 = .ok (.invokevirtual 131, 3) := by decide +kernel
theorem d_Sj_isTaken_229 : decode b_Sj_isTaken 229 = .ok (.ireturn, 1) := by decide +kernel
theorem d_Va_coreOf_0 : decode b_Va_coreOf 0 = .ok (.aload_n 0, 1) := by decide +kernel
theorem d_Va_coreOf_1 : decode b_Va_coreOf 1 = .ok (.getfield 13, 3) := by decide +kernel
theorem d_Va_coreOf_4 : decode b_Va_coreOf 4 = .ok (.iload_n 1, 1) := by decide +kernel
theorem d_Va_coreOf_5 : decode b_Va_coreOf 5 = .ok (.laload, 1) := by decide +kernel
theorem d_Va_coreOf_6 : decode b_Va_coreOf 6 = .ok (.lreturn, 1) := by decide +kernel
theorem d_Sc_setRule_0 : decode b_Sc_setRule 0 = .ok (.aload_n 0, 1) := by decide +kernel
theorem d_Sc_setRule_1 : decode b_Sc_setRule 1 = .ok (.getfield 11, 3) := by decide +kernel
theorem d_Sc_setRule_4 : decode b_Sc_setRule 4 = .ok (.iload_n 1, 1) := by decide +kernel
theorem d_Sc_setRule_5 : decode b_Sc_setRule 5 = .ok (.bipush 29, 2) := by decide +kernel
theorem d_Sc_setRule_7 : decode b_Sc_setRule 7 = .ok (.imul, 1) := by decide +kernel
theorem d_Sc_setRule_8 : decode b_Sc_setRule 8 = .ok (.iload_n 2, 1) := by decide +kernel
theorem d_Sc_setRule_9 : decode b_Sc_setRule 9 = .ok (.iadd, 1) := by decide +kernel
theorem d_Sc_setRule_10 : decode b_Sc_setRule 10 = .ok (.iload_n 3, 1) := by decide +kernel
theorem d_Sc_setRule_11 : decode b_Sc_setRule 11 = .ok (.iastore, 1) := by decide +kernel
theorem d_Sc_setRule_12 : decode b_Sc_setRule 12 = .ok (.return_, 1) := by decide +kernel
theorem d_Sj_list_0 : decode b_Sj_list 0 = .ok (.aload_n 0, 1) := by decide +kernel
theorem d_Sj_list_1 : decode b_Sj_list 1 = .ok (.getfield 26, 3) := by decide +kernel
theorem d_Sj_list_4 : decode b_Sj_list 4 = .ok (.iload_n 1, 1) := by decide +kernel
theorem d_Sj_list_5 : decode b_Sj_list 5 = .ok (.invokevirtual 131, 3) := by decide +kernel
theorem d_Sj_list_8 : decode b_Sj_list 8 = .ok (.ifCond .eq 25, 3) := by decide +kernel
theorem d_Sj_list_11 : decode b_Sj_list 11 = .ok (.iload_n 2, 1) := by decide +kernel
theorem d_Sj_list_12 : decode b_Sj_list 12 = .ok (.bipush 29, 2) := by decide +kernel
theorem d_Sj_list_14 : decode b_Sj_list 14 = .ok (.bipush 32, 2) := by decide +kernel
theorem d_Sj_list_16 : decode b_Sj_list 16 = .ok (.invokestatic 59, 3) := by decide +kernel
theorem d_Sj_list_19 : decode b_Sj_list 19 = .ok (.ifCond .eq 14, 3) := by decide +kernel
theorem d_Sj_list_22 : decode b_Sj_list 22 = .ok (.aload_n 0, 1) := by decide +kernel
theorem d_Sj_list_23 : decode b_Sj_list 23 = .ok (.getfield 26, 3) := by decide +kernel
theorem d_Sj_list_26 : decode b_Sj_list 26 = .ok (.iload_n 3, 1) := by decide +kernel
theorem d_Sj_list_27 : decode b_Sj_list 27 = .ok (.invokevirtual 131, 3) := by decide +kernel
theorem d_Sj_list_30 : decode b_Sj_list 30 = .ok (.ifCond .ne 13, 3) := by decide +kernel
theorem d_Sj_list_33 : decode b_Sj_list 33 = .ok (.new 46, 3) := by decide +kernel
theorem d_Sj_list_36 : decode b_Sj_list 36 = .ok (.dup, 1) := by decide +kernel
theorem d_Sj_list_37 : decode b_Sj_list 37 = .ok (.ldc 134, 2) := by decide +kernel
theorem d_Sj_list_39 : decode b_Sj_list 39 = .ok (.invokespecial 50, 3) := by decide +kernel
theorem d_Sj_list_42 : decode b_Sj_list 42 = .ok (.athrow, 1) := by decide +kernel
theorem d_Sj_list_43 : decode b_Sj_list 43 = .ok (.aload_n 0, 1) := by decide +kernel
theorem d_Sj_list_44 : decode b_Sj_list 44 = .ok (.getfield 26, 3) := by decide +kernel
theorem d_Sj_list_47 : decode b_Sj_list 47 = .ok (.iload_n 1, 1) := by decide +kernel
theorem d_Sj_list_48 : decode b_Sj_list 48 = .ok (.iload_n 2, 1) := by decide +kernel
theorem d_Sj_list_49 : decode b_Sj_list 49 = .ok (.invokevirtual 144, 3) := by decide +kernel
theorem d_Sj_list_52 : decode b_Sj_list 52 = .ok (.iconst 3, 1) := by decide +kernel
theorem d_Sj_list_53 : decode b_Sj_list 53 = .ok (.if_icmp .lt 13, 3) := by decide +kernel
theorem d_Sj_list_56 : decode b_Sj_list 56 = .ok (.new 87, 3) := by decide +kernel
theorem d_Sj_list_59 : decode b_Sj_list 59 = .ok (.dup, 1) := by decide +kernel
theorem d_Sj_list_60 : decode b_Sj_list 60 = .ok (.ldc 148, 2) := by decide +kernel
theorem d_Sj_list_62 : decode b_Sj_list 62 = .ok (.invokespecial 91, 3) := by decide +kernel
theorem d_Sj_list_65 : decode b_Sj_list 65 = .ok (.athrow, 1) := by decide +kernel
theorem d_Sj_list_66 : decode b_Sj_list 66 = .ok (.aload_n 0, 1) := by decide +kernel
theorem d_Sj_list_67 : decode b_Sj_list 67 = .ok (.getfield 26, 3) := by decide +kernel
theorem d_Sj_list_70 : decode b_Sj_list 70 = .ok (.iload_n 1, 1) := by decide +kernel
theorem d_Sj_list_71 : decode b_Sj_list 71 = .ok (.iload_n 2, 1) := by decide +kernel
theorem d_Sj_list_72 : decode b_Sj_list 72 = .ok (.iload_n 3, 1) := by decide +kernel
theorem d_Sj_list_73 : decode b_Sj_list 73 = .ok (.invokevirtual 150, 3) := by decide +kernel
theorem d_Sj_list_76 : decode b_Sj_list 76 = .ok (.ireturn, 1) := by decide +kernel
theorem d_Sc_lengthOf_0 : decode b_Sc_lengthOf 0 = .ok (.aload_n 0, 1) := by decide +kernel
theorem d_Sc_lengthOf_1 : decode b_Sc_lengthOf 1 = .ok (.getfield 21, 3) := by decide +kernel
theorem d_Sc_lengthOf_4 : decode b_Sc_lengthOf 4 = .ok (.iload_n 1, 1) := by decide +kernel
theorem d_Sc_lengthOf_5 : decode b_Sc_lengthOf 5 = .ok (.iload_n 2, 1) := by decide +kernel
theorem d_Sc_lengthOf_6 : decode b_Sc_lengthOf 6 = .ok (.invokestatic 42, 3) := by decide +kernel
theorem d_Sc_lengthOf_9 : decode b_Sc_lengthOf 9 = .ok (.iaload, 1) := by decide +kernel
theorem d_Sc_lengthOf_10 : decode b_Sc_lengthOf 10 = .ok (.ireturn, 1) := by decide +kernel
theorem d_Sc_listIndex_0 : decode b_Sc_listIndex 0 = .ok (.iload_n 0, 1) := by decide +kernel
theorem d_Sc_listIndex_1 : decode b_Sc_listIndex 1 = .ok (.iconst 4, 1) := by decide +kernel
theorem d_Sc_listIndex_2 : decode b_Sc_listIndex 2 = .ok (.imul, 1) := by decide +kernel
theorem d_Sc_listIndex_3 : decode b_Sc_listIndex 3 = .ok (.iload_n 1, 1) := by decide +kernel
theorem d_Sc_listIndex_4 : decode b_Sc_listIndex 4 = .ok (.iadd, 1) := by decide +kernel
theorem d_Sc_listIndex_5 : decode b_Sc_listIndex 5 = .ok (.bipush 29, 2) := by decide +kernel
theorem d_Sc_listIndex_7 : decode b_Sc_listIndex 7 = .ok (.isub, 1) := by decide +kernel
theorem d_Sc_listIndex_8 : decode b_Sc_listIndex 8 = .ok (.ireturn, 1) := by decide +kernel
theorem d_Sc_addListed_0 : decode b_Sc_addListed 0 = .ok (.iload_n 1, 1) := by decide +kernel
theorem d_Sc_addListed_1 : decode b_Sc_addListed 1 = .ok (.iload_n 2, 1) := by decide +kernel
theorem d_Sc_addListed_2 : decode b_Sc_addListed 2 = .ok (.invokestatic 42, 3) := by decide +kernel
theorem d_Sc_addListed_5 : decode b_Sc_addListed 5 = .ok (.istore 4, 2) := by decide +kernel
theorem d_Sc_addListed_7 : decode b_Sc_addListed 7 = .ok (.aload_n 0, 1) := by decide +kernel
theorem d_Sc_addListed_8 : decode b_Sc_addListed 8 = .ok (.getfield 24, 3) := by decide +kernel
theorem d_Sc_addListed_11 : decode b_Sc_addListed 11 = .ok (.iload 4, 2) := by decide +kernel
theorem d_Sc_addListed_13 : decode b_Sc_addListed 13 = .ok (.iconst 3, 1) := by decide +kernel
theorem d_Sc_addListed_14 : decode b_Sc_addListed 14 = .ok (.imul, 1) := by decide +kernel
theorem d_Sc_addListed_15 : decode b_Sc_addListed 15 = .ok (.aload_n 0, 1) := by decide +kernel
theorem d_Sc_addListed_16 : decode b_Sc_addListed 16 = .ok (.getfield 21, 3) := by decide +kernel
theorem d_Sc_addListed_19 : decode b_Sc_addListed 19 = .ok (.iload 4, 2) := by decide +kernel
theorem d_Sc_addListed_21 : decode b_Sc_addListed 21 = .ok (.iaload, 1) := by decide +kernel
theorem d_Sc_addListed_22 : decode b_Sc_addListed 22 = .ok (.iadd, 1) := by decide +kernel
theorem d_Sc_addListed_23 : decode b_Sc_addListed 23 = .ok (.iload_n 3, 1) := by decide +kernel
theorem d_Sc_addListed_24 : decode b_Sc_addListed 24 = .ok (.iastore, 1) := by decide +kernel
theorem d_Sc_addListed_25 : decode b_Sc_addListed 25 = .ok (.aload_n 0, 1) := by decide +kernel
theorem d_Sc_addListed_26 : decode b_Sc_addListed 26 = .ok (.getfield 21, 3) := by decide +kernel
theorem d_Sc_addListed_29 : decode b_Sc_addListed 29 = .ok (.iload 4, 2) := by decide +kernel
theorem d_Sc_addListed_31 : decode b_Sc_addListed 31 = .ok (.dup2, 1) := by decide +kernel
theorem d_Sc_addListed_32 : decode b_Sc_addListed 32 = .ok (.iaload, 1) := by decide +kernel
theorem d_Sc_addListed_33 : decode b_Sc_addListed 33 = .ok (.iconst 1, 1) := by decide +kernel
theorem d_Sc_addListed_34 : decode b_Sc_addListed 34 = .ok (.iadd, 1) := by decide +kernel
theorem d_Sc_addListed_35 : decode b_Sc_addListed 35 = .ok (.iastore, 1) := by decide +kernel
theorem d_Sc_addListed_36 : decode b_Sc_addListed 36 = .ok (.aload_n 0, 1) := by decide +kernel
theorem d_Sc_addListed_37 : decode b_Sc_addListed 37 = .ok (.getfield 21, 3) := by decide +kernel
theorem d_Sc_addListed_40 : decode b_Sc_addListed 40 = .ok (.iload 4, 2) := by decide +kernel
theorem d_Sc_addListed_42 : decode b_Sc_addListed 42 = .ok (.iaload, 1) := by decide +kernel
theorem d_Sc_addListed_43 : decode b_Sc_addListed 43 = .ok (.ireturn, 1) := by decide +kernel
theorem d_Sj_named_0 : decode b_Sj_named 0 = .ok (.aload_n 0, 1) := by decide +kernel
theorem d_Sj_named_1 : decode b_Sj_named 1 = .ok (.getfield 26, 3) := by decide +kernel
theorem d_Sj_named_4 : decode b_Sj_named 4 = .ok (.iload_n 1, 1) := by decide +kernel
theorem d_Sj_named_5 : decode b_Sj_named 5 = .ok (.invokevirtual 131, 3) := by decide +kernel
theorem d_Sj_named_8 : decode b_Sj_named 8 = .ok (.ifCond .eq 21, 3) := by decide +kernel
theorem d_Sj_named_11 : decode b_Sj_named 11 = .ok (.iload_n 2, 1) := by decide +kernel
theorem d_Sj_named_12 : decode b_Sj_named 12 = .ok (.bipush 33, 2) := by decide +kernel
theorem d_Sj_named_14 : decode b_Sj_named 14 = .ok (.bipush 35, 2) := by decide +kernel
theorem d_Sj_named_16 : decode b_Sj_named 16 = .ok (.invokestatic 59, 3) := by decide +kernel
theorem d_Sj_named_19 : decode b_Sj_named 19 = .ok (.ifCond .eq 10, 3) := by decide +kernel
theorem d_Sj_named_22 : decode b_Sj_named 22 = .ok (.iload_n 3, 1) := by decide +kernel
theorem d_Sj_named_23 : decode b_Sj_named 23 = .ok (.invokestatic 96, 3) := by decide +kernel
theorem d_Sj_named_26 : decode b_Sj_named 26 = .ok (.ifCond .ne 13, 3) := by decide +kernel
theorem d_Sj_named_29 : decode b_Sj_named 29 = .ok (.new 46, 3) := by decide +kernel
theorem d_Sj_named_32 : decode b_Sj_named 32 = .ok (.dup, 1) := by decide +kernel
theorem d_Sj_named_33 : decode b_Sj_named 33 = .ok (.ldc 153, 2) := by decide +kernel
theorem d_Sj_named_35 : decode b_Sj_named 35 = .ok (.invokespecial 50, 3) := by decide +kernel
theorem d_Sj_named_38 : decode b_Sj_named 38 = .ok (.athrow, 1) := by decide +kernel
theorem d_Sj_named_39 : decode b_Sj_named 39 = .ok (.iload_n 2, 1) := by decide +kernel
theorem d_Sj_named_40 : decode b_Sj_named 40 = .ok (.bipush 35, 2) := by decide +kernel
theorem d_Sj_named_42 : decode b_Sj_named 42 = .ok (.if_icmp .ne 15, 3) := by decide +kernel
theorem d_Sj_named_45 : decode b_Sj_named 45 = .ok (.iload 4, 2) := by decide +kernel
theorem d_Sj_named_47 : decode b_Sj_named 47 = .ok (.iconst 0, 1) := by decide +kernel
theorem d_Sj_named_48 : decode b_Sj_named 48 = .ok (.sipush 4095, 3) := by decide +kernel
theorem d_Sj_named_51 : decode b_Sj_named 51 = .ok (.invokestatic 59, 3) := by decide +kernel
theorem d_Sj_named_54 : decode b_Sj_named 54 = .ok (.goto 12, 3) := by decide +kernel
theorem d_Sj_named_57 : decode b_Sj_named 57 = .ok (.aload_n 0, 1) := by decide +kernel
theorem d_Sj_named_58 : decode b_Sj_named 58 = .ok (.getfield 26, 3) := by decide +kernel
theorem d_Sj_named_61 : decode b_Sj_named 61 = .ok (.iload 4, 2) := by decide +kernel
theorem d_Sj_named_63 : decode b_Sj_named 63 = .ok (.invokevirtual 131, 3) := by decide +kernel
theorem d_Sj_named_66 : decode b_Sj_named 66 = .ok (.istore 5, 2) := by decide +kernel
theorem d_Sj_named_68 : decode b_Sj_named 68 = .ok (.iload 4, 2) := by decide +kernel
theorem d_Sj_named_70 : decode b_Sj_named 70 = .ok (.iconst (-1), 1) := by decide +kernel
theorem d_Sj_named_71 : decode b_Sj_named 71 = .ok (.if_icmp .eq 18, 3) := by decide +kernel
theorem d_Sj_named_74 : decode b_Sj_named 74 = .ok (.iload 5, 2) := by decide +kernel
theorem d_Sj_named_76 : decode b_Sj_named 76 = .ok (.ifCond .ne 13, 3) := by decide +kernel
theorem d_Sj_named_79 : decode b_Sj_named 79 = .ok (.new 46, 3) := by decide +kernel
theorem d_Sj_named_82 : decode b_Sj_named 82 = .ok (.dup, 1) := by decide +kernel
theorem d_Sj_named_83 : decode b_Sj_named 83 = .ok (.ldc 139, 2) := by decide +kernel
theorem d_Sj_named_85 : decode b_Sj_named 85 = .ok (.invokespecial 50, 3) := by decide +kernel
theorem d_Sj_named_88 : decode b_Sj_named 88 = .ok (.athrow, 1) := by decide +kernel
theorem d_Sj_named_89 : decode b_Sj_named 89 = .ok (.aload_n 0, 1) := by decide +kernel
theorem d_Sj_named_90 : decode b_Sj_named 90 = .ok (.getfield 26, 3) := by decide +kernel
theorem d_Sj_named_93 : decode b_Sj_named 93 = .ok (.iload_n 1, 1) := by decide +kernel
theorem d_Sj_named_94 : decode b_Sj_named 94 = .ok (.iload_n 2, 1) := by decide +kernel
theorem d_Sj_named_95 : decode b_Sj_named 95 = .ok (.iload_n 3, 1) := by decide +kernel
theorem d_Sj_named_96 : decode b_Sj_named 96 = .ok (.iload 4, 2) := by decide +kernel
theorem d_Sj_named_98 : decode b_Sj_named 98 = .ok (.invokevirtual 155, 3) := by decide +kernel
theorem d_Sj_named_101 : decode b_Sj_named 101 = .ok (.return_, 1) := by decide +kernel
theorem d_Sc_setByName_0 : decode b_Sc_setByName 0 = .ok (.aload_n 0, 1) := by decide +kernel
theorem d_Sc_setByName_1 : decode b_Sc_setByName 1 = .ok (.getfield 29, 3) := by decide +kernel
theorem d_Sc_setByName_4 : decode b_Sc_setByName 4 = .ok (.iload_n 1, 1) := by decide +kernel
theorem d_Sc_setByName_5 : decode b_Sc_setByName 5 = .ok (.iload_n 2, 1) := by decide +kernel
theorem d_Sc_setByName_6 : decode b_Sc_setByName 6 = .ok (.iload_n 3, 1) := by decide +kernel
theorem d_Sc_setByName_7 : decode b_Sc_setByName 7 = .ok (.invokestatic 46, 3) := by decide +kernel
theorem d_Sc_setByName_10 : decode b_Sc_setByName 10 = .ok (.iload 4, 2) := by decide +kernel
theorem d_Sc_setByName_12 : decode b_Sc_setByName 12 = .ok (.iastore, 1) := by decide +kernel
theorem d_Sc_setByName_13 : decode b_Sc_setByName 13 = .ok (.return_, 1) := by decide +kernel
theorem d_Sc_nameIndex_0 : decode b_Sc_nameIndex 0 = .ok (.iload_n 0, 1) := by decide +kernel
theorem d_Sc_nameIndex_1 : decode b_Sc_nameIndex 1 = .ok (.iconst 3, 1) := by decide +kernel
theorem d_Sc_nameIndex_2 : decode b_Sc_nameIndex 2 = .ok (.imul, 1) := by decide +kernel
theorem d_Sc_nameIndex_3 : decode b_Sc_nameIndex 3 = .ok (.iload_n 1, 1) := by decide +kernel
theorem d_Sc_nameIndex_4 : decode b_Sc_nameIndex 4 = .ok (.iadd, 1) := by decide +kernel
theorem d_Sc_nameIndex_5 : decode b_Sc_nameIndex 5 = .ok (.bipush 33, 2) := by decide +kernel
theorem d_Sc_nameIndex_7 : decode b_Sc_nameIndex 7 = .ok (.isub, 1) := by decide +kernel
theorem d_Sc_nameIndex_8 : decode b_Sc_nameIndex 8 = .ok (.bipush 12, 2) := by decide +kernel
theorem d_Sc_nameIndex_10 : decode b_Sc_nameIndex 10 = .ok (.imul, 1) := by decide +kernel
theorem d_Sc_nameIndex_11 : decode b_Sc_nameIndex 11 = .ok (.iload_n 2, 1) := by decide +kernel
theorem d_Sc_nameIndex_12 : decode b_Sc_nameIndex 12 = .ok (.iadd, 1) := by decide +kernel
theorem d_Sc_nameIndex_13 : decode b_Sc_nameIndex 13 = .ok (.ireturn, 1) := by decide +kernel
theorem d_Sj_judge_0 : decode b_Sj_judge 0 = .ok (.aload_n 0, 1) := by decide +kernel
theorem d_Sj_judge_1 : decode b_Sj_judge 1 = .ok (.getfield 26, 3) := by decide +kernel
theorem d_Sj_judge_4 : decode b_Sj_judge 4 = .ok (.iload_n 1, 1) := by decide +kernel
theorem d_Sj_judge_5 : decode b_Sj_judge 5 = .ok (.invokevirtual 131, 3) := by decide +kernel
theorem d_Sj_judge_8 : decode b_Sj_judge 8 = .ok (.ifCond .eq 14, 3) := by decide +kernel
theorem d_Sj_judge_11 : decode b_Sj_judge 11 = .ok (.aload_n 0, 1) := by decide +kernel
theorem d_Sj_judge_12 : decode b_Sj_judge 12 = .ok (.getfield 10, 3) := by decide +kernel
theorem d_Sj_judge_15 : decode b_Sj_judge 15 = .ok (.iload_n 2, 1) := by decide +kernel
theorem d_Sj_judge_16 : decode b_Sj_judge 16 = .ok (.invokevirtual 159, 3) := by decide +kernel
theorem d_Sj_judge_19 : decode b_Sj_judge 19 = .ok (.ifCond .ne 13, 3) := by decide +kernel
theorem d_Sj_judge_22 : decode b_Sj_judge 22 = .ok (.new 46, 3) := by decide +kernel
theorem d_Sj_judge_25 : decode b_Sj_judge 25 = .ok (.dup, 1) := by decide +kernel
theorem d_Sj_judge_26 : decode b_Sj_judge 26 = .ok (.ldc 160, 2) := by decide +kernel
theorem d_Sj_judge_28 : decode b_Sj_judge 28 = .ok (.invokespecial 50, 3) := by decide +kernel
theorem d_Sj_judge_31 : decode b_Sj_judge 31 = .ok (.athrow, 1) := by decide +kernel
theorem d_Sj_judge_32 : decode b_Sj_judge 32 = .ok (.aload_n 0, 1) := by decide +kernel
theorem d_Sj_judge_33 : decode b_Sj_judge 33 = .ok (.getfield 40, 3) := by decide +kernel
theorem d_Sj_judge_36 : decode b_Sj_judge 36 = .ok (.invokevirtual 162, 3) := by decide +kernel
theorem d_Sj_judge_39 : decode b_Sj_judge 39 = .ok (.aload_n 0, 1) := by decide +kernel
theorem d_Sj_judge_40 : decode b_Sj_judge 40 = .ok (.getfield 26, 3) := by decide +kernel
theorem d_Sj_judge_43 : decode b_Sj_judge 43 = .ok (.iload_n 1, 1) := by decide +kernel
theorem d_Sj_judge_44 : decode b_Sj_judge 44 = .ok (.invokevirtual 165, 3) := by decide +kernel
theorem d_Sj_judge_47 : decode b_Sj_judge 47 = .ok (.ifCond .eq 13, 3) := by decide +kernel
theorem d_Sj_judge_50 : decode b_Sj_judge 50 = .ok (.new 87, 3) := by decide +kernel
theorem d_Sj_judge_53 : decode b_Sj_judge 53 = .ok (.dup, 1) := by decide +kernel
theorem d_Sj_judge_54 : decode b_Sj_judge 54 = .ok (.ldc 168, 2) := by decide +kernel
theorem d_Sj_judge_56 : decode b_Sj_judge 56 = .ok (.invokespecial 91, 3) := by decide +kernel
theorem d_Sj_judge_59 : decode b_Sj_judge 59 = .ok (.athrow, 1) := by decide +kernel
theorem d_Sj_judge_60 : decode b_Sj_judge 60 = .ok (.aload_n 0, 1) := by decide +kernel
theorem d_Sj_judge_61 : decode b_Sj_judge 61 = .ok (.getfield 40, 3) := by decide +kernel
theorem d_Sj_judge_64 : decode b_Sj_judge 64 = .ok (.iload_n 1, 1) := by decide +kernel
theorem d_Sj_judge_65 : decode b_Sj_judge 65 = .ok (.iload_n 2, 1) := by decide +kernel
theorem d_Sj_judge_66 : decode b_Sj_judge 66 = .ok (.invokevirtual 170, 3) := by decide +kernel
theorem d_Sj_judge_69 : decode b_Sj_judge 69 = .ok (.ifCond .ne 13, 3) := by decide +kernel
theorem d_Sj_judge_72 : decode b_Sj_judge 72 = .ok (.new 173, 3) := by decide +kernel
theorem d_Sj_judge_75 : decode b_Sj_judge 75 = .ok (.dup, 1) := by decide +kernel
theorem d_Sj_judge_76 : decode b_Sj_judge 76 = .ok (.ldc 175, 2) := by decide +kernel
theorem d_Sj_judge_78 : decode b_Sj_judge 78 = .ok (.invokespecial 177, 3) := by decide +kernel
theorem d_Sj_judge_81 : decode b_Sj_judge 81 = .ok (.athrow, 1) := by decide +kernel
theorem d_Sj_judge_82 : decode b_Sj_judge 82 = .ok (.aload_n 0, 1) := by decide +kernel
theorem d_Sj_judge_83 : decode b_Sj_judge 83 = .ok (.getfield 40, 3) := by decide +kernel
theorem d_Sj_judge_86 : decode b_Sj_judge 86 = .ok (.iload_n 1, 1) := by decide +kernel
theorem d_Sj_judge_87 : decode b_Sj_judge 87 = .ok (.iload_n 2, 1) := by decide +kernel
theorem d_Sj_judge_88 : decode b_Sj_judge 88 = .ok (.invokevirtual 178, 3) := by decide +kernel
theorem d_Sj_judge_91 : decode b_Sj_judge 91 = .ok (.ireturn, 1) := by decide +kernel
theorem d_Ju_forget_0 : decode b_Ju_forget 0 = .ok (.aload_n 0, 1) := by decide +kernel
theorem d_Ju_forget_1 : decode b_Ju_forget 1 = .ok (.getfield 25, 3) := by decide +kernel
theorem d_Ju_forget_4 : decode b_Ju_forget 4 = .ok (.iconst 0, 1) := by decide +kernel
theorem d_Ju_forget_5 : decode b_Ju_forget 5 = .ok (.invokestatic 36, 3) := by decide +kernel
theorem d_Ju_forget_8 : decode b_Ju_forget 8 = .ok (.aload_n 0, 1) := by decide +kernel
theorem d_Ju_forget_9 : decode b_Ju_forget 9 = .ok (.getfield 29, 3) := by decide +kernel
theorem d_Ju_forget_12 : decode b_Ju_forget 12 = .ok (.iconst 0, 1) := by decide +kernel
theorem d_Ju_forget_13 : decode b_Ju_forget 13 = .ok (.invokestatic 36, 3) := by decide +kernel
theorem d_Ju_forget_16 : decode b_Ju_forget 16 = .ok (.aload_n 0, 1) := by decide +kernel
theorem d_Ju_forget_17 : decode b_Ju_forget 17 = .ok (.getfield 32, 3) := by decide +kernel
theorem d_Ju_forget_20 : decode b_Ju_forget 20 = .ok (.lconst 0, 1) := by decide +kernel
theorem d_Ju_forget_21 : decode b_Ju_forget 21 = .ok (.invokestatic 42, 3) := by decide +kernel
theorem d_Ju_forget_24 : decode b_Ju_forget 24 = .ok (.aload_n 0, 1) := by decide +kernel
theorem d_Ju_forget_25 : decode b_Ju_forget 25 = .ok (.iconst 0, 1) := by decide +kernel
theorem d_Ju_forget_26 : decode b_Ju_forget 26 = .ok (.putfield 45, 3) := by decide +kernel
theorem d_Ju_forget_29 : decode b_Ju_forget 29 = .ok (.return_, 1) := by decide +kernel
theorem d_Ar_fill_JJV_0 : decode b_Ar_fill_JJV 0 = .ok (.iconst 0, 1) := by decide +kernel
theorem d_Ar_fill_JJV_1 : decode b_Ar_fill_JJV 1 = .ok (.istore_n 3, 1) := by decide +kernel
theorem d_Ar_fill_JJV_2 : decode b_Ar_fill_JJV 2 = .ok (.aload_n 0, 1) := by decide +kernel
theorem d_Ar_fill_JJV_3 : decode b_Ar_fill_JJV 3 = .ok (.arraylength, 1) := by decide +kernel
theorem d_Ar_fill_JJV_4 : decode b_Ar_fill_JJV 4 = .ok (.istore 4, 2) := by decide +kernel
theorem d_Ar_fill_JJV_6 : decode b_Ar_fill_JJV 6 = .ok (.iload_n 3, 1) := by decide +kernel
theorem d_Ar_fill_JJV_7 : decode b_Ar_fill_JJV 7 = .ok (.iload 4, 2) := by decide +kernel
theorem d_Ar_fill_JJV_9 : decode b_Ar_fill_JJV 9 = .ok (.if_icmp .ge 13, 3) := by decide +kernel
theorem d_Ar_fill_JJV_12 : decode b_Ar_fill_JJV 12 = .ok (.aload_n 0, 1) := by decide +kernel
theorem d_Ar_fill_JJV_13 : decode b_Ar_fill_JJV 13 = .ok (.iload_n 3, 1) := by decide +kernel
theorem d_Ar_fill_JJV_14 : decode b_Ar_fill_JJV 14 = .ok (.lload_n 1, 1) := by decide +kernel
theorem d_Ar_fill_JJV_15 : decode b_Ar_fill_JJV 15 = .ok (.lastore, 1) := by decide +kernel
theorem d_Ar_fill_JJV_16 : decode b_Ar_fill_JJV 16 = .ok (.iinc 3 1, 3) := by decide +kernel
theorem d_Ar_fill_JJV_19 : decode b_Ar_fill_JJV 19 = .ok (.goto (-13), 3) := by decide +kernel
theorem d_Ar_fill_JJV_22 : decode b_Ar_fill_JJV 22 = .ok (.return_, 1) := by decide +kernel
theorem d_Sc_meetsCircle_0 : decode b_Sc_meetsCircle 0 = .ok (.iconst 0, 1) := by decide +kernel
theorem d_Sc_meetsCircle_1 : decode b_Sc_meetsCircle 1 = .ok (.istore_n 2, 1) := by decide +kernel
theorem d_Sc_meetsCircle_2 : decode b_Sc_meetsCircle 2 = .ok (.iload_n 2, 1) := by decide +kernel
theorem d_Sc_meetsCircle_3 : decode b_Sc_meetsCircle 3 = .ok (.aload_n 0, 1) := by decide +kernel
theorem d_Sc_meetsCircle_4 : decode b_Sc_meetsCircle 4 = .ok (.getfield 38, 3) := by decide +kernel
theorem d_Sc_meetsCircle_7 : decode b_Sc_meetsCircle 7 = .ok (.if_icmp .ge 38, 3) := by decide +kernel
theorem d_Sc_meetsCircle_10 : decode b_Sc_meetsCircle 10 = .ok (.aload_n 0, 1) := by decide +kernel
theorem d_Sc_meetsCircle_11 : decode b_Sc_meetsCircle 11 = .ok (.getfield 32, 3) := by decide +kernel
theorem d_Sc_meetsCircle_14 : decode b_Sc_meetsCircle 14 = .ok (.iload_n 2, 1) := by decide +kernel
theorem d_Sc_meetsCircle_15 : decode b_Sc_meetsCircle 15 = .ok (.aload_n 0, 1) := by decide +kernel
theorem d_Sc_meetsCircle_16 : decode b_Sc_meetsCircle 16 = .ok (.iload_n 2, 1) := by decide +kernel
theorem d_Sc_meetsCircle_17 : decode b_Sc_meetsCircle 17 = .ok (.invokevirtual 50, 3) := by decide +kernel
theorem d_Sc_meetsCircle_20 : decode b_Sc_meetsCircle 20 = .ok (.iastore, 1) := by decide +kernel
theorem d_Sc_meetsCircle_21 : decode b_Sc_meetsCircle 21 = .ok (.aload_n 0, 1) := by decide +kernel
theorem d_Sc_meetsCircle_22 : decode b_Sc_meetsCircle 22 = .ok (.getfield 35, 3) := by decide +kernel
theorem d_Sc_meetsCircle_25 : decode b_Sc_meetsCircle 25 = .ok (.iload_n 2, 1) := by decide +kernel
theorem d_Sc_meetsCircle_26 : decode b_Sc_meetsCircle 26 = .ok (.aload_n 0, 1) := by decide +kernel
theorem d_Sc_meetsCircle_27 : decode b_Sc_meetsCircle 27 = .ok (.getfield 32, 3) := by decide +kernel
theorem d_Sc_meetsCircle_30 : decode b_Sc_meetsCircle 30 = .ok (.iload_n 2, 1) := by decide +kernel
theorem d_Sc_meetsCircle_31 : decode b_Sc_meetsCircle 31 = .ok (.iaload, 1) := by decide +kernel
theorem d_Sc_meetsCircle_32 : decode b_Sc_meetsCircle 32 = .ok (.aload_n 0, 1) := by decide +kernel
theorem d_Sc_meetsCircle_33 : decode b_Sc_meetsCircle 33 = .ok (.iload_n 2, 1) := by decide +kernel
theorem d_Sc_meetsCircle_34 : decode b_Sc_meetsCircle 34 = .ok (.invokevirtual 54, 3) := by decide +kernel
theorem d_Sc_meetsCircle_37 : decode b_Sc_meetsCircle 37 = .ok (.ior, 1) := by decide +kernel
theorem d_Sc_meetsCircle_38 : decode b_Sc_meetsCircle 38 = .ok (.iastore, 1) := by decide +kernel
theorem d_Sc_meetsCircle_39 : decode b_Sc_meetsCircle 39 = .ok (.iinc 2 1, 3) := by decide +kernel
theorem d_Sc_meetsCircle_42 : decode b_Sc_meetsCircle 42 = .ok (.goto (-40), 3) := by decide +kernel
theorem d_Sc_meetsCircle_45 : decode b_Sc_meetsCircle 45 = .ok (.aload_n 0, 1) := by decide +kernel
theorem d_Sc_meetsCircle_46 : decode b_Sc_meetsCircle 46 = .ok (.aload_n 0, 1) := by decide +kernel
theorem d_Sc_meetsCircle_47 : decode b_Sc_meetsCircle 47 = .ok (.getfield 32, 3) := by decide +kernel
theorem d_Sc_meetsCircle_50 : decode b_Sc_meetsCircle 50 = .ok (.invokevirtual 57, 3) := by decide +kernel
theorem d_Sc_meetsCircle_53 : decode b_Sc_meetsCircle 53 = .ok (.aload_n 0, 1) := by decide +kernel
theorem d_Sc_meetsCircle_54 : decode b_Sc_meetsCircle 54 = .ok (.aload_n 0, 1) := by decide +kernel
theorem d_Sc_meetsCircle_55 : decode b_Sc_meetsCircle 55 = .ok (.getfield 35, 3) := by decide +kernel
theorem d_Sc_meetsCircle_58 : decode b_Sc_meetsCircle 58 = .ok (.invokevirtual 57, 3) := by decide +kernel
theorem d_Sc_meetsCircle_61 : decode b_Sc_meetsCircle 61 = .ok (.aload_n 0, 1) := by decide +kernel
theorem d_Sc_meetsCircle_62 : decode b_Sc_meetsCircle 62 = .ok (.getfield 35, 3) := by decide +kernel
theorem d_Sc_meetsCircle_65 : decode b_Sc_meetsCircle 65 = .ok (.iload_n 1, 1) := by decide +kernel
theorem d_Sc_meetsCircle_66 : decode b_Sc_meetsCircle 66 = .ok (.iaload, 1) := by decide +kernel
theorem d_Sc_meetsCircle_67 : decode b_Sc_meetsCircle 67 = .ok (.iconst 1, 1) := by decide +kernel
theorem d_Sc_meetsCircle_68 : decode b_Sc_meetsCircle 68 = .ok (.iload_n 1, 1) := by decide +kernel
theorem d_Sc_meetsCircle_69 : decode b_Sc_meetsCircle 69 = .ok (.ishl, 1) := by decide +kernel
theorem d_Sc_meetsCircle_70 : decode b_Sc_meetsCircle 70 = .ok (.ior, 1) := by decide +kernel
theorem d_Sc_meetsCircle_71 : decode b_Sc_meetsCircle 71 = .ok (.istore_n 2, 1) := by decide +kernel
theorem d_Sc_meetsCircle_72 : decode b_Sc_meetsCircle 72 = .ok (.iconst 0, 1) := by decide +kernel
theorem d_Sc_meetsCircle_73 : decode b_Sc_meetsCircle 73 = .ok (.istore_n 3, 1) := by decide +kernel
theorem d_Sc_meetsCircle_74 : decode b_Sc_meetsCircle 74 = .ok (.iload_n 3, 1) := by decide +kernel
theorem d_Sc_meetsCircle_75 : decode b_Sc_meetsCircle 75 = .ok (.aload_n 0, 1) := by decide +kernel
theorem d_Sc_meetsCircle_76 : decode b_Sc_meetsCircle 76 = .ok (.getfield 38, 3) := by decide +kernel
theorem d_Sc_meetsCircle_79 : decode b_Sc_meetsCircle 79 = .ok (.if_icmp .ge 32, 3) := by decide +kernel
theorem d_Sc_meetsCircle_82 : decode b_Sc_meetsCircle 82 = .ok (.iload_n 2, 1) := by decide +kernel
theorem d_Sc_meetsCircle_83 : decode b_Sc_meetsCircle 83 = .ok (.iload_n 3, 1) := by decide +kernel
theorem d_Sc_meetsCircle_84 : decode b_Sc_meetsCircle 84 = .ok (.ishr, 1) := by decide +kernel
theorem d_Sc_meetsCircle_85 : decode b_Sc_meetsCircle 85 = .ok (.iconst 1, 1) := by decide +kernel
theorem d_Sc_meetsCircle_86 : decode b_Sc_meetsCircle 86 = .ok (.iand, 1) := by decide +kernel
theorem d_Sc_meetsCircle_87 : decode b_Sc_meetsCircle 87 = .ok (.ifCond .eq 18, 3) := by decide +kernel
theorem d_Sc_meetsCircle_90 : decode b_Sc_meetsCircle 90 = .ok (.aload_n 0, 1) := by decide +kernel
theorem d_Sc_meetsCircle_91 : decode b_Sc_meetsCircle 91 = .ok (.getfield 32, 3) := by decide +kernel
theorem d_Sc_meetsCircle_94 : decode b_Sc_meetsCircle 94 = .ok (.iload_n 3, 1) := by decide +kernel
theorem d_Sc_meetsCircle_95 : decode b_Sc_meetsCircle 95 = .ok (.iaload, 1) := by decide +kernel
theorem d_Sc_meetsCircle_96 : decode b_Sc_meetsCircle 96 = .ok (.iload_n 3, 1) := by decide +kernel
theorem d_Sc_meetsCircle_97 : decode b_Sc_meetsCircle 97 = .ok (.ishr, 1) := by decide +kernel
theorem d_Sc_meetsCircle_98 : decode b_Sc_meetsCircle 98 = .ok (.iconst 1, 1) := by decide +kernel
theorem d_Sc_meetsCircle_99 : decode b_Sc_meetsCircle 99 = .ok (.iand, 1) := by decide +kernel
theorem d_Sc_meetsCircle_100 : decode b_Sc_meetsCircle 100 = .ok (.ifCond .eq 5, 3) := by decide +kernel
theorem d_Sc_meetsCircle_103 : decode b_Sc_meetsCircle 103 = .ok (.iconst 1, 1) := by decide +kernel
theorem d_Sc_meetsCircle_104 : decode b_Sc_meetsCircle 104 = .ok (.ireturn, 1) := by decide +kernel
theorem d_Sc_meetsCircle_105 : decode b_Sc_meetsCircle 105 = .ok (.iinc 3 1, 3) := by decide +kernel
theorem d_Sc_meetsCircle_108 : decode b_Sc_meetsCircle 108 = .ok (.goto (-34), 3) := by decide +kernel
theorem d_Sc_meetsCircle_111 : decode b_Sc_meetsCircle 111 = .ok (.iconst 0, 1) := by decide +kernel
theorem d_Sc_meetsCircle_112 : decode b_Sc_meetsCircle 112 = .ok (.ireturn, 1) := by decide +kernel
theorem d_Sc_leadsInPlace_0 : decode b_Sc_leadsInPlace 0 = .ok (.iconst 0, 1) := by decide +kernel
theorem d_Sc_leadsInPlace_1 : decode b_Sc_leadsInPlace 1 = .ok (.istore_n 2, 1) := by decide +kernel
theorem d_Sc_leadsInPlace_2 : decode b_Sc_leadsInPlace 2 = .ok (.bipush 17, 2) := by decide +kernel
theorem d_Sc_leadsInPlace_4 : decode b_Sc_leadsInPlace 4 = .ok (.istore_n 3, 1) := by decide +kernel
theorem d_Sc_leadsInPlace_5 : decode b_Sc_leadsInPlace 5 = .ok (.iload_n 3, 1) := by decide +kernel
theorem d_Sc_leadsInPlace_6 : decode b_Sc_leadsInPlace 6 = .ok (.bipush 21, 2) := by decide +kernel
theorem d_Sc_leadsInPlace_8 : decode b_Sc_leadsInPlace 8 = .ok (.if_icmp .gt 21, 3) := by decide +kernel
theorem d_Sc_leadsInPlace_11 : decode b_Sc_leadsInPlace 11 = .ok (.iload_n 2, 1) := by decide +kernel
theorem d_Sc_leadsInPlace_12 : decode b_Sc_leadsInPlace 12 = .ok (.aload_n 0, 1) := by decide +kernel
theorem d_Sc_leadsInPlace_13 : decode b_Sc_leadsInPlace 13 = .ok (.iload_n 1, 1) := by decide +kernel
theorem d_Sc_leadsInPlace_14 : decode b_Sc_leadsInPlace 14 = .ok (.iload_n 3, 1) := by decide +kernel
theorem d_Sc_leadsInPlace_15 : decode b_Sc_leadsInPlace 15 = .ok (.invokevirtual 61, 3) := by decide +kernel
theorem d_Sc_leadsInPlace_18 : decode b_Sc_leadsInPlace 18 = .ok (.invokestatic 64, 3) := by decide +kernel
theorem d_Sc_leadsInPlace_21 : decode b_Sc_leadsInPlace 21 = .ok (.ior, 1) := by decide +kernel
theorem d_Sc_leadsInPlace_22 : decode b_Sc_leadsInPlace 22 = .ok (.istore_n 2, 1) := by decide +kernel
theorem d_Sc_leadsInPlace_23 : decode b_Sc_leadsInPlace 23 = .ok (.iinc 3 1, 3) := by decide +kernel
theorem d_Sc_leadsInPlace_26 : decode b_Sc_leadsInPlace 26 = .ok (.goto (-21), 3) := by decide +kernel
theorem d_Sc_leadsInPlace_29 : decode b_Sc_leadsInPlace 29 = .ok (.bipush 29, 2) := by decide +kernel
theorem d_Sc_leadsInPlace_31 : decode b_Sc_leadsInPlace 31 = .ok (.istore_n 3, 1) := by decide +kernel
theorem d_Sc_leadsInPlace_32 : decode b_Sc_leadsInPlace 32 = .ok (.iload_n 3, 1) := by decide +kernel
theorem d_Sc_leadsInPlace_33 : decode b_Sc_leadsInPlace 33 = .ok (.bipush 31, 2) := by decide +kernel
theorem d_Sc_leadsInPlace_35 : decode b_Sc_leadsInPlace 35 = .ok (.if_icmp .gt 18, 3) := by decide +kernel
theorem d_Sc_leadsInPlace_38 : decode b_Sc_leadsInPlace 38 = .ok (.iload_n 2, 1) := by decide +kernel
theorem d_Sc_leadsInPlace_39 : decode b_Sc_leadsInPlace 39 = .ok (.aload_n 0, 1) := by decide +kernel
theorem d_Sc_leadsInPlace_40 : decode b_Sc_leadsInPlace 40 = .ok (.iload_n 1, 1) := by decide +kernel
theorem d_Sc_leadsInPlace_41 : decode b_Sc_leadsInPlace 41 = .ok (.iload_n 3, 1) := by decide +kernel
theorem d_Sc_leadsInPlace_42 : decode b_Sc_leadsInPlace 42 = .ok (.invokevirtual 67, 3) := by decide +kernel
theorem d_Sc_leadsInPlace_45 : decode b_Sc_leadsInPlace 45 = .ok (.ior, 1) := by decide +kernel
theorem d_Sc_leadsInPlace_46 : decode b_Sc_leadsInPlace 46 = .ok (.istore_n 2, 1) := by decide +kernel
theorem d_Sc_leadsInPlace_47 : decode b_Sc_leadsInPlace 47 = .ok (.iinc 3 1, 3) := by decide +kernel
theorem d_Sc_leadsInPlace_50 : decode b_Sc_leadsInPlace 50 = .ok (.goto (-18), 3) := by decide +kernel
theorem d_Sc_leadsInPlace_53 : decode b_Sc_leadsInPlace 53 = .ok (.iload_n 2, 1) := by decide +kernel
theorem d_Sc_leadsInPlace_54 : decode b_Sc_leadsInPlace 54 = .ok (.aload_n 0, 1) := by decide +kernel
theorem d_Sc_leadsInPlace_55 : decode b_Sc_leadsInPlace 55 = .ok (.iload_n 1, 1) := by decide +kernel
theorem d_Sc_leadsInPlace_56 : decode b_Sc_leadsInPlace 56 = .ok (.bipush 34, 2) := by decide +kernel
theorem d_Sc_leadsInPlace_58 : decode b_Sc_leadsInPlace 58 = .ok (.invokevirtual 70, 3) := by decide +kernel
theorem d_Sc_leadsInPlace_61 : decode b_Sc_leadsInPlace 61 = .ok (.ior, 1) := by decide +kernel
theorem d_Sc_leadsInPlace_62 : decode b_Sc_leadsInPlace 62 = .ok (.ireturn, 1) := by decide +kernel
theorem d_Sc_ruleOf_0 : decode b_Sc_ruleOf 0 = .ok (.aload_n 0, 1) := by decide +kernel
theorem d_Sc_ruleOf_1 : decode b_Sc_ruleOf 1 = .ok (.getfield 11, 3) := by decide +kernel
theorem d_Sc_ruleOf_4 : decode b_Sc_ruleOf 4 = .ok (.iload_n 1, 1) := by decide +kernel
theorem d_Sc_ruleOf_5 : decode b_Sc_ruleOf 5 = .ok (.bipush 29, 2) := by decide +kernel
theorem d_Sc_ruleOf_7 : decode b_Sc_ruleOf 7 = .ok (.imul, 1) := by decide +kernel
theorem d_Sc_ruleOf_8 : decode b_Sc_ruleOf 8 = .ok (.iload_n 2, 1) := by decide +kernel
theorem d_Sc_ruleOf_9 : decode b_Sc_ruleOf 9 = .ok (.iadd, 1) := by decide +kernel
theorem d_Sc_ruleOf_10 : decode b_Sc_ruleOf 10 = .ok (.iaload, 1) := by decide +kernel
theorem d_Sc_ruleOf_11 : decode b_Sc_ruleOf 11 = .ok (.ireturn, 1) := by decide +kernel
theorem d_Sc_bitOf_0 : decode b_Sc_bitOf 0 = .ok (.iload_n 0, 1) := by decide +kernel
theorem d_Sc_bitOf_1 : decode b_Sc_bitOf 1 = .ok (.iconst (-1), 1) := by decide +kernel
theorem d_Sc_bitOf_2 : decode b_Sc_bitOf 2 = .ok (.if_icmp .ne 7, 3) := by decide +kernel
theorem d_Sc_bitOf_5 : decode b_Sc_bitOf 5 = .ok (.iconst 0, 1) := by decide +kernel
theorem d_Sc_bitOf_6 : decode b_Sc_bitOf 6 = .ok (.goto 6, 3) := by decide +kernel
theorem d_Sc_bitOf_9 : decode b_Sc_bitOf 9 = .ok (.iconst 1, 1) := by decide +kernel
theorem d_Sc_bitOf_10 : decode b_Sc_bitOf 10 = .ok (.iload_n 0, 1) := by decide +kernel
theorem d_Sc_bitOf_11 : decode b_Sc_bitOf 11 = .ok (.ishl, 1) := by decide +kernel
theorem d_Sc_bitOf_12 : decode b_Sc_bitOf 12 = .ok (.ireturn, 1) := by decide +kernel
theorem d_Sc_listedBits_0 : decode b_Sc_listedBits 0 = .ok (.iconst 0, 1) := by decide +kernel
theorem d_Sc_listedBits_1 : decode b_Sc_listedBits 1 = .ok (.istore_n 3, 1) := by decide +kernel
theorem d_Sc_listedBits_2 : decode b_Sc_listedBits 2 = .ok (.iconst 0, 1) := by decide +kernel
theorem d_Sc_listedBits_3 : decode b_Sc_listedBits 3 = .ok (.istore 4, 2) := by decide +kernel
theorem d_Sc_listedBits_5 : decode b_Sc_listedBits 5 = .ok (.iload 4, 2) := by decide +kernel
theorem d_Sc_listedBits_7 : decode b_Sc_listedBits 7 = .ok (.aload_n 0, 1) := by decide +kernel
theorem d_Sc_listedBits_8 : decode b_Sc_listedBits 8 = .ok (.iload_n 1, 1) := by decide +kernel
theorem d_Sc_listedBits_9 : decode b_Sc_listedBits 9 = .ok (.iload_n 2, 1) := by decide +kernel
theorem d_Sc_listedBits_10 : decode b_Sc_listedBits 10 = .ok (.invokevirtual 73, 3) := by decide +kernel
theorem d_Sc_listedBits_13 : decode b_Sc_listedBits 13 = .ok (.if_icmp .ge 23, 3) := by decide +kernel
theorem d_Sc_listedBits_16 : decode b_Sc_listedBits 16 = .ok (.iload_n 3, 1) := by decide +kernel
theorem d_Sc_listedBits_17 : decode b_Sc_listedBits 17 = .ok (.aload_n 0, 1) := by decide +kernel
theorem d_Sc_listedBits_18 : decode b_Sc_listedBits 18 = .ok (.iload_n 1, 1) := by decide +kernel
theorem d_Sc_listedBits_19 : decode b_Sc_listedBits 19 = .ok (.iload_n 2, 1) := by decide +kernel
theorem d_Sc_listedBits_20 : decode b_Sc_listedBits 20 = .ok (.iload 4, 2) := by decide +kernel
theorem d_Sc_listedBits_22 : decode b_Sc_listedBits 22 = .ok (.invokevirtual 76, 3) := by decide +kernel
theorem d_Sc_listedBits_25 : decode b_Sc_listedBits 25 = .ok (.invokestatic 64, 3) := by decide +kernel
theorem d_Sc_listedBits_28 : decode b_Sc_listedBits 28 = .ok (.ior, 1) := by decide +kernel
theorem d_Sc_listedBits_29 : decode b_Sc_listedBits 29 = .ok (.istore_n 3, 1) := by decide +kernel
theorem d_Sc_listedBits_30 : decode b_Sc_listedBits 30 = .ok (.iinc 4 1, 3) := by decide +kernel
theorem d_Sc_listedBits_33 : decode b_Sc_listedBits 33 = .ok (.goto (-28), 3) := by decide +kernel
theorem d_Sc_listedBits_36 : decode b_Sc_listedBits 36 = .ok (.iload_n 3, 1) := by decide +kernel
theorem d_Sc_listedBits_37 : decode b_Sc_listedBits 37 = .ok (.ireturn, 1) := by decide +kernel
theorem d_Sc_listedAt_0 : decode b_Sc_listedAt 0 = .ok (.aload_n 0, 1) := by decide +kernel
theorem d_Sc_listedAt_1 : decode b_Sc_listedAt 1 = .ok (.getfield 24, 3) := by decide +kernel
theorem d_Sc_listedAt_4 : decode b_Sc_listedAt 4 = .ok (.iload_n 1, 1) := by decide +kernel
theorem d_Sc_listedAt_5 : decode b_Sc_listedAt 5 = .ok (.iload_n 2, 1) := by decide +kernel
theorem d_Sc_listedAt_6 : decode b_Sc_listedAt 6 = .ok (.invokestatic 42, 3) := by decide +kernel
theorem d_Sc_listedAt_9 : decode b_Sc_listedAt 9 = .ok (.iconst 3, 1) := by decide +kernel
theorem d_Sc_listedAt_10 : decode b_Sc_listedAt 10 = .ok (.imul, 1) := by decide +kernel
theorem d_Sc_listedAt_11 : decode b_Sc_listedAt 11 = .ok (.iload_n 3, 1) := by decide +kernel
theorem d_Sc_listedAt_12 : decode b_Sc_listedAt 12 = .ok (.iadd, 1) := by decide +kernel
theorem d_Sc_listedAt_13 : decode b_Sc_listedAt 13 = .ok (.iaload, 1) := by decide +kernel
theorem d_Sc_listedAt_14 : decode b_Sc_listedAt 14 = .ok (.ireturn, 1) := by decide +kernel
theorem d_Sc_namedBits_0 : decode b_Sc_namedBits 0 = .ok (.iconst 0, 1) := by decide +kernel
theorem d_Sc_namedBits_1 : decode b_Sc_namedBits 1 = .ok (.istore_n 3, 1) := by decide +kernel
theorem d_Sc_namedBits_2 : decode b_Sc_namedBits 2 = .ok (.iconst 0, 1) := by decide +kernel
theorem d_Sc_namedBits_3 : decode b_Sc_namedBits 3 = .ok (.istore 4, 2) := by decide +kernel
theorem d_Sc_namedBits_5 : decode b_Sc_namedBits 5 = .ok (.iload 4, 2) := by decide +kernel
theorem d_Sc_namedBits_7 : decode b_Sc_namedBits 7 = .ok (.bipush 12, 2) := by decide +kernel
theorem d_Sc_namedBits_9 : decode b_Sc_namedBits 9 = .ok (.if_icmp .ge 23, 3) := by decide +kernel
theorem d_Sc_namedBits_12 : decode b_Sc_namedBits 12 = .ok (.iload_n 3, 1) := by decide +kernel
theorem d_Sc_namedBits_13 : decode b_Sc_namedBits 13 = .ok (.aload_n 0, 1) := by decide +kernel
theorem d_Sc_namedBits_14 : decode b_Sc_namedBits 14 = .ok (.iload_n 1, 1) := by decide +kernel
theorem d_Sc_namedBits_15 : decode b_Sc_namedBits 15 = .ok (.iload_n 2, 1) := by decide +kernel
theorem d_Sc_namedBits_16 : decode b_Sc_namedBits 16 = .ok (.iload 4, 2) := by decide +kernel
theorem d_Sc_namedBits_18 : decode b_Sc_namedBits 18 = .ok (.invokevirtual 79, 3) := by decide +kernel
theorem d_Sc_namedBits_21 : decode b_Sc_namedBits 21 = .ok (.invokestatic 64, 3) := by decide +kernel
theorem d_Sc_namedBits_24 : decode b_Sc_namedBits 24 = .ok (.ior, 1) := by decide +kernel
theorem d_Sc_namedBits_25 : decode b_Sc_namedBits 25 = .ok (.istore_n 3, 1) := by decide +kernel
theorem d_Sc_namedBits_26 : decode b_Sc_namedBits 26 = .ok (.iinc 4 1, 3) := by decide +kernel
theorem d_Sc_namedBits_29 : decode b_Sc_namedBits 29 = .ok (.goto (-24), 3) := by decide +kernel
theorem d_Sc_namedBits_32 : decode b_Sc_namedBits 32 = .ok (.iload_n 3, 1) := by decide +kernel
theorem d_Sc_namedBits_33 : decode b_Sc_namedBits 33 = .ok (.ireturn, 1) := by decide +kernel
theorem d_Sc_byNameOf_0 : decode b_Sc_byNameOf 0 = .ok (.aload_n 0, 1) := by decide +kernel
theorem d_Sc_byNameOf_1 : decode b_Sc_byNameOf 1 = .ok (.getfield 29, 3) := by decide +kernel
theorem d_Sc_byNameOf_4 : decode b_Sc_byNameOf 4 = .ok (.iload_n 1, 1) := by decide +kernel
theorem d_Sc_byNameOf_5 : decode b_Sc_byNameOf 5 = .ok (.iload_n 2, 1) := by decide +kernel
theorem d_Sc_byNameOf_6 : decode b_Sc_byNameOf 6 = .ok (.iload_n 3, 1) := by decide +kernel
theorem d_Sc_byNameOf_7 : decode b_Sc_byNameOf 7 = .ok (.invokestatic 46, 3) := by decide +kernel
theorem d_Sc_byNameOf_10 : decode b_Sc_byNameOf 10 = .ok (.iaload, 1) := by decide +kernel
theorem d_Sc_byNameOf_11 : decode b_Sc_byNameOf 11 = .ok (.ireturn, 1) := by decide +kernel
theorem d_Sc_leadsElsewhere_0 : decode b_Sc_leadsElsewhere 0 = .ok (.aload_n 0, 1) := by decide +kernel
theorem d_Sc_leadsElsewhere_1 : decode b_Sc_leadsElsewhere 1 = .ok (.iload_n 1, 1) := by decide +kernel
theorem d_Sc_leadsElsewhere_2 : decode b_Sc_leadsElsewhere 2 = .ok (.bipush 32, 2) := by decide +kernel
theorem d_Sc_leadsElsewhere_4 : decode b_Sc_leadsElsewhere 4 = .ok (.invokevirtual 67, 3) := by decide +kernel
theorem d_Sc_leadsElsewhere_7 : decode b_Sc_leadsElsewhere 7 = .ok (.aload_n 0, 1) := by decide +kernel
theorem d_Sc_leadsElsewhere_8 : decode b_Sc_leadsElsewhere 8 = .ok (.iload_n 1, 1) := by decide +kernel
theorem d_Sc_leadsElsewhere_9 : decode b_Sc_leadsElsewhere 9 = .ok (.bipush 33, 2) := by decide +kernel
theorem d_Sc_leadsElsewhere_11 : decode b_Sc_leadsElsewhere 11 = .ok (.invokevirtual 70, 3) := by decide +kernel
theorem d_Sc_leadsElsewhere_14 : decode b_Sc_leadsElsewhere 14 = .ok (.ior, 1) := by decide +kernel
theorem d_Sc_leadsElsewhere_15 : decode b_Sc_leadsElsewhere 15 = .ok (.istore_n 2, 1) := by decide +kernel
theorem d_Sc_leadsElsewhere_16 : decode b_Sc_leadsElsewhere 16 = .ok (.iload_n 2, 1) := by decide +kernel
theorem d_Sc_leadsElsewhere_17 : decode b_Sc_leadsElsewhere 17 = .ok (.aload_n 0, 1) := by decide +kernel
theorem d_Sc_leadsElsewhere_18 : decode b_Sc_leadsElsewhere 18 = .ok (.iload_n 1, 1) := by decide +kernel
theorem d_Sc_leadsElsewhere_19 : decode b_Sc_leadsElsewhere 19 = .ok (.bipush 22, 2) := by decide +kernel
theorem d_Sc_leadsElsewhere_21 : decode b_Sc_leadsElsewhere 21 = .ok (.invokevirtual 61, 3) := by decide +kernel
theorem d_Sc_leadsElsewhere_24 : decode b_Sc_leadsElsewhere 24 = .ok (.invokestatic 64, 3) := by decide +kernel
theorem d_Sc_leadsElsewhere_27 : decode b_Sc_leadsElsewhere 27 = .ok (.aload_n 0, 1) := by decide +kernel
theorem d_Sc_leadsElsewhere_28 : decode b_Sc_leadsElsewhere 28 = .ok (.iload_n 1, 1) := by decide +kernel
theorem d_Sc_leadsElsewhere_29 : decode b_Sc_leadsElsewhere 29 = .ok (.bipush 23, 2) := by decide +kernel
theorem d_Sc_leadsElsewhere_31 : decode b_Sc_leadsElsewhere 31 = .ok (.invokevirtual 61, 3) := by decide +kernel
theorem d_Sc_leadsElsewhere_34 : decode b_Sc_leadsElsewhere 34 = .ok (.invokestatic 64, 3) := by decide +kernel
theorem d_Sc_leadsElsewhere_37 : decode b_Sc_leadsElsewhere 37 = .ok (.ior, 1) := by decide +kernel
theorem d_Sc_leadsElsewhere_38 : decode b_Sc_leadsElsewhere 38 = .ok (.ior, 1) := by decide +kernel
theorem d_Sc_leadsElsewhere_39 : decode b_Sc_leadsElsewhere 39 = .ok (.istore_n 2, 1) := by decide +kernel
theorem d_Sc_leadsElsewhere_40 : decode b_Sc_leadsElsewhere 40 = .ok (.bipush 26, 2) := by decide +kernel
theorem d_Sc_leadsElsewhere_42 : decode b_Sc_leadsElsewhere 42 = .ok (.istore_n 3, 1) := by decide +kernel
theorem d_Sc_leadsElsewhere_43 : decode b_Sc_leadsElsewhere 43 = .ok (.iload_n 3, 1) := by decide +kernel
theorem d_Sc_leadsElsewhere_44 : decode b_Sc_leadsElsewhere 44 = .ok (.bipush 28, 2) := by decide +kernel
theorem d_Sc_leadsElsewhere_46 : decode b_Sc_leadsElsewhere 46 = .ok (.if_icmp .gt 21, 3) := by decide +kernel
theorem d_Sc_leadsElsewhere_49 : decode b_Sc_leadsElsewhere 49 = .ok (.iload_n 2, 1) := by decide +kernel
theorem d_Sc_leadsElsewhere_50 : decode b_Sc_leadsElsewhere 50 = .ok (.aload_n 0, 1) := by decide +kernel
theorem d_Sc_leadsElsewhere_51 : decode b_Sc_leadsElsewhere 51 = .ok (.iload_n 1, 1) := by decide +kernel
theorem d_Sc_leadsElsewhere_52 : decode b_Sc_leadsElsewhere 52 = .ok (.iload_n 3, 1) := by decide +kernel
theorem d_Sc_leadsElsewhere_53 : decode b_Sc_leadsElsewhere 53 = .ok (.invokevirtual 61, 3) := by decide +kernel
theorem d_Sc_leadsElsewhere_56 : decode b_Sc_leadsElsewhere 56 = .ok (.invokestatic 64, 3) := by decide +kernel
theorem d_Sc_leadsElsewhere_59 : decode b_Sc_leadsElsewhere 59 = .ok (.ior, 1) := by decide +kernel
theorem d_Sc_leadsElsewhere_60 : decode b_Sc_leadsElsewhere 60 = .ok (.istore_n 2, 1) := by decide +kernel
theorem d_Sc_leadsElsewhere_61 : decode b_Sc_leadsElsewhere 61 = .ok (.iinc 3 1, 3) := by decide +kernel
theorem d_Sc_leadsElsewhere_64 : decode b_Sc_leadsElsewhere 64 = .ok (.goto (-21), 3) := by decide +kernel
theorem d_Sc_leadsElsewhere_67 : decode b_Sc_leadsElsewhere 67 = .ok (.iload_n 2, 1) := by decide +kernel
theorem d_Sc_leadsElsewhere_68 : decode b_Sc_leadsElsewhere 68 = .ok (.ireturn, 1) := by decide +kernel
theorem d_Sc_leadOn_0 : decode b_Sc_leadOn 0 = .ok (.iconst 0, 1) := by decide +kernel
theorem d_Sc_leadOn_1 : decode b_Sc_leadOn 1 = .ok (.istore_n 2, 1) := by decide +kernel
theorem d_Sc_leadOn_2 : decode b_Sc_leadOn 2 = .ok (.iload_n 2, 1) := by decide +kernel
theorem d_Sc_leadOn_3 : decode b_Sc_leadOn 3 = .ok (.aload_n 0, 1) := by decide +kernel
theorem d_Sc_leadOn_4 : decode b_Sc_leadOn 4 = .ok (.getfield 38, 3) := by decide +kernel
theorem d_Sc_leadOn_7 : decode b_Sc_leadOn 7 = .ok (.if_icmp .ge 44, 3) := by decide +kernel
theorem d_Sc_leadOn_10 : decode b_Sc_leadOn 10 = .ok (.iconst 0, 1) := by decide +kernel
theorem d_Sc_leadOn_11 : decode b_Sc_leadOn 11 = .ok (.istore_n 3, 1) := by decide +kernel
theorem d_Sc_leadOn_12 : decode b_Sc_leadOn 12 = .ok (.iload_n 3, 1) := by decide +kernel
theorem d_Sc_leadOn_13 : decode b_Sc_leadOn 13 = .ok (.aload_n 0, 1) := by decide +kernel
theorem d_Sc_leadOn_14 : decode b_Sc_leadOn 14 = .ok (.getfield 38, 3) := by decide +kernel
theorem d_Sc_leadOn_17 : decode b_Sc_leadOn 17 = .ok (.if_icmp .ge 28, 3) := by decide +kernel
theorem d_Sc_leadOn_20 : decode b_Sc_leadOn 20 = .ok (.aload_n 1, 1) := by decide +kernel
theorem d_Sc_leadOn_21 : decode b_Sc_leadOn 21 = .ok (.iload_n 3, 1) := by decide +kernel
theorem d_Sc_leadOn_22 : decode b_Sc_leadOn 22 = .ok (.iaload, 1) := by decide +kernel
theorem d_Sc_leadOn_23 : decode b_Sc_leadOn 23 = .ok (.iload_n 2, 1) := by decide +kernel
theorem d_Sc_leadOn_24 : decode b_Sc_leadOn 24 = .ok (.ishr, 1) := by decide +kernel
theorem d_Sc_leadOn_25 : decode b_Sc_leadOn 25 = .ok (.iconst 1, 1) := by decide +kernel
theorem d_Sc_leadOn_26 : decode b_Sc_leadOn 26 = .ok (.iand, 1) := by decide +kernel
theorem d_Sc_leadOn_27 : decode b_Sc_leadOn 27 = .ok (.ifCond .eq 12, 3) := by decide +kernel
theorem d_Sc_leadOn_30 : decode b_Sc_leadOn 30 = .ok (.aload_n 1, 1) := by decide +kernel
theorem d_Sc_leadOn_31 : decode b_Sc_leadOn 31 = .ok (.iload_n 3, 1) := by decide +kernel
theorem d_Sc_leadOn_32 : decode b_Sc_leadOn 32 = .ok (.dup2, 1) := by decide +kernel
theorem d_Sc_leadOn_33 : decode b_Sc_leadOn 33 = .ok (.iaload, 1) := by decide +kernel
theorem d_Sc_leadOn_34 : decode b_Sc_leadOn 34 = .ok (.aload_n 1, 1) := by decide +kernel
theorem d_Sc_leadOn_35 : decode b_Sc_leadOn 35 = .ok (.iload_n 2, 1) := by decide +kernel
theorem d_Sc_leadOn_36 : decode b_Sc_leadOn 36 = .ok (.iaload, 1) := by decide +kernel
theorem d_Sc_leadOn_37 : decode b_Sc_leadOn 37 = .ok (.ior, 1) := by decide +kernel
theorem d_Sc_leadOn_38 : decode b_Sc_leadOn 38 = .ok (.iastore, 1) := by decide +kernel
theorem d_Sc_leadOn_39 : decode b_Sc_leadOn 39 = .ok (.iinc 3 1, 3) := by decide +kernel
theorem d_Sc_leadOn_42 : decode b_Sc_leadOn 42 = .ok (.goto (-30), 3) := by decide +kernel
theorem d_Sc_leadOn_45 : decode b_Sc_leadOn 45 = .ok (.iinc 2 1, 3) := by decide +kernel
theorem d_Sc_leadOn_48 : decode b_Sc_leadOn 48 = .ok (.goto (-46), 3) := by decide +kernel
theorem d_Sc_leadOn_51 : decode b_Sc_leadOn 51 = .ok (.return_, 1) := by decide +kernel
theorem d_Ju_begin_0 : decode b_Ju_begin 0 = .ok (.aload_n 0, 1) := by decide +kernel
theorem d_Ju_begin_1 : decode b_Ju_begin 1 = .ok (.getfield 11, 3) := by decide +kernel
theorem d_Ju_begin_4 : decode b_Ju_begin 4 = .ok (.invokevirtual 49, 3) := by decide +kernel
theorem d_Ju_begin_7 : decode b_Ju_begin 7 = .ok (.aload_n 0, 1) := by decide +kernel
theorem d_Ju_begin_8 : decode b_Ju_begin 8 = .ok (.iload_n 1, 1) := by decide +kernel
theorem d_Ju_begin_9 : decode b_Ju_begin 9 = .ok (.iload_n 2, 1) := by decide +kernel
theorem d_Ju_begin_10 : decode b_Ju_begin 10 = .ok (.iconst 1, 1) := by decide +kernel
theorem d_Ju_begin_11 : decode b_Ju_begin 11 = .ok (.invokevirtual 52, 3) := by decide +kernel
theorem d_Ju_begin_14 : decode b_Ju_begin 14 = .ok (.aload_n 0, 1) := by decide +kernel
theorem d_Ju_begin_15 : decode b_Ju_begin 15 = .ok (.getfield 45, 3) := by decide +kernel
theorem d_Ju_begin_18 : decode b_Ju_begin 18 = .ok (.ifCond .ne 7, 3) := by decide +kernel
theorem d_Ju_begin_21 : decode b_Ju_begin 21 = .ok (.iconst 1, 1) := by decide +kernel
theorem d_Ju_begin_22 : decode b_Ju_begin 22 = .ok (.goto 4, 3) := by decide +kernel
theorem d_Ju_begin_25 : decode b_Ju_begin 25 = .ok (.iconst 0, 1) := by decide +kernel
theorem d_Ju_begin_26 : decode b_Ju_begin 26 = .ok (.istore_n 3, 1) := by decide +kernel
theorem d_Ju_begin_27 : decode b_Ju_begin 27 = .ok (.iload_n 3, 1) := by decide +kernel
theorem d_Ju_begin_28 : decode b_Ju_begin 28 = .ok (.ifCond .ne 7, 3) := by decide +kernel
theorem d_Ju_begin_31 : decode b_Ju_begin 31 = .ok (.aload_n 0, 1) := by decide +kernel
theorem d_Ju_begin_32 : decode b_Ju_begin 32 = .ok (.invokevirtual 56, 3) := by decide +kernel
theorem d_Ju_begin_35 : decode b_Ju_begin 35 = .ok (.iload_n 3, 1) := by decide +kernel
theorem d_Ju_begin_36 : decode b_Ju_begin 36 = .ok (.ireturn, 1) := by decide +kernel
theorem d_Va_settle_0 : decode b_Va_settle 0 = .ok (.aload_n 0, 1) := by decide +kernel
theorem d_Va_settle_1 : decode b_Va_settle 1 = .ok (.getfield 34, 3) := by decide +kernel
theorem d_Va_settle_4 : decode b_Va_settle 4 = .ok (.istore_n 1, 1) := by decide +kernel
theorem d_Va_settle_5 : decode b_Va_settle 5 = .ok (.iload_n 1, 1) := by decide +kernel
theorem d_Va_settle_6 : decode b_Va_settle 6 = .ok (.aload_n 0, 1) := by decide +kernel
theorem d_Va_settle_7 : decode b_Va_settle 7 = .ok (.getfield 26, 3) := by decide +kernel
theorem d_Va_settle_10 : decode b_Va_settle 10 = .ok (.if_icmp .ge 55, 3) := by decide +kernel
theorem d_Va_settle_13 : decode b_Va_settle 13 = .ok (.aload_n 0, 1) := by decide +kernel
theorem d_Va_settle_14 : decode b_Va_settle 14 = .ok (.getfield 23, 3) := by decide +kernel
theorem d_Va_settle_17 : decode b_Va_settle 17 = .ok (.iload_n 1, 1) := by decide +kernel
theorem d_Va_settle_18 : decode b_Va_settle 18 = .ok (.iload_n 1, 1) := by decide +kernel
theorem d_Va_settle_19 : decode b_Va_settle 19 = .ok (.iastore, 1) := by decide +kernel
theorem d_Va_settle_20 : decode b_Va_settle 20 = .ok (.iconst 0, 1) := by decide +kernel
theorem d_Va_settle_21 : decode b_Va_settle 21 = .ok (.istore_n 2, 1) := by decide +kernel
theorem d_Va_settle_22 : decode b_Va_settle 22 = .ok (.iload_n 2, 1) := by decide +kernel
theorem d_Va_settle_23 : decode b_Va_settle 23 = .ok (.iload_n 1, 1) := by decide +kernel
theorem d_Va_settle_24 : decode b_Va_settle 24 = .ok (.if_icmp .ge 35, 3) := by decide +kernel
theorem d_Va_settle_27 : decode b_Va_settle 27 = .ok (.aload_n 0, 1) := by decide +kernel
theorem d_Va_settle_28 : decode b_Va_settle 28 = .ok (.getfield 23, 3) := by decide +kernel
theorem d_Va_settle_31 : decode b_Va_settle 31 = .ok (.iload_n 1, 1) := by decide +kernel
theorem d_Va_settle_32 : decode b_Va_settle 32 = .ok (.iaload, 1) := by decide +kernel
theorem d_Va_settle_33 : decode b_Va_settle 33 = .ok (.iload_n 1, 1) := by decide +kernel
theorem d_Va_settle_34 : decode b_Va_settle 34 = .ok (.if_icmp .ne 25, 3) := by decide +kernel
theorem d_Va_settle_37 : decode b_Va_settle 37 = .ok (.aload_n 0, 1) := by decide +kernel
theorem d_Va_settle_38 : decode b_Va_settle 38 = .ok (.iload_n 1, 1) := by decide +kernel
theorem d_Va_settle_39 : decode b_Va_settle 39 = .ok (.iload_n 2, 1) := by decide +kernel
theorem d_Va_settle_40 : decode b_Va_settle 40 = .ok (.invokevirtual 55, 3) := by decide +kernel
theorem d_Va_settle_43 : decode b_Va_settle 43 = .ok (.ifCond .eq 10, 3) := by decide +kernel
theorem d_Va_settle_46 : decode b_Va_settle 46 = .ok (.aload_n 0, 1) := by decide +kernel
theorem d_Va_settle_47 : decode b_Va_settle 47 = .ok (.getfield 23, 3) := by decide +kernel
theorem d_Va_settle_50 : decode b_Va_settle 50 = .ok (.iload_n 1, 1) := by decide +kernel
theorem d_Va_settle_51 : decode b_Va_settle 51 = .ok (.iload_n 2, 1) := by decide +kernel
theorem d_Va_settle_52 : decode b_Va_settle 52 = .ok (.iastore, 1) := by decide +kernel
theorem d_Va_settle_53 : decode b_Va_settle 53 = .ok (.iinc 2 1, 3) := by decide +kernel
theorem d_Va_settle_56 : decode b_Va_settle 56 = .ok (.goto (-34), 3) := by decide +kernel
theorem d_Va_settle_59 : decode b_Va_settle 59 = .ok (.iinc 1 1, 3) := by decide +kernel
theorem d_Va_settle_62 : decode b_Va_settle 62 = .ok (.goto (-57), 3) := by decide +kernel
theorem d_Va_settle_65 : decode b_Va_settle 65 = .ok (.aload_n 0, 1) := by decide +kernel
theorem d_Va_settle_66 : decode b_Va_settle 66 = .ok (.aload_n 0, 1) := by decide +kernel
theorem d_Va_settle_67 : decode b_Va_settle 67 = .ok (.getfield 26, 3) := by decide +kernel
theorem d_Va_settle_70 : decode b_Va_settle 70 = .ok (.putfield 34, 3) := by decide +kernel
theorem d_Va_settle_73 : decode b_Va_settle 73 = .ok (.return_, 1) := by decide +kernel
theorem d_Va_areAlike_0 : decode b_Va_areAlike 0 = .ok (.aload_n 0, 1) := by decide +kernel
theorem d_Va_areAlike_1 : decode b_Va_areAlike 1 = .ok (.getfield 9, 3) := by decide +kernel
theorem d_Va_areAlike_4 : decode b_Va_areAlike 4 = .ok (.iload_n 1, 1) := by decide +kernel
theorem d_Va_areAlike_5 : decode b_Va_areAlike 5 = .ok (.iaload, 1) := by decide +kernel
theorem d_Va_areAlike_6 : decode b_Va_areAlike 6 = .ok (.aload_n 0, 1) := by decide +kernel
theorem d_Va_areAlike_7 : decode b_Va_areAlike 7 = .ok (.getfield 9, 3) := by decide +kernel
theorem d_Va_areAlike_10 : decode b_Va_areAlike 10 = .ok (.iload_n 2, 1) := by decide +kernel
theorem d_Va_areAlike_11 : decode b_Va_areAlike 11 = .ok (.iaload, 1) := by decide +kernel
theorem d_Va_areAlike_12 : decode b_Va_areAlike 12 = .ok (.if_icmp .ne 34, 3) := by decide +kernel
theorem d_Va_areAlike_15 : decode b_Va_areAlike 15 = .ok (.aload_n 0, 1) := by decide +kernel
theorem d_Va_areAlike_16 : decode b_Va_areAlike 16 = .ok (.getfield 13, 3) := by decide +kernel
theorem d_Va_areAlike_19 : decode b_Va_areAlike 19 = .ok (.iload_n 1, 1) := by decide +kernel
theorem d_Va_areAlike_20 : decode b_Va_areAlike 20 = .ok (.laload, 1) := by decide +kernel
theorem d_Va_areAlike_21 : decode b_Va_areAlike 21 = .ok (.aload_n 0, 1) := by decide +kernel
theorem d_Va_areAlike_22 : decode b_Va_areAlike 22 = .ok (.getfield 13, 3) := by decide +kernel
theorem d_Va_areAlike_25 : decode b_Va_areAlike 25 = .ok (.iload_n 2, 1) := by decide +kernel
theorem d_Va_areAlike_26 : decode b_Va_areAlike 26 = .ok (.laload, 1) := by decide +kernel
theorem d_Va_areAlike_27 : decode b_Va_areAlike 27 = .ok (.lcmp, 1) := by decide +kernel
theorem d_Va_areAlike_28 : decode b_Va_areAlike 28 = .ok (.ifCond .ne 18, 3) := by decide +kernel
theorem d_Va_areAlike_31 : decode b_Va_areAlike 31 = .ok (.aload_n 0, 1) := by decide +kernel
theorem d_Va_areAlike_32 : decode b_Va_areAlike 32 = .ok (.getfield 17, 3) := by decide +kernel
theorem d_Va_areAlike_35 : decode b_Va_areAlike 35 = .ok (.iload_n 1, 1) := by decide +kernel
theorem d_Va_areAlike_36 : decode b_Va_areAlike 36 = .ok (.iaload, 1) := by decide +kernel
theorem d_Va_areAlike_37 : decode b_Va_areAlike 37 = .ok (.aload_n 0, 1) := by decide +kernel
theorem d_Va_areAlike_38 : decode b_Va_areAlike 38 = .ok (.getfield 17, 3) := by decide +kernel
theorem d_Va_areAlike_41 : decode b_Va_areAlike 41 = .ok (.iload_n 2, 1) := by decide +kernel
theorem d_Va_areAlike_42 : decode b_Va_areAlike 42 = .ok (.iaload, 1) := by decide +kernel
theorem d_Va_areAlike_43 : decode b_Va_areAlike 43 = .ok (.if_icmp .eq 5, 3) := by decide +kernel
theorem d_Va_areAlike_46 : decode b_Va_areAlike 46 = .ok (.iconst 0, 1) := by decide +kernel
theorem d_Va_areAlike_47 : decode b_Va_areAlike 47 = .ok (.ireturn, 1) := by decide +kernel
theorem d_Va_areAlike_48 : decode b_Va_areAlike 48 = .ok (.iconst 0, 1) := by decide +kernel
theorem d_Va_areAlike_49 : decode b_Va_areAlike 49 = .ok (.istore_n 3, 1) := by decide +kernel
theorem d_Va_areAlike_50 : decode b_Va_areAlike 50 = .ok (.iload_n 3, 1) := by decide +kernel
theorem d_Va_areAlike_51 : decode b_Va_areAlike 51 = .ok (.bipush 12, 2) := by decide +kernel
theorem d_Va_areAlike_53 : decode b_Va_areAlike 53 = .ok (.if_icmp .ge 39, 3) := by decide +kernel
theorem d_Va_areAlike_56 : decode b_Va_areAlike 56 = .ok (.aload_n 0, 1) := by decide +kernel
theorem d_Va_areAlike_57 : decode b_Va_areAlike 57 = .ok (.iload_n 1, 1) := by decide +kernel
theorem d_Va_areAlike_58 : decode b_Va_areAlike 58 = .ok (.iload_n 3, 1) := by decide +kernel
theorem d_Va_areAlike_59 : decode b_Va_areAlike 59 = .ok (.invokevirtual 59, 3) := by decide +kernel
theorem d_Va_areAlike_62 : decode b_Va_areAlike 62 = .ok (.ifCond .eq 24, 3) := by decide +kernel
theorem d_Va_areAlike_65 : decode b_Va_areAlike 65 = .ok (.aload_n 0, 1) := by decide +kernel
theorem d_Va_areAlike_66 : decode b_Va_areAlike 66 = .ok (.aload_n 0, 1) := by decide +kernel
theorem d_Va_areAlike_67 : decode b_Va_areAlike 67 = .ok (.iload_n 1, 1) := by decide +kernel
theorem d_Va_areAlike_68 : decode b_Va_areAlike 68 = .ok (.iload_n 3, 1) := by decide +kernel
theorem d_Va_areAlike_69 : decode b_Va_areAlike 69 = .ok (.invokevirtual 62, 3) := by decide +kernel
theorem d_Va_areAlike_72 : decode b_Va_areAlike 72 = .ok (.aload_n 0, 1) := by decide +kernel
theorem d_Va_areAlike_73 : decode b_Va_areAlike 73 = .ok (.iload_n 2, 1) := by decide +kernel
theorem d_Va_areAlike_74 : decode b_Va_areAlike 74 = .ok (.iload_n 3, 1) := by decide +kernel
theorem d_Va_areAlike_75 : decode b_Va_areAlike 75 = .ok (.invokevirtual 62, 3) := by decide +kernel
theorem d_Va_areAlike_78 : decode b_Va_areAlike 78 = .ok (.invokevirtual 65, 3) := by decide +kernel
theorem d_Va_areAlike_81 : decode b_Va_areAlike 81 = .ok (.ifCond .ne 5, 3) := by decide +kernel
theorem d_Va_areAlike_84 : decode b_Va_areAlike 84 = .ok (.iconst 0, 1) := by decide +kernel
theorem d_Va_areAlike_85 : decode b_Va_areAlike 85 = .ok (.ireturn, 1) := by decide +kernel
theorem d_Va_areAlike_86 : decode b_Va_areAlike 86 = .ok (.iinc 3 1, 3) := by decide +kernel
theorem d_Va_areAlike_89 : decode b_Va_areAlike 89 = .ok (.goto (-39), 3) := by decide +kernel
theorem d_Va_areAlike_92 : decode b_Va_areAlike 92 = .ok (.iconst 1, 1) := by decide +kernel
theorem d_Va_areAlike_93 : decode b_Va_areAlike 93 = .ok (.ireturn, 1) := by decide +kernel
theorem d_Va_isPresent_0 : decode b_Va_isPresent 0 = .ok (.aload_n 0, 1) := by decide +kernel
theorem d_Va_isPresent_1 : decode b_Va_isPresent 1 = .ok (.getfield 17, 3) := by decide +kernel
theorem d_Va_isPresent_4 : decode b_Va_isPresent 4 = .ok (.iload_n 1, 1) := by decide +kernel
theorem d_Va_isPresent_5 : decode b_Va_isPresent 5 = .ok (.iaload, 1) := by decide +kernel
theorem d_Va_isPresent_6 : decode b_Va_isPresent 6 = .ok (.iload_n 2, 1) := by decide +kernel
theorem d_Va_isPresent_7 : decode b_Va_isPresent 7 = .ok (.ishr, 1) := by decide +kernel
theorem d_Va_isPresent_8 : decode b_Va_isPresent 8 = .ok (.iconst 1, 1) := by decide +kernel
theorem d_Va_isPresent_9 : decode b_Va_isPresent 9 = .ok (.iand, 1) := by decide +kernel
theorem d_Va_isPresent_10 : decode b_Va_isPresent 10 = .ok (.ifCond .eq 7, 3) := by decide +kernel
theorem d_Va_isPresent_13 : decode b_Va_isPresent 13 = .ok (.iconst 1, 1) := by decide +kernel
theorem d_Va_isPresent_14 : decode b_Va_isPresent 14 = .ok (.goto 4, 3) := by decide +kernel
theorem d_Va_isPresent_17 : decode b_Va_isPresent 17 = .ok (.iconst 0, 1) := by decide +kernel
theorem d_Va_isPresent_18 : decode b_Va_isPresent 18 = .ok (.ireturn, 1) := by decide +kernel
theorem d_Va_partOf_0 : decode b_Va_partOf 0 = .ok (.aload_n 0, 1) := by decide +kernel
theorem d_Va_partOf_1 : decode b_Va_partOf 1 = .ok (.getfield 20, 3) := by decide +kernel
theorem d_Va_partOf_4 : decode b_Va_partOf 4 = .ok (.iload_n 1, 1) := by decide +kernel
theorem d_Va_partOf_5 : decode b_Va_partOf 5 = .ok (.bipush 12, 2) := by decide +kernel
theorem d_Va_partOf_7 : decode b_Va_partOf 7 = .ok (.imul, 1) := by decide +kernel
theorem d_Va_partOf_8 : decode b_Va_partOf 8 = .ok (.iload_n 2, 1) := by decide +kernel
theorem d_Va_partOf_9 : decode b_Va_partOf 9 = .ok (.iadd, 1) := by decide +kernel
theorem d_Va_partOf_10 : decode b_Va_partOf 10 = .ok (.iaload, 1) := by decide +kernel
theorem d_Va_partOf_11 : decode b_Va_partOf 11 = .ok (.ireturn, 1) := by decide +kernel
theorem d_Va_areEqual_0 : decode b_Va_areEqual 0 = .ok (.aload_n 0, 1) := by decide +kernel
theorem d_Va_areEqual_1 : decode b_Va_areEqual 1 = .ok (.getfield 23, 3) := by decide +kernel
theorem d_Va_areEqual_4 : decode b_Va_areEqual 4 = .ok (.iload_n 1, 1) := by decide +kernel
theorem d_Va_areEqual_5 : decode b_Va_areEqual 5 = .ok (.iaload, 1) := by decide +kernel
theorem d_Va_areEqual_6 : decode b_Va_areEqual 6 = .ok (.aload_n 0, 1) := by decide +kernel
theorem d_Va_areEqual_7 : decode b_Va_areEqual 7 = .ok (.getfield 23, 3) := by decide +kernel
theorem d_Va_areEqual_10 : decode b_Va_areEqual 10 = .ok (.iload_n 2, 1) := by decide +kernel
theorem d_Va_areEqual_11 : decode b_Va_areEqual 11 = .ok (.iaload, 1) := by decide +kernel
theorem d_Va_areEqual_12 : decode b_Va_areEqual 12 = .ok (.if_icmp .ne 7, 3) := by decide +kernel
theorem d_Va_areEqual_15 : decode b_Va_areEqual 15 = .ok (.iconst 1, 1) := by decide +kernel
theorem d_Va_areEqual_16 : decode b_Va_areEqual 16 = .ok (.goto 4, 3) := by decide +kernel
theorem d_Va_areEqual_19 : decode b_Va_areEqual 19 = .ok (.iconst 0, 1) := by decide +kernel
theorem d_Va_areEqual_20 : decode b_Va_areEqual 20 = .ok (.ireturn, 1) := by decide +kernel
theorem d_Ju_weigh_0 : decode b_Ju_weigh 0 = .ok (.iload_n 1, 1) := by decide +kernel
theorem d_Ju_weigh_1 : decode b_Ju_weigh 1 = .ok (.iload_n 2, 1) := by decide +kernel
theorem d_Ju_weigh_2 : decode b_Ju_weigh 2 = .ok (.invokestatic 59, 3) := by decide +kernel
theorem d_Ju_weigh_5 : decode b_Ju_weigh 5 = .ok (.istore 4, 2) := by decide +kernel
theorem d_Ju_weigh_7 : decode b_Ju_weigh 7 = .ok (.aload_n 0, 1) := by decide +kernel
theorem d_Ju_weigh_8 : decode b_Ju_weigh 8 = .ok (.getfield 25, 3) := by decide +kernel
theorem d_Ju_weigh_11 : decode b_Ju_weigh 11 = .ok (.iload 4, 2) := by decide +kernel
theorem d_Ju_weigh_13 : decode b_Ju_weigh 13 = .ok (.iconst 1, 1) := by decide +kernel
theorem d_Ju_weigh_14 : decode b_Ju_weigh 14 = .ok (.iastore, 1) := by decide +kernel
theorem d_Ju_weigh_15 : decode b_Ju_weigh 15 = .ok (.iconst 0, 1) := by decide +kernel
theorem d_Ju_weigh_16 : decode b_Ju_weigh 16 = .ok (.istore 5, 2) := by decide +kernel
theorem d_Ju_weigh_18 : decode b_Ju_weigh 18 = .ok (.iload 5, 2) := by decide +kernel
theorem d_Ju_weigh_20 : decode b_Ju_weigh 20 = .ok (.bipush 16, 2) := by decide +kernel
theorem d_Ju_weigh_22 : decode b_Ju_weigh 22 = .ok (.if_icmp .gt 50, 3) := by decide +kernel
theorem d_Ju_weigh_25 : decode b_Ju_weigh 25 = .ok (.aload_n 0, 1) := by decide +kernel
theorem d_Ju_weigh_26 : decode b_Ju_weigh 26 = .ok (.getfield 17, 3) := by decide +kernel
theorem d_Ju_weigh_29 : decode b_Ju_weigh 29 = .ok (.iload_n 1, 1) := by decide +kernel
theorem d_Ju_weigh_30 : decode b_Ju_weigh 30 = .ok (.iload 5, 2) := by decide +kernel
theorem d_Ju_weigh_32 : decode b_Ju_weigh 32 = .ok (.invokevirtual 78, 3) := by decide +kernel
theorem d_Ju_weigh_35 : decode b_Ju_weigh 35 = .ok (.istore 6, 2) := by decide +kernel
theorem d_Ju_weigh_37 : decode b_Ju_weigh 37 = .ok (.iload 6, 2) := by decide +kernel
theorem d_Ju_weigh_39 : decode b_Ju_weigh 39 = .ok (.iconst (-1), 1) := by decide +kernel
theorem d_Ju_weigh_40 : decode b_Ju_weigh 40 = .ok (.if_icmp .eq 26, 3) := by decide +kernel
theorem d_Ju_weigh_43 : decode b_Ju_weigh 43 = .ok (.aload_n 0, 1) := by decide +kernel
theorem d_Ju_weigh_44 : decode b_Ju_weigh 44 = .ok (.getfield 21, 3) := by decide +kernel
theorem d_Ju_weigh_47 : decode b_Ju_weigh 47 = .ok (.iload 5, 2) := by decide +kernel
theorem d_Ju_weigh_49 : decode b_Ju_weigh 49 = .ok (.iload 6, 2) := by decide +kernel
theorem d_Ju_weigh_51 : decode b_Ju_weigh 51 = .ok (.iload_n 2, 1) := by decide +kernel
theorem d_Ju_weigh_52 : decode b_Ju_weigh 52 = .ok (.invokevirtual 81, 3) := by decide +kernel
theorem d_Ju_weigh_55 : decode b_Ju_weigh 55 = .ok (.ifCond .ne 11, 3) := by decide +kernel
theorem d_Ju_weigh_58 : decode b_Ju_weigh 58 = .ok (.aload_n 0, 1) := by decide +kernel
theorem d_Ju_weigh_59 : decode b_Ju_weigh 59 = .ok (.iload_n 1, 1) := by decide +kernel
theorem d_Ju_weigh_60 : decode b_Ju_weigh 60 = .ok (.iload_n 2, 1) := by decide +kernel
theorem d_Ju_weigh_61 : decode b_Ju_weigh 61 = .ok (.iload 5, 2) := by decide +kernel
theorem d_Ju_weigh_63 : decode b_Ju_weigh 63 = .ok (.invokevirtual 87, 3) := by decide +kernel
theorem d_Ju_weigh_66 : decode b_Ju_weigh 66 = .ok (.iinc 5 1, 3) := by decide +kernel
theorem d_Ju_weigh_69 : decode b_Ju_weigh 69 = .ok (.goto (-51), 3) := by decide +kernel
theorem d_Ju_weigh_72 : decode b_Ju_weigh 72 = .ok (.aload_n 0, 1) := by decide +kernel
theorem d_Ju_weigh_73 : decode b_Ju_weigh 73 = .ok (.iload_n 1, 1) := by decide +kernel
theorem d_Ju_weigh_74 : decode b_Ju_weigh 74 = .ok (.iload_n 2, 1) := by decide +kernel
theorem d_Ju_weigh_75 : decode b_Ju_weigh 75 = .ok (.iload_n 3, 1) := by decide +kernel
theorem d_Ju_weigh_76 : decode b_Ju_weigh 76 = .ok (.invokevirtual 90, 3) := by decide +kernel
theorem d_Ju_weigh_79 : decode b_Ju_weigh 79 = .ok (.aload_n 0, 1) := by decide +kernel
theorem d_Ju_weigh_80 : decode b_Ju_weigh 80 = .ok (.getfield 11, 3) := by decide +kernel
theorem d_Ju_weigh_83 : decode b_Ju_weigh 83 = .ok (.iload_n 2, 1) := by decide +kernel
theorem d_Ju_weigh_84 : decode b_Ju_weigh 84 = .ok (.invokevirtual 93, 3) := by decide +kernel
theorem d_Ju_weigh_87 : decode b_Ju_weigh 87 = .ok (.iconst 4, 1) := by decide +kernel
theorem d_Ju_weigh_88 : decode b_Ju_weigh 88 = .ok (.if_icmp .ne 26, 3) := by decide +kernel
theorem d_Ju_weigh_91 : decode b_Ju_weigh 91 = .ok (.aload_n 0, 1) := by decide +kernel
theorem d_Ju_weigh_92 : decode b_Ju_weigh 92 = .ok (.iload_n 1, 1) := by decide +kernel
theorem d_Ju_weigh_93 : decode b_Ju_weigh 93 = .ok (.iload_n 2, 1) := by decide +kernel
theorem d_Ju_weigh_94 : decode b_Ju_weigh 94 = .ok (.iload_n 3, 1) := by decide +kernel
theorem d_Ju_weigh_95 : decode b_Ju_weigh 95 = .ok (.invokevirtual 99, 3) := by decide +kernel
theorem d_Ju_weigh_98 : decode b_Ju_weigh 98 = .ok (.aload_n 0, 1) := by decide +kernel
theorem d_Ju_weigh_99 : decode b_Ju_weigh 99 = .ok (.iload_n 1, 1) := by decide +kernel
theorem d_Ju_weigh_100 : decode b_Ju_weigh 100 = .ok (.iload_n 2, 1) := by decide +kernel
theorem d_Ju_weigh_101 : decode b_Ju_weigh 101 = .ok (.iload_n 3, 1) := by decide +kernel
theorem d_Ju_weigh_102 : decode b_Ju_weigh 102 = .ok (.invokevirtual 102, 3) := by decide +kernel
theorem d_Ju_weigh_105 : decode b_Ju_weigh 105 = .ok (.aload_n 0, 1) := by decide +kernel
theorem d_Ju_weigh_106 : decode b_Ju_weigh 106 = .ok (.iload_n 1, 1) := by decide +kernel
theorem d_Ju_weigh_107 : decode b_Ju_weigh 107 = .ok (.iload_n 2, 1) := by decide +kernel
theorem d_Ju_weigh_108 : decode b_Ju_weigh 108 = .ok (.bipush 28, 2) := by decide +kernel
theorem d_Ju_weigh_110 : decode b_Ju_weigh 110 = .ok (.iload_n 3, 1) := by decide +kernel
theorem d_Ju_weigh_111 : decode b_Ju_weigh 111 = .ok (.invokevirtual 105, 3) := by decide +kernel
theorem d_Ju_weigh_114 : decode b_Ju_weigh 114 = .ok (.aload_n 0, 1) := by decide +kernel
theorem d_Ju_weigh_115 : decode b_Ju_weigh 115 = .ok (.getfield 11, 3) := by decide +kernel
theorem d_Ju_weigh_118 : decode b_Ju_weigh 118 = .ok (.iload_n 2, 1) := by decide +kernel
theorem d_Ju_weigh_119 : decode b_Ju_weigh 119 = .ok (.invokevirtual 93, 3) := by decide +kernel
theorem d_Ju_weigh_122 : decode b_Ju_weigh 122 = .ok (.iconst 5, 1) := by decide +kernel
theorem d_Ju_weigh_123 : decode b_Ju_weigh 123 = .ok (.if_icmp .ne 19, 3) := by decide +kernel
theorem d_Ju_weigh_126 : decode b_Ju_weigh 126 = .ok (.aload_n 0, 1) := by decide +kernel
theorem d_Ju_weigh_127 : decode b_Ju_weigh 127 = .ok (.iload_n 1, 1) := by decide +kernel
theorem d_Ju_weigh_128 : decode b_Ju_weigh 128 = .ok (.iload_n 2, 1) := by decide +kernel
theorem d_Ju_weigh_129 : decode b_Ju_weigh 129 = .ok (.iload_n 3, 1) := by decide +kernel
theorem d_Ju_weigh_130 : decode b_Ju_weigh 130 = .ok (.invokevirtual 109, 3) := by decide +kernel
theorem d_Ju_weigh_133 : decode b_Ju_weigh 133 = .ok (.aload_n 0, 1) := by decide +kernel
theorem d_Ju_weigh_134 : decode b_Ju_weigh 134 = .ok (.iload_n 1, 1) := by decide +kernel
theorem d_Ju_weigh_135 : decode b_Ju_weigh 135 = .ok (.iload_n 2, 1) := by decide +kernel
theorem d_Ju_weigh_136 : decode b_Ju_weigh 136 = .ok (.bipush 27, 2) := by decide +kernel
theorem d_Ju_weigh_138 : decode b_Ju_weigh 138 = .ok (.iload_n 3, 1) := by decide +kernel
theorem d_Ju_weigh_139 : decode b_Ju_weigh 139 = .ok (.invokevirtual 105, 3) := by decide +kernel
theorem d_Ju_weigh_142 : decode b_Ju_weigh 142 = .ok (.aload_n 0, 1) := by decide +kernel
theorem d_Ju_weigh_143 : decode b_Ju_weigh 143 = .ok (.getfield 32, 3) := by decide +kernel
theorem d_Ju_weigh_146 : decode b_Ju_weigh 146 = .ok (.iload 4, 2) := by decide +kernel
theorem d_Ju_weigh_148 : decode b_Ju_weigh 148 = .ok (.laload, 1) := by decide +kernel
theorem d_Ju_weigh_149 : decode b_Ju_weigh 149 = .ok (.lconst 0, 1) := by decide +kernel
theorem d_Ju_weigh_150 : decode b_Ju_weigh 150 = .ok (.lcmp, 1) := by decide +kernel
theorem d_Ju_weigh_151 : decode b_Ju_weigh 151 = .ok (.ifCond .eq 11, 3) := by decide +kernel
theorem d_Ju_weigh_154 : decode b_Ju_weigh 154 = .ok (.aload_n 0, 1) := by decide +kernel
theorem d_Ju_weigh_155 : decode b_Ju_weigh 155 = .ok (.getfield 29, 3) := by decide +kernel
theorem d_Ju_weigh_158 : decode b_Ju_weigh 158 = .ok (.iload 4, 2) := by decide +kernel
theorem d_Ju_weigh_160 : decode b_Ju_weigh 160 = .ok (.iconst 0, 1) := by decide +kernel
theorem d_Ju_weigh_161 : decode b_Ju_weigh 161 = .ok (.iastore, 1) := by decide +kernel
theorem d_Ju_weigh_162 : decode b_Ju_weigh 162 = .ok (.return_, 1) := by decide +kernel
theorem d_Ju_pairOf_0 : decode b_Ju_pairOf 0 = .ok (.iload_n 1, 1) := by decide +kernel
theorem d_Ju_pairOf_1 : decode b_Ju_pairOf 1 = .ok (.bipush 24, 2) := by decide +kernel
theorem d_Ju_pairOf_3 : decode b_Ju_pairOf 3 = .ok (.imul, 1) := by decide +kernel
theorem d_Ju_pairOf_4 : decode b_Ju_pairOf 4 = .ok (.iload_n 0, 1) := by decide +kernel
theorem d_Ju_pairOf_5 : decode b_Ju_pairOf 5 = .ok (.iadd, 1) := by decide +kernel
theorem d_Ju_pairOf_6 : decode b_Ju_pairOf 6 = .ok (.ireturn, 1) := by decide +kernel
theorem d_Pl_holds_0 : decode b_Pl_holds 0 = .ok (.getstatic 17, 3) := by decide +kernel
theorem d_Pl_holds_3 : decode b_Pl_holds 3 = .ok (.iload_n 1, 1) := by decide +kernel
theorem d_Pl_holds_4 : decode b_Pl_holds 4 = .ok (.iaload, 1) := by decide +kernel
theorem d_Pl_holds_5 : decode b_Pl_holds 5 = .ok (.istore 4, 2) := by decide +kernel
theorem d_Pl_holds_7 : decode b_Pl_holds 7 = .ok (.iload 4, 2) := by decide +kernel
theorem d_Pl_holds_9 : decode b_Pl_holds 9 = .ok (.iconst (-1), 1) := by decide +kernel
theorem d_Pl_holds_10 : decode b_Pl_holds 10 = .ok (.if_icmp .eq 18, 3) := by decide +kernel
theorem d_Pl_holds_13 : decode b_Pl_holds 13 = .ok (.iload 4, 2) := by decide +kernel
theorem d_Pl_holds_15 : decode b_Pl_holds 15 = .ok (.aload_n 0, 1) := by decide +kernel
theorem d_Pl_holds_16 : decode b_Pl_holds 16 = .ok (.getfield 7, 3) := by decide +kernel
theorem d_Pl_holds_19 : decode b_Pl_holds 19 = .ok (.iload_n 3, 1) := by decide +kernel
theorem d_Pl_holds_20 : decode b_Pl_holds 20 = .ok (.invokevirtual 23, 3) := by decide +kernel
theorem d_Pl_holds_23 : decode b_Pl_holds 23 = .ok (.if_icmp .eq 5, 3) := by decide +kernel
theorem d_Pl_holds_26 : decode b_Pl_holds 26 = .ok (.iconst 1, 1) := by decide +kernel
theorem d_Pl_holds_27 : decode b_Pl_holds 27 = .ok (.ireturn, 1) := by decide +kernel
theorem d_Pl_holds_28 : decode b_Pl_holds 28 = .ok (.iload_n 1, 1) := by decide +kernel
theorem d_Pl_holds_29 : decode b_Pl_holds 29 = .ok (.tableswitch 339 0 16 #[83, 99, 109, 119, 145, 171, 197, 223, 243, 261, 279, 243, 261, 297, 243, 261, 318], 83) := by decide +kernel
theorem d_Pl_holds_112 : decode b_Pl_holds 112 = .ok (.aload_n 0, 1) := by decide +kernel
theorem d_Pl_holds_113 : decode b_Pl_holds 113 = .ok (.iload_n 3, 1) := by decide +kernel
theorem d_Pl_holds_114 : decode b_Pl_holds 114 = .ok (.invokevirtual 29, 3) := by decide +kernel
theorem d_Pl_holds_117 : decode b_Pl_holds 117 = .ok (.iload_n 2, 1) := by decide +kernel
theorem d_Pl_holds_118 : decode b_Pl_holds 118 = .ok (.iand, 1) := by decide +kernel
theorem d_Pl_holds_119 : decode b_Pl_holds 119 = .ok (.ifCond .eq 7, 3) := by decide +kernel
theorem d_Pl_holds_122 : decode b_Pl_holds 122 = .ok (.iconst 1, 1) := by decide +kernel
theorem d_Pl_holds_123 : decode b_Pl_holds 123 = .ok (.goto 4, 3) := by decide +kernel
theorem d_Pl_holds_126 : decode b_Pl_holds 126 = .ok (.iconst 0, 1) := by decide +kernel
theorem d_Pl_holds_127 : decode b_Pl_holds 127 = .ok (.ireturn, 1) := by decide +kernel
theorem d_Pl_holds_128 : decode b_Pl_holds 128 = .ok (.aload_n 0, 1) := by decide +kernel
theorem d_Pl_holds_129 : decode b_Pl_holds 129 = .ok (.getfield 7, 3) := by decide +kernel
theorem d_Pl_holds_132 : decode b_Pl_holds 132 = .ok (.iload_n 3, 1) := by decide +kernel
theorem d_Pl_holds_133 : decode b_Pl_holds 133 = .ok (.iload_n 2, 1) := by decide +kernel
theorem d_Pl_holds_134 : decode b_Pl_holds 134 = .ok (.invokevirtual 32, 3) := by decide +kernel
theorem d_Pl_holds_137 : decode b_Pl_holds 137 = .ok (.ireturn, 1) := by decide +kernel
theorem d_Pl_holds_138 : decode b_Pl_holds 138 = .ok (.aload_n 0, 1) := by decide +kernel
theorem d_Pl_holds_139 : decode b_Pl_holds 139 = .ok (.getfield 7, 3) := by decide +kernel
theorem d_Pl_holds_142 : decode b_Pl_holds 142 = .ok (.iload_n 2, 1) := by decide +kernel
theorem d_Pl_holds_143 : decode b_Pl_holds 143 = .ok (.iload_n 3, 1) := by decide +kernel
theorem d_Pl_holds_144 : decode b_Pl_holds 144 = .ok (.invokevirtual 36, 3) := by decide +kernel
theorem d_Pl_holds_147 : decode b_Pl_holds 147 = .ok (.ireturn, 1) := by decide +kernel
theorem d_Pl_holds_148 : decode b_Pl_holds 148 = .ok (.aload_n 0, 1) := by decide +kernel
theorem d_Pl_holds_149 : decode b_Pl_holds 149 = .ok (.getfield 7, 3) := by decide +kernel
theorem d_Pl_holds_152 : decode b_Pl_holds 152 = .ok (.iload_n 3, 1) := by decide +kernel
theorem d_Pl_holds_153 : decode b_Pl_holds 153 = .ok (.invokevirtual 39, 3) := by decide +kernel
theorem d_Pl_holds_156 : decode b_Pl_holds 156 = .ok (.aload_n 0, 1) := by decide +kernel
theorem d_Pl_holds_157 : decode b_Pl_holds 157 = .ok (.getfield 7, 3) := by decide +kernel
theorem d_Pl_holds_160 : decode b_Pl_holds 160 = .ok (.iload_n 2, 1) := by decide +kernel
theorem d_Pl_holds_161 : decode b_Pl_holds 161 = .ok (.invokevirtual 39, 3) := by decide +kernel
theorem d_Pl_holds_164 : decode b_Pl_holds 164 = .ok (.lcmp, 1) := by decide +kernel
theorem d_Pl_holds_165 : decode b_Pl_holds 165 = .ok (.ifCond .lt 7, 3) := by decide +kernel
theorem d_Pl_holds_168 : decode b_Pl_holds 168 = .ok (.iconst 1, 1) := by decide +kernel
theorem d_Pl_holds_169 : decode b_Pl_holds 169 = .ok (.goto 4, 3) := by decide +kernel
theorem d_Pl_holds_172 : decode b_Pl_holds 172 = .ok (.iconst 0, 1) := by decide +kernel
theorem d_Pl_holds_173 : decode b_Pl_holds 173 = .ok (.ireturn, 1) := by decide +kernel
theorem d_Pl_holds_174 : decode b_Pl_holds 174 = .ok (.aload_n 0, 1) := by decide +kernel
theorem d_Pl_holds_175 : decode b_Pl_holds 175 = .ok (.getfield 7, 3) := by decide +kernel
theorem d_Pl_holds_178 : decode b_Pl_holds 178 = .ok (.iload_n 3, 1) := by decide +kernel
theorem d_Pl_holds_179 : decode b_Pl_holds 179 = .ok (.invokevirtual 39, 3) := by decide +kernel
theorem d_Pl_holds_182 : decode b_Pl_holds 182 = .ok (.aload_n 0, 1) := by decide +kernel
theorem d_Pl_holds_183 : decode b_Pl_holds 183 = .ok (.getfield 7, 3) := by decide +kernel
theorem d_Pl_holds_186 : decode b_Pl_holds 186 = .ok (.iload_n 2, 1) := by decide +kernel
theorem d_Pl_holds_187 : decode b_Pl_holds 187 = .ok (.invokevirtual 39, 3) := by decide +kernel
theorem d_Pl_holds_190 : decode b_Pl_holds 190 = .ok (.lcmp, 1) := by decide +kernel
theorem d_Pl_holds_191 : decode b_Pl_holds 191 = .ok (.ifCond .gt 7, 3) := by decide +kernel
theorem d_Pl_holds_194 : decode b_Pl_holds 194 = .ok (.iconst 1, 1) := by decide +kernel
theorem d_Pl_holds_195 : decode b_Pl_holds 195 = .ok (.goto 4, 3) := by decide +kernel
theorem d_Pl_holds_198 : decode b_Pl_holds 198 = .ok (.iconst 0, 1) := by decide +kernel
theorem d_Pl_holds_199 : decode b_Pl_holds 199 = .ok (.ireturn, 1) := by decide +kernel
theorem d_Pl_holds_200 : decode b_Pl_holds 200 = .ok (.aload_n 0, 1) := by decide +kernel
theorem d_Pl_holds_201 : decode b_Pl_holds 201 = .ok (.getfield 7, 3) := by decide +kernel
theorem d_Pl_holds_204 : decode b_Pl_holds 204 = .ok (.iload_n 3, 1) := by decide +kernel
theorem d_Pl_holds_205 : decode b_Pl_holds 205 = .ok (.invokevirtual 39, 3) := by decide +kernel
theorem d_Pl_holds_208 : decode b_Pl_holds 208 = .ok (.aload_n 0, 1) := by decide +kernel
theorem d_Pl_holds_209 : decode b_Pl_holds 209 = .ok (.getfield 7, 3) := by decide +kernel
theorem d_Pl_holds_212 : decode b_Pl_holds 212 = .ok (.iload_n 2, 1) := by decide +kernel
theorem d_Pl_holds_213 : decode b_Pl_holds 213 = .ok (.invokevirtual 39, 3) := by decide +kernel
theorem d_Pl_holds_216 : decode b_Pl_holds 216 = .ok (.lcmp, 1) := by decide +kernel
theorem d_Pl_holds_217 : decode b_Pl_holds 217 = .ok (.ifCond .le 7, 3) := by decide +kernel
theorem d_Pl_holds_220 : decode b_Pl_holds 220 = .ok (.iconst 1, 1) := by decide +kernel
theorem d_Pl_holds_221 : decode b_Pl_holds 221 = .ok (.goto 4, 3) := by decide +kernel
theorem d_Pl_holds_224 : decode b_Pl_holds 224 = .ok (.iconst 0, 1) := by decide +kernel
theorem d_Pl_holds_225 : decode b_Pl_holds 225 = .ok (.ireturn, 1) := by decide +kernel
theorem d_Pl_holds_226 : decode b_Pl_holds 226 = .ok (.aload_n 0, 1) := by decide +kernel
theorem d_Pl_holds_227 : decode b_Pl_holds 227 = .ok (.getfield 7, 3) := by decide +kernel
theorem d_Pl_holds_230 : decode b_Pl_holds 230 = .ok (.iload_n 3, 1) := by decide +kernel
theorem d_Pl_holds_231 : decode b_Pl_holds 231 = .ok (.invokevirtual 39, 3) := by decide +kernel
theorem d_Pl_holds_234 : decode b_Pl_holds 234 = .ok (.aload_n 0, 1) := by decide +kernel
theorem d_Pl_holds_235 : decode b_Pl_holds 235 = .ok (.getfield 7, 3) := by decide +kernel
theorem d_Pl_holds_238 : decode b_Pl_holds 238 = .ok (.iload_n 2, 1) := by decide +kernel
theorem d_Pl_holds_239 : decode b_Pl_holds 239 = .ok (.invokevirtual 39, 3) := by decide +kernel
theorem d_Pl_holds_242 : decode b_Pl_holds 242 = .ok (.lcmp, 1) := by decide +kernel
theorem d_Pl_holds_243 : decode b_Pl_holds 243 = .ok (.ifCond .ge 7, 3) := by decide +kernel
theorem d_Pl_holds_246 : decode b_Pl_holds 246 = .ok (.iconst 1, 1) := by decide +kernel
theorem d_Pl_holds_247 : decode b_Pl_holds 247 = .ok (.goto 4, 3) := by decide +kernel
theorem d_Pl_holds_250 : decode b_Pl_holds 250 = .ok (.iconst 0, 1) := by decide +kernel
theorem d_Pl_holds_251 : decode b_Pl_holds 251 = .ok (.ireturn, 1) := by decide +kernel
theorem d_Pl_holds_252 : decode b_Pl_holds 252 = .ok (.aload_n 0, 1) := by decide +kernel
theorem d_Pl_holds_253 : decode b_Pl_holds 253 = .ok (.getfield 7, 3) := by decide +kernel
theorem d_Pl_holds_256 : decode b_Pl_holds 256 = .ok (.iload_n 3, 1) := by decide +kernel
theorem d_Pl_holds_257 : decode b_Pl_holds 257 = .ok (.invokevirtual 39, 3) := by decide +kernel
theorem d_Pl_holds_260 : decode b_Pl_holds 260 = .ok (.aload_n 0, 1) := by decide +kernel
theorem d_Pl_holds_261 : decode b_Pl_holds 261 = .ok (.getfield 7, 3) := by decide +kernel
theorem d_Pl_holds_264 : decode b_Pl_holds 264 = .ok (.iload_n 2, 1) := by decide +kernel
theorem d_Pl_holds_265 : decode b_Pl_holds 265 = .ok (.invokevirtual 39, 3) := by decide +kernel
theorem d_Pl_holds_268 : decode b_Pl_holds 268 = .ok (.invokestatic 43, 3) := by decide +kernel
theorem d_Pl_holds_271 : decode b_Pl_holds 271 = .ok (.ireturn, 1) := by decide +kernel
theorem d_Pl_holds_272 : decode b_Pl_holds 272 = .ok (.aload_n 0, 1) := by decide +kernel
theorem d_Pl_holds_273 : decode b_Pl_holds 273 = .ok (.getfield 7, 3) := by decide +kernel
theorem d_Pl_holds_276 : decode b_Pl_holds 276 = .ok (.iload_n 3, 1) := by decide +kernel
theorem d_Pl_holds_277 : decode b_Pl_holds 277 = .ok (.invokevirtual 47, 3) := by decide +kernel
theorem d_Pl_holds_280 : decode b_Pl_holds 280 = .ok (.iload_n 2, 1) := by decide +kernel
theorem d_Pl_holds_281 : decode b_Pl_holds 281 = .ok (.if_icmp .lt 7, 3) := by decide +kernel
theorem d_Pl_holds_284 : decode b_Pl_holds 284 = .ok (.iconst 1, 1) := by decide +kernel
theorem d_Pl_holds_285 : decode b_Pl_holds 285 = .ok (.goto 4, 3) := by decide +kernel
theorem d_Pl_holds_288 : decode b_Pl_holds 288 = .ok (.iconst 0, 1) := by decide +kernel
theorem d_Pl_holds_289 : decode b_Pl_holds 289 = .ok (.ireturn, 1) := by decide +kernel
theorem d_Pl_holds_290 : decode b_Pl_holds 290 = .ok (.aload_n 0, 1) := by decide +kernel
theorem d_Pl_holds_291 : decode b_Pl_holds 291 = .ok (.getfield 7, 3) := by decide +kernel
theorem d_Pl_holds_294 : decode b_Pl_holds 294 = .ok (.iload_n 3, 1) := by decide +kernel
theorem d_Pl_holds_295 : decode b_Pl_holds 295 = .ok (.invokevirtual 47, 3) := by decide +kernel
theorem d_Pl_holds_298 : decode b_Pl_holds 298 = .ok (.iload_n 2, 1) := by decide +kernel
theorem d_Pl_holds_299 : decode b_Pl_holds 299 = .ok (.if_icmp .gt 7, 3) := by decide +kernel
theorem d_Pl_holds_302 : decode b_Pl_holds 302 = .ok (.iconst 1, 1) := by decide +kernel
theorem d_Pl_holds_303 : decode b_Pl_holds 303 = .ok (.goto 4, 3) := by decide +kernel
theorem d_Pl_holds_306 : decode b_Pl_holds 306 = .ok (.iconst 0, 1) := by decide +kernel
theorem d_Pl_holds_307 : decode b_Pl_holds 307 = .ok (.ireturn, 1) := by decide +kernel
theorem d_Pl_holds_308 : decode b_Pl_holds 308 = .ok (.aload_n 0, 1) := by decide +kernel
theorem d_Pl_holds_309 : decode b_Pl_holds 309 = .ok (.getfield 13, 3) := by decide +kernel
theorem d_Pl_holds_312 : decode b_Pl_holds 312 = .ok (.iload_n 2, 1) := by decide +kernel
theorem d_Pl_holds_313 : decode b_Pl_holds 313 = .ok (.aload_n 0, 1) := by decide +kernel
theorem d_Pl_holds_314 : decode b_Pl_holds 314 = .ok (.getfield 7, 3) := by decide +kernel
theorem d_Pl_holds_317 : decode b_Pl_holds 317 = .ok (.iload_n 3, 1) := by decide +kernel
theorem d_Pl_holds_318 : decode b_Pl_holds 318 = .ok (.invokevirtual 39, 3) := by decide +kernel
theorem d_Pl_holds_321 : decode b_Pl_holds 321 = .ok (.l2i, 1) := by decide +kernel
theorem d_Pl_holds_322 : decode b_Pl_holds 322 = .ok (.invokevirtual 50, 3) := by decide +kernel
theorem d_Pl_holds_325 : decode b_Pl_holds 325 = .ok (.ireturn, 1) := by decide +kernel
theorem d_Pl_holds_326 : decode b_Pl_holds 326 = .ok (.iload_n 2, 1) := by decide +kernel
theorem d_Pl_holds_327 : decode b_Pl_holds 327 = .ok (.ifCond .eq 14, 3) := by decide +kernel
theorem d_Pl_holds_330 : decode b_Pl_holds 330 = .ok (.aload_n 0, 1) := by decide +kernel
theorem d_Pl_holds_331 : decode b_Pl_holds 331 = .ok (.getfield 7, 3) := by decide +kernel
theorem d_Pl_holds_334 : decode b_Pl_holds 334 = .ok (.iload_n 3, 1) := by decide +kernel
theorem d_Pl_holds_335 : decode b_Pl_holds 335 = .ok (.invokevirtual 55, 3) := by decide +kernel
theorem d_Pl_holds_338 : decode b_Pl_holds 338 = .ok (.ifCond .ne 7, 3) := by decide +kernel
theorem d_Pl_holds_341 : decode b_Pl_holds 341 = .ok (.iconst 1, 1) := by decide +kernel
theorem d_Pl_holds_342 : decode b_Pl_holds 342 = .ok (.goto 4, 3) := by decide +kernel
theorem d_Pl_holds_345 : decode b_Pl_holds 345 = .ok (.iconst 0, 1) := by decide +kernel
theorem d_Pl_holds_346 : decode b_Pl_holds 346 = .ok (.ireturn, 1) := by decide +kernel
theorem d_Pl_holds_347 : decode b_Pl_holds 347 = .ok (.iload_n 2, 1) := by decide +kernel
theorem d_Pl_holds_348 : decode b_Pl_holds 348 = .ok (.aload_n 0, 1) := by decide +kernel
theorem d_Pl_holds_349 : decode b_Pl_holds 349 = .ok (.getfield 7, 3) := by decide +kernel
theorem d_Pl_holds_352 : decode b_Pl_holds 352 = .ok (.iload_n 3, 1) := by decide +kernel
theorem d_Pl_holds_353 : decode b_Pl_holds 353 = .ok (.invokevirtual 59, 3) := by decide +kernel
theorem d_Pl_holds_356 : decode b_Pl_holds 356 = .ok (.iconst (-1), 1) := by decide +kernel
theorem d_Pl_holds_357 : decode b_Pl_holds 357 = .ok (.ixor, 1) := by decide +kernel
theorem d_Pl_holds_358 : decode b_Pl_holds 358 = .ok (.iand, 1) := by decide +kernel
theorem d_Pl_holds_359 : decode b_Pl_holds 359 = .ok (.ifCond .ne 7, 3) := by decide +kernel
theorem d_Pl_holds_362 : decode b_Pl_holds 362 = .ok (.iconst 1, 1) := by decide +kernel
theorem d_Pl_holds_363 : decode b_Pl_holds 363 = .ok (.goto 4, 3) := by decide +kernel
theorem d_Pl_holds_366 : decode b_Pl_holds 366 = .ok (.iconst 0, 1) := by decide +kernel
theorem d_Pl_holds_367 : decode b_Pl_holds 367 = .ok (.ireturn, 1) := by decide +kernel
theorem d_Pl_holds_368 : decode b_Pl_holds 368 = .ok (.iconst 1, 1) := by decide +kernel
theorem d_Pl_holds_369 : decode b_Pl_holds 369 = .ok (.ireturn, 1) := by decide +kernel
theorem d_Va_kindOf_0 : decode b_Va_kindOf 0 = .ok (.aload_n 0, 1) := by decide +kernel
theorem d_Va_kindOf_1 : decode b_Va_kindOf 1 = .ok (.getfield 9, 3) := by decide +kernel
theorem d_Va_kindOf_4 : decode b_Va_kindOf 4 = .ok (.iload_n 1, 1) := by decide +kernel
theorem d_Va_kindOf_5 : decode b_Va_kindOf 5 = .ok (.iaload, 1) := by decide +kernel
theorem d_Va_kindOf_6 : decode b_Va_kindOf 6 = .ok (.ireturn, 1) := by decide +kernel
theorem d_Pl_kindBits_0 : decode b_Pl_kindBits 0 = .ok (.aload_n 0, 1) := by decide +kernel
theorem d_Pl_kindBits_1 : decode b_Pl_kindBits 1 = .ok (.getfield 7, 3) := by decide +kernel
theorem d_Pl_kindBits_4 : decode b_Pl_kindBits 4 = .ok (.iload_n 1, 1) := by decide +kernel
theorem d_Pl_kindBits_5 : decode b_Pl_kindBits 5 = .ok (.invokevirtual 23, 3) := by decide +kernel
theorem d_Pl_kindBits_8 : decode b_Pl_kindBits 8 = .ok (.istore_n 2, 1) := by decide +kernel
theorem d_Pl_kindBits_9 : decode b_Pl_kindBits 9 = .ok (.iload_n 2, 1) := by decide +kernel
theorem d_Pl_kindBits_10 : decode b_Pl_kindBits 10 = .ok (.iconst 2, 1) := by decide +kernel
theorem d_Pl_kindBits_11 : decode b_Pl_kindBits 11 = .ok (.if_icmp .ne 24, 3) := by decide +kernel
theorem d_Pl_kindBits_14 : decode b_Pl_kindBits 14 = .ok (.aload_n 0, 1) := by decide +kernel
theorem d_Pl_kindBits_15 : decode b_Pl_kindBits 15 = .ok (.getfield 7, 3) := by decide +kernel
theorem d_Pl_kindBits_18 : decode b_Pl_kindBits 18 = .ok (.iload_n 1, 1) := by decide +kernel
theorem d_Pl_kindBits_19 : decode b_Pl_kindBits 19 = .ok (.invokevirtual 39, 3) := by decide +kernel
theorem d_Pl_kindBits_22 : decode b_Pl_kindBits 22 = .ok (.ldc2_w 62, 3) := by decide +kernel
theorem d_Pl_kindBits_25 : decode b_Pl_kindBits 25 = .ok (.invokestatic 43, 3) := by decide +kernel
theorem d_Pl_kindBits_28 : decode b_Pl_kindBits 28 = .ok (.ifCond .eq 7, 3) := by decide +kernel
theorem d_Pl_kindBits_31 : decode b_Pl_kindBits 31 = .ok (.iconst 1, 1) := by decide +kernel
theorem d_Pl_kindBits_32 : decode b_Pl_kindBits 32 = .ok (.goto 4, 3) := by decide +kernel
theorem d_Pl_kindBits_35 : decode b_Pl_kindBits 35 = .ok (.iconst 0, 1) := by decide +kernel
theorem d_Pl_kindBits_36 : decode b_Pl_kindBits 36 = .ok (.istore_n 3, 1) := by decide +kernel
theorem d_Pl_kindBits_37 : decode b_Pl_kindBits 37 = .ok (.iload_n 3, 1) := by decide +kernel
theorem d_Pl_kindBits_38 : decode b_Pl_kindBits 38 = .ok (.ifCond .eq 12, 3) := by decide +kernel
theorem d_Pl_kindBits_41 : decode b_Pl_kindBits 41 = .ok (.iconst 1, 1) := by decide +kernel
theorem d_Pl_kindBits_42 : decode b_Pl_kindBits 42 = .ok (.iload_n 2, 1) := by decide +kernel
theorem d_Pl_kindBits_43 : decode b_Pl_kindBits 43 = .ok (.ishl, 1) := by decide +kernel
theorem d_Pl_kindBits_44 : decode b_Pl_kindBits 44 = .ok (.bipush 64, 2) := by decide +kernel
theorem d_Pl_kindBits_46 : decode b_Pl_kindBits 46 = .ok (.ior, 1) := by decide +kernel
theorem d_Pl_kindBits_47 : decode b_Pl_kindBits 47 = .ok (.goto 6, 3) := by decide +kernel
theorem d_Pl_kindBits_50 : decode b_Pl_kindBits 50 = .ok (.iconst 1, 1) := by decide +kernel
theorem d_Pl_kindBits_51 : decode b_Pl_kindBits 51 = .ok (.iload_n 2, 1) := by decide +kernel
theorem d_Pl_kindBits_52 : decode b_Pl_kindBits 52 = .ok (.ishl, 1) := by decide +kernel
theorem d_Pl_kindBits_53 : decode b_Pl_kindBits 53 = .ok (.ireturn, 1) := by decide +kernel
theorem d_Pl_isMultiple_0 : decode b_Pl_isMultiple 0 = .ok (.lload_n 2, 1) := by decide +kernel
theorem d_Pl_isMultiple_1 : decode b_Pl_isMultiple 1 = .ok (.lconst 0, 1) := by decide +kernel
theorem d_Pl_isMultiple_2 : decode b_Pl_isMultiple 2 = .ok (.lcmp, 1) := by decide +kernel
theorem d_Pl_isMultiple_3 : decode b_Pl_isMultiple 3 = .ok (.ifCond .le 15, 3) := by decide +kernel
theorem d_Pl_isMultiple_6 : decode b_Pl_isMultiple 6 = .ok (.lload_n 0, 1) := by decide +kernel
theorem d_Pl_isMultiple_7 : decode b_Pl_isMultiple 7 = .ok (.lload_n 2, 1) := by decide +kernel
theorem d_Pl_isMultiple_8 : decode b_Pl_isMultiple 8 = .ok (.lrem, 1) := by decide +kernel
theorem d_Pl_isMultiple_9 : decode b_Pl_isMultiple 9 = .ok (.lconst 0, 1) := by decide +kernel
theorem d_Pl_isMultiple_10 : decode b_Pl_isMultiple 10 = .ok (.lcmp, 1) := by decide +kernel
theorem d_Pl_isMultiple_11 : decode b_Pl_isMultiple 11 = .ok (.ifCond .ne 7, 3) := by decide +kernel
theorem d_Pl_isMultiple_14 : decode b_Pl_isMultiple 14 = .ok (.iconst 1, 1) := by decide +kernel
theorem d_Pl_isMultiple_15 : decode b_Pl_isMultiple 15 = .ok (.goto 4, 3) := by decide +kernel
theorem d_Pl_isMultiple_18 : decode b_Pl_isMultiple 18 = .ok (.iconst 0, 1) := by decide +kernel
theorem d_Pl_isMultiple_19 : decode b_Pl_isMultiple 19 = .ok (.ireturn, 1) := by decide +kernel
theorem d_Va_hasEqualElement_0 : decode b_Va_hasEqualElement 0 = .ok (.iconst 0, 1) := by decide +kernel
theorem d_Va_hasEqualElement_1 : decode b_Va_hasEqualElement 1 = .ok (.istore_n 3, 1) := by decide +kernel
theorem d_Va_hasEqualElement_2 : decode b_Va_hasEqualElement 2 = .ok (.iload_n 3, 1) := by decide +kernel
theorem d_Va_hasEqualElement_3 : decode b_Va_hasEqualElement 3 = .ok (.bipush 8, 2) := by decide +kernel
theorem d_Va_hasEqualElement_5 : decode b_Va_hasEqualElement 5 = .ok (.if_icmp .ge 34, 3) := by decide +kernel
theorem d_Va_hasEqualElement_8 : decode b_Va_hasEqualElement 8 = .ok (.aload_n 0, 1) := by decide +kernel
theorem d_Va_hasEqualElement_9 : decode b_Va_hasEqualElement 9 = .ok (.iload_n 1, 1) := by decide +kernel
theorem d_Va_hasEqualElement_10 : decode b_Va_hasEqualElement 10 = .ok (.iload_n 3, 1) := by decide +kernel
theorem d_Va_hasEqualElement_11 : decode b_Va_hasEqualElement 11 = .ok (.invokevirtual 59, 3) := by decide +kernel
theorem d_Va_hasEqualElement_14 : decode b_Va_hasEqualElement 14 = .ok (.ifCond .eq 19, 3) := by decide +kernel
theorem d_Va_hasEqualElement_17 : decode b_Va_hasEqualElement 17 = .ok (.aload_n 0, 1) := by decide +kernel
theorem d_Va_hasEqualElement_18 : decode b_Va_hasEqualElement 18 = .ok (.aload_n 0, 1) := by decide +kernel
theorem d_Va_hasEqualElement_19 : decode b_Va_hasEqualElement 19 = .ok (.iload_n 1, 1) := by decide +kernel
theorem d_Va_hasEqualElement_20 : decode b_Va_hasEqualElement 20 = .ok (.iload_n 3, 1) := by decide +kernel
theorem d_Va_hasEqualElement_21 : decode b_Va_hasEqualElement 21 = .ok (.invokevirtual 62, 3) := by decide +kernel
theorem d_Va_hasEqualElement_24 : decode b_Va_hasEqualElement 24 = .ok (.iload_n 2, 1) := by decide +kernel
theorem d_Va_hasEqualElement_25 : decode b_Va_hasEqualElement 25 = .ok (.invokevirtual 65, 3) := by decide +kernel
theorem d_Va_hasEqualElement_28 : decode b_Va_hasEqualElement 28 = .ok (.ifCond .eq 5, 3) := by decide +kernel
theorem d_Va_hasEqualElement_31 : decode b_Va_hasEqualElement 31 = .ok (.iconst 1, 1) := by decide +kernel
theorem d_Va_hasEqualElement_32 : decode b_Va_hasEqualElement 32 = .ok (.ireturn, 1) := by decide +kernel
theorem d_Va_hasEqualElement_33 : decode b_Va_hasEqualElement 33 = .ok (.iinc 3 1, 3) := by decide +kernel
theorem d_Va_hasEqualElement_36 : decode b_Va_hasEqualElement 36 = .ok (.goto (-34), 3) := by decide +kernel
theorem d_Va_hasEqualElement_39 : decode b_Va_hasEqualElement 39 = .ok (.iconst 0, 1) := by decide +kernel
theorem d_Va_hasEqualElement_40 : decode b_Va_hasEqualElement 40 = .ok (.ireturn, 1) := by decide +kernel
theorem d_Pa_match_0 : decode b_Pa_match 0 = .ok (.iconst 1, 1) := by decide +kernel
theorem d_Pa_match_1 : decode b_Pa_match 1 = .ok (.iload_n 2, 1) := by decide +kernel
theorem d_Pa_match_2 : decode b_Pa_match 2 = .ok (.invokestatic 26, 3) := by decide +kernel
theorem d_Pa_match_5 : decode b_Pa_match 5 = .ok (.ishl, 1) := by decide +kernel
theorem d_Pa_match_6 : decode b_Pa_match 6 = .ok (.istore_n 3, 1) := by decide +kernel
theorem d_Pa_match_7 : decode b_Pa_match 7 = .ok (.aload_n 0, 1) := by decide +kernel
theorem d_Pa_match_8 : decode b_Pa_match 8 = .ok (.getfield 19, 3) := by decide +kernel
theorem d_Pa_match_11 : decode b_Pa_match 11 = .ok (.iload_n 1, 1) := by decide +kernel
theorem d_Pa_match_12 : decode b_Pa_match 12 = .ok (.baload, 1) := by decide +kernel
theorem d_Pa_match_13 : decode b_Pa_match 13 = .ok (.ifCond .eq 7, 3) := by decide +kernel
theorem d_Pa_match_16 : decode b_Pa_match 16 = .ok (.iconst 1, 1) := by decide +kernel
theorem d_Pa_match_17 : decode b_Pa_match 17 = .ok (.goto 8, 3) := by decide +kernel
theorem d_Pa_match_20 : decode b_Pa_match 20 = .ok (.iconst 2, 1) := by decide +kernel
theorem d_Pa_match_21 : decode b_Pa_match 21 = .ok (.iload_n 3, 1) := by decide +kernel
theorem d_Pa_match_22 : decode b_Pa_match 22 = .ok (.imul, 1) := by decide +kernel
theorem d_Pa_match_23 : decode b_Pa_match 23 = .ok (.iconst 1, 1) := by decide +kernel
theorem d_Pa_match_24 : decode b_Pa_match 24 = .ok (.isub, 1) := by decide +kernel
theorem d_Pa_match_25 : decode b_Pa_match 25 = .ok (.istore 4, 2) := by decide +kernel
theorem d_Pa_match_27 : decode b_Pa_match 27 = .ok (.iconst 0, 1) := by decide +kernel
theorem d_Pa_match_28 : decode b_Pa_match 28 = .ok (.istore 5, 2) := by decide +kernel
theorem d_Pa_match_30 : decode b_Pa_match 30 = .ok (.iload 5, 2) := by decide +kernel
theorem d_Pa_match_32 : decode b_Pa_match 32 = .ok (.aload_n 0, 1) := by decide +kernel
theorem d_Pa_match_33 : decode b_Pa_match 33 = .ok (.getfield 9, 3) := by decide +kernel
theorem d_Pa_match_36 : decode b_Pa_match 36 = .ok (.iload_n 1, 1) := by decide +kernel
theorem d_Pa_match_37 : decode b_Pa_match 37 = .ok (.iaload, 1) := by decide +kernel
theorem d_Pa_match_38 : decode b_Pa_match 38 = .ok (.if_icmp .ge 48, 3) := by decide +kernel
theorem d_Pa_match_41 : decode b_Pa_match 41 = .ok (.iload_n 2, 1) := by decide +kernel
theorem d_Pa_match_42 : decode b_Pa_match 42 = .ok (.aload_n 0, 1) := by decide +kernel
theorem d_Pa_match_43 : decode b_Pa_match 43 = .ok (.getfield 13, 3) := by decide +kernel
theorem d_Pa_match_46 : decode b_Pa_match 46 = .ok (.iload_n 1, 1) := by decide +kernel
theorem d_Pa_match_47 : decode b_Pa_match 47 = .ok (.bipush 6, 2) := by decide +kernel
theorem d_Pa_match_49 : decode b_Pa_match 49 = .ok (.imul, 1) := by decide +kernel
theorem d_Pa_match_50 : decode b_Pa_match 50 = .ok (.iload 5, 2) := by decide +kernel
theorem d_Pa_match_52 : decode b_Pa_match 52 = .ok (.iadd, 1) := by decide +kernel
theorem d_Pa_match_53 : decode b_Pa_match 53 = .ok (.iaload, 1) := by decide +kernel
theorem d_Pa_match_54 : decode b_Pa_match 54 = .ok (.invokestatic 32, 3) := by decide +kernel
theorem d_Pa_match_57 : decode b_Pa_match 57 = .ok (.istore 6, 2) := by decide +kernel
theorem d_Pa_match_59 : decode b_Pa_match 59 = .ok (.iload 4, 2) := by decide +kernel
theorem d_Pa_match_61 : decode b_Pa_match 61 = .ok (.iload 6, 2) := by decide +kernel
theorem d_Pa_match_63 : decode b_Pa_match 63 = .ok (.aload_n 0, 1) := by decide +kernel
theorem d_Pa_match_64 : decode b_Pa_match 64 = .ok (.getfield 16, 3) := by decide +kernel
theorem d_Pa_match_67 : decode b_Pa_match 67 = .ok (.iload_n 1, 1) := by decide +kernel
theorem d_Pa_match_68 : decode b_Pa_match 68 = .ok (.bipush 6, 2) := by decide +kernel
theorem d_Pa_match_70 : decode b_Pa_match 70 = .ok (.imul, 1) := by decide +kernel
theorem d_Pa_match_71 : decode b_Pa_match 71 = .ok (.iload 5, 2) := by decide +kernel
theorem d_Pa_match_73 : decode b_Pa_match 73 = .ok (.iadd, 1) := by decide +kernel
theorem d_Pa_match_74 : decode b_Pa_match 74 = .ok (.iaload, 1) := by decide +kernel
theorem d_Pa_match_75 : decode b_Pa_match 75 = .ok (.invokestatic 36, 3) := by decide +kernel
theorem d_Pa_match_78 : decode b_Pa_match 78 = .ok (.istore 4, 2) := by decide +kernel
theorem d_Pa_match_80 : decode b_Pa_match 80 = .ok (.iinc 5 1, 3) := by decide +kernel
theorem d_Pa_match_83 : decode b_Pa_match 83 = .ok (.goto (-53), 3) := by decide +kernel
theorem d_Pa_match_86 : decode b_Pa_match 86 = .ok (.aload_n 0, 1) := by decide +kernel
theorem d_Pa_match_87 : decode b_Pa_match 87 = .ok (.getfield 23, 3) := by decide +kernel
theorem d_Pa_match_90 : decode b_Pa_match 90 = .ok (.iload_n 1, 1) := by decide +kernel
theorem d_Pa_match_91 : decode b_Pa_match 91 = .ok (.baload, 1) := by decide +kernel
theorem d_Pa_match_92 : decode b_Pa_match 92 = .ok (.ifCond .eq 18, 3) := by decide +kernel
theorem d_Pa_match_95 : decode b_Pa_match 95 = .ok (.iload 4, 2) := by decide +kernel
theorem d_Pa_match_97 : decode b_Pa_match 97 = .ok (.iload_n 3, 1) := by decide +kernel
theorem d_Pa_match_98 : decode b_Pa_match 98 = .ok (.iand, 1) := by decide +kernel
theorem d_Pa_match_99 : decode b_Pa_match 99 = .ok (.ifCond .eq 7, 3) := by decide +kernel
theorem d_Pa_match_102 : decode b_Pa_match 102 = .ok (.iconst 1, 1) := by decide +kernel
theorem d_Pa_match_103 : decode b_Pa_match 103 = .ok (.goto 17, 3) := by decide +kernel
theorem d_Pa_match_106 : decode b_Pa_match 106 = .ok (.iconst 0, 1) := by decide +kernel
theorem d_Pa_match_107 : decode b_Pa_match 107 = .ok (.goto 13, 3) := by decide +kernel
theorem d_Pa_match_110 : decode b_Pa_match 110 = .ok (.iload 4, 2) := by decide +kernel
theorem d_Pa_match_112 : decode b_Pa_match 112 = .ok (.ifCond .eq 7, 3) := by decide +kernel
theorem d_Pa_match_115 : decode b_Pa_match 115 = .ok (.iconst 1, 1) := by decide +kernel
theorem d_Pa_match_116 : decode b_Pa_match 116 = .ok (.goto 4, 3) := by decide +kernel
theorem d_Pa_match_119 : decode b_Pa_match 119 = .ok (.iconst 0, 1) := by decide +kernel
theorem d_Pa_match_120 : decode b_Pa_match 120 = .ok (.ireturn, 1) := by decide +kernel
theorem d_Le_placesOf_0 : decode b_Le_placesOf 0 = .ok (.iload_n 0, 1) := by decide +kernel
theorem d_Le_placesOf_1 : decode b_Le_placesOf 1 = .ok (.istore_n 2, 1) := by decide +kernel
theorem d_Le_placesOf_2 : decode b_Le_placesOf 2 = .ok (.iconst 0, 1) := by decide +kernel
theorem d_Le_placesOf_3 : decode b_Le_placesOf 3 = .ok (.istore_n 3, 1) := by decide +kernel
theorem d_Le_placesOf_4 : decode b_Le_placesOf 4 = .ok (.iconst 0, 1) := by decide +kernel
theorem d_Le_placesOf_5 : decode b_Le_placesOf 5 = .ok (.istore 4, 2) := by decide +kernel
theorem d_Le_placesOf_7 : decode b_Le_placesOf 7 = .ok (.iload 4, 2) := by decide +kernel
theorem d_Le_placesOf_9 : decode b_Le_placesOf 9 = .ok (.bipush 8, 2) := by decide +kernel
theorem d_Le_placesOf_11 : decode b_Le_placesOf 11 = .ok (.if_icmp .ge 36, 3) := by decide +kernel
theorem d_Le_placesOf_14 : decode b_Le_placesOf 14 = .ok (.iload_n 2, 1) := by decide +kernel
theorem d_Le_placesOf_15 : decode b_Le_placesOf 15 = .ok (.ifCond .le 32, 3) := by decide +kernel
theorem d_Le_placesOf_18 : decode b_Le_placesOf 18 = .ok (.iload_n 1, 1) := by decide +kernel
theorem d_Le_placesOf_19 : decode b_Le_placesOf 19 = .ok (.iload_n 2, 1) := by decide +kernel
theorem d_Le_placesOf_20 : decode b_Le_placesOf 20 = .ok (.iconst 5, 1) := by decide +kernel
theorem d_Le_placesOf_21 : decode b_Le_placesOf 21 = .ok (.irem, 1) := by decide +kernel
theorem d_Le_placesOf_22 : decode b_Le_placesOf 22 = .ok (.iconst 1, 1) := by decide +kernel
theorem d_Le_placesOf_23 : decode b_Le_placesOf 23 = .ok (.isub, 1) := by decide +kernel
theorem d_Le_placesOf_24 : decode b_Le_placesOf 24 = .ok (.ishr, 1) := by decide +kernel
theorem d_Le_placesOf_25 : decode b_Le_placesOf 25 = .ok (.iconst 1, 1) := by decide +kernel
theorem d_Le_placesOf_26 : decode b_Le_placesOf 26 = .ok (.iand, 1) := by decide +kernel
theorem d_Le_placesOf_27 : decode b_Le_placesOf 27 = .ok (.ifCond .eq 10, 3) := by decide +kernel
theorem d_Le_placesOf_30 : decode b_Le_placesOf 30 = .ok (.iload_n 3, 1) := by decide +kernel
theorem d_Le_placesOf_31 : decode b_Le_placesOf 31 = .ok (.iconst 1, 1) := by decide +kernel
theorem d_Le_placesOf_32 : decode b_Le_placesOf 32 = .ok (.iload 4, 2) := by decide +kernel
theorem d_Le_placesOf_34 : decode b_Le_placesOf 34 = .ok (.ishl, 1) := by decide +kernel
theorem d_Le_placesOf_35 : decode b_Le_placesOf 35 = .ok (.ior, 1) := by decide +kernel
theorem d_Le_placesOf_36 : decode b_Le_placesOf 36 = .ok (.istore_n 3, 1) := by decide +kernel
theorem d_Le_placesOf_37 : decode b_Le_placesOf 37 = .ok (.iload_n 2, 1) := by decide +kernel
theorem d_Le_placesOf_38 : decode b_Le_placesOf 38 = .ok (.iconst 5, 1) := by decide +kernel
theorem d_Le_placesOf_39 : decode b_Le_placesOf 39 = .ok (.idiv, 1) := by decide +kernel
theorem d_Le_placesOf_40 : decode b_Le_placesOf 40 = .ok (.istore_n 2, 1) := by decide +kernel
theorem d_Le_placesOf_41 : decode b_Le_placesOf 41 = .ok (.iinc 4 1, 3) := by decide +kernel
theorem d_Le_placesOf_44 : decode b_Le_placesOf 44 = .ok (.goto (-37), 3) := by decide +kernel
theorem d_Le_placesOf_47 : decode b_Le_placesOf 47 = .ok (.iload_n 3, 1) := by decide +kernel
theorem d_Le_placesOf_48 : decode b_Le_placesOf 48 = .ok (.ireturn, 1) := by decide +kernel
theorem d_Pa_follow_0 : decode b_Pa_follow 0 = .ok (.iload_n 0, 1) := by decide +kernel
theorem d_Pa_follow_1 : decode b_Pa_follow 1 = .ok (.iload_n 1, 1) := by decide +kernel
theorem d_Pa_follow_2 : decode b_Pa_follow 2 = .ok (.iand, 1) := by decide +kernel
theorem d_Pa_follow_3 : decode b_Pa_follow 3 = .ok (.iconst 1, 1) := by decide +kernel
theorem d_Pa_follow_4 : decode b_Pa_follow 4 = .ok (.ishl, 1) := by decide +kernel
theorem d_Pa_follow_5 : decode b_Pa_follow 5 = .ok (.istore_n 3, 1) := by decide +kernel
theorem d_Pa_follow_6 : decode b_Pa_follow 6 = .ok (.iload_n 2, 1) := by decide +kernel
theorem d_Pa_follow_7 : decode b_Pa_follow 7 = .ok (.ifCond .ne 5, 3) := by decide +kernel
theorem d_Pa_follow_10 : decode b_Pa_follow 10 = .ok (.iload_n 3, 1) := by decide +kernel
theorem d_Pa_follow_11 : decode b_Pa_follow 11 = .ok (.ireturn, 1) := by decide +kernel
theorem d_Pa_follow_12 : decode b_Pa_follow 12 = .ok (.iload_n 2, 1) := by decide +kernel
theorem d_Pa_follow_13 : decode b_Pa_follow 13 = .ok (.iconst 1, 1) := by decide +kernel
theorem d_Pa_follow_14 : decode b_Pa_follow 14 = .ok (.if_icmp .ne 7, 3) := by decide +kernel
theorem d_Pa_follow_17 : decode b_Pa_follow 17 = .ok (.iload_n 0, 1) := by decide +kernel
theorem d_Pa_follow_18 : decode b_Pa_follow 18 = .ok (.iload_n 3, 1) := by decide +kernel
theorem d_Pa_follow_19 : decode b_Pa_follow 19 = .ok (.ior, 1) := by decide +kernel
theorem d_Pa_follow_20 : decode b_Pa_follow 20 = .ok (.ireturn, 1) := by decide +kernel
theorem d_Pa_follow_21 : decode b_Pa_follow 21 = .ok (.iload_n 2, 1) := by decide +kernel
theorem d_Pa_follow_22 : decode b_Pa_follow 22 = .ok (.iconst 2, 1) := by decide +kernel
theorem d_Pa_follow_23 : decode b_Pa_follow 23 = .ok (.if_icmp .ne 7, 3) := by decide +kernel
theorem d_Pa_follow_26 : decode b_Pa_follow 26 = .ok (.iload_n 0, 1) := by decide +kernel
theorem d_Pa_follow_27 : decode b_Pa_follow 27 = .ok (.goto 4, 3) := by decide +kernel
theorem d_Pa_follow_30 : decode b_Pa_follow 30 = .ok (.iload_n 3, 1) := by decide +kernel
theorem d_Pa_follow_31 : decode b_Pa_follow 31 = .ok (.istore 4, 2) := by decide +kernel
theorem d_Pa_follow_33 : decode b_Pa_follow 33 = .ok (.iconst 0, 1) := by decide +kernel
theorem d_Pa_follow_34 : decode b_Pa_follow 34 = .ok (.istore 5, 2) := by decide +kernel
theorem d_Pa_follow_36 : decode b_Pa_follow 36 = .ok (.iload 5, 2) := by decide +kernel
theorem d_Pa_follow_38 : decode b_Pa_follow 38 = .ok (.bipush 8, 2) := by decide +kernel
theorem d_Pa_follow_40 : decode b_Pa_follow 40 = .ok (.if_icmp .ge 20, 3) := by decide +kernel
theorem d_Pa_follow_43 : decode b_Pa_follow 43 = .ok (.iload 4, 2) := by decide +kernel
theorem d_Pa_follow_45 : decode b_Pa_follow 45 = .ok (.iload 4, 2) := by decide +kernel
theorem d_Pa_follow_47 : decode b_Pa_follow 47 = .ok (.iload_n 1, 1) := by decide +kernel
theorem d_Pa_follow_48 : decode b_Pa_follow 48 = .ok (.iand, 1) := by decide +kernel
theorem d_Pa_follow_49 : decode b_Pa_follow 49 = .ok (.iconst 1, 1) := by decide +kernel
theorem d_Pa_follow_50 : decode b_Pa_follow 50 = .ok (.ishl, 1) := by decide +kernel
theorem d_Pa_follow_51 : decode b_Pa_follow 51 = .ok (.ior, 1) := by decide +kernel
theorem d_Pa_follow_52 : decode b_Pa_follow 52 = .ok (.istore 4, 2) := by decide +kernel
theorem d_Pa_follow_54 : decode b_Pa_follow 54 = .ok (.iinc 5 1, 3) := by decide +kernel
theorem d_Pa_follow_57 : decode b_Pa_follow 57 = .ok (.goto (-21), 3) := by decide +kernel
theorem d_Pa_follow_60 : decode b_Pa_follow 60 = .ok (.iload 4, 2) := by decide +kernel
theorem d_Pa_follow_62 : decode b_Pa_follow 62 = .ok (.ireturn, 1) := by decide +kernel
theorem d_Va_hasEqualElements_0 : decode b_Va_hasEqualElements 0 = .ok (.aload_n 0, 1) := by decide +kernel
theorem d_Va_hasEqualElements_1 : decode b_Va_hasEqualElements 1 = .ok (.iload_n 1, 1) := by decide +kernel
theorem d_Va_hasEqualElements_2 : decode b_Va_hasEqualElements 2 = .ok (.invokevirtual 68, 3) := by decide +kernel
theorem d_Va_hasEqualElements_5 : decode b_Va_hasEqualElements 5 = .ok (.istore_n 2, 1) := by decide +kernel
theorem d_Va_hasEqualElements_6 : decode b_Va_hasEqualElements 6 = .ok (.iconst 1, 1) := by decide +kernel
theorem d_Va_hasEqualElements_7 : decode b_Va_hasEqualElements 7 = .ok (.istore_n 3, 1) := by decide +kernel
theorem d_Va_hasEqualElements_8 : decode b_Va_hasEqualElements 8 = .ok (.iload_n 3, 1) := by decide +kernel
theorem d_Va_hasEqualElements_9 : decode b_Va_hasEqualElements 9 = .ok (.iload_n 2, 1) := by decide +kernel
theorem d_Va_hasEqualElements_10 : decode b_Va_hasEqualElements 10 = .ok (.if_icmp .ge 46, 3) := by decide +kernel
theorem d_Va_hasEqualElements_13 : decode b_Va_hasEqualElements 13 = .ok (.iconst 0, 1) := by decide +kernel
theorem d_Va_hasEqualElements_14 : decode b_Va_hasEqualElements 14 = .ok (.istore 4, 2) := by decide +kernel
theorem d_Va_hasEqualElements_16 : decode b_Va_hasEqualElements 16 = .ok (.iload 4, 2) := by decide +kernel
theorem d_Va_hasEqualElements_18 : decode b_Va_hasEqualElements 18 = .ok (.iload_n 3, 1) := by decide +kernel
theorem d_Va_hasEqualElements_19 : decode b_Va_hasEqualElements 19 = .ok (.if_icmp .ge 31, 3) := by decide +kernel
theorem d_Va_hasEqualElements_22 : decode b_Va_hasEqualElements 22 = .ok (.aload_n 0, 1) := by decide +kernel
theorem d_Va_hasEqualElements_23 : decode b_Va_hasEqualElements 23 = .ok (.aload_n 0, 1) := by decide +kernel
theorem d_Va_hasEqualElements_24 : decode b_Va_hasEqualElements 24 = .ok (.iload_n 1, 1) := by decide +kernel
theorem d_Va_hasEqualElements_25 : decode b_Va_hasEqualElements 25 = .ok (.iload_n 3, 1) := by decide +kernel
theorem d_Va_hasEqualElements_26 : decode b_Va_hasEqualElements 26 = .ok (.invokevirtual 62, 3) := by decide +kernel
theorem d_Va_hasEqualElements_29 : decode b_Va_hasEqualElements 29 = .ok (.aload_n 0, 1) := by decide +kernel
theorem d_Va_hasEqualElements_30 : decode b_Va_hasEqualElements 30 = .ok (.iload_n 1, 1) := by decide +kernel
theorem d_Va_hasEqualElements_31 : decode b_Va_hasEqualElements 31 = .ok (.iload 4, 2) := by decide +kernel
theorem d_Va_hasEqualElements_33 : decode b_Va_hasEqualElements 33 = .ok (.invokevirtual 62, 3) := by decide +kernel
theorem d_Va_hasEqualElements_36 : decode b_Va_hasEqualElements 36 = .ok (.invokevirtual 65, 3) := by decide +kernel
theorem d_Va_hasEqualElements_39 : decode b_Va_hasEqualElements 39 = .ok (.ifCond .eq 5, 3) := by decide +kernel
theorem d_Va_hasEqualElements_42 : decode b_Va_hasEqualElements 42 = .ok (.iconst 1, 1) := by decide +kernel
theorem d_Va_hasEqualElements_43 : decode b_Va_hasEqualElements 43 = .ok (.ireturn, 1) := by decide +kernel
theorem d_Va_hasEqualElements_44 : decode b_Va_hasEqualElements 44 = .ok (.iinc 4 1, 3) := by decide +kernel
theorem d_Va_hasEqualElements_47 : decode b_Va_hasEqualElements 47 = .ok (.goto (-31), 3) := by decide +kernel
theorem d_Va_hasEqualElements_50 : decode b_Va_hasEqualElements 50 = .ok (.iinc 3 1, 3) := by decide +kernel
theorem d_Va_hasEqualElements_53 : decode b_Va_hasEqualElements 53 = .ok (.goto (-45), 3) := by decide +kernel
theorem d_Va_hasEqualElements_56 : decode b_Va_hasEqualElements 56 = .ok (.iconst 0, 1) := by decide +kernel
theorem d_Va_hasEqualElements_57 : decode b_Va_hasEqualElements 57 = .ok (.ireturn, 1) := by decide +kernel
theorem d_Va_presentIn_0 : decode b_Va_presentIn 0 = .ok (.aload_n 0, 1) := by decide +kernel
theorem d_Va_presentIn_1 : decode b_Va_presentIn 1 = .ok (.getfield 17, 3) := by decide +kernel
theorem d_Va_presentIn_4 : decode b_Va_presentIn 4 = .ok (.iload_n 1, 1) := by decide +kernel
theorem d_Va_presentIn_5 : decode b_Va_presentIn 5 = .ok (.iaload, 1) := by decide +kernel
theorem d_Va_presentIn_6 : decode b_Va_presentIn 6 = .ok (.ireturn, 1) := by decide +kernel
theorem d_Ju_fail_0 : decode b_Ju_fail 0 = .ok (.aload_n 0, 1) := by decide +kernel
theorem d_Ju_fail_1 : decode b_Ju_fail 1 = .ok (.getfield 32, 3) := by decide +kernel
theorem d_Ju_fail_4 : decode b_Ju_fail 4 = .ok (.iload_n 1, 1) := by decide +kernel
theorem d_Ju_fail_5 : decode b_Ju_fail 5 = .ok (.iload_n 2, 1) := by decide +kernel
theorem d_Ju_fail_6 : decode b_Ju_fail 6 = .ok (.invokestatic 59, 3) := by decide +kernel
theorem d_Ju_fail_9 : decode b_Ju_fail 9 = .ok (.dup2, 1) := by decide +kernel
theorem d_Ju_fail_10 : decode b_Ju_fail 10 = .ok (.laload, 1) := by decide +kernel
theorem d_Ju_fail_11 : decode b_Ju_fail 11 = .ok (.lconst 1, 1) := by decide +kernel
theorem d_Ju_fail_12 : decode b_Ju_fail 12 = .ok (.iload_n 3, 1) := by decide +kernel
theorem d_Ju_fail_13 : decode b_Ju_fail 13 = .ok (.lshl, 1) := by decide +kernel
theorem d_Ju_fail_14 : decode b_Ju_fail 14 = .ok (.lor, 1) := by decide +kernel
theorem d_Ju_fail_15 : decode b_Ju_fail 15 = .ok (.lastore, 1) := by decide +kernel
theorem d_Ju_fail_16 : decode b_Ju_fail 16 = .ok (.return_, 1) := by decide +kernel
theorem d_Ju_weighInPlace_0 : decode b_Ju_weighInPlace 0 = .ok (.aload_n 0, 1) := by decide +kernel
theorem d_Ju_weighInPlace_1 : decode b_Ju_weighInPlace 1 = .ok (.getfield 17, 3) := by decide +kernel
theorem d_Ju_weighInPlace_4 : decode b_Ju_weighInPlace 4 = .ok (.iload_n 1, 1) := by decide +kernel
theorem d_Ju_weighInPlace_5 : decode b_Ju_weighInPlace 5 = .ok (.bipush 17, 2) := by decide +kernel
theorem d_Ju_weighInPlace_7 : decode b_Ju_weighInPlace 7 = .ok (.invokevirtual 78, 3) := by decide +kernel
theorem d_Ju_weighInPlace_10 : decode b_Ju_weighInPlace 10 = .ok (.istore 4, 2) := by decide +kernel
theorem d_Ju_weighInPlace_12 : decode b_Ju_weighInPlace 12 = .ok (.iload 4, 2) := by decide +kernel
theorem d_Ju_weighInPlace_14 : decode b_Ju_weighInPlace 14 = .ok (.iconst (-1), 1) := by decide +kernel
theorem d_Ju_weighInPlace_15 : decode b_Ju_weighInPlace 15 = .ok (.if_icmp .eq 24, 3) := by decide +kernel
theorem d_Ju_weighInPlace_18 : decode b_Ju_weighInPlace 18 = .ok (.aload_n 0, 1) := by decide +kernel
theorem d_Ju_weighInPlace_19 : decode b_Ju_weighInPlace 19 = .ok (.iload_n 1, 1) := by decide +kernel
theorem d_Ju_weighInPlace_20 : decode b_Ju_weighInPlace 20 = .ok (.iload_n 2, 1) := by decide +kernel
theorem d_Ju_weighInPlace_21 : decode b_Ju_weighInPlace 21 = .ok (.iload 4, 2) := by decide +kernel
theorem d_Ju_weighInPlace_23 : decode b_Ju_weighInPlace 23 = .ok (.iload_n 2, 1) := by decide +kernel
theorem d_Ju_weighInPlace_24 : decode b_Ju_weighInPlace 24 = .ok (.iload_n 3, 1) := by decide +kernel
theorem d_Ju_weighInPlace_25 : decode b_Ju_weighInPlace 25 = .ok (.invokevirtual 112, 3) := by decide +kernel
theorem d_Ju_weighInPlace_28 : decode b_Ju_weighInPlace 28 = .ok (.ifCond .eq 11, 3) := by decide +kernel
theorem d_Ju_weighInPlace_31 : decode b_Ju_weighInPlace 31 = .ok (.aload_n 0, 1) := by decide +kernel
theorem d_Ju_weighInPlace_32 : decode b_Ju_weighInPlace 32 = .ok (.iload_n 1, 1) := by decide +kernel
theorem d_Ju_weighInPlace_33 : decode b_Ju_weighInPlace 33 = .ok (.iload_n 2, 1) := by decide +kernel
theorem d_Ju_weighInPlace_34 : decode b_Ju_weighInPlace 34 = .ok (.bipush 17, 2) := by decide +kernel
theorem d_Ju_weighInPlace_36 : decode b_Ju_weighInPlace 36 = .ok (.invokevirtual 87, 3) := by decide +kernel
theorem d_Ju_weighInPlace_39 : decode b_Ju_weighInPlace 39 = .ok (.aload_n 0, 1) := by decide +kernel
theorem d_Ju_weighInPlace_40 : decode b_Ju_weighInPlace 40 = .ok (.getfield 17, 3) := by decide +kernel
theorem d_Ju_weighInPlace_43 : decode b_Ju_weighInPlace 43 = .ok (.iload_n 1, 1) := by decide +kernel
theorem d_Ju_weighInPlace_44 : decode b_Ju_weighInPlace 44 = .ok (.bipush 18, 2) := by decide +kernel
theorem d_Ju_weighInPlace_46 : decode b_Ju_weighInPlace 46 = .ok (.invokevirtual 78, 3) := by decide +kernel
theorem d_Ju_weighInPlace_49 : decode b_Ju_weighInPlace 49 = .ok (.istore 5, 2) := by decide +kernel
theorem d_Ju_weighInPlace_51 : decode b_Ju_weighInPlace 51 = .ok (.iload 5, 2) := by decide +kernel
theorem d_Ju_weighInPlace_53 : decode b_Ju_weighInPlace 53 = .ok (.iconst (-1), 1) := by decide +kernel
theorem d_Ju_weighInPlace_54 : decode b_Ju_weighInPlace 54 = .ok (.if_icmp .eq 29, 3) := by decide +kernel
theorem d_Ju_weighInPlace_57 : decode b_Ju_weighInPlace 57 = .ok (.aload_n 0, 1) := by decide +kernel
theorem d_Ju_weighInPlace_58 : decode b_Ju_weighInPlace 58 = .ok (.iload_n 1, 1) := by decide +kernel
theorem d_Ju_weighInPlace_59 : decode b_Ju_weighInPlace 59 = .ok (.iload_n 2, 1) := by decide +kernel
theorem d_Ju_weighInPlace_60 : decode b_Ju_weighInPlace 60 = .ok (.aload_n 0, 1) := by decide +kernel
theorem d_Ju_weighInPlace_61 : decode b_Ju_weighInPlace 61 = .ok (.iload_n 1, 1) := by decide +kernel
theorem d_Ju_weighInPlace_62 : decode b_Ju_weighInPlace 62 = .ok (.iload_n 2, 1) := by decide +kernel
theorem d_Ju_weighInPlace_63 : decode b_Ju_weighInPlace 63 = .ok (.iload 5, 2) := by decide +kernel
theorem d_Ju_weighInPlace_65 : decode b_Ju_weighInPlace 65 = .ok (.iload_n 3, 1) := by decide +kernel
theorem d_Ju_weighInPlace_66 : decode b_Ju_weighInPlace 66 = .ok (.invokevirtual 116, 3) := by decide +kernel
theorem d_Ju_weighInPlace_69 : decode b_Ju_weighInPlace 69 = .ok (.ifCond .eq 8, 3) := by decide +kernel
theorem d_Ju_weighInPlace_72 : decode b_Ju_weighInPlace 72 = .ok (.bipush 19, 2) := by decide +kernel
theorem d_Ju_weighInPlace_74 : decode b_Ju_weighInPlace 74 = .ok (.goto 5, 3) := by decide +kernel
theorem d_Ju_weighInPlace_77 : decode b_Ju_weighInPlace 77 = .ok (.bipush 20, 2) := by decide +kernel
theorem d_Ju_weighInPlace_79 : decode b_Ju_weighInPlace 79 = .ok (.iload_n 3, 1) := by decide +kernel
theorem d_Ju_weighInPlace_80 : decode b_Ju_weighInPlace 80 = .ok (.invokevirtual 120, 3) := by decide +kernel
theorem d_Ju_weighInPlace_83 : decode b_Ju_weighInPlace 83 = .ok (.aload_n 0, 1) := by decide +kernel
theorem d_Ju_weighInPlace_84 : decode b_Ju_weighInPlace 84 = .ok (.iload_n 1, 1) := by decide +kernel
theorem d_Ju_weighInPlace_85 : decode b_Ju_weighInPlace 85 = .ok (.iload_n 2, 1) := by decide +kernel
theorem d_Ju_weighInPlace_86 : decode b_Ju_weighInPlace 86 = .ok (.bipush 21, 2) := by decide +kernel
theorem d_Ju_weighInPlace_88 : decode b_Ju_weighInPlace 88 = .ok (.iload_n 3, 1) := by decide +kernel
theorem d_Ju_weighInPlace_89 : decode b_Ju_weighInPlace 89 = .ok (.invokevirtual 120, 3) := by decide +kernel
theorem d_Ju_weighInPlace_92 : decode b_Ju_weighInPlace 92 = .ok (.bipush 29, 2) := by decide +kernel
theorem d_Ju_weighInPlace_94 : decode b_Ju_weighInPlace 94 = .ok (.istore 6, 2) := by decide +kernel
theorem d_Ju_weighInPlace_96 : decode b_Ju_weighInPlace 96 = .ok (.iload 6, 2) := by decide +kernel
theorem d_Ju_weighInPlace_98 : decode b_Ju_weighInPlace 98 = .ok (.bipush 31, 2) := by decide +kernel
theorem d_Ju_weighInPlace_100 : decode b_Ju_weighInPlace 100 = .ok (.if_icmp .gt 18, 3) := by decide +kernel
theorem d_Ju_weighInPlace_103 : decode b_Ju_weighInPlace 103 = .ok (.aload_n 0, 1) := by decide +kernel
theorem d_Ju_weighInPlace_104 : decode b_Ju_weighInPlace 104 = .ok (.iload_n 1, 1) := by decide +kernel
theorem d_Ju_weighInPlace_105 : decode b_Ju_weighInPlace 105 = .ok (.iload_n 2, 1) := by decide +kernel
theorem d_Ju_weighInPlace_106 : decode b_Ju_weighInPlace 106 = .ok (.iload 6, 2) := by decide +kernel
theorem d_Ju_weighInPlace_108 : decode b_Ju_weighInPlace 108 = .ok (.iload_n 3, 1) := by decide +kernel
theorem d_Ju_weighInPlace_109 : decode b_Ju_weighInPlace 109 = .ok (.invokevirtual 123, 3) := by decide +kernel
theorem d_Ju_weighInPlace_112 : decode b_Ju_weighInPlace 112 = .ok (.iinc 6 1, 3) := by decide +kernel
theorem d_Ju_weighInPlace_115 : decode b_Ju_weighInPlace 115 = .ok (.goto (-19), 3) := by decide +kernel
theorem d_Ju_weighInPlace_118 : decode b_Ju_weighInPlace 118 = .ok (.return_, 1) := by decide +kernel
theorem d_Ju_ask_0 : decode b_Ju_ask 0 = .ok (.aload_n 0, 1) := by decide +kernel
theorem d_Ju_ask_1 : decode b_Ju_ask 1 = .ok (.getfield 45, 3) := by decide +kernel
theorem d_Ju_ask_4 : decode b_Ju_ask 4 = .ok (.ifCond .ne 10, 3) := by decide +kernel
theorem d_Ju_ask_7 : decode b_Ju_ask 7 = .ok (.iload 5, 2) := by decide +kernel
theorem d_Ju_ask_9 : decode b_Ju_ask 9 = .ok (.bipush 30, 2) := by decide +kernel
theorem d_Ju_ask_11 : decode b_Ju_ask 11 = .ok (.if_icmp .lt 10, 3) := by decide +kernel
theorem d_Ju_ask_14 : decode b_Ju_ask 14 = .ok (.aload_n 0, 1) := by decide +kernel
theorem d_Ju_ask_15 : decode b_Ju_ask 15 = .ok (.iconst 1, 1) := by decide +kernel
theorem d_Ju_ask_16 : decode b_Ju_ask 16 = .ok (.putfield 45, 3) := by decide +kernel
theorem d_Ju_ask_19 : decode b_Ju_ask 19 = .ok (.iconst 0, 1) := by decide +kernel
theorem d_Ju_ask_20 : decode b_Ju_ask 20 = .ok (.ireturn, 1) := by decide +kernel
theorem d_Ju_ask_21 : decode b_Ju_ask 21 = .ok (.iload_n 3, 1) := by decide +kernel
theorem d_Ju_ask_22 : decode b_Ju_ask 22 = .ok (.iload 4, 2) := by decide +kernel
theorem d_Ju_ask_24 : decode b_Ju_ask 24 = .ok (.invokestatic 59, 3) := by decide +kernel
theorem d_Ju_ask_27 : decode b_Ju_ask 27 = .ok (.istore 6, 2) := by decide +kernel
theorem d_Ju_ask_29 : decode b_Ju_ask 29 = .ok (.aload_n 0, 1) := by decide +kernel
theorem d_Ju_ask_30 : decode b_Ju_ask 30 = .ok (.getfield 25, 3) := by decide +kernel
theorem d_Ju_ask_33 : decode b_Ju_ask 33 = .ok (.iload 6, 2) := by decide +kernel
theorem d_Ju_ask_35 : decode b_Ju_ask 35 = .ok (.iaload, 1) := by decide +kernel
theorem d_Ju_ask_36 : decode b_Ju_ask 36 = .ok (.ifCond .ne 14, 3) := by decide +kernel
theorem d_Ju_ask_39 : decode b_Ju_ask 39 = .ok (.aload_n 0, 1) := by decide +kernel
theorem d_Ju_ask_40 : decode b_Ju_ask 40 = .ok (.iload_n 3, 1) := by decide +kernel
theorem d_Ju_ask_41 : decode b_Ju_ask 41 = .ok (.iload 4, 2) := by decide +kernel
theorem d_Ju_ask_43 : decode b_Ju_ask 43 = .ok (.iload 5, 2) := by decide +kernel
theorem d_Ju_ask_45 : decode b_Ju_ask 45 = .ok (.iconst 1, 1) := by decide +kernel
theorem d_Ju_ask_46 : decode b_Ju_ask 46 = .ok (.iadd, 1) := by decide +kernel
theorem d_Ju_ask_47 : decode b_Ju_ask 47 = .ok (.invokevirtual 52, 3) := by decide +kernel
theorem d_Ju_ask_50 : decode b_Ju_ask 50 = .ok (.iload 5, 2) := by decide +kernel
theorem d_Ju_ask_52 : decode b_Ju_ask 52 = .ok (.aload_n 0, 1) := by decide +kernel
theorem d_Ju_ask_53 : decode b_Ju_ask 53 = .ok (.getfield 25, 3) := by decide +kernel
theorem d_Ju_ask_56 : decode b_Ju_ask 56 = .ok (.iload 6, 2) := by decide +kernel
theorem d_Ju_ask_58 : decode b_Ju_ask 58 = .ok (.iaload, 1) := by decide +kernel
theorem d_Ju_ask_59 : decode b_Ju_ask 59 = .ok (.iadd, 1) := by decide +kernel
theorem d_Ju_ask_60 : decode b_Ju_ask 60 = .ok (.bipush 30, 2) := by decide +kernel
theorem d_Ju_ask_62 : decode b_Ju_ask 62 = .ok (.if_icmp .le 8, 3) := by decide +kernel
theorem d_Ju_ask_65 : decode b_Ju_ask 65 = .ok (.aload_n 0, 1) := by decide +kernel
theorem d_Ju_ask_66 : decode b_Ju_ask 66 = .ok (.iconst 1, 1) := by decide +kernel
theorem d_Ju_ask_67 : decode b_Ju_ask 67 = .ok (.putfield 45, 3) := by decide +kernel
theorem d_Ju_ask_70 : decode b_Ju_ask 70 = .ok (.iload_n 1, 1) := by decide +kernel
theorem d_Ju_ask_71 : decode b_Ju_ask 71 = .ok (.iload_n 2, 1) := by decide +kernel
theorem d_Ju_ask_72 : decode b_Ju_ask 72 = .ok (.invokestatic 59, 3) := by decide +kernel
theorem d_Ju_ask_75 : decode b_Ju_ask 75 = .ok (.istore 7, 2) := by decide +kernel
theorem d_Ju_ask_77 : decode b_Ju_ask 77 = .ok (.aload_n 0, 1) := by decide +kernel
theorem d_Ju_ask_78 : decode b_Ju_ask 78 = .ok (.getfield 25, 3) := by decide +kernel
theorem d_Ju_ask_81 : decode b_Ju_ask 81 = .ok (.iload 7, 2) := by decide +kernel
theorem d_Ju_ask_83 : decode b_Ju_ask 83 = .ok (.aload_n 0, 1) := by decide +kernel
theorem d_Ju_ask_84 : decode b_Ju_ask 84 = .ok (.getfield 25, 3) := by decide +kernel
theorem d_Ju_ask_87 : decode b_Ju_ask 87 = .ok (.iload 7, 2) := by decide +kernel
theorem d_Ju_ask_89 : decode b_Ju_ask 89 = .ok (.iaload, 1) := by decide +kernel
theorem d_Ju_ask_90 : decode b_Ju_ask 90 = .ok (.aload_n 0, 1) := by decide +kernel
theorem d_Ju_ask_91 : decode b_Ju_ask 91 = .ok (.getfield 25, 3) := by decide +kernel
theorem d_Ju_ask_94 : decode b_Ju_ask 94 = .ok (.iload 6, 2) := by decide +kernel
theorem d_Ju_ask_96 : decode b_Ju_ask 96 = .ok (.iaload, 1) := by decide +kernel
theorem d_Ju_ask_97 : decode b_Ju_ask 97 = .ok (.iconst 1, 1) := by decide +kernel
theorem d_Ju_ask_98 : decode b_Ju_ask 98 = .ok (.iadd, 1) := by decide +kernel
theorem d_Ju_ask_99 : decode b_Ju_ask 99 = .ok (.invokestatic 156, 3) := by decide +kernel
theorem d_Ju_ask_102 : decode b_Ju_ask 102 = .ok (.iastore, 1) := by decide +kernel
theorem d_Ju_ask_103 : decode b_Ju_ask 103 = .ok (.aload_n 0, 1) := by decide +kernel
theorem d_Ju_ask_104 : decode b_Ju_ask 104 = .ok (.getfield 32, 3) := by decide +kernel
theorem d_Ju_ask_107 : decode b_Ju_ask 107 = .ok (.iload 6, 2) := by decide +kernel
theorem d_Ju_ask_109 : decode b_Ju_ask 109 = .ok (.laload, 1) := by decide +kernel
theorem d_Ju_ask_110 : decode b_Ju_ask 110 = .ok (.lconst 0, 1) := by decide +kernel
theorem d_Ju_ask_111 : decode b_Ju_ask 111 = .ok (.lcmp, 1) := by decide +kernel
theorem d_Ju_ask_112 : decode b_Ju_ask 112 = .ok (.ifCond .ne 7, 3) := by decide +kernel
theorem d_Ju_ask_115 : decode b_Ju_ask 115 = .ok (.iconst 1, 1) := by decide +kernel
theorem d_Ju_ask_116 : decode b_Ju_ask 116 = .ok (.goto 4, 3) := by decide +kernel
theorem d_Ju_ask_119 : decode b_Ju_ask 119 = .ok (.iconst 0, 1) := by decide +kernel
theorem d_Ju_ask_120 : decode b_Ju_ask 120 = .ok (.ireturn, 1) := by decide +kernel
theorem d_Ma_max_0 : decode b_Ma_max 0 = .ok (.iload_n 0, 1) := by decide +kernel
theorem d_Ma_max_1 : decode b_Ma_max 1 = .ok (.iload_n 1, 1) := by decide +kernel
theorem d_Ma_max_2 : decode b_Ma_max 2 = .ok (.if_icmp .lt 7, 3) := by decide +kernel
theorem d_Ma_max_5 : decode b_Ma_max 5 = .ok (.iload_n 0, 1) := by decide +kernel
theorem d_Ma_max_6 : decode b_Ma_max 6 = .ok (.goto 4, 3) := by decide +kernel
theorem d_Ma_max_9 : decode b_Ma_max 9 = .ok (.iload_n 1, 1) := by decide +kernel
theorem d_Ma_max_10 : decode b_Ma_max 10 = .ok (.ireturn, 1) := by decide +kernel
theorem d_Ju_adopt_0 : decode b_Ju_adopt 0 = .ok (.aload_n 0, 1) := by decide +kernel
theorem d_Ju_adopt_1 : decode b_Ju_adopt 1 = .ok (.iload_n 1, 1) := by decide +kernel
theorem d_Ju_adopt_2 : decode b_Ju_adopt 2 = .ok (.iload_n 2, 1) := by decide +kernel
theorem d_Ju_adopt_3 : decode b_Ju_adopt 3 = .ok (.iload_n 3, 1) := by decide +kernel
theorem d_Ju_adopt_4 : decode b_Ju_adopt 4 = .ok (.iload_n 2, 1) := by decide +kernel
theorem d_Ju_adopt_5 : decode b_Ju_adopt 5 = .ok (.iload 4, 2) := by decide +kernel
theorem d_Ju_adopt_7 : decode b_Ju_adopt 7 = .ok (.invokevirtual 112, 3) := by decide +kernel
theorem d_Ju_adopt_10 : decode b_Ju_adopt 10 = .ok (.istore 5, 2) := by decide +kernel
theorem d_Ju_adopt_12 : decode b_Ju_adopt 12 = .ok (.aload_n 0, 1) := by decide +kernel
theorem d_Ju_adopt_13 : decode b_Ju_adopt 13 = .ok (.getfield 29, 3) := by decide +kernel
theorem d_Ju_adopt_16 : decode b_Ju_adopt 16 = .ok (.iload_n 1, 1) := by decide +kernel
theorem d_Ju_adopt_17 : decode b_Ju_adopt 17 = .ok (.iload_n 2, 1) := by decide +kernel
theorem d_Ju_adopt_18 : decode b_Ju_adopt 18 = .ok (.invokestatic 59, 3) := by decide +kernel
theorem d_Ju_adopt_21 : decode b_Ju_adopt 21 = .ok (.dup2, 1) := by decide +kernel
theorem d_Ju_adopt_22 : decode b_Ju_adopt 22 = .ok (.iaload, 1) := by decide +kernel
theorem d_Ju_adopt_23 : decode b_Ju_adopt 23 = .ok (.aload_n 0, 1) := by decide +kernel
theorem d_Ju_adopt_24 : decode b_Ju_adopt 24 = .ok (.getfield 29, 3) := by decide +kernel
theorem d_Ju_adopt_27 : decode b_Ju_adopt 27 = .ok (.iload_n 3, 1) := by decide +kernel
theorem d_Ju_adopt_28 : decode b_Ju_adopt 28 = .ok (.iload_n 2, 1) := by decide +kernel
theorem d_Ju_adopt_29 : decode b_Ju_adopt 29 = .ok (.invokestatic 59, 3) := by decide +kernel
theorem d_Ju_adopt_32 : decode b_Ju_adopt 32 = .ok (.iaload, 1) := by decide +kernel
theorem d_Ju_adopt_33 : decode b_Ju_adopt 33 = .ok (.ior, 1) := by decide +kernel
theorem d_Ju_adopt_34 : decode b_Ju_adopt 34 = .ok (.iastore, 1) := by decide +kernel
theorem d_Ju_adopt_35 : decode b_Ju_adopt 35 = .ok (.iload 5, 2) := by decide +kernel
theorem d_Ju_adopt_37 : decode b_Ju_adopt 37 = .ok (.ireturn, 1) := by decide +kernel
theorem d_Ju_weighSame_0 : decode b_Ju_weighSame 0 = .ok (.aload_n 0, 1) := by decide +kernel
theorem d_Ju_weighSame_1 : decode b_Ju_weighSame 1 = .ok (.getfield 17, 3) := by decide +kernel
theorem d_Ju_weighSame_4 : decode b_Ju_weighSame 4 = .ok (.iload_n 1, 1) := by decide +kernel
theorem d_Ju_weighSame_5 : decode b_Ju_weighSame 5 = .ok (.iload_n 3, 1) := by decide +kernel
theorem d_Ju_weighSame_6 : decode b_Ju_weighSame 6 = .ok (.invokevirtual 78, 3) := by decide +kernel
theorem d_Ju_weighSame_9 : decode b_Ju_weighSame 9 = .ok (.istore 5, 2) := by decide +kernel
theorem d_Ju_weighSame_11 : decode b_Ju_weighSame 11 = .ok (.iload 5, 2) := by decide +kernel
theorem d_Ju_weighSame_13 : decode b_Ju_weighSame 13 = .ok (.iconst (-1), 1) := by decide +kernel
theorem d_Ju_weighSame_14 : decode b_Ju_weighSame 14 = .ok (.if_icmp .eq 23, 3) := by decide +kernel
theorem d_Ju_weighSame_17 : decode b_Ju_weighSame 17 = .ok (.aload_n 0, 1) := by decide +kernel
theorem d_Ju_weighSame_18 : decode b_Ju_weighSame 18 = .ok (.iload_n 1, 1) := by decide +kernel
theorem d_Ju_weighSame_19 : decode b_Ju_weighSame 19 = .ok (.iload_n 2, 1) := by decide +kernel
theorem d_Ju_weighSame_20 : decode b_Ju_weighSame 20 = .ok (.iload 5, 2) := by decide +kernel
theorem d_Ju_weighSame_22 : decode b_Ju_weighSame 22 = .ok (.iload 4, 2) := by decide +kernel
theorem d_Ju_weighSame_24 : decode b_Ju_weighSame 24 = .ok (.invokevirtual 116, 3) := by decide +kernel
theorem d_Ju_weighSame_27 : decode b_Ju_weighSame 27 = .ok (.ifCond .ne 10, 3) := by decide +kernel
theorem d_Ju_weighSame_30 : decode b_Ju_weighSame 30 = .ok (.aload_n 0, 1) := by decide +kernel
theorem d_Ju_weighSame_31 : decode b_Ju_weighSame 31 = .ok (.iload_n 1, 1) := by decide +kernel
theorem d_Ju_weighSame_32 : decode b_Ju_weighSame 32 = .ok (.iload_n 2, 1) := by decide +kernel
theorem d_Ju_weighSame_33 : decode b_Ju_weighSame 33 = .ok (.iload_n 3, 1) := by decide +kernel
theorem d_Ju_weighSame_34 : decode b_Ju_weighSame 34 = .ok (.invokevirtual 87, 3) := by decide +kernel
theorem d_Ju_weighSame_37 : decode b_Ju_weighSame 37 = .ok (.return_, 1) := by decide +kernel
theorem d_Ju_weighList_0 : decode b_Ju_weighList 0 = .ok (.aload_n 0, 1) := by decide +kernel
theorem d_Ju_weighList_1 : decode b_Ju_weighList 1 = .ok (.getfield 17, 3) := by decide +kernel
theorem d_Ju_weighList_4 : decode b_Ju_weighList 4 = .ok (.iload_n 1, 1) := by decide +kernel
theorem d_Ju_weighList_5 : decode b_Ju_weighList 5 = .ok (.iload_n 3, 1) := by decide +kernel
theorem d_Ju_weighList_6 : decode b_Ju_weighList 6 = .ok (.invokevirtual 126, 3) := by decide +kernel
theorem d_Ju_weighList_9 : decode b_Ju_weighList 9 = .ok (.istore 5, 2) := by decide +kernel
theorem d_Ju_weighList_11 : decode b_Ju_weighList 11 = .ok (.iconst 0, 1) := by decide +kernel
theorem d_Ju_weighList_12 : decode b_Ju_weighList 12 = .ok (.istore 6, 2) := by decide +kernel
theorem d_Ju_weighList_14 : decode b_Ju_weighList 14 = .ok (.iconst 0, 1) := by decide +kernel
theorem d_Ju_weighList_15 : decode b_Ju_weighList 15 = .ok (.istore 7, 2) := by decide +kernel
theorem d_Ju_weighList_17 : decode b_Ju_weighList 17 = .ok (.iload 7, 2) := by decide +kernel
theorem d_Ju_weighList_19 : decode b_Ju_weighList 19 = .ok (.iload 5, 2) := by decide +kernel
theorem d_Ju_weighList_21 : decode b_Ju_weighList 21 = .ok (.if_icmp .ge 34, 3) := by decide +kernel
theorem d_Ju_weighList_24 : decode b_Ju_weighList 24 = .ok (.aload_n 0, 1) := by decide +kernel
theorem d_Ju_weighList_25 : decode b_Ju_weighList 25 = .ok (.iload_n 1, 1) := by decide +kernel
theorem d_Ju_weighList_26 : decode b_Ju_weighList 26 = .ok (.iload_n 2, 1) := by decide +kernel
theorem d_Ju_weighList_27 : decode b_Ju_weighList 27 = .ok (.aload_n 0, 1) := by decide +kernel
theorem d_Ju_weighList_28 : decode b_Ju_weighList 28 = .ok (.getfield 17, 3) := by decide +kernel
theorem d_Ju_weighList_31 : decode b_Ju_weighList 31 = .ok (.iload_n 1, 1) := by decide +kernel
theorem d_Ju_weighList_32 : decode b_Ju_weighList 32 = .ok (.iload_n 3, 1) := by decide +kernel
theorem d_Ju_weighList_33 : decode b_Ju_weighList 33 = .ok (.iload 7, 2) := by decide +kernel
theorem d_Ju_weighList_35 : decode b_Ju_weighList 35 = .ok (.invokevirtual 129, 3) := by decide +kernel
theorem d_Ju_weighList_38 : decode b_Ju_weighList 38 = .ok (.iload 4, 2) := by decide +kernel
theorem d_Ju_weighList_40 : decode b_Ju_weighList 40 = .ok (.invokevirtual 116, 3) := by decide +kernel
theorem d_Ju_weighList_43 : decode b_Ju_weighList 43 = .ok (.ifCond .eq 6, 3) := by decide +kernel
theorem d_Ju_weighList_46 : decode b_Ju_weighList 46 = .ok (.iinc 6 1, 3) := by decide +kernel
theorem d_Ju_weighList_49 : decode b_Ju_weighList 49 = .ok (.iinc 7 1, 3) := by decide +kernel
theorem d_Ju_weighList_52 : decode b_Ju_weighList 52 = .ok (.goto (-35), 3) := by decide +kernel
theorem d_Ju_weighList_55 : decode b_Ju_weighList 55 = .ok (.iload 5, 2) := by decide +kernel
theorem d_Ju_weighList_57 : decode b_Ju_weighList 57 = .ok (.ifCond .le 21, 3) := by decide +kernel
theorem d_Ju_weighList_60 : decode b_Ju_weighList 60 = .ok (.iload_n 3, 1) := by decide +kernel
theorem d_Ju_weighList_61 : decode b_Ju_weighList 61 = .ok (.iload 6, 2) := by decide +kernel
theorem d_Ju_weighList_63 : decode b_Ju_weighList 63 = .ok (.iload 5, 2) := by decide +kernel
theorem d_Ju_weighList_65 : decode b_Ju_weighList 65 = .ok (.invokestatic 133, 3) := by decide +kernel
theorem d_Ju_weighList_68 : decode b_Ju_weighList 68 = .ok (.ifCond .ne 10, 3) := by decide +kernel
theorem d_Ju_weighList_71 : decode b_Ju_weighList 71 = .ok (.aload_n 0, 1) := by decide +kernel
theorem d_Ju_weighList_72 : decode b_Ju_weighList 72 = .ok (.iload_n 1, 1) := by decide +kernel
theorem d_Ju_weighList_73 : decode b_Ju_weighList 73 = .ok (.iload_n 2, 1) := by decide +kernel
theorem d_Ju_weighList_74 : decode b_Ju_weighList 74 = .ok (.iload_n 3, 1) := by decide +kernel
theorem d_Ju_weighList_75 : decode b_Ju_weighList 75 = .ok (.invokevirtual 87, 3) := by decide +kernel
theorem d_Ju_weighList_78 : decode b_Ju_weighList 78 = .ok (.return_, 1) := by decide +kernel
theorem d_Ju_isEnough_0 : decode b_Ju_isEnough 0 = .ok (.iload_n 0, 1) := by decide +kernel
theorem d_Ju_isEnough_1 : decode b_Ju_isEnough 1 = .ok (.bipush 29, 2) := by decide +kernel
theorem d_Ju_isEnough_3 : decode b_Ju_isEnough 3 = .ok (.if_icmp .ne 14, 3) := by decide +kernel
theorem d_Ju_isEnough_6 : decode b_Ju_isEnough 6 = .ok (.iload_n 1, 1) := by decide +kernel
theorem d_Ju_isEnough_7 : decode b_Ju_isEnough 7 = .ok (.iload_n 2, 1) := by decide +kernel
theorem d_Ju_isEnough_8 : decode b_Ju_isEnough 8 = .ok (.if_icmp .ne 7, 3) := by decide +kernel
theorem d_Ju_isEnough_11 : decode b_Ju_isEnough 11 = .ok (.iconst 1, 1) := by decide +kernel
theorem d_Ju_isEnough_12 : decode b_Ju_isEnough 12 = .ok (.goto 4, 3) := by decide +kernel
theorem d_Ju_isEnough_15 : decode b_Ju_isEnough 15 = .ok (.iconst 0, 1) := by decide +kernel
theorem d_Ju_isEnough_16 : decode b_Ju_isEnough 16 = .ok (.ireturn, 1) := by decide +kernel
theorem d_Ju_isEnough_17 : decode b_Ju_isEnough 17 = .ok (.iload_n 0, 1) := by decide +kernel
theorem d_Ju_isEnough_18 : decode b_Ju_isEnough 18 = .ok (.bipush 30, 2) := by decide +kernel
theorem d_Ju_isEnough_20 : decode b_Ju_isEnough 20 = .ok (.if_icmp .ne 15, 3) := by decide +kernel
theorem d_Ju_isEnough_23 : decode b_Ju_isEnough 23 = .ok (.iload_n 1, 1) := by decide +kernel
theorem d_Ju_isEnough_24 : decode b_Ju_isEnough 24 = .ok (.ifCond .le 7, 3) := by decide +kernel
theorem d_Ju_isEnough_27 : decode b_Ju_isEnough 27 = .ok (.iconst 1, 1) := by decide +kernel
theorem d_Ju_isEnough_28 : decode b_Ju_isEnough 28 = .ok (.goto 17, 3) := by decide +kernel
theorem d_Ju_isEnough_31 : decode b_Ju_isEnough 31 = .ok (.iconst 0, 1) := by decide +kernel
theorem d_Ju_isEnough_32 : decode b_Ju_isEnough 32 = .ok (.goto 13, 3) := by decide +kernel
theorem d_Ju_isEnough_35 : decode b_Ju_isEnough 35 = .ok (.iload_n 1, 1) := by decide +kernel
theorem d_Ju_isEnough_36 : decode b_Ju_isEnough 36 = .ok (.iconst 1, 1) := by decide +kernel
theorem d_Ju_isEnough_37 : decode b_Ju_isEnough 37 = .ok (.if_icmp .ne 7, 3) := by decide +kernel
theorem d_Ju_isEnough_40 : decode b_Ju_isEnough 40 = .ok (.iconst 1, 1) := by decide +kernel
theorem d_Ju_isEnough_41 : decode b_Ju_isEnough 41 = .ok (.goto 4, 3) := by decide +kernel
theorem d_Ju_isEnough_44 : decode b_Ju_isEnough 44 = .ok (.iconst 0, 1) := by decide +kernel
theorem d_Ju_isEnough_45 : decode b_Ju_isEnough 45 = .ok (.ireturn, 1) := by decide +kernel
theorem d_Ju_weighElements_0 : decode b_Ju_weighElements 0 = .ok (.aload_n 0, 1) := by decide +kernel
theorem d_Ju_weighElements_1 : decode b_Ju_weighElements 1 = .ok (.getfield 11, 3) := by decide +kernel
theorem d_Ju_weighElements_4 : decode b_Ju_weighElements 4 = .ok (.iload_n 2, 1) := by decide +kernel
theorem d_Ju_weighElements_5 : decode b_Ju_weighElements 5 = .ok (.invokevirtual 136, 3) := by decide +kernel
theorem d_Ju_weighElements_8 : decode b_Ju_weighElements 8 = .ok (.istore 4, 2) := by decide +kernel
theorem d_Ju_weighElements_10 : decode b_Ju_weighElements 10 = .ok (.aload_n 0, 1) := by decide +kernel
theorem d_Ju_weighElements_11 : decode b_Ju_weighElements 11 = .ok (.getfield 17, 3) := by decide +kernel
theorem d_Ju_weighElements_14 : decode b_Ju_weighElements 14 = .ok (.iload_n 1, 1) := by decide +kernel
theorem d_Ju_weighElements_15 : decode b_Ju_weighElements 15 = .ok (.bipush 32, 2) := by decide +kernel
theorem d_Ju_weighElements_17 : decode b_Ju_weighElements 17 = .ok (.invokevirtual 126, 3) := by decide +kernel
theorem d_Ju_weighElements_20 : decode b_Ju_weighElements 20 = .ok (.istore 5, 2) := by decide +kernel
theorem d_Ju_weighElements_22 : decode b_Ju_weighElements 22 = .ok (.aload_n 0, 1) := by decide +kernel
theorem d_Ju_weighElements_23 : decode b_Ju_weighElements 23 = .ok (.getfield 17, 3) := by decide +kernel
theorem d_Ju_weighElements_26 : decode b_Ju_weighElements 26 = .ok (.iload_n 1, 1) := by decide +kernel
theorem d_Ju_weighElements_27 : decode b_Ju_weighElements 27 = .ok (.bipush 22, 2) := by decide +kernel
theorem d_Ju_weighElements_29 : decode b_Ju_weighElements 29 = .ok (.invokevirtual 78, 3) := by decide +kernel
theorem d_Ju_weighElements_32 : decode b_Ju_weighElements 32 = .ok (.istore 6, 2) := by decide +kernel
theorem d_Ju_weighElements_34 : decode b_Ju_weighElements 34 = .ok (.iconst 0, 1) := by decide +kernel
theorem d_Ju_weighElements_35 : decode b_Ju_weighElements 35 = .ok (.istore 7, 2) := by decide +kernel
theorem d_Ju_weighElements_37 : decode b_Ju_weighElements 37 = .ok (.iload 7, 2) := by decide +kernel
theorem d_Ju_weighElements_39 : decode b_Ju_weighElements 39 = .ok (.iload 4, 2) := by decide +kernel
theorem d_Ju_weighElements_41 : decode b_Ju_weighElements 41 = .ok (.if_icmp .ge 61, 3) := by decide +kernel
theorem d_Ju_weighElements_44 : decode b_Ju_weighElements 44 = .ok (.iload 7, 2) := by decide +kernel
theorem d_Ju_weighElements_46 : decode b_Ju_weighElements 46 = .ok (.iload 5, 2) := by decide +kernel
theorem d_Ju_weighElements_48 : decode b_Ju_weighElements 48 = .ok (.if_icmp .ge 29, 3) := by decide +kernel
theorem d_Ju_weighElements_51 : decode b_Ju_weighElements 51 = .ok (.aload_n 0, 1) := by decide +kernel
theorem d_Ju_weighElements_52 : decode b_Ju_weighElements 52 = .ok (.iload_n 1, 1) := by decide +kernel
theorem d_Ju_weighElements_53 : decode b_Ju_weighElements 53 = .ok (.iload_n 2, 1) := by decide +kernel
theorem d_Ju_weighElements_54 : decode b_Ju_weighElements 54 = .ok (.iload 7, 2) := by decide +kernel
theorem d_Ju_weighElements_56 : decode b_Ju_weighElements 56 = .ok (.bipush 32, 2) := by decide +kernel
theorem d_Ju_weighElements_58 : decode b_Ju_weighElements 58 = .ok (.aload_n 0, 1) := by decide +kernel
theorem d_Ju_weighElements_59 : decode b_Ju_weighElements 59 = .ok (.getfield 17, 3) := by decide +kernel
theorem d_Ju_weighElements_62 : decode b_Ju_weighElements 62 = .ok (.iload_n 1, 1) := by decide +kernel
theorem d_Ju_weighElements_63 : decode b_Ju_weighElements 63 = .ok (.bipush 32, 2) := by decide +kernel
theorem d_Ju_weighElements_65 : decode b_Ju_weighElements 65 = .ok (.iload 7, 2) := by decide +kernel
theorem d_Ju_weighElements_67 : decode b_Ju_weighElements 67 = .ok (.invokevirtual 129, 3) := by decide +kernel
theorem d_Ju_weighElements_70 : decode b_Ju_weighElements 70 = .ok (.iload_n 3, 1) := by decide +kernel
theorem d_Ju_weighElements_71 : decode b_Ju_weighElements 71 = .ok (.invokevirtual 139, 3) := by decide +kernel
theorem d_Ju_weighElements_74 : decode b_Ju_weighElements 74 = .ok (.goto 22, 3) := by decide +kernel
theorem d_Ju_weighElements_77 : decode b_Ju_weighElements 77 = .ok (.iload 6, 2) := by decide +kernel
theorem d_Ju_weighElements_79 : decode b_Ju_weighElements 79 = .ok (.iconst (-1), 1) := by decide +kernel
theorem d_Ju_weighElements_80 : decode b_Ju_weighElements 80 = .ok (.if_icmp .eq 16, 3) := by decide +kernel
theorem d_Ju_weighElements_83 : decode b_Ju_weighElements 83 = .ok (.aload_n 0, 1) := by decide +kernel
theorem d_Ju_weighElements_84 : decode b_Ju_weighElements 84 = .ok (.iload_n 1, 1) := by decide +kernel
theorem d_Ju_weighElements_85 : decode b_Ju_weighElements 85 = .ok (.iload_n 2, 1) := by decide +kernel
theorem d_Ju_weighElements_86 : decode b_Ju_weighElements 86 = .ok (.iload 7, 2) := by decide +kernel
theorem d_Ju_weighElements_88 : decode b_Ju_weighElements 88 = .ok (.bipush 22, 2) := by decide +kernel
theorem d_Ju_weighElements_90 : decode b_Ju_weighElements 90 = .ok (.iload 6, 2) := by decide +kernel
theorem d_Ju_weighElements_92 : decode b_Ju_weighElements 92 = .ok (.iload_n 3, 1) := by decide +kernel
theorem d_Ju_weighElements_93 : decode b_Ju_weighElements 93 = .ok (.invokevirtual 139, 3) := by decide +kernel
theorem d_Ju_weighElements_96 : decode b_Ju_weighElements 96 = .ok (.iinc 7 1, 3) := by decide +kernel
theorem d_Ju_weighElements_99 : decode b_Ju_weighElements 99 = .ok (.goto (-62), 3) := by decide +kernel
theorem d_Ju_weighElements_102 : decode b_Ju_weighElements 102 = .ok (.return_, 1) := by decide +kernel
theorem d_Ju_weighPart_0 : decode b_Ju_weighPart 0 = .ok (.aload_n 0, 1) := by decide +kernel
theorem d_Ju_weighPart_1 : decode b_Ju_weighPart 1 = .ok (.getfield 29, 3) := by decide +kernel
theorem d_Ju_weighPart_4 : decode b_Ju_weighPart 4 = .ok (.iload_n 1, 1) := by decide +kernel
theorem d_Ju_weighPart_5 : decode b_Ju_weighPart 5 = .ok (.iload_n 2, 1) := by decide +kernel
theorem d_Ju_weighPart_6 : decode b_Ju_weighPart 6 = .ok (.invokestatic 59, 3) := by decide +kernel
theorem d_Ju_weighPart_9 : decode b_Ju_weighPart 9 = .ok (.dup2, 1) := by decide +kernel
theorem d_Ju_weighPart_10 : decode b_Ju_weighPart 10 = .ok (.iaload, 1) := by decide +kernel
theorem d_Ju_weighPart_11 : decode b_Ju_weighPart 11 = .ok (.iconst 1, 1) := by decide +kernel
theorem d_Ju_weighPart_12 : decode b_Ju_weighPart 12 = .ok (.iload_n 3, 1) := by decide +kernel
theorem d_Ju_weighPart_13 : decode b_Ju_weighPart 13 = .ok (.ishl, 1) := by decide +kernel
theorem d_Ju_weighPart_14 : decode b_Ju_weighPart 14 = .ok (.ior, 1) := by decide +kernel
theorem d_Ju_weighPart_15 : decode b_Ju_weighPart 15 = .ok (.iastore, 1) := by decide +kernel
theorem d_Ju_weighPart_16 : decode b_Ju_weighPart 16 = .ok (.aload_n 0, 1) := by decide +kernel
theorem d_Ju_weighPart_17 : decode b_Ju_weighPart 17 = .ok (.iload_n 1, 1) := by decide +kernel
theorem d_Ju_weighPart_18 : decode b_Ju_weighPart 18 = .ok (.iload_n 2, 1) := by decide +kernel
theorem d_Ju_weighPart_19 : decode b_Ju_weighPart 19 = .ok (.iload 5, 2) := by decide +kernel
theorem d_Ju_weighPart_21 : decode b_Ju_weighPart 21 = .ok (.aload_n 0, 1) := by decide +kernel
theorem d_Ju_weighPart_22 : decode b_Ju_weighPart 22 = .ok (.getfield 11, 3) := by decide +kernel
theorem d_Ju_weighPart_25 : decode b_Ju_weighPart 25 = .ok (.iload_n 2, 1) := by decide +kernel
theorem d_Ju_weighPart_26 : decode b_Ju_weighPart 26 = .ok (.iload_n 3, 1) := by decide +kernel
theorem d_Ju_weighPart_27 : decode b_Ju_weighPart 27 = .ok (.invokevirtual 143, 3) := by decide +kernel
theorem d_Ju_weighPart_30 : decode b_Ju_weighPart 30 = .ok (.iload 6, 2) := by decide +kernel
theorem d_Ju_weighPart_32 : decode b_Ju_weighPart 32 = .ok (.invokevirtual 112, 3) := by decide +kernel
theorem d_Ju_weighPart_35 : decode b_Ju_weighPart 35 = .ok (.ifCond .ne 11, 3) := by decide +kernel
theorem d_Ju_weighPart_38 : decode b_Ju_weighPart 38 = .ok (.aload_n 0, 1) := by decide +kernel
theorem d_Ju_weighPart_39 : decode b_Ju_weighPart 39 = .ok (.iload_n 1, 1) := by decide +kernel
theorem d_Ju_weighPart_40 : decode b_Ju_weighPart 40 = .ok (.iload_n 2, 1) := by decide +kernel
theorem d_Ju_weighPart_41 : decode b_Ju_weighPart 41 = .ok (.iload 4, 2) := by decide +kernel
theorem d_Ju_weighPart_43 : decode b_Ju_weighPart 43 = .ok (.invokevirtual 87, 3) := by decide +kernel
theorem d_Ju_weighPart_46 : decode b_Ju_weighPart 46 = .ok (.return_, 1) := by decide +kernel
theorem d_Ju_weighContains_0 : decode b_Ju_weighContains 0 = .ok (.aload_n 0, 1) := by decide +kernel
theorem d_Ju_weighContains_1 : decode b_Ju_weighContains 1 = .ok (.getfield 17, 3) := by decide +kernel
theorem d_Ju_weighContains_4 : decode b_Ju_weighContains 4 = .ok (.iload_n 1, 1) := by decide +kernel
theorem d_Ju_weighContains_5 : decode b_Ju_weighContains 5 = .ok (.bipush 23, 2) := by decide +kernel
theorem d_Ju_weighContains_7 : decode b_Ju_weighContains 7 = .ok (.invokevirtual 78, 3) := by decide +kernel
theorem d_Ju_weighContains_10 : decode b_Ju_weighContains 10 = .ok (.istore 4, 2) := by decide +kernel
theorem d_Ju_weighContains_12 : decode b_Ju_weighContains 12 = .ok (.iload 4, 2) := by decide +kernel
theorem d_Ju_weighContains_14 : decode b_Ju_weighContains 14 = .ok (.iconst (-1), 1) := by decide +kernel
theorem d_Ju_weighContains_15 : decode b_Ju_weighContains 15 = .ok (.if_icmp .ne 4, 3) := by decide +kernel
theorem d_Ju_weighContains_18 : decode b_Ju_weighContains 18 = .ok (.return_, 1) := by decide +kernel
theorem d_Ju_weighContains_19 : decode b_Ju_weighContains 19 = .ok (.aload_n 0, 1) := by decide +kernel
theorem d_Ju_weighContains_20 : decode b_Ju_weighContains 20 = .ok (.getfield 11, 3) := by decide +kernel
theorem d_Ju_weighContains_23 : decode b_Ju_weighContains 23 = .ok (.iload_n 2, 1) := by decide +kernel
theorem d_Ju_weighContains_24 : decode b_Ju_weighContains 24 = .ok (.invokevirtual 136, 3) := by decide +kernel
theorem d_Ju_weighContains_27 : decode b_Ju_weighContains 27 = .ok (.istore 5, 2) := by decide +kernel
theorem d_Ju_weighContains_29 : decode b_Ju_weighContains 29 = .ok (.iconst 0, 1) := by decide +kernel
theorem d_Ju_weighContains_30 : decode b_Ju_weighContains 30 = .ok (.istore 6, 2) := by decide +kernel
theorem d_Ju_weighContains_32 : decode b_Ju_weighContains 32 = .ok (.iconst 0, 1) := by decide +kernel
theorem d_Ju_weighContains_33 : decode b_Ju_weighContains 33 = .ok (.istore 7, 2) := by decide +kernel
theorem d_Ju_weighContains_35 : decode b_Ju_weighContains 35 = .ok (.iload 7, 2) := by decide +kernel
theorem d_Ju_weighContains_37 : decode b_Ju_weighContains 37 = .ok (.iload 5, 2) := by decide +kernel
theorem d_Ju_weighContains_39 : decode b_Ju_weighContains 39 = .ok (.if_icmp .ge 51, 3) := by decide +kernel
theorem d_Ju_weighContains_42 : decode b_Ju_weighContains 42 = .ok (.aload_n 0, 1) := by decide +kernel
theorem d_Ju_weighContains_43 : decode b_Ju_weighContains 43 = .ok (.iload_n 1, 1) := by decide +kernel
theorem d_Ju_weighContains_44 : decode b_Ju_weighContains 44 = .ok (.iload_n 2, 1) := by decide +kernel
theorem d_Ju_weighContains_45 : decode b_Ju_weighContains 45 = .ok (.iload 4, 2) := by decide +kernel
theorem d_Ju_weighContains_47 : decode b_Ju_weighContains 47 = .ok (.aload_n 0, 1) := by decide +kernel
theorem d_Ju_weighContains_48 : decode b_Ju_weighContains 48 = .ok (.getfield 11, 3) := by decide +kernel
theorem d_Ju_weighContains_51 : decode b_Ju_weighContains 51 = .ok (.iload_n 2, 1) := by decide +kernel
theorem d_Ju_weighContains_52 : decode b_Ju_weighContains 52 = .ok (.iload 7, 2) := by decide +kernel
theorem d_Ju_weighContains_54 : decode b_Ju_weighContains 54 = .ok (.invokevirtual 143, 3) := by decide +kernel
theorem d_Ju_weighContains_57 : decode b_Ju_weighContains 57 = .ok (.iload_n 3, 1) := by decide +kernel
theorem d_Ju_weighContains_58 : decode b_Ju_weighContains 58 = .ok (.invokevirtual 112, 3) := by decide +kernel
theorem d_Ju_weighContains_61 : decode b_Ju_weighContains 61 = .ok (.ifCond .eq 23, 3) := by decide +kernel
theorem d_Ju_weighContains_64 : decode b_Ju_weighContains 64 = .ok (.aload_n 0, 1) := by decide +kernel
theorem d_Ju_weighContains_65 : decode b_Ju_weighContains 65 = .ok (.getfield 29, 3) := by decide +kernel
theorem d_Ju_weighContains_68 : decode b_Ju_weighContains 68 = .ok (.iload_n 1, 1) := by decide +kernel
theorem d_Ju_weighContains_69 : decode b_Ju_weighContains 69 = .ok (.iload_n 2, 1) := by decide +kernel
theorem d_Ju_weighContains_70 : decode b_Ju_weighContains 70 = .ok (.invokestatic 59, 3) := by decide +kernel
theorem d_Ju_weighContains_73 : decode b_Ju_weighContains 73 = .ok (.dup2, 1) := by decide +kernel
theorem d_Ju_weighContains_74 : decode b_Ju_weighContains 74 = .ok (.iaload, 1) := by decide +kernel
theorem d_Ju_weighContains_75 : decode b_Ju_weighContains 75 = .ok (.iconst 1, 1) := by decide +kernel
theorem d_Ju_weighContains_76 : decode b_Ju_weighContains 76 = .ok (.iload 7, 2) := by decide +kernel
theorem d_Ju_weighContains_78 : decode b_Ju_weighContains 78 = .ok (.ishl, 1) := by decide +kernel
theorem d_Ju_weighContains_79 : decode b_Ju_weighContains 79 = .ok (.ior, 1) := by decide +kernel
theorem d_Ju_weighContains_80 : decode b_Ju_weighContains 80 = .ok (.iastore, 1) := by decide +kernel
theorem d_Ju_weighContains_81 : decode b_Ju_weighContains 81 = .ok (.iinc 6 1, 3) := by decide +kernel
theorem d_Ju_weighContains_84 : decode b_Ju_weighContains 84 = .ok (.iinc 7 1, 3) := by decide +kernel
theorem d_Ju_weighContains_87 : decode b_Ju_weighContains 87 = .ok (.goto (-52), 3) := by decide +kernel
theorem d_Ju_weighContains_90 : decode b_Ju_weighContains 90 = .ok (.aload_n 0, 1) := by decide +kernel
theorem d_Ju_weighContains_91 : decode b_Ju_weighContains 91 = .ok (.getfield 17, 3) := by decide +kernel
theorem d_Ju_weighContains_94 : decode b_Ju_weighContains 94 = .ok (.iload_n 1, 1) := by decide +kernel
theorem d_Ju_weighContains_95 : decode b_Ju_weighContains 95 = .ok (.bipush 24, 2) := by decide +kernel
theorem d_Ju_weighContains_97 : decode b_Ju_weighContains 97 = .ok (.invokevirtual 78, 3) := by decide +kernel
theorem d_Ju_weighContains_100 : decode b_Ju_weighContains 100 = .ok (.istore 7, 2) := by decide +kernel
theorem d_Ju_weighContains_102 : decode b_Ju_weighContains 102 = .ok (.iload 6, 2) := by decide +kernel
theorem d_Ju_weighContains_104 : decode b_Ju_weighContains 104 = .ok (.iload 7, 2) := by decide +kernel
theorem d_Ju_weighContains_106 : decode b_Ju_weighContains 106 = .ok (.iconst (-1), 1) := by decide +kernel
theorem d_Ju_weighContains_107 : decode b_Ju_weighContains 107 = .ok (.if_icmp .ne 7, 3) := by decide +kernel
theorem d_Ju_weighContains_110 : decode b_Ju_weighContains 110 = .ok (.iconst 1, 1) := by decide +kernel
theorem d_Ju_weighContains_111 : decode b_Ju_weighContains 111 = .ok (.goto 5, 3) := by decide +kernel
theorem d_Ju_weighContains_114 : decode b_Ju_weighContains 114 = .ok (.iload 7, 2) := by decide +kernel
theorem d_Ju_weighContains_116 : decode b_Ju_weighContains 116 = .ok (.if_icmp .ge 11, 3) := by decide +kernel
theorem d_Ju_weighContains_119 : decode b_Ju_weighContains 119 = .ok (.aload_n 0, 1) := by decide +kernel
theorem d_Ju_weighContains_120 : decode b_Ju_weighContains 120 = .ok (.iload_n 1, 1) := by decide +kernel
theorem d_Ju_weighContains_121 : decode b_Ju_weighContains 121 = .ok (.iload_n 2, 1) := by decide +kernel
theorem d_Ju_weighContains_122 : decode b_Ju_weighContains 122 = .ok (.bipush 23, 2) := by decide +kernel
theorem d_Ju_weighContains_124 : decode b_Ju_weighContains 124 = .ok (.invokevirtual 87, 3) := by decide +kernel
theorem d_Ju_weighContains_127 : decode b_Ju_weighContains 127 = .ok (.aload_n 0, 1) := by decide +kernel
theorem d_Ju_weighContains_128 : decode b_Ju_weighContains 128 = .ok (.getfield 17, 3) := by decide +kernel
theorem d_Ju_weighContains_131 : decode b_Ju_weighContains 131 = .ok (.iload_n 1, 1) := by decide +kernel
theorem d_Ju_weighContains_132 : decode b_Ju_weighContains 132 = .ok (.bipush 25, 2) := by decide +kernel
theorem d_Ju_weighContains_134 : decode b_Ju_weighContains 134 = .ok (.invokevirtual 78, 3) := by decide +kernel
theorem d_Ju_weighContains_137 : decode b_Ju_weighContains 137 = .ok (.istore 8, 2) := by decide +kernel
theorem d_Ju_weighContains_139 : decode b_Ju_weighContains 139 = .ok (.iload 8, 2) := by decide +kernel
theorem d_Ju_weighContains_141 : decode b_Ju_weighContains 141 = .ok (.iconst (-1), 1) := by decide +kernel
theorem d_Ju_weighContains_142 : decode b_Ju_weighContains 142 = .ok (.if_icmp .eq 18, 3) := by decide +kernel
theorem d_Ju_weighContains_145 : decode b_Ju_weighContains 145 = .ok (.iload 6, 2) := by decide +kernel
theorem d_Ju_weighContains_147 : decode b_Ju_weighContains 147 = .ok (.iload 8, 2) := by decide +kernel
theorem d_Ju_weighContains_149 : decode b_Ju_weighContains 149 = .ok (.if_icmp .le 11, 3) := by decide +kernel
theorem d_Ju_weighContains_152 : decode b_Ju_weighContains 152 = .ok (.aload_n 0, 1) := by decide +kernel
theorem d_Ju_weighContains_153 : decode b_Ju_weighContains 153 = .ok (.iload_n 1, 1) := by decide +kernel
theorem d_Ju_weighContains_154 : decode b_Ju_weighContains 154 = .ok (.iload_n 2, 1) := by decide +kernel
theorem d_Ju_weighContains_155 : decode b_Ju_weighContains 155 = .ok (.bipush 25, 2) := by decide +kernel
theorem d_Ju_weighContains_157 : decode b_Ju_weighContains 157 = .ok (.invokevirtual 87, 3) := by decide +kernel
theorem d_Ju_weighContains_160 : decode b_Ju_weighContains 160 = .ok (.return_, 1) := by decide +kernel
theorem d_Ju_weighUnmarked_0 : decode b_Ju_weighUnmarked 0 = .ok (.aload_n 0, 1) := by decide +kernel
theorem d_Ju_weighUnmarked_1 : decode b_Ju_weighUnmarked 1 = .ok (.getfield 17, 3) := by decide +kernel
theorem d_Ju_weighUnmarked_4 : decode b_Ju_weighUnmarked 4 = .ok (.iload_n 1, 1) := by decide +kernel
theorem d_Ju_weighUnmarked_5 : decode b_Ju_weighUnmarked 5 = .ok (.iload_n 3, 1) := by decide +kernel
theorem d_Ju_weighUnmarked_6 : decode b_Ju_weighUnmarked 6 = .ok (.invokevirtual 78, 3) := by decide +kernel
theorem d_Ju_weighUnmarked_9 : decode b_Ju_weighUnmarked 9 = .ok (.istore 5, 2) := by decide +kernel
theorem d_Ju_weighUnmarked_11 : decode b_Ju_weighUnmarked 11 = .ok (.iload 5, 2) := by decide +kernel
theorem d_Ju_weighUnmarked_13 : decode b_Ju_weighUnmarked 13 = .ok (.iconst (-1), 1) := by decide +kernel
theorem d_Ju_weighUnmarked_14 : decode b_Ju_weighUnmarked 14 = .ok (.if_icmp .ne 4, 3) := by decide +kernel
theorem d_Ju_weighUnmarked_17 : decode b_Ju_weighUnmarked 17 = .ok (.return_, 1) := by decide +kernel
theorem d_Ju_weighUnmarked_18 : decode b_Ju_weighUnmarked 18 = .ok (.aload_n 0, 1) := by decide +kernel
theorem d_Ju_weighUnmarked_19 : decode b_Ju_weighUnmarked 19 = .ok (.getfield 11, 3) := by decide +kernel
theorem d_Ju_weighUnmarked_22 : decode b_Ju_weighUnmarked 22 = .ok (.iload_n 2, 1) := by decide +kernel
theorem d_Ju_weighUnmarked_23 : decode b_Ju_weighUnmarked 23 = .ok (.invokevirtual 153, 3) := by decide +kernel
theorem d_Ju_weighUnmarked_26 : decode b_Ju_weighUnmarked 26 = .ok (.aload_n 0, 1) := by decide +kernel
theorem d_Ju_weighUnmarked_27 : decode b_Ju_weighUnmarked 27 = .ok (.getfield 29, 3) := by decide +kernel
theorem d_Ju_weighUnmarked_30 : decode b_Ju_weighUnmarked 30 = .ok (.iload_n 1, 1) := by decide +kernel
theorem d_Ju_weighUnmarked_31 : decode b_Ju_weighUnmarked 31 = .ok (.iload_n 2, 1) := by decide +kernel
theorem d_Ju_weighUnmarked_32 : decode b_Ju_weighUnmarked 32 = .ok (.invokestatic 59, 3) := by decide +kernel
theorem d_Ju_weighUnmarked_35 : decode b_Ju_weighUnmarked 35 = .ok (.iaload, 1) := by decide +kernel
theorem d_Ju_weighUnmarked_36 : decode b_Ju_weighUnmarked 36 = .ok (.iconst (-1), 1) := by decide +kernel
theorem d_Ju_weighUnmarked_37 : decode b_Ju_weighUnmarked 37 = .ok (.ixor, 1) := by decide +kernel
theorem d_Ju_weighUnmarked_38 : decode b_Ju_weighUnmarked 38 = .ok (.iand, 1) := by decide +kernel
theorem d_Ju_weighUnmarked_39 : decode b_Ju_weighUnmarked 39 = .ok (.istore 6, 2) := by decide +kernel
theorem d_Ju_weighUnmarked_41 : decode b_Ju_weighUnmarked 41 = .ok (.iconst 0, 1) := by decide +kernel
theorem d_Ju_weighUnmarked_42 : decode b_Ju_weighUnmarked 42 = .ok (.istore 7, 2) := by decide +kernel
theorem d_Ju_weighUnmarked_44 : decode b_Ju_weighUnmarked 44 = .ok (.iload 7, 2) := by decide +kernel
theorem d_Ju_weighUnmarked_46 : decode b_Ju_weighUnmarked 46 = .ok (.bipush 12, 2) := by decide +kernel
theorem d_Ju_weighUnmarked_48 : decode b_Ju_weighUnmarked 48 = .ok (.if_icmp .ge 32, 3) := by decide +kernel
theorem d_Ju_weighUnmarked_51 : decode b_Ju_weighUnmarked 51 = .ok (.iload 6, 2) := by decide +kernel
theorem d_Ju_weighUnmarked_53 : decode b_Ju_weighUnmarked 53 = .ok (.iload 7, 2) := by decide +kernel
theorem d_Ju_weighUnmarked_55 : decode b_Ju_weighUnmarked 55 = .ok (.ishr, 1) := by decide +kernel
theorem d_Ju_weighUnmarked_56 : decode b_Ju_weighUnmarked 56 = .ok (.iconst 1, 1) := by decide +kernel
theorem d_Ju_weighUnmarked_57 : decode b_Ju_weighUnmarked 57 = .ok (.iand, 1) := by decide +kernel
theorem d_Ju_weighUnmarked_58 : decode b_Ju_weighUnmarked 58 = .ok (.ifCond .eq 16, 3) := by decide +kernel
theorem d_Ju_weighUnmarked_61 : decode b_Ju_weighUnmarked 61 = .ok (.aload_n 0, 1) := by decide +kernel
theorem d_Ju_weighUnmarked_62 : decode b_Ju_weighUnmarked 62 = .ok (.iload_n 1, 1) := by decide +kernel
theorem d_Ju_weighUnmarked_63 : decode b_Ju_weighUnmarked 63 = .ok (.iload_n 2, 1) := by decide +kernel
theorem d_Ju_weighUnmarked_64 : decode b_Ju_weighUnmarked 64 = .ok (.iload 7, 2) := by decide +kernel
theorem d_Ju_weighUnmarked_66 : decode b_Ju_weighUnmarked 66 = .ok (.iload_n 3, 1) := by decide +kernel
theorem d_Ju_weighUnmarked_67 : decode b_Ju_weighUnmarked 67 = .ok (.iload 5, 2) := by decide +kernel
theorem d_Ju_weighUnmarked_69 : decode b_Ju_weighUnmarked 69 = .ok (.iload 4, 2) := by decide +kernel
theorem d_Ju_weighUnmarked_71 : decode b_Ju_weighUnmarked 71 = .ok (.invokevirtual 139, 3) := by decide +kernel
theorem d_Ju_weighUnmarked_74 : decode b_Ju_weighUnmarked 74 = .ok (.iinc 7 1, 3) := by decide +kernel
theorem d_Ju_weighUnmarked_77 : decode b_Ju_weighUnmarked 77 = .ok (.goto (-33), 3) := by decide +kernel
theorem d_Ju_weighUnmarked_80 : decode b_Ju_weighUnmarked 80 = .ok (.return_, 1) := by decide +kernel
theorem d_Ju_weighMembers_0 : decode b_Ju_weighMembers 0 = .ok (.aload_n 0, 1) := by decide +kernel
theorem d_Ju_weighMembers_1 : decode b_Ju_weighMembers 1 = .ok (.getfield 17, 3) := by decide +kernel
theorem d_Ju_weighMembers_4 : decode b_Ju_weighMembers 4 = .ok (.iload_n 1, 1) := by decide +kernel
theorem d_Ju_weighMembers_5 : decode b_Ju_weighMembers 5 = .ok (.bipush 26, 2) := by decide +kernel
theorem d_Ju_weighMembers_7 : decode b_Ju_weighMembers 7 = .ok (.invokevirtual 78, 3) := by decide +kernel
theorem d_Ju_weighMembers_10 : decode b_Ju_weighMembers 10 = .ok (.istore 4, 2) := by decide +kernel
theorem d_Ju_weighMembers_12 : decode b_Ju_weighMembers 12 = .ok (.iconst 0, 1) := by decide +kernel
theorem d_Ju_weighMembers_13 : decode b_Ju_weighMembers 13 = .ok (.istore 5, 2) := by decide +kernel
theorem d_Ju_weighMembers_15 : decode b_Ju_weighMembers 15 = .ok (.iload 5, 2) := by decide +kernel
theorem d_Ju_weighMembers_17 : decode b_Ju_weighMembers 17 = .ok (.bipush 12, 2) := by decide +kernel
theorem d_Ju_weighMembers_19 : decode b_Ju_weighMembers 19 = .ok (.if_icmp .ge 164, 3) := by decide +kernel
theorem d_Ju_weighMembers_22 : decode b_Ju_weighMembers 22 = .ok (.aload_n 0, 1) := by decide +kernel
theorem d_Ju_weighMembers_23 : decode b_Ju_weighMembers 23 = .ok (.getfield 11, 3) := by decide +kernel
theorem d_Ju_weighMembers_26 : decode b_Ju_weighMembers 26 = .ok (.iload_n 2, 1) := by decide +kernel
theorem d_Ju_weighMembers_27 : decode b_Ju_weighMembers 27 = .ok (.iload 5, 2) := by decide +kernel
theorem d_Ju_weighMembers_29 : decode b_Ju_weighMembers 29 = .ok (.invokevirtual 146, 3) := by decide +kernel
theorem d_Ju_weighMembers_32 : decode b_Ju_weighMembers 32 = .ok (.ifCond .ne 6, 3) := by decide +kernel
theorem d_Ju_weighMembers_35 : decode b_Ju_weighMembers 35 = .ok (.goto 142, 3) := by decide +kernel
theorem d_Ju_weighMembers_38 : decode b_Ju_weighMembers 38 = .ok (.aload_n 0, 1) := by decide +kernel
theorem d_Ju_weighMembers_39 : decode b_Ju_weighMembers 39 = .ok (.getfield 17, 3) := by decide +kernel
theorem d_Ju_weighMembers_42 : decode b_Ju_weighMembers 42 = .ok (.iload_n 1, 1) := by decide +kernel
theorem d_Ju_weighMembers_43 : decode b_Ju_weighMembers 43 = .ok (.bipush 33, 2) := by decide +kernel
theorem d_Ju_weighMembers_45 : decode b_Ju_weighMembers 45 = .ok (.iload 5, 2) := by decide +kernel
theorem d_Ju_weighMembers_47 : decode b_Ju_weighMembers 47 = .ok (.invokevirtual 150, 3) := by decide +kernel
theorem d_Ju_weighMembers_50 : decode b_Ju_weighMembers 50 = .ok (.istore 6, 2) := by decide +kernel
theorem d_Ju_weighMembers_52 : decode b_Ju_weighMembers 52 = .ok (.iload 6, 2) := by decide +kernel
theorem d_Ju_weighMembers_54 : decode b_Ju_weighMembers 54 = .ok (.iconst (-1), 1) := by decide +kernel
theorem d_Ju_weighMembers_55 : decode b_Ju_weighMembers 55 = .ok (.if_icmp .eq 19, 3) := by decide +kernel
theorem d_Ju_weighMembers_58 : decode b_Ju_weighMembers 58 = .ok (.aload_n 0, 1) := by decide +kernel
theorem d_Ju_weighMembers_59 : decode b_Ju_weighMembers 59 = .ok (.iload_n 1, 1) := by decide +kernel
theorem d_Ju_weighMembers_60 : decode b_Ju_weighMembers 60 = .ok (.iload_n 2, 1) := by decide +kernel
theorem d_Ju_weighMembers_61 : decode b_Ju_weighMembers 61 = .ok (.iload 5, 2) := by decide +kernel
theorem d_Ju_weighMembers_63 : decode b_Ju_weighMembers 63 = .ok (.bipush 33, 2) := by decide +kernel
theorem d_Ju_weighMembers_65 : decode b_Ju_weighMembers 65 = .ok (.iload 6, 2) := by decide +kernel
theorem d_Ju_weighMembers_67 : decode b_Ju_weighMembers 67 = .ok (.iload_n 3, 1) := by decide +kernel
theorem d_Ju_weighMembers_68 : decode b_Ju_weighMembers 68 = .ok (.invokevirtual 139, 3) := by decide +kernel
theorem d_Ju_weighMembers_71 : decode b_Ju_weighMembers 71 = .ok (.goto 22, 3) := by decide +kernel
theorem d_Ju_weighMembers_74 : decode b_Ju_weighMembers 74 = .ok (.iload 4, 2) := by decide +kernel
theorem d_Ju_weighMembers_76 : decode b_Ju_weighMembers 76 = .ok (.iconst (-1), 1) := by decide +kernel
theorem d_Ju_weighMembers_77 : decode b_Ju_weighMembers 77 = .ok (.if_icmp .eq 16, 3) := by decide +kernel
theorem d_Ju_weighMembers_80 : decode b_Ju_weighMembers 80 = .ok (.aload_n 0, 1) := by decide +kernel
theorem d_Ju_weighMembers_81 : decode b_Ju_weighMembers 81 = .ok (.iload_n 1, 1) := by decide +kernel
theorem d_Ju_weighMembers_82 : decode b_Ju_weighMembers 82 = .ok (.iload_n 2, 1) := by decide +kernel
theorem d_Ju_weighMembers_83 : decode b_Ju_weighMembers 83 = .ok (.iload 5, 2) := by decide +kernel
theorem d_Ju_weighMembers_85 : decode b_Ju_weighMembers 85 = .ok (.bipush 26, 2) := by decide +kernel
theorem d_Ju_weighMembers_87 : decode b_Ju_weighMembers 87 = .ok (.iload 4, 2) := by decide +kernel
theorem d_Ju_weighMembers_89 : decode b_Ju_weighMembers 89 = .ok (.iload_n 3, 1) := by decide +kernel
theorem d_Ju_weighMembers_90 : decode b_Ju_weighMembers 90 = .ok (.invokevirtual 139, 3) := by decide +kernel
theorem d_Ju_weighMembers_93 : decode b_Ju_weighMembers 93 = .ok (.aload_n 0, 1) := by decide +kernel
theorem d_Ju_weighMembers_94 : decode b_Ju_weighMembers 94 = .ok (.getfield 17, 3) := by decide +kernel
theorem d_Ju_weighMembers_97 : decode b_Ju_weighMembers 97 = .ok (.iload_n 1, 1) := by decide +kernel
theorem d_Ju_weighMembers_98 : decode b_Ju_weighMembers 98 = .ok (.bipush 34, 2) := by decide +kernel
theorem d_Ju_weighMembers_100 : decode b_Ju_weighMembers 100 = .ok (.iload 5, 2) := by decide +kernel
theorem d_Ju_weighMembers_102 : decode b_Ju_weighMembers 102 = .ok (.invokevirtual 150, 3) := by decide +kernel
theorem d_Ju_weighMembers_105 : decode b_Ju_weighMembers 105 = .ok (.istore 7, 2) := by decide +kernel
theorem d_Ju_weighMembers_107 : decode b_Ju_weighMembers 107 = .ok (.iload 7, 2) := by decide +kernel
theorem d_Ju_weighMembers_109 : decode b_Ju_weighMembers 109 = .ok (.iconst (-1), 1) := by decide +kernel
theorem d_Ju_weighMembers_110 : decode b_Ju_weighMembers 110 = .ok (.if_icmp .eq 23, 3) := by decide +kernel
theorem d_Ju_weighMembers_113 : decode b_Ju_weighMembers 113 = .ok (.aload_n 0, 1) := by decide +kernel
theorem d_Ju_weighMembers_114 : decode b_Ju_weighMembers 114 = .ok (.iload_n 1, 1) := by decide +kernel
theorem d_Ju_weighMembers_115 : decode b_Ju_weighMembers 115 = .ok (.iload_n 2, 1) := by decide +kernel
theorem d_Ju_weighMembers_116 : decode b_Ju_weighMembers 116 = .ok (.iload 7, 2) := by decide +kernel
theorem d_Ju_weighMembers_118 : decode b_Ju_weighMembers 118 = .ok (.iload_n 3, 1) := by decide +kernel
theorem d_Ju_weighMembers_119 : decode b_Ju_weighMembers 119 = .ok (.invokevirtual 116, 3) := by decide +kernel
theorem d_Ju_weighMembers_122 : decode b_Ju_weighMembers 122 = .ok (.ifCond .ne 11, 3) := by decide +kernel
theorem d_Ju_weighMembers_125 : decode b_Ju_weighMembers 125 = .ok (.aload_n 0, 1) := by decide +kernel
theorem d_Ju_weighMembers_126 : decode b_Ju_weighMembers 126 = .ok (.iload_n 1, 1) := by decide +kernel
theorem d_Ju_weighMembers_127 : decode b_Ju_weighMembers 127 = .ok (.iload_n 2, 1) := by decide +kernel
theorem d_Ju_weighMembers_128 : decode b_Ju_weighMembers 128 = .ok (.bipush 34, 2) := by decide +kernel
theorem d_Ju_weighMembers_130 : decode b_Ju_weighMembers 130 = .ok (.invokevirtual 87, 3) := by decide +kernel
theorem d_Ju_weighMembers_133 : decode b_Ju_weighMembers 133 = .ok (.aload_n 0, 1) := by decide +kernel
theorem d_Ju_weighMembers_134 : decode b_Ju_weighMembers 134 = .ok (.getfield 17, 3) := by decide +kernel
theorem d_Ju_weighMembers_137 : decode b_Ju_weighMembers 137 = .ok (.iload_n 1, 1) := by decide +kernel
theorem d_Ju_weighMembers_138 : decode b_Ju_weighMembers 138 = .ok (.bipush 35, 2) := by decide +kernel
theorem d_Ju_weighMembers_140 : decode b_Ju_weighMembers 140 = .ok (.iload 5, 2) := by decide +kernel
theorem d_Ju_weighMembers_142 : decode b_Ju_weighMembers 142 = .ok (.invokevirtual 150, 3) := by decide +kernel
theorem d_Ju_weighMembers_145 : decode b_Ju_weighMembers 145 = .ok (.istore 8, 2) := by decide +kernel
theorem d_Ju_weighMembers_147 : decode b_Ju_weighMembers 147 = .ok (.iload 8, 2) := by decide +kernel
theorem d_Ju_weighMembers_149 : decode b_Ju_weighMembers 149 = .ok (.iconst (-1), 1) := by decide +kernel
theorem d_Ju_weighMembers_150 : decode b_Ju_weighMembers 150 = .ok (.if_icmp .eq 27, 3) := by decide +kernel
theorem d_Ju_weighMembers_153 : decode b_Ju_weighMembers 153 = .ok (.iload 8, 2) := by decide +kernel
theorem d_Ju_weighMembers_155 : decode b_Ju_weighMembers 155 = .ok (.aload_n 0, 1) := by decide +kernel
theorem d_Ju_weighMembers_156 : decode b_Ju_weighMembers 156 = .ok (.getfield 11, 3) := by decide +kernel
theorem d_Ju_weighMembers_159 : decode b_Ju_weighMembers 159 = .ok (.iload_n 2, 1) := by decide +kernel
theorem d_Ju_weighMembers_160 : decode b_Ju_weighMembers 160 = .ok (.invokevirtual 153, 3) := by decide +kernel
theorem d_Ju_weighMembers_163 : decode b_Ju_weighMembers 163 = .ok (.iconst (-1), 1) := by decide +kernel
theorem d_Ju_weighMembers_164 : decode b_Ju_weighMembers 164 = .ok (.ixor, 1) := by decide +kernel
theorem d_Ju_weighMembers_165 : decode b_Ju_weighMembers 165 = .ok (.iand, 1) := by decide +kernel
theorem d_Ju_weighMembers_166 : decode b_Ju_weighMembers 166 = .ok (.ifCond .eq 11, 3) := by decide +kernel
theorem d_Ju_weighMembers_169 : decode b_Ju_weighMembers 169 = .ok (.aload_n 0, 1) := by decide +kernel
theorem d_Ju_weighMembers_170 : decode b_Ju_weighMembers 170 = .ok (.iload_n 1, 1) := by decide +kernel
theorem d_Ju_weighMembers_171 : decode b_Ju_weighMembers 171 = .ok (.iload_n 2, 1) := by decide +kernel
theorem d_Ju_weighMembers_172 : decode b_Ju_weighMembers 172 = .ok (.bipush 35, 2) := by decide +kernel
theorem d_Ju_weighMembers_174 : decode b_Ju_weighMembers 174 = .ok (.invokevirtual 87, 3) := by decide +kernel
theorem d_Ju_weighMembers_177 : decode b_Ju_weighMembers 177 = .ok (.iinc 5 1, 3) := by decide +kernel
theorem d_Ju_weighMembers_180 : decode b_Ju_weighMembers 180 = .ok (.goto (-165), 3) := by decide +kernel
theorem d_Ju_weighMembers_183 : decode b_Ju_weighMembers 183 = .ok (.return_, 1) := by decide +kernel
theorem d_Ju_isValid_0 : decode b_Ju_isValid 0 = .ok (.aload_n 0, 1) := by decide +kernel
theorem d_Ju_isValid_1 : decode b_Ju_isValid 1 = .ok (.getfield 32, 3) := by decide +kernel
theorem d_Ju_isValid_4 : decode b_Ju_isValid 4 = .ok (.iload_n 1, 1) := by decide +kernel
theorem d_Ju_isValid_5 : decode b_Ju_isValid 5 = .ok (.iload_n 2, 1) := by decide +kernel
theorem d_Ju_isValid_6 : decode b_Ju_isValid 6 = .ok (.invokestatic 59, 3) := by decide +kernel
theorem d_Ju_isValid_9 : decode b_Ju_isValid 9 = .ok (.laload, 1) := by decide +kernel
theorem d_Ju_isValid_10 : decode b_Ju_isValid 10 = .ok (.lconst 0, 1) := by decide +kernel
theorem d_Ju_isValid_11 : decode b_Ju_isValid 11 = .ok (.lcmp, 1) := by decide +kernel
theorem d_Ju_isValid_12 : decode b_Ju_isValid 12 = .ok (.ifCond .ne 7, 3) := by decide +kernel
theorem d_Ju_isValid_15 : decode b_Ju_isValid 15 = .ok (.iconst 1, 1) := by decide +kernel
theorem d_Ju_isValid_16 : decode b_Ju_isValid 16 = .ok (.goto 4, 3) := by decide +kernel
theorem d_Ju_isValid_19 : decode b_Ju_isValid 19 = .ok (.iconst 0, 1) := by decide +kernel
theorem d_Ju_isValid_20 : decode b_Ju_isValid 20 = .ok (.ireturn, 1) := by decide +kernel
theorem d_Sj_marks_0 : decode b_Sj_marks 0 = .ok (.aload_n 0, 1) := by decide +kernel
theorem d_Sj_marks_1 : decode b_Sj_marks 1 = .ok (.getfield 26, 3) := by decide +kernel
theorem d_Sj_marks_4 : decode b_Sj_marks 4 = .ok (.iload_n 1, 1) := by decide +kernel
theorem d_Sj_marks_5 : decode b_Sj_marks 5 = .ok (.invokevirtual 131, 3) := by decide +kernel
theorem d_Sj_marks_8 : decode b_Sj_marks 8 = .ok (.ifCond .eq 14, 3) := by decide +kernel
theorem d_Sj_marks_11 : decode b_Sj_marks 11 = .ok (.aload_n 0, 1) := by decide +kernel
theorem d_Sj_marks_12 : decode b_Sj_marks 12 = .ok (.getfield 10, 3) := by decide +kernel
theorem d_Sj_marks_15 : decode b_Sj_marks 15 = .ok (.iload_n 2, 1) := by decide +kernel
theorem d_Sj_marks_16 : decode b_Sj_marks 16 = .ok (.invokevirtual 159, 3) := by decide +kernel
theorem d_Sj_marks_19 : decode b_Sj_marks 19 = .ok (.ifCond .ne 13, 3) := by decide +kernel
theorem d_Sj_marks_22 : decode b_Sj_marks 22 = .ok (.new 46, 3) := by decide +kernel
theorem d_Sj_marks_25 : decode b_Sj_marks 25 = .ok (.dup, 1) := by decide +kernel
theorem d_Sj_marks_26 : decode b_Sj_marks 26 = .ok (.ldc 160, 2) := by decide +kernel
theorem d_Sj_marks_28 : decode b_Sj_marks 28 = .ok (.invokespecial 50, 3) := by decide +kernel
theorem d_Sj_marks_31 : decode b_Sj_marks 31 = .ok (.athrow, 1) := by decide +kernel
theorem d_Sj_marks_32 : decode b_Sj_marks 32 = .ok (.aload_n 0, 1) := by decide +kernel
theorem d_Sj_marks_33 : decode b_Sj_marks 33 = .ok (.getfield 40, 3) := by decide +kernel
theorem d_Sj_marks_36 : decode b_Sj_marks 36 = .ok (.iload_n 1, 1) := by decide +kernel
theorem d_Sj_marks_37 : decode b_Sj_marks 37 = .ok (.iload_n 2, 1) := by decide +kernel
theorem d_Sj_marks_38 : decode b_Sj_marks 38 = .ok (.invokevirtual 181, 3) := by decide +kernel
theorem d_Sj_marks_41 : decode b_Sj_marks 41 = .ok (.ireturn, 1) := by decide +kernel
theorem d_Ju_marksOf_0 : decode b_Ju_marksOf 0 = .ok (.aload_n 0, 1) := by decide +kernel
theorem d_Ju_marksOf_1 : decode b_Ju_marksOf 1 = .ok (.getfield 25, 3) := by decide +kernel
theorem d_Ju_marksOf_4 : decode b_Ju_marksOf 4 = .ok (.iload_n 1, 1) := by decide +kernel
theorem d_Ju_marksOf_5 : decode b_Ju_marksOf 5 = .ok (.iload_n 2, 1) := by decide +kernel
theorem d_Ju_marksOf_6 : decode b_Ju_marksOf 6 = .ok (.invokestatic 59, 3) := by decide +kernel
theorem d_Ju_marksOf_9 : decode b_Ju_marksOf 9 = .ok (.iaload, 1) := by decide +kernel
theorem d_Ju_marksOf_10 : decode b_Ju_marksOf 10 = .ok (.ifCond .ne 7, 3) := by decide +kernel
theorem d_Ju_marksOf_13 : decode b_Ju_marksOf 13 = .ok (.iconst (-1), 1) := by decide +kernel
theorem d_Ju_marksOf_14 : decode b_Ju_marksOf 14 = .ok (.goto 13, 3) := by decide +kernel
theorem d_Ju_marksOf_17 : decode b_Ju_marksOf 17 = .ok (.aload_n 0, 1) := by decide +kernel
theorem d_Ju_marksOf_18 : decode b_Ju_marksOf 18 = .ok (.getfield 29, 3) := by decide +kernel
theorem d_Ju_marksOf_21 : decode b_Ju_marksOf 21 = .ok (.iload_n 1, 1) := by decide +kernel
theorem d_Ju_marksOf_22 : decode b_Ju_marksOf 22 = .ok (.iload_n 2, 1) := by decide +kernel
theorem d_Ju_marksOf_23 : decode b_Ju_marksOf 23 = .ok (.invokestatic 59, 3) := by decide +kernel
theorem d_Ju_marksOf_26 : decode b_Ju_marksOf 26 = .ok (.iaload, 1) := by decide +kernel
theorem d_Ju_marksOf_27 : decode b_Ju_marksOf 27 = .ok (.ireturn, 1) := by decide +kernel
theorem d_Sj_fault_0 : decode b_Sj_fault 0 = .ok (.iload_n 1, 1) := by decide +kernel
theorem d_Sj_fault_1 : decode b_Sj_fault 1 = .ok (.iconst 0, 1) := by decide +kernel
theorem d_Sj_fault_2 : decode b_Sj_fault 2 = .ok (.aload_n 0, 1) := by decide +kernel
theorem d_Sj_fault_3 : decode b_Sj_fault 3 = .ok (.getfield 40, 3) := by decide +kernel
theorem d_Sj_fault_6 : decode b_Sj_fault 6 = .ok (.invokevirtual 184, 3) := by decide +kernel
theorem d_Sj_fault_9 : decode b_Sj_fault 9 = .ok (.iconst 1, 1) := by decide +kernel
theorem d_Sj_fault_10 : decode b_Sj_fault 10 = .ok (.isub, 1) := by decide +kernel
theorem d_Sj_fault_11 : decode b_Sj_fault 11 = .ok (.invokestatic 59, 3) := by decide +kernel
theorem d_Sj_fault_14 : decode b_Sj_fault 14 = .ok (.ifCond .ne 13, 3) := by decide +kernel
theorem d_Sj_fault_17 : decode b_Sj_fault 17 = .ok (.new 187, 3) := by decide +kernel
theorem d_Sj_fault_20 : decode b_Sj_fault 20 = .ok (.dup, 1) := by decide +kernel
theorem d_Sj_fault_21 : decode b_Sj_fault 21 = .ok (.ldc 189, 2) := by decide +kernel
theorem d_Sj_fault_23 : decode b_Sj_fault 23 = .ok (.invokespecial 191, 3) := by decide +kernel
theorem d_Sj_fault_26 : decode b_Sj_fault 26 = .ok (.athrow, 1) := by decide +kernel
theorem d_Sj_fault_27 : decode b_Sj_fault 27 = .ok (.aload_n 0, 1) := by decide +kernel
theorem d_Sj_fault_28 : decode b_Sj_fault 28 = .ok (.getfield 40, 3) := by decide +kernel
theorem d_Sj_fault_31 : decode b_Sj_fault 31 = .ok (.iload_n 1, 1) := by decide +kernel
theorem d_Sj_fault_32 : decode b_Sj_fault 32 = .ok (.invokevirtual 192, 3) := by decide +kernel
theorem d_Sj_fault_35 : decode b_Sj_fault 35 = .ok (.ireturn, 1) := by decide +kernel
theorem d_Ju_faultAt_0 : decode b_Ju_faultAt 0 = .ok (.iload_n 1, 1) := by decide +kernel
theorem d_Ju_faultAt_1 : decode b_Ju_faultAt 1 = .ok (.istore_n 2, 1) := by decide +kernel
theorem d_Ju_faultAt_2 : decode b_Ju_faultAt 2 = .ok (.iconst 0, 1) := by decide +kernel
theorem d_Ju_faultAt_3 : decode b_Ju_faultAt 3 = .ok (.istore_n 3, 1) := by decide +kernel
theorem d_Ju_faultAt_4 : decode b_Ju_faultAt 4 = .ok (.iload_n 3, 1) := by decide +kernel
theorem d_Ju_faultAt_5 : decode b_Ju_faultAt 5 = .ok (.sipush 960, 3) := by decide +kernel
theorem d_Ju_faultAt_8 : decode b_Ju_faultAt 8 = .ok (.if_icmp .ge 59, 3) := by decide +kernel
theorem d_Ju_faultAt_11 : decode b_Ju_faultAt 11 = .ok (.aload_n 0, 1) := by decide +kernel
theorem d_Ju_faultAt_12 : decode b_Ju_faultAt 12 = .ok (.getfield 32, 3) := by decide +kernel
theorem d_Ju_faultAt_15 : decode b_Ju_faultAt 15 = .ok (.iload_n 3, 1) := by decide +kernel
theorem d_Ju_faultAt_16 : decode b_Ju_faultAt 16 = .ok (.laload, 1) := by decide +kernel
theorem d_Ju_faultAt_17 : decode b_Ju_faultAt 17 = .ok (.invokestatic 63, 3) := by decide +kernel
theorem d_Ju_faultAt_20 : decode b_Ju_faultAt 20 = .ok (.istore 4, 2) := by decide +kernel
theorem d_Ju_faultAt_22 : decode b_Ju_faultAt 22 = .ok (.iload_n 2, 1) := by decide +kernel
theorem d_Ju_faultAt_23 : decode b_Ju_faultAt 23 = .ok (.iload 4, 2) := by decide +kernel
theorem d_Ju_faultAt_25 : decode b_Ju_faultAt 25 = .ok (.if_icmp .ge 31, 3) := by decide +kernel
theorem d_Ju_faultAt_28 : decode b_Ju_faultAt 28 = .ok (.sipush 10000, 3) := by decide +kernel
theorem d_Ju_faultAt_31 : decode b_Ju_faultAt 31 = .ok (.iload_n 3, 1) := by decide +kernel
theorem d_Ju_faultAt_32 : decode b_Ju_faultAt 32 = .ok (.bipush 24, 2) := by decide +kernel
theorem d_Ju_faultAt_34 : decode b_Ju_faultAt 34 = .ok (.idiv, 1) := by decide +kernel
theorem d_Ju_faultAt_35 : decode b_Ju_faultAt 35 = .ok (.imul, 1) := by decide +kernel
theorem d_Ju_faultAt_36 : decode b_Ju_faultAt 36 = .ok (.bipush 100, 2) := by decide +kernel
theorem d_Ju_faultAt_38 : decode b_Ju_faultAt 38 = .ok (.iload_n 3, 1) := by decide +kernel
theorem d_Ju_faultAt_39 : decode b_Ju_faultAt 39 = .ok (.bipush 24, 2) := by decide +kernel
theorem d_Ju_faultAt_41 : decode b_Ju_faultAt 41 = .ok (.irem, 1) := by decide +kernel
theorem d_Ju_faultAt_42 : decode b_Ju_faultAt 42 = .ok (.imul, 1) := by decide +kernel
theorem d_Ju_faultAt_43 : decode b_Ju_faultAt 43 = .ok (.iadd, 1) := by decide +kernel
theorem d_Ju_faultAt_44 : decode b_Ju_faultAt 44 = .ok (.aload_n 0, 1) := by decide +kernel
theorem d_Ju_faultAt_45 : decode b_Ju_faultAt 45 = .ok (.getfield 32, 3) := by decide +kernel
theorem d_Ju_faultAt_48 : decode b_Ju_faultAt 48 = .ok (.iload_n 3, 1) := by decide +kernel
theorem d_Ju_faultAt_49 : decode b_Ju_faultAt 49 = .ok (.laload, 1) := by decide +kernel
theorem d_Ju_faultAt_50 : decode b_Ju_faultAt 50 = .ok (.iload_n 2, 1) := by decide +kernel
theorem d_Ju_faultAt_51 : decode b_Ju_faultAt 51 = .ok (.invokestatic 69, 3) := by decide +kernel
theorem d_Ju_faultAt_54 : decode b_Ju_faultAt 54 = .ok (.iadd, 1) := by decide +kernel
theorem d_Ju_faultAt_55 : decode b_Ju_faultAt 55 = .ok (.ireturn, 1) := by decide +kernel
theorem d_Ju_faultAt_56 : decode b_Ju_faultAt 56 = .ok (.iload_n 2, 1) := by decide +kernel
theorem d_Ju_faultAt_57 : decode b_Ju_faultAt 57 = .ok (.iload 4, 2) := by decide +kernel
theorem d_Ju_faultAt_59 : decode b_Ju_faultAt 59 = .ok (.isub, 1) := by decide +kernel
theorem d_Ju_faultAt_60 : decode b_Ju_faultAt 60 = .ok (.istore_n 2, 1) := by decide +kernel
theorem d_Ju_faultAt_61 : decode b_Ju_faultAt 61 = .ok (.iinc 3 1, 3) := by decide +kernel
theorem d_Ju_faultAt_64 : decode b_Ju_faultAt 64 = .ok (.goto (-60), 3) := by decide +kernel
theorem d_Ju_faultAt_67 : decode b_Ju_faultAt 67 = .ok (.iconst (-1), 1) := by decide +kernel
theorem d_Ju_faultAt_68 : decode b_Ju_faultAt 68 = .ok (.ireturn, 1) := by decide +kernel
theorem d_Ju_bitAt_0 : decode b_Ju_bitAt 0 = .ok (.lload_n 0, 1) := by decide +kernel
theorem d_Ju_bitAt_1 : decode b_Ju_bitAt 1 = .ok (.lstore_n 3, 1) := by decide +kernel
theorem d_Ju_bitAt_2 : decode b_Ju_bitAt 2 = .ok (.iconst 0, 1) := by decide +kernel
theorem d_Ju_bitAt_3 : decode b_Ju_bitAt 3 = .ok (.istore 5, 2) := by decide +kernel
theorem d_Ju_bitAt_5 : decode b_Ju_bitAt 5 = .ok (.iload 5, 2) := by decide +kernel
theorem d_Ju_bitAt_7 : decode b_Ju_bitAt 7 = .ok (.iload_n 2, 1) := by decide +kernel
theorem d_Ju_bitAt_8 : decode b_Ju_bitAt 8 = .ok (.if_icmp .ge 15, 3) := by decide +kernel
theorem d_Ju_bitAt_11 : decode b_Ju_bitAt 11 = .ok (.lload_n 3, 1) := by decide +kernel
theorem d_Ju_bitAt_12 : decode b_Ju_bitAt 12 = .ok (.lload_n 3, 1) := by decide +kernel
theorem d_Ju_bitAt_13 : decode b_Ju_bitAt 13 = .ok (.lconst 1, 1) := by decide +kernel
theorem d_Ju_bitAt_14 : decode b_Ju_bitAt 14 = .ok (.lsub, 1) := by decide +kernel
theorem d_Ju_bitAt_15 : decode b_Ju_bitAt 15 = .ok (.land, 1) := by decide +kernel
theorem d_Ju_bitAt_16 : decode b_Ju_bitAt 16 = .ok (.lstore_n 3, 1) := by decide +kernel
theorem d_Ju_bitAt_17 : decode b_Ju_bitAt 17 = .ok (.iinc 5 1, 3) := by decide +kernel
theorem d_Ju_bitAt_20 : decode b_Ju_bitAt 20 = .ok (.goto (-15), 3) := by decide +kernel
theorem d_Ju_bitAt_23 : decode b_Ju_bitAt 23 = .ok (.lload_n 3, 1) := by decide +kernel
theorem d_Ju_bitAt_24 : decode b_Ju_bitAt 24 = .ok (.invokestatic 73, 3) := by decide +kernel
theorem d_Ju_bitAt_27 : decode b_Ju_bitAt 27 = .ok (.ireturn, 1) := by decide +kernel
theorem d_Lo_numberOfTrailingZeros_0 : decode b_Lo_numberOfTrailingZeros 0 = .ok (.lload_n 0, 1) := by decide +kernel
theorem d_Lo_numberOfTrailingZeros_1 : decode b_Lo_numberOfTrailingZeros 1 = .ok (.l2i, 1) := by decide +kernel
theorem d_Lo_numberOfTrailingZeros_2 : decode b_Lo_numberOfTrailingZeros 2 = .ok (.istore_n 2, 1) := by decide +kernel
theorem d_Lo_numberOfTrailingZeros_3 : decode b_Lo_numberOfTrailingZeros 3 = .ok (.iload_n 2, 1) := by decide +kernel
theorem d_Lo_numberOfTrailingZeros_4 : decode b_Lo_numberOfTrailingZeros 4 = .ok (.ifCond .ne 17, 3) := by decide +kernel
theorem d_Lo_numberOfTrailingZeros_7 : decode b_Lo_numberOfTrailingZeros 7 = .ok (.bipush 32, 2) := by decide +kernel
theorem d_Lo_numberOfTrailingZeros_9 : decode b_Lo_numberOfTrailingZeros 9 = .ok (.lload_n 0, 1) := by decide +kernel
theorem d_Lo_numberOfTrailingZeros_10 : decode b_Lo_numberOfTrailingZeros 10 = .ok (.bipush 32, 2) := by decide +kernel
theorem d_Lo_numberOfTrailingZeros_12 : decode b_Lo_numberOfTrailingZeros 12 = .ok (.lushr, 1) := by decide +kernel
theorem d_Lo_numberOfTrailingZeros_13 : decode b_Lo_numberOfTrailingZeros 13 = .ok (.l2i, 1) := by decide +kernel
theorem d_Lo_numberOfTrailingZeros_14 : decode b_Lo_numberOfTrailingZeros 14 = .ok (.invokestatic 311, 3) := by decide +kernel
theorem d_Lo_numberOfTrailingZeros_17 : decode b_Lo_numberOfTrailingZeros 17 = .ok (.iadd, 1) := by decide +kernel
theorem d_Lo_numberOfTrailingZeros_18 : decode b_Lo_numberOfTrailingZeros 18 = .ok (.goto 7, 3) := by decide +kernel
theorem d_Lo_numberOfTrailingZeros_21 : decode b_Lo_numberOfTrailingZeros 21 = .ok (.iload_n 2, 1) := by decide +kernel
theorem d_Lo_numberOfTrailingZeros_22 : decode b_Lo_numberOfTrailingZeros 22 = .ok (.invokestatic 311, 3) := by decide +kernel
theorem d_Lo_numberOfTrailingZeros_25 : decode b_Lo_numberOfTrailingZeros 25 = .ok (.ireturn, 1) := by decide +kernel
theorem d_In_numberOfTrailingZeros_0 : decode b_In_numberOfTrailingZeros 0 = .ok (.iload_n 0, 1) := by decide +kernel
theorem d_In_numberOfTrailingZeros_1 : decode b_In_numberOfTrailingZeros 1 = .ok (.iconst (-1), 1) := by decide +kernel
theorem d_In_numberOfTrailingZeros_2 : decode b_In_numberOfTrailingZeros 2 = .ok (.ixor, 1) := by decide +kernel
theorem d_In_numberOfTrailingZeros_3 : decode b_In_numberOfTrailingZeros 3 = .ok (.iload_n 0, 1) := by decide +kernel
theorem d_In_numberOfTrailingZeros_4 : decode b_In_numberOfTrailingZeros 4 = .ok (.iconst 1, 1) := by decide +kernel
theorem d_In_numberOfTrailingZeros_5 : decode b_In_numberOfTrailingZeros 5 = .ok (.isub, 1) := by decide +kernel
theorem d_In_numberOfTrailingZeros_6 : decode b_In_numberOfTrailingZeros 6 = .ok (.iand, 1) := by decide +kernel
theorem d_In_numberOfTrailingZeros_7 : decode b_In_numberOfTrailingZeros 7 = .ok (.istore_n 0, 1) := by decide +kernel
theorem d_In_numberOfTrailingZeros_8 : decode b_In_numberOfTrailingZeros 8 = .ok (.iload_n 0, 1) := by decide +kernel
theorem d_In_numberOfTrailingZeros_9 : decode b_In_numberOfTrailingZeros 9 = .ok (.ifCond .gt 8, 3) := by decide +kernel
theorem d_In_numberOfTrailingZeros_12 : decode b_In_numberOfTrailingZeros 12 = .ok (.iload_n 0, 1) := by decide +kernel
theorem d_In_numberOfTrailingZeros_13 : decode b_In_numberOfTrailingZeros 13 = .ok (.bipush 32, 2) := by decide +kernel
theorem d_In_numberOfTrailingZeros_15 : decode b_In_numberOfTrailingZeros 15 = .ok (.iand, 1) := by decide +kernel
theorem d_In_numberOfTrailingZeros_16 : decode b_In_numberOfTrailingZeros 16 = .ok (.ireturn, 1) := by decide +kernel
theorem d_In_numberOfTrailingZeros_17 : decode b_In_numberOfTrailingZeros 17 = .ok (.iconst 1, 1) := by decide +kernel
theorem d_In_numberOfTrailingZeros_18 : decode b_In_numberOfTrailingZeros 18 = .ok (.istore_n 1, 1) := by decide +kernel
theorem d_In_numberOfTrailingZeros_19 : decode b_In_numberOfTrailingZeros 19 = .ok (.iload_n 0, 1) := by decide +kernel
theorem d_In_numberOfTrailingZeros_20 : decode b_In_numberOfTrailingZeros 20 = .ok (.ldc_w 264, 3) := by decide +kernel
theorem d_In_numberOfTrailingZeros_23 : decode b_In_numberOfTrailingZeros 23 = .ok (.if_icmp .le 11, 3) := by decide +kernel
theorem d_In_numberOfTrailingZeros_26 : decode b_In_numberOfTrailingZeros 26 = .ok (.iinc 1 16, 3) := by decide +kernel
theorem d_In_numberOfTrailingZeros_29 : decode b_In_numberOfTrailingZeros 29 = .ok (.iload_n 0, 1) := by decide +kernel
theorem d_In_numberOfTrailingZeros_30 : decode b_In_numberOfTrailingZeros 30 = .ok (.bipush 16, 2) := by decide +kernel
theorem d_In_numberOfTrailingZeros_32 : decode b_In_numberOfTrailingZeros 32 = .ok (.iushr, 1) := by decide +kernel
theorem d_In_numberOfTrailingZeros_33 : decode b_In_numberOfTrailingZeros 33 = .ok (.istore_n 0, 1) := by decide +kernel
theorem d_In_numberOfTrailingZeros_34 : decode b_In_numberOfTrailingZeros 34 = .ok (.iload_n 0, 1) := by decide +kernel
theorem d_In_numberOfTrailingZeros_35 : decode b_In_numberOfTrailingZeros 35 = .ok (.sipush 256, 3) := by decide +kernel
theorem d_In_numberOfTrailingZeros_38 : decode b_In_numberOfTrailingZeros 38 = .ok (.if_icmp .le 11, 3) := by decide +kernel
theorem d_In_numberOfTrailingZeros_41 : decode b_In_numberOfTrailingZeros 41 = .ok (.iinc 1 8, 3) := by decide +kernel
theorem d_In_numberOfTrailingZeros_44 : decode b_In_numberOfTrailingZeros 44 = .ok (.iload_n 0, 1) := by decide +kernel
theorem d_In_numberOfTrailingZeros_45 : decode b_In_numberOfTrailingZeros 45 = .ok (.bipush 8, 2) := by decide +kernel
theorem d_In_numberOfTrailingZeros_47 : decode b_In_numberOfTrailingZeros 47 = .ok (.iushr, 1) := by decide +kernel
theorem d_In_numberOfTrailingZeros_48 : decode b_In_numberOfTrailingZeros 48 = .ok (.istore_n 0, 1) := by decide +kernel
theorem d_In_numberOfTrailingZeros_49 : decode b_In_numberOfTrailingZeros 49 = .ok (.iload_n 0, 1) := by decide +kernel
theorem d_In_numberOfTrailingZeros_50 : decode b_In_numberOfTrailingZeros 50 = .ok (.bipush 16, 2) := by decide +kernel
theorem d_In_numberOfTrailingZeros_52 : decode b_In_numberOfTrailingZeros 52 = .ok (.if_icmp .le 10, 3) := by decide +kernel
theorem d_In_numberOfTrailingZeros_55 : decode b_In_numberOfTrailingZeros 55 = .ok (.iinc 1 4, 3) := by decide +kernel
theorem d_In_numberOfTrailingZeros_58 : decode b_In_numberOfTrailingZeros 58 = .ok (.iload_n 0, 1) := by decide +kernel
theorem d_In_numberOfTrailingZeros_59 : decode b_In_numberOfTrailingZeros 59 = .ok (.iconst 4, 1) := by decide +kernel
theorem d_In_numberOfTrailingZeros_60 : decode b_In_numberOfTrailingZeros 60 = .ok (.iushr, 1) := by decide +kernel
theorem d_In_numberOfTrailingZeros_61 : decode b_In_numberOfTrailingZeros 61 = .ok (.istore_n 0, 1) := by decide +kernel
theorem d_In_numberOfTrailingZeros_62 : decode b_In_numberOfTrailingZeros 62 = .ok (.iload_n 0, 1) := by decide +kernel
theorem d_In_numberOfTrailingZeros_63 : decode b_In_numberOfTrailingZeros 63 = .ok (.iconst 4, 1) := by decide +kernel
theorem d_In_numberOfTrailingZeros_64 : decode b_In_numberOfTrailingZeros 64 = .ok (.if_icmp .le 10, 3) := by decide +kernel
theorem d_In_numberOfTrailingZeros_67 : decode b_In_numberOfTrailingZeros 67 = .ok (.iinc 1 2, 3) := by decide +kernel
theorem d_In_numberOfTrailingZeros_70 : decode b_In_numberOfTrailingZeros 70 = .ok (.iload_n 0, 1) := by decide +kernel
theorem d_In_numberOfTrailingZeros_71 : decode b_In_numberOfTrailingZeros 71 = .ok (.iconst 2, 1) := by decide +kernel
theorem d_In_numberOfTrailingZeros_72 : decode b_In_numberOfTrailingZeros 72 = .ok (.iushr, 1) := by decide +kernel
theorem d_In_numberOfTrailingZeros_73 : decode b_In_numberOfTrailingZeros 73 = .ok (.istore_n 0, 1) := by decide +kernel
theorem d_In_numberOfTrailingZeros_74 : decode b_In_numberOfTrailingZeros 74 = .ok (.iload_n 1, 1) := by decide +kernel
theorem d_In_numberOfTrailingZeros_75 : decode b_In_numberOfTrailingZeros 75 = .ok (.iload_n 0, 1) := by decide +kernel
theorem d_In_numberOfTrailingZeros_76 : decode b_In_numberOfTrailingZeros 76 = .ok (.iconst 1, 1) := by decide +kernel
theorem d_In_numberOfTrailingZeros_77 : decode b_In_numberOfTrailingZeros 77 = .ok (.iushr, 1) := by decide +kernel
theorem d_In_numberOfTrailingZeros_78 : decode b_In_numberOfTrailingZeros 78 = .ok (.iadd, 1) := by decide +kernel
theorem d_In_numberOfTrailingZeros_79 : decode b_In_numberOfTrailingZeros 79 = .ok (.ireturn, 1) := by decide +kernel
theorem d_Sj_equal_0 : decode b_Sj_equal 0 = .ok (.aload_n 0, 1) := by decide +kernel
theorem d_Sj_equal_1 : decode b_Sj_equal 1 = .ok (.getfield 10, 3) := by decide +kernel
theorem d_Sj_equal_4 : decode b_Sj_equal 4 = .ok (.iload_n 1, 1) := by decide +kernel
theorem d_Sj_equal_5 : decode b_Sj_equal 5 = .ok (.invokevirtual 159, 3) := by decide +kernel
theorem d_Sj_equal_8 : decode b_Sj_equal 8 = .ok (.ifCond .eq 14, 3) := by decide +kernel
theorem d_Sj_equal_11 : decode b_Sj_equal 11 = .ok (.aload_n 0, 1) := by decide +kernel
theorem d_Sj_equal_12 : decode b_Sj_equal 12 = .ok (.getfield 10, 3) := by decide +kernel
theorem d_Sj_equal_15 : decode b_Sj_equal 15 = .ok (.iload_n 2, 1) := by decide +kernel
theorem d_Sj_equal_16 : decode b_Sj_equal 16 = .ok (.invokevirtual 159, 3) := by decide +kernel
theorem d_Sj_equal_19 : decode b_Sj_equal 19 = .ok (.ifCond .ne 13, 3) := by decide +kernel
theorem d_Sj_equal_22 : decode b_Sj_equal 22 = .ok (.new 46, 3) := by decide +kernel
theorem d_Sj_equal_25 : decode b_Sj_equal 25 = .ok (.dup, 1) := by decide +kernel
theorem d_Sj_equal_26 : decode b_Sj_equal 26 = .ok (.ldc 195, 2) := by decide +kernel
theorem d_Sj_equal_28 : decode b_Sj_equal 28 = .ok (.invokespecial 50, 3) := by decide +kernel
theorem d_Sj_equal_31 : decode b_Sj_equal 31 = .ok (.athrow, 1) := by decide +kernel
theorem d_Sj_equal_32 : decode b_Sj_equal 32 = .ok (.aload_n 0, 1) := by decide +kernel
theorem d_Sj_equal_33 : decode b_Sj_equal 33 = .ok (.getfield 10, 3) := by decide +kernel
theorem d_Sj_equal_36 : decode b_Sj_equal 36 = .ok (.invokevirtual 197, 3) := by decide +kernel
theorem d_Sj_equal_39 : decode b_Sj_equal 39 = .ok (.aload_n 0, 1) := by decide +kernel
theorem d_Sj_equal_40 : decode b_Sj_equal 40 = .ok (.getfield 10, 3) := by decide +kernel
theorem d_Sj_equal_43 : decode b_Sj_equal 43 = .ok (.iload_n 1, 1) := by decide +kernel
theorem d_Sj_equal_44 : decode b_Sj_equal 44 = .ok (.iload_n 2, 1) := by decide +kernel
theorem d_Sj_equal_45 : decode b_Sj_equal 45 = .ok (.invokevirtual 200, 3) := by decide +kernel
theorem d_Sj_equal_48 : decode b_Sj_equal 48 = .ok (.ireturn, 1) := by decide +kernel
