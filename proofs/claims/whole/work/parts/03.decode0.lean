theorem dK_init_0 : decode cK_init 0 = .ok (.aload_n 0, 1) := by decide +kernel
theorem dK_init_1 : decode cK_init 1 = .ok (.invokespecial 1, 3) := by decide +kernel
theorem dK_init_4 : decode cK_init 4 = .ok (.aload_n 0, 1) := by decide +kernel
theorem dK_init_5 : decode cK_init 5 = .ok (.new 7, 3) := by decide +kernel
theorem dK_init_8 : decode cK_init 8 = .ok (.dup, 1) := by decide +kernel
theorem dK_init_9 : decode cK_init 9 = .ok (.invokespecial 9, 3) := by decide +kernel
theorem dK_init_12 : decode cK_init 12 = .ok (.putfield 10, 3) := by decide +kernel
theorem dK_init_15 : decode cK_init 15 = .ok (.aload_n 0, 1) := by decide +kernel
theorem dK_init_16 : decode cK_init 16 = .ok (.new 16, 3) := by decide +kernel
theorem dK_init_19 : decode cK_init 19 = .ok (.dup, 1) := by decide +kernel
theorem dK_init_20 : decode cK_init 20 = .ok (.aload_n 0, 1) := by decide +kernel
theorem dK_init_21 : decode cK_init 21 = .ok (.getfield 10, 3) := by decide +kernel
theorem dK_init_24 : decode cK_init 24 = .ok (.invokespecial 18, 3) := by decide +kernel
theorem dK_init_27 : decode cK_init 27 = .ok (.putfield 21, 3) := by decide +kernel
theorem dK_init_30 : decode cK_init 30 = .ok (.aload_n 0, 1) := by decide +kernel
theorem dK_init_31 : decode cK_init 31 = .ok (.iconst 0, 1) := by decide +kernel
theorem dK_init_32 : decode cK_init 32 = .ok (.putfield 25, 3) := by decide +kernel
theorem dK_init_35 : decode cK_init 35 = .ok (.aload_n 0, 1) := by decide +kernel
theorem dK_init_36 : decode cK_init 36 = .ok (.ldc 29, 2) := by decide +kernel
theorem dK_init_38 : decode cK_init 38 = .ok (.putfield 30, 3) := by decide +kernel
theorem dK_init_41 : decode cK_init 41 = .ok (.return_, 1) := by decide +kernel
theorem dG_init_0 : decode cG_init 0 = .ok (.aload_n 0, 1) := by decide +kernel
theorem dG_init_1 : decode cG_init 1 = .ok (.invokespecial 3, 3) := by decide +kernel
theorem dG_init_4 : decode cG_init 4 = .ok (.aload_n 0, 1) := by decide +kernel
theorem dG_init_5 : decode cG_init 5 = .ok (.bipush 120, 2) := by decide +kernel
theorem dG_init_7 : decode cG_init 7 = .ok (.newarray .int, 2) := by decide +kernel
theorem dG_init_9 : decode cG_init 9 = .ok (.putfield 9, 3) := by decide +kernel
theorem dG_init_12 : decode cG_init 12 = .ok (.aload_n 0, 1) := by decide +kernel
theorem dG_init_13 : decode cG_init 13 = .ok (.bipush 120, 2) := by decide +kernel
theorem dG_init_15 : decode cG_init 15 = .ok (.newarray .int, 2) := by decide +kernel
theorem dG_init_17 : decode cG_init 17 = .ok (.putfield 15, 3) := by decide +kernel
theorem dG_init_20 : decode cG_init 20 = .ok (.aload_n 0, 1) := by decide +kernel
theorem dG_init_21 : decode cG_init 21 = .ok (.bipush 120, 2) := by decide +kernel
theorem dG_init_23 : decode cG_init 23 = .ok (.newarray .int, 2) := by decide +kernel
theorem dG_init_25 : decode cG_init 25 = .ok (.putfield 18, 3) := by decide +kernel
theorem dG_init_28 : decode cG_init 28 = .ok (.aload_n 0, 1) := by decide +kernel
theorem dG_init_29 : decode cG_init 29 = .ok (.bipush 120, 2) := by decide +kernel
theorem dG_init_31 : decode cG_init 31 = .ok (.newarray .int, 2) := by decide +kernel
theorem dG_init_33 : decode cG_init 33 = .ok (.putfield 21, 3) := by decide +kernel
theorem dG_init_36 : decode cG_init 36 = .ok (.aload_n 0, 1) := by decide +kernel
theorem dG_init_37 : decode cG_init 37 = .ok (.bipush 120, 2) := by decide +kernel
theorem dG_init_39 : decode cG_init 39 = .ok (.newarray .int, 2) := by decide +kernel
theorem dG_init_41 : decode cG_init 41 = .ok (.putfield 24, 3) := by decide +kernel
theorem dG_init_44 : decode cG_init 44 = .ok (.aload_n 0, 1) := by decide +kernel
theorem dG_init_45 : decode cG_init 45 = .ok (.bipush 120, 2) := by decide +kernel
theorem dG_init_47 : decode cG_init 47 = .ok (.newarray .int, 2) := by decide +kernel
theorem dG_init_49 : decode cG_init 49 = .ok (.putfield 27, 3) := by decide +kernel
theorem dG_init_52 : decode cG_init 52 = .ok (.aload_n 0, 1) := by decide +kernel
theorem dG_init_53 : decode cG_init 53 = .ok (.bipush 120, 2) := by decide +kernel
theorem dG_init_55 : decode cG_init 55 = .ok (.newarray .int, 2) := by decide +kernel
theorem dG_init_57 : decode cG_init 57 = .ok (.putfield 30, 3) := by decide +kernel
theorem dG_init_60 : decode cG_init 60 = .ok (.aload_n 0, 1) := by decide +kernel
theorem dG_init_61 : decode cG_init 61 = .ok (.bipush 24, 2) := by decide +kernel
theorem dG_init_63 : decode cG_init 63 = .ok (.newarray .int, 2) := by decide +kernel
theorem dG_init_65 : decode cG_init 65 = .ok (.putfield 33, 3) := by decide +kernel
theorem dG_init_68 : decode cG_init 68 = .ok (.aload_n 0, 1) := by decide +kernel
theorem dG_init_69 : decode cG_init 69 = .ok (.bipush 24, 2) := by decide +kernel
theorem dG_init_71 : decode cG_init 71 = .ok (.newarray .int, 2) := by decide +kernel
theorem dG_init_73 : decode cG_init 73 = .ok (.putfield 36, 3) := by decide +kernel
theorem dG_init_76 : decode cG_init 76 = .ok (.aload_n 0, 1) := by decide +kernel
theorem dG_init_77 : decode cG_init 77 = .ok (.iconst 1, 1) := by decide +kernel
theorem dG_init_78 : decode cG_init 78 = .ok (.putfield 39, 3) := by decide +kernel
theorem dG_init_81 : decode cG_init 81 = .ok (.return_, 1) := by decide +kernel
theorem dX_init_0 : decode cX_init 0 = .ok (.aload_n 0, 1) := by decide +kernel
theorem dX_init_1 : decode cX_init 1 = .ok (.invokespecial 3, 3) := by decide +kernel
theorem dX_init_4 : decode cX_init 4 = .ok (.aload_n 0, 1) := by decide +kernel
theorem dX_init_5 : decode cX_init 5 = .ok (.sipush 360, 3) := by decide +kernel
theorem dX_init_8 : decode cX_init 8 = .ok (.newarray .int, 2) := by decide +kernel
theorem dX_init_10 : decode cX_init 10 = .ok (.putfield 9, 3) := by decide +kernel
theorem dX_init_13 : decode cX_init 13 = .ok (.aload_n 0, 1) := by decide +kernel
theorem dX_init_14 : decode cX_init 14 = .ok (.aload_n 1, 1) := by decide +kernel
theorem dX_init_15 : decode cX_init 15 = .ok (.putfield 15, 3) := by decide +kernel
theorem dX_init_18 : decode cX_init 18 = .ok (.return_, 1) := by decide +kernel
theorem dK_clear_0 : decode cK_clear 0 = .ok (.aload_n 0, 1) := by decide +kernel
theorem dK_clear_1 : decode cK_clear 1 = .ok (.iconst 0, 1) := by decide +kernel
theorem dK_clear_2 : decode cK_clear 2 = .ok (.invokevirtual 70, 3) := by decide +kernel
theorem dK_clear_5 : decode cK_clear 5 = .ok (.aload_n 0, 1) := by decide +kernel
theorem dK_clear_6 : decode cK_clear 6 = .ok (.getfield 10, 3) := by decide +kernel
theorem dK_clear_9 : decode cK_clear 9 = .ok (.invokevirtual 74, 3) := by decide +kernel
theorem dK_clear_12 : decode cK_clear 12 = .ok (.ireturn, 1) := by decide +kernel
theorem dK_rewind_0 : decode cK_rewind 0 = .ok (.aload_n 0, 1) := by decide +kernel
theorem dK_rewind_1 : decode cK_rewind 1 = .ok (.iload_n 1, 1) := by decide +kernel
theorem dK_rewind_2 : decode cK_rewind 2 = .ok (.putfield 25, 3) := by decide +kernel
theorem dK_rewind_5 : decode cK_rewind 5 = .ok (.aload_n 0, 1) := by decide +kernel
theorem dK_rewind_6 : decode cK_rewind 6 = .ok (.iconst 0, 1) := by decide +kernel
theorem dK_rewind_7 : decode cK_rewind 7 = .ok (.putfield 93, 3) := by decide +kernel
theorem dK_rewind_10 : decode cK_rewind 10 = .ok (.aload_n 0, 1) := by decide +kernel
theorem dK_rewind_11 : decode cK_rewind 11 = .ok (.ldc 29, 2) := by decide +kernel
theorem dK_rewind_13 : decode cK_rewind 13 = .ok (.putfield 30, 3) := by decide +kernel
theorem dK_rewind_16 : decode cK_rewind 16 = .ok (.aload_n 0, 1) := by decide +kernel
theorem dK_rewind_17 : decode cK_rewind 17 = .ok (.iconst 0, 1) := by decide +kernel
theorem dK_rewind_18 : decode cK_rewind 18 = .ok (.putfield 90, 3) := by decide +kernel
theorem dK_rewind_21 : decode cK_rewind 21 = .ok (.aload_n 0, 1) := by decide +kernel
theorem dK_rewind_22 : decode cK_rewind 22 = .ok (.getfield 21, 3) := by decide +kernel
theorem dK_rewind_25 : decode cK_rewind 25 = .ok (.invokevirtual 139, 3) := by decide +kernel
theorem dK_rewind_28 : decode cK_rewind 28 = .ok (.return_, 1) := by decide +kernel
theorem dX_rewind_0 : decode cX_rewind 0 = .ok (.aload_n 0, 1) := by decide +kernel
theorem dX_rewind_1 : decode cX_rewind 1 = .ok (.iconst 0, 1) := by decide +kernel
theorem dX_rewind_2 : decode cX_rewind 2 = .ok (.putfield 19, 3) := by decide +kernel
theorem dX_rewind_5 : decode cX_rewind 5 = .ok (.aload_n 0, 1) := by decide +kernel
theorem dX_rewind_6 : decode cX_rewind 6 = .ok (.iconst 0, 1) := by decide +kernel
theorem dX_rewind_7 : decode cX_rewind 7 = .ok (.putfield 23, 3) := by decide +kernel
theorem dX_rewind_10 : decode cX_rewind 10 = .ok (.return_, 1) := by decide +kernel
theorem dG_forget_0 : decode cG_forget 0 = .ok (.aload_n 0, 1) := by decide +kernel
theorem dG_forget_1 : decode cG_forget 1 = .ok (.getfield 43, 3) := by decide +kernel
theorem dG_forget_4 : decode cG_forget 4 = .ok (.istore_n 1, 1) := by decide +kernel
theorem dG_forget_5 : decode cG_forget 5 = .ok (.aload_n 0, 1) := by decide +kernel
theorem dG_forget_6 : decode cG_forget 6 = .ok (.iconst 0, 1) := by decide +kernel
theorem dG_forget_7 : decode cG_forget 7 = .ok (.putfield 46, 3) := by decide +kernel
theorem dG_forget_10 : decode cG_forget 10 = .ok (.aload_n 0, 1) := by decide +kernel
theorem dG_forget_11 : decode cG_forget 11 = .ok (.iconst 0, 1) := by decide +kernel
theorem dG_forget_12 : decode cG_forget 12 = .ok (.putfield 43, 3) := by decide +kernel
theorem dG_forget_15 : decode cG_forget 15 = .ok (.aload_n 0, 1) := by decide +kernel
theorem dG_forget_16 : decode cG_forget 16 = .ok (.iconst 1, 1) := by decide +kernel
theorem dG_forget_17 : decode cG_forget 17 = .ok (.putfield 39, 3) := by decide +kernel
theorem dG_forget_20 : decode cG_forget 20 = .ok (.aload_n 0, 1) := by decide +kernel
theorem dG_forget_21 : decode cG_forget 21 = .ok (.iconst 0, 1) := by decide +kernel
theorem dG_forget_22 : decode cG_forget 22 = .ok (.putfield 49, 3) := by decide +kernel
theorem dG_forget_25 : decode cG_forget 25 = .ok (.aload_n 0, 1) := by decide +kernel
theorem dG_forget_26 : decode cG_forget 26 = .ok (.iconst 0, 1) := by decide +kernel
theorem dG_forget_27 : decode cG_forget 27 = .ok (.putfield 52, 3) := by decide +kernel
theorem dG_forget_30 : decode cG_forget 30 = .ok (.aload_n 0, 1) := by decide +kernel
theorem dG_forget_31 : decode cG_forget 31 = .ok (.iconst 0, 1) := by decide +kernel
theorem dG_forget_32 : decode cG_forget 32 = .ok (.putfield 55, 3) := by decide +kernel
theorem dG_forget_35 : decode cG_forget 35 = .ok (.iload_n 1, 1) := by decide +kernel
theorem dG_forget_36 : decode cG_forget 36 = .ok (.ireturn, 1) := by decide +kernel
theorem dK_count_0 : decode cK_count 0 = .ok (.iload_n 1, 1) := by decide +kernel
theorem dK_count_1 : decode cK_count 1 = .ok (.tableswitch 108 0 7 #[47, 55, 63, 71, 79, 87, 92, 103], 47) := by decide +kernel
theorem dK_count_48 : decode cK_count 48 = .ok (.aload_n 0, 1) := by decide +kernel
theorem dK_count_49 : decode cK_count 49 = .ok (.getfield 10, 3) := by decide +kernel
theorem dK_count_52 : decode cK_count 52 = .ok (.getfield 124, 3) := by decide +kernel
theorem dK_count_55 : decode cK_count 55 = .ok (.ireturn, 1) := by decide +kernel
theorem dK_count_56 : decode cK_count 56 = .ok (.aload_n 0, 1) := by decide +kernel
theorem dK_count_57 : decode cK_count 57 = .ok (.getfield 10, 3) := by decide +kernel
theorem dK_count_60 : decode cK_count 60 = .ok (.getfield 61, 3) := by decide +kernel
theorem dK_count_63 : decode cK_count 63 = .ok (.ireturn, 1) := by decide +kernel
theorem dK_count_64 : decode cK_count 64 = .ok (.aload_n 0, 1) := by decide +kernel
theorem dK_count_65 : decode cK_count 65 = .ok (.getfield 10, 3) := by decide +kernel
theorem dK_count_68 : decode cK_count 68 = .ok (.getfield 111, 3) := by decide +kernel
theorem dK_count_71 : decode cK_count 71 = .ok (.ireturn, 1) := by decide +kernel
theorem dK_count_72 : decode cK_count 72 = .ok (.aload_n 0, 1) := by decide +kernel
theorem dK_count_73 : decode cK_count 73 = .ok (.getfield 10, 3) := by decide +kernel
theorem dK_count_76 : decode cK_count 76 = .ok (.getfield 127, 3) := by decide +kernel
theorem dK_count_79 : decode cK_count 79 = .ok (.ireturn, 1) := by decide +kernel
theorem dK_count_80 : decode cK_count 80 = .ok (.aload_n 0, 1) := by decide +kernel
theorem dK_count_81 : decode cK_count 81 = .ok (.getfield 10, 3) := by decide +kernel
theorem dK_count_84 : decode cK_count 84 = .ok (.getfield 130, 3) := by decide +kernel
theorem dK_count_87 : decode cK_count 87 = .ok (.ireturn, 1) := by decide +kernel
theorem dK_count_88 : decode cK_count 88 = .ok (.aload_n 0, 1) := by decide +kernel
theorem dK_count_89 : decode cK_count 89 = .ok (.getfield 93, 3) := by decide +kernel
theorem dK_count_92 : decode cK_count 92 = .ok (.ireturn, 1) := by decide +kernel
theorem dK_count_93 : decode cK_count 93 = .ok (.aload_n 0, 1) := by decide +kernel
theorem dK_count_94 : decode cK_count 94 = .ok (.getfield 21, 3) := by decide +kernel
theorem dK_count_97 : decode cK_count 97 = .ok (.getfield 116, 3) := by decide +kernel
theorem dK_count_100 : decode cK_count 100 = .ok (.invokestatic 133, 3) := by decide +kernel
theorem dK_count_103 : decode cK_count 103 = .ok (.ireturn, 1) := by decide +kernel
theorem dK_count_104 : decode cK_count 104 = .ok (.aload_n 0, 1) := by decide +kernel
theorem dK_count_105 : decode cK_count 105 = .ok (.getfield 25, 3) := by decide +kernel
theorem dK_count_108 : decode cK_count 108 = .ok (.ireturn, 1) := by decide +kernel
theorem dK_count_109 : decode cK_count 109 = .ok (.iconst (-1), 1) := by decide +kernel
theorem dK_count_110 : decode cK_count 110 = .ok (.ireturn, 1) := by decide +kernel
theorem dI_bitCount_0 : decode cI_bitCount 0 = .ok (.iload_n 0, 1) := by decide +kernel
theorem dI_bitCount_1 : decode cI_bitCount 1 = .ok (.iload_n 0, 1) := by decide +kernel
theorem dI_bitCount_2 : decode cI_bitCount 2 = .ok (.iconst 1, 1) := by decide +kernel
theorem dI_bitCount_3 : decode cI_bitCount 3 = .ok (.iushr, 1) := by decide +kernel
theorem dI_bitCount_4 : decode cI_bitCount 4 = .ok (.ldc_w 265, 3) := by decide +kernel
theorem dI_bitCount_7 : decode cI_bitCount 7 = .ok (.iand, 1) := by decide +kernel
theorem dI_bitCount_8 : decode cI_bitCount 8 = .ok (.isub, 1) := by decide +kernel
theorem dI_bitCount_9 : decode cI_bitCount 9 = .ok (.istore_n 0, 1) := by decide +kernel
theorem dI_bitCount_10 : decode cI_bitCount 10 = .ok (.iload_n 0, 1) := by decide +kernel
theorem dI_bitCount_11 : decode cI_bitCount 11 = .ok (.ldc_w 266, 3) := by decide +kernel
theorem dI_bitCount_14 : decode cI_bitCount 14 = .ok (.iand, 1) := by decide +kernel
theorem dI_bitCount_15 : decode cI_bitCount 15 = .ok (.iload_n 0, 1) := by decide +kernel
theorem dI_bitCount_16 : decode cI_bitCount 16 = .ok (.iconst 2, 1) := by decide +kernel
theorem dI_bitCount_17 : decode cI_bitCount 17 = .ok (.iushr, 1) := by decide +kernel
theorem dI_bitCount_18 : decode cI_bitCount 18 = .ok (.ldc_w 266, 3) := by decide +kernel
theorem dI_bitCount_21 : decode cI_bitCount 21 = .ok (.iand, 1) := by decide +kernel
theorem dI_bitCount_22 : decode cI_bitCount 22 = .ok (.iadd, 1) := by decide +kernel
theorem dI_bitCount_23 : decode cI_bitCount 23 = .ok (.istore_n 0, 1) := by decide +kernel
theorem dI_bitCount_24 : decode cI_bitCount 24 = .ok (.iload_n 0, 1) := by decide +kernel
theorem dI_bitCount_25 : decode cI_bitCount 25 = .ok (.iload_n 0, 1) := by decide +kernel
theorem dI_bitCount_26 : decode cI_bitCount 26 = .ok (.iconst 4, 1) := by decide +kernel
theorem dI_bitCount_27 : decode cI_bitCount 27 = .ok (.iushr, 1) := by decide +kernel
theorem dI_bitCount_28 : decode cI_bitCount 28 = .ok (.iadd, 1) := by decide +kernel
theorem dI_bitCount_29 : decode cI_bitCount 29 = .ok (.ldc_w 267, 3) := by decide +kernel
theorem dI_bitCount_32 : decode cI_bitCount 32 = .ok (.iand, 1) := by decide +kernel
theorem dI_bitCount_33 : decode cI_bitCount 33 = .ok (.istore_n 0, 1) := by decide +kernel
theorem dI_bitCount_34 : decode cI_bitCount 34 = .ok (.iload_n 0, 1) := by decide +kernel
theorem dI_bitCount_35 : decode cI_bitCount 35 = .ok (.iload_n 0, 1) := by decide +kernel
theorem dI_bitCount_36 : decode cI_bitCount 36 = .ok (.bipush 8, 2) := by decide +kernel
theorem dI_bitCount_38 : decode cI_bitCount 38 = .ok (.iushr, 1) := by decide +kernel
theorem dI_bitCount_39 : decode cI_bitCount 39 = .ok (.iadd, 1) := by decide +kernel
theorem dI_bitCount_40 : decode cI_bitCount 40 = .ok (.istore_n 0, 1) := by decide +kernel
theorem dI_bitCount_41 : decode cI_bitCount 41 = .ok (.iload_n 0, 1) := by decide +kernel
theorem dI_bitCount_42 : decode cI_bitCount 42 = .ok (.iload_n 0, 1) := by decide +kernel
theorem dI_bitCount_43 : decode cI_bitCount 43 = .ok (.bipush 16, 2) := by decide +kernel
theorem dI_bitCount_45 : decode cI_bitCount 45 = .ok (.iushr, 1) := by decide +kernel
theorem dI_bitCount_46 : decode cI_bitCount 46 = .ok (.iadd, 1) := by decide +kernel
theorem dI_bitCount_47 : decode cI_bitCount 47 = .ok (.istore_n 0, 1) := by decide +kernel
theorem dI_bitCount_48 : decode cI_bitCount 48 = .ok (.iload_n 0, 1) := by decide +kernel
theorem dI_bitCount_49 : decode cI_bitCount 49 = .ok (.bipush 63, 2) := by decide +kernel
theorem dI_bitCount_51 : decode cI_bitCount 51 = .ok (.iand, 1) := by decide +kernel
theorem dI_bitCount_52 : decode cI_bitCount 52 = .ok (.ireturn, 1) := by decide +kernel
theorem dL_put_0 : decode cL_put 0 = .ok (.aload_n 3, 1) := by decide +kernel
theorem dL_put_1 : decode cL_put 1 = .ok (.iconst 0, 1) := by decide +kernel
theorem dL_put_2 : decode cL_put 2 = .ok (.aload_n 0, 1) := by decide +kernel
theorem dL_put_3 : decode cL_put 3 = .ok (.iload_n 1, 1) := by decide +kernel
theorem dL_put_4 : decode cL_put 4 = .ok (.iload_n 2, 1) := by decide +kernel
theorem dL_put_5 : decode cL_put 5 = .ok (.invokevirtual 7, 3) := by decide +kernel
theorem dL_put_8 : decode cL_put 8 = .ok (.i2l, 1) := by decide +kernel
theorem dL_put_9 : decode cL_put 9 = .ok (.lastore, 1) := by decide +kernel
theorem dL_put_10 : decode cL_put 10 = .ok (.goto 11, 3) := by decide +kernel
theorem dL_put_13 : decode cL_put 13 = .ok (.astore 4, 2) := by decide +kernel
theorem dL_put_15 : decode cL_put 15 = .ok (.iconst 1, 1) := by decide +kernel
theorem dL_put_16 : decode cL_put 16 = .ok (.ireturn, 1) := by decide +kernel
theorem dL_put_17 : decode cL_put 17 = .ok (.astore 4, 2) := by decide +kernel
theorem dL_put_19 : decode cL_put 19 = .ok (.iconst 2, 1) := by decide +kernel
theorem dL_put_20 : decode cL_put 20 = .ok (.ireturn, 1) := by decide +kernel
theorem dL_put_21 : decode cL_put 21 = .ok (.iconst 0, 1) := by decide +kernel
theorem dL_put_22 : decode cL_put 22 = .ok (.ireturn, 1) := by decide +kernel
theorem dK_put_0 : decode cK_put 0 = .ok (.aload_n 0, 1) := by decide +kernel
theorem dK_put_1 : decode cK_put 1 = .ok (.getfield 10, 3) := by decide +kernel
theorem dK_put_4 : decode cK_put 4 = .ok (.invokevirtual 33, 3) := by decide +kernel
theorem dK_put_7 : decode cK_put 7 = .ok (.ifCond .eq 13, 3) := by decide +kernel
theorem dK_put_10 : decode cK_put 10 = .ok (.new 37, 3) := by decide +kernel
theorem dK_put_13 : decode cK_put 13 = .ok (.dup, 1) := by decide +kernel
theorem dK_put_14 : decode cK_put 14 = .ok (.ldc 39, 2) := by decide +kernel
theorem dK_put_16 : decode cK_put 16 = .ok (.invokespecial 41, 3) := by decide +kernel
theorem dK_put_19 : decode cK_put 19 = .ok (.athrow, 1) := by decide +kernel
theorem dK_put_20 : decode cK_put 20 = .ok (.aload_n 0, 1) := by decide +kernel
theorem dK_put_21 : decode cK_put 21 = .ok (.getfield 10, 3) := by decide +kernel
theorem dK_put_24 : decode cK_put 24 = .ok (.iload_n 1, 1) := by decide +kernel
theorem dK_put_25 : decode cK_put 25 = .ok (.iload_n 2, 1) := by decide +kernel
theorem dK_put_26 : decode cK_put 26 = .ok (.invokevirtual 44, 3) := by decide +kernel
theorem dK_put_29 : decode cK_put 29 = .ok (.ifCond .ne 13, 3) := by decide +kernel
theorem dK_put_32 : decode cK_put 32 = .ok (.new 48, 3) := by decide +kernel
theorem dK_put_35 : decode cK_put 35 = .ok (.dup, 1) := by decide +kernel
theorem dK_put_36 : decode cK_put 36 = .ok (.ldc 50, 2) := by decide +kernel
theorem dK_put_38 : decode cK_put 38 = .ok (.invokespecial 52, 3) := by decide +kernel
theorem dK_put_41 : decode cK_put 41 = .ok (.athrow, 1) := by decide +kernel
theorem dK_put_42 : decode cK_put 42 = .ok (.aload_n 0, 1) := by decide +kernel
theorem dK_put_43 : decode cK_put 43 = .ok (.getfield 10, 3) := by decide +kernel
theorem dK_put_46 : decode cK_put 46 = .ok (.iload_n 1, 1) := by decide +kernel
theorem dK_put_47 : decode cK_put 47 = .ok (.invokevirtual 53, 3) := by decide +kernel
theorem dK_put_50 : decode cK_put 50 = .ok (.ifCond .ne 5, 3) := by decide +kernel
theorem dK_put_53 : decode cK_put 53 = .ok (.iconst (-1), 1) := by decide +kernel
theorem dK_put_54 : decode cK_put 54 = .ok (.ireturn, 1) := by decide +kernel
theorem dK_put_55 : decode cK_put 55 = .ok (.aload_n 0, 1) := by decide +kernel
theorem dK_put_56 : decode cK_put 56 = .ok (.getfield 10, 3) := by decide +kernel
theorem dK_put_59 : decode cK_put 59 = .ok (.iload_n 1, 1) := by decide +kernel
theorem dK_put_60 : decode cK_put 60 = .ok (.iload_n 2, 1) := by decide +kernel
theorem dK_put_61 : decode cK_put 61 = .ok (.invokevirtual 57, 3) := by decide +kernel
theorem dK_put_64 : decode cK_put 64 = .ok (.aload_n 0, 1) := by decide +kernel
theorem dK_put_65 : decode cK_put 65 = .ok (.getfield 10, 3) := by decide +kernel
theorem dK_put_68 : decode cK_put 68 = .ok (.getfield 61, 3) := by decide +kernel
theorem dK_put_71 : decode cK_put 71 = .ok (.ireturn, 1) := by decide +kernel
theorem dG_isWhole_0 : decode cG_isWhole 0 = .ok (.aload_n 0, 1) := by decide +kernel
theorem dG_isWhole_1 : decode cG_isWhole 1 = .ok (.getfield 39, 3) := by decide +kernel
theorem dG_isWhole_4 : decode cG_isWhole 4 = .ok (.ifCond .ne 7, 3) := by decide +kernel
theorem dG_isWhole_7 : decode cG_isWhole 7 = .ok (.iconst 1, 1) := by decide +kernel
theorem dG_isWhole_8 : decode cG_isWhole 8 = .ok (.goto 4, 3) := by decide +kernel
theorem dG_isWhole_11 : decode cG_isWhole 11 = .ok (.iconst 0, 1) := by decide +kernel
theorem dG_isWhole_12 : decode cG_isWhole 12 = .ok (.ireturn, 1) := by decide +kernel
theorem dG_allows_0 : decode cG_allows 0 = .ok (.iload_n 1, 1) := by decide +kernel
theorem dG_allows_1 : decode cG_allows 1 = .ok (.tableswitch 104 2 10 #[51, 68, 86, 86, 104, 104, 104, 104, 51], 51) := by decide +kernel
theorem dG_allows_52 : decode cG_allows 52 = .ok (.iload_n 2, 1) := by decide +kernel
theorem dG_allows_53 : decode cG_allows 53 = .ok (.iconst 4, 1) := by decide +kernel
theorem dG_allows_54 : decode cG_allows 54 = .ok (.if_icmp .lt 13, 3) := by decide +kernel
theorem dG_allows_57 : decode cG_allows 57 = .ok (.iload_n 2, 1) := by decide +kernel
theorem dG_allows_58 : decode cG_allows 58 = .ok (.bipush 16, 2) := by decide +kernel
theorem dG_allows_60 : decode cG_allows 60 = .ok (.if_icmp .ge 7, 3) := by decide +kernel
theorem dG_allows_63 : decode cG_allows 63 = .ok (.iconst 1, 1) := by decide +kernel
theorem dG_allows_64 : decode cG_allows 64 = .ok (.goto 4, 3) := by decide +kernel
theorem dG_allows_67 : decode cG_allows 67 = .ok (.iconst 0, 1) := by decide +kernel
theorem dG_allows_68 : decode cG_allows 68 = .ok (.ireturn, 1) := by decide +kernel
theorem dG_allows_69 : decode cG_allows 69 = .ok (.iload_n 2, 1) := by decide +kernel
theorem dG_allows_70 : decode cG_allows 70 = .ok (.ifCond .lt 15, 3) := by decide +kernel
theorem dG_allows_73 : decode cG_allows 73 = .ok (.iload_n 2, 1) := by decide +kernel
theorem dG_allows_74 : decode cG_allows 74 = .ok (.aload_n 0, 1) := by decide +kernel
theorem dG_allows_75 : decode cG_allows 75 = .ok (.invokevirtual 62, 3) := by decide +kernel
theorem dG_allows_78 : decode cG_allows 78 = .ok (.if_icmp .ge 7, 3) := by decide +kernel
theorem dG_allows_81 : decode cG_allows 81 = .ok (.iconst 1, 1) := by decide +kernel
theorem dG_allows_82 : decode cG_allows 82 = .ok (.goto 4, 3) := by decide +kernel
theorem dG_allows_85 : decode cG_allows 85 = .ok (.iconst 0, 1) := by decide +kernel
theorem dG_allows_86 : decode cG_allows 86 = .ok (.ireturn, 1) := by decide +kernel
theorem dG_allows_87 : decode cG_allows 87 = .ok (.iload_n 2, 1) := by decide +kernel
theorem dG_allows_88 : decode cG_allows 88 = .ok (.bipush (-16), 2) := by decide +kernel
theorem dG_allows_90 : decode cG_allows 90 = .ok (.if_icmp .lt 13, 3) := by decide +kernel
theorem dG_allows_93 : decode cG_allows 93 = .ok (.iload_n 2, 1) := by decide +kernel
theorem dG_allows_94 : decode cG_allows 94 = .ok (.bipush 16, 2) := by decide +kernel
theorem dG_allows_96 : decode cG_allows 96 = .ok (.if_icmp .ge 7, 3) := by decide +kernel
theorem dG_allows_99 : decode cG_allows 99 = .ok (.iconst 1, 1) := by decide +kernel
theorem dG_allows_100 : decode cG_allows 100 = .ok (.goto 4, 3) := by decide +kernel
theorem dG_allows_103 : decode cG_allows 103 = .ok (.iconst 0, 1) := by decide +kernel
theorem dG_allows_104 : decode cG_allows 104 = .ok (.ireturn, 1) := by decide +kernel
theorem dG_allows_105 : decode cG_allows 105 = .ok (.iload_n 1, 1) := by decide +kernel
theorem dG_allows_106 : decode cG_allows 106 = .ok (.ifCond .lt 17, 3) := by decide +kernel
theorem dG_allows_109 : decode cG_allows 109 = .ok (.iload_n 1, 1) := by decide +kernel
theorem dG_allows_110 : decode cG_allows 110 = .ok (.bipush 10, 2) := by decide +kernel
theorem dG_allows_112 : decode cG_allows 112 = .ok (.if_icmp .gt 11, 3) := by decide +kernel
theorem dG_allows_115 : decode cG_allows 115 = .ok (.iload_n 2, 1) := by decide +kernel
theorem dG_allows_116 : decode cG_allows 116 = .ok (.ifCond .ne 7, 3) := by decide +kernel
theorem dG_allows_119 : decode cG_allows 119 = .ok (.iconst 1, 1) := by decide +kernel
theorem dG_allows_120 : decode cG_allows 120 = .ok (.goto 4, 3) := by decide +kernel
theorem dG_allows_123 : decode cG_allows 123 = .ok (.iconst 0, 1) := by decide +kernel
theorem dG_allows_124 : decode cG_allows 124 = .ok (.ireturn, 1) := by decide +kernel
theorem dG_trapsAround_0 : decode cG_trapsAround 0 = .ok (.iconst 0, 1) := by decide +kernel
theorem dG_trapsAround_1 : decode cG_trapsAround 1 = .ok (.istore_n 1, 1) := by decide +kernel
theorem dG_trapsAround_2 : decode cG_trapsAround 2 = .ok (.iconst 0, 1) := by decide +kernel
theorem dG_trapsAround_3 : decode cG_trapsAround 3 = .ok (.istore_n 2, 1) := by decide +kernel
theorem dG_trapsAround_4 : decode cG_trapsAround 4 = .ok (.iload_n 2, 1) := by decide +kernel
theorem dG_trapsAround_5 : decode cG_trapsAround 5 = .ok (.aload_n 0, 1) := by decide +kernel
theorem dG_trapsAround_6 : decode cG_trapsAround 6 = .ok (.getfield 46, 3) := by decide +kernel
theorem dG_trapsAround_9 : decode cG_trapsAround 9 = .ok (.if_icmp .ge 27, 3) := by decide +kernel
theorem dG_trapsAround_12 : decode cG_trapsAround 12 = .ok (.aload_n 0, 1) := by decide +kernel
theorem dG_trapsAround_13 : decode cG_trapsAround 13 = .ok (.aload_n 0, 1) := by decide +kernel
theorem dG_trapsAround_14 : decode cG_trapsAround 14 = .ok (.getfield 33, 3) := by decide +kernel
theorem dG_trapsAround_17 : decode cG_trapsAround 17 = .ok (.iload_n 2, 1) := by decide +kernel
theorem dG_trapsAround_18 : decode cG_trapsAround 18 = .ok (.iaload, 1) := by decide +kernel
theorem dG_trapsAround_19 : decode cG_trapsAround 19 = .ok (.invokevirtual 69, 3) := by decide +kernel
theorem dG_trapsAround_22 : decode cG_trapsAround 22 = .ok (.bipush 9, 2) := by decide +kernel
theorem dG_trapsAround_24 : decode cG_trapsAround 24 = .ok (.if_icmp .ne 6, 3) := by decide +kernel
theorem dG_trapsAround_27 : decode cG_trapsAround 27 = .ok (.iinc 1 1, 3) := by decide +kernel
theorem dG_trapsAround_30 : decode cG_trapsAround 30 = .ok (.iinc 2 1, 3) := by decide +kernel
theorem dG_trapsAround_33 : decode cG_trapsAround 33 = .ok (.goto (-29), 3) := by decide +kernel
theorem dG_trapsAround_36 : decode cG_trapsAround 36 = .ok (.iload_n 1, 1) := by decide +kernel
theorem dG_trapsAround_37 : decode cG_trapsAround 37 = .ok (.ireturn, 1) := by decide +kernel
theorem dG_sortOf_0 : decode cG_sortOf 0 = .ok (.aload_n 0, 1) := by decide +kernel
theorem dG_sortOf_1 : decode cG_sortOf 1 = .ok (.iload_n 1, 1) := by decide +kernel
theorem dG_sortOf_2 : decode cG_sortOf 2 = .ok (.invokevirtual 58, 3) := by decide +kernel
theorem dG_sortOf_5 : decode cG_sortOf 5 = .ok (.ifCond .eq 12, 3) := by decide +kernel
theorem dG_sortOf_8 : decode cG_sortOf 8 = .ok (.aload_n 0, 1) := by decide +kernel
theorem dG_sortOf_9 : decode cG_sortOf 9 = .ok (.getfield 9, 3) := by decide +kernel
theorem dG_sortOf_12 : decode cG_sortOf 12 = .ok (.iload_n 1, 1) := by decide +kernel
theorem dG_sortOf_13 : decode cG_sortOf 13 = .ok (.iaload, 1) := by decide +kernel
theorem dG_sortOf_14 : decode cG_sortOf 14 = .ok (.goto 4, 3) := by decide +kernel
theorem dG_sortOf_17 : decode cG_sortOf 17 = .ok (.iconst 0, 1) := by decide +kernel
theorem dG_sortOf_18 : decode cG_sortOf 18 = .ok (.ireturn, 1) := by decide +kernel
theorem dG_has_0 : decode cG_has 0 = .ok (.iload_n 1, 1) := by decide +kernel
theorem dG_has_1 : decode cG_has 1 = .ok (.ifCond .lt 15, 3) := by decide +kernel
theorem dG_has_4 : decode cG_has 4 = .ok (.iload_n 1, 1) := by decide +kernel
theorem dG_has_5 : decode cG_has 5 = .ok (.aload_n 0, 1) := by decide +kernel
theorem dG_has_6 : decode cG_has 6 = .ok (.getfield 43, 3) := by decide +kernel
theorem dG_has_9 : decode cG_has 9 = .ok (.if_icmp .ge 7, 3) := by decide +kernel
theorem dG_has_12 : decode cG_has 12 = .ok (.iconst 1, 1) := by decide +kernel
theorem dG_has_13 : decode cG_has 13 = .ok (.goto 4, 3) := by decide +kernel
theorem dG_has_16 : decode cG_has 16 = .ok (.iconst 0, 1) := by decide +kernel
theorem dG_has_17 : decode cG_has 17 = .ok (.ireturn, 1) := by decide +kernel
theorem dG_hasRoomFor_0 : decode cG_hasRoomFor 0 = .ok (.aload_n 0, 1) := by decide +kernel
theorem dG_hasRoomFor_1 : decode cG_hasRoomFor 1 = .ok (.getfield 43, 3) := by decide +kernel
theorem dG_hasRoomFor_4 : decode cG_hasRoomFor 4 = .ok (.bipush 120, 2) := by decide +kernel
theorem dG_hasRoomFor_6 : decode cG_hasRoomFor 6 = .ok (.if_icmp .ge 59, 3) := by decide +kernel
theorem dG_hasRoomFor_9 : decode cG_hasRoomFor 9 = .ok (.aload_n 0, 1) := by decide +kernel
theorem dG_hasRoomFor_10 : decode cG_hasRoomFor 10 = .ok (.getfield 46, 3) := by decide +kernel
theorem dG_hasRoomFor_13 : decode cG_hasRoomFor 13 = .ok (.bipush 24, 2) := by decide +kernel
theorem dG_hasRoomFor_15 : decode cG_hasRoomFor 15 = .ok (.if_icmp .ge 50, 3) := by decide +kernel
theorem dG_hasRoomFor_18 : decode cG_hasRoomFor 18 = .ok (.iload_n 1, 1) := by decide +kernel
theorem dG_hasRoomFor_19 : decode cG_hasRoomFor 19 = .ok (.iconst 1, 1) := by decide +kernel
theorem dG_hasRoomFor_20 : decode cG_hasRoomFor 20 = .ok (.if_icmp .ne 12, 3) := by decide +kernel
theorem dG_hasRoomFor_23 : decode cG_hasRoomFor 23 = .ok (.aload_n 0, 1) := by decide +kernel
theorem dG_hasRoomFor_24 : decode cG_hasRoomFor 24 = .ok (.getfield 49, 3) := by decide +kernel
theorem dG_hasRoomFor_27 : decode cG_hasRoomFor 27 = .ok (.bipush 32, 2) := by decide +kernel
theorem dG_hasRoomFor_29 : decode cG_hasRoomFor 29 = .ok (.if_icmp .ge 36, 3) := by decide +kernel
theorem dG_hasRoomFor_32 : decode cG_hasRoomFor 32 = .ok (.iload_n 1, 1) := by decide +kernel
theorem dG_hasRoomFor_33 : decode cG_hasRoomFor 33 = .ok (.bipush 9, 2) := by decide +kernel
theorem dG_hasRoomFor_35 : decode cG_hasRoomFor 35 = .ok (.if_icmp .ne 11, 3) := by decide +kernel
theorem dG_hasRoomFor_38 : decode cG_hasRoomFor 38 = .ok (.aload_n 0, 1) := by decide +kernel
theorem dG_hasRoomFor_39 : decode cG_hasRoomFor 39 = .ok (.invokevirtual 62, 3) := by decide +kernel
theorem dG_hasRoomFor_42 : decode cG_hasRoomFor 42 = .ok (.iconst 5, 1) := by decide +kernel
theorem dG_hasRoomFor_43 : decode cG_hasRoomFor 43 = .ok (.if_icmp .ge 22, 3) := by decide +kernel
theorem dG_hasRoomFor_46 : decode cG_hasRoomFor 46 = .ok (.aload_n 0, 1) := by decide +kernel
theorem dG_hasRoomFor_47 : decode cG_hasRoomFor 47 = .ok (.getfield 55, 3) := by decide +kernel
theorem dG_hasRoomFor_50 : decode cG_hasRoomFor 50 = .ok (.aload_n 0, 1) := by decide +kernel
theorem dG_hasRoomFor_51 : decode cG_hasRoomFor 51 = .ok (.invokevirtual 66, 3) := by decide +kernel
theorem dG_hasRoomFor_54 : decode cG_hasRoomFor 54 = .ok (.iadd, 1) := by decide +kernel
theorem dG_hasRoomFor_55 : decode cG_hasRoomFor 55 = .ok (.sipush 360, 3) := by decide +kernel
theorem dG_hasRoomFor_58 : decode cG_hasRoomFor 58 = .ok (.if_icmp .gt 7, 3) := by decide +kernel
theorem dG_hasRoomFor_61 : decode cG_hasRoomFor 61 = .ok (.iconst 1, 1) := by decide +kernel
theorem dG_hasRoomFor_62 : decode cG_hasRoomFor 62 = .ok (.goto 4, 3) := by decide +kernel
theorem dG_hasRoomFor_65 : decode cG_hasRoomFor 65 = .ok (.iconst 0, 1) := by decide +kernel
theorem dG_hasRoomFor_66 : decode cG_hasRoomFor 66 = .ok (.ireturn, 1) := by decide +kernel
theorem dG_nextWeight_0 : decode cG_nextWeight 0 = .ok (.aload_n 0, 1) := by decide +kernel
theorem dG_nextWeight_1 : decode cG_nextWeight 1 = .ok (.getfield 46, 3) := by decide +kernel
theorem dG_nextWeight_4 : decode cG_nextWeight 4 = .ok (.ifCond .ne 5, 3) := by decide +kernel
theorem dG_nextWeight_7 : decode cG_nextWeight 7 = .ok (.iconst 1, 1) := by decide +kernel
theorem dG_nextWeight_8 : decode cG_nextWeight 8 = .ok (.ireturn, 1) := by decide +kernel
theorem dG_nextWeight_9 : decode cG_nextWeight 9 = .ok (.aload_n 0, 1) := by decide +kernel
theorem dG_nextWeight_10 : decode cG_nextWeight 10 = .ok (.getfield 33, 3) := by decide +kernel
theorem dG_nextWeight_13 : decode cG_nextWeight 13 = .ok (.aload_n 0, 1) := by decide +kernel
theorem dG_nextWeight_14 : decode cG_nextWeight 14 = .ok (.getfield 46, 3) := by decide +kernel
theorem dG_nextWeight_17 : decode cG_nextWeight 17 = .ok (.iconst 1, 1) := by decide +kernel
theorem dG_nextWeight_18 : decode cG_nextWeight 18 = .ok (.isub, 1) := by decide +kernel
theorem dG_nextWeight_19 : decode cG_nextWeight 19 = .ok (.iaload, 1) := by decide +kernel
theorem dG_nextWeight_20 : decode cG_nextWeight 20 = .ok (.istore_n 1, 1) := by decide +kernel
theorem dG_nextWeight_21 : decode cG_nextWeight 21 = .ok (.aload_n 0, 1) := by decide +kernel
theorem dG_nextWeight_22 : decode cG_nextWeight 22 = .ok (.iload_n 1, 1) := by decide +kernel
theorem dG_nextWeight_23 : decode cG_nextWeight 23 = .ok (.invokevirtual 69, 3) := by decide +kernel
theorem dG_nextWeight_26 : decode cG_nextWeight 26 = .ok (.istore_n 2, 1) := by decide +kernel
theorem dG_nextWeight_27 : decode cG_nextWeight 27 = .ok (.iload_n 2, 1) := by decide +kernel
theorem dG_nextWeight_28 : decode cG_nextWeight 28 = .ok (.bipush 6, 2) := by decide +kernel
theorem dG_nextWeight_30 : decode cG_nextWeight 30 = .ok (.if_icmp .ne 22, 3) := by decide +kernel
theorem dG_nextWeight_33 : decode cG_nextWeight 33 = .ok (.aload_n 0, 1) := by decide +kernel
theorem dG_nextWeight_34 : decode cG_nextWeight 34 = .ok (.getfield 36, 3) := by decide +kernel
theorem dG_nextWeight_37 : decode cG_nextWeight 37 = .ok (.aload_n 0, 1) := by decide +kernel
theorem dG_nextWeight_38 : decode cG_nextWeight 38 = .ok (.getfield 46, 3) := by decide +kernel
theorem dG_nextWeight_41 : decode cG_nextWeight 41 = .ok (.iconst 1, 1) := by decide +kernel
theorem dG_nextWeight_42 : decode cG_nextWeight 42 = .ok (.isub, 1) := by decide +kernel
theorem dG_nextWeight_43 : decode cG_nextWeight 43 = .ok (.iaload, 1) := by decide +kernel
theorem dG_nextWeight_44 : decode cG_nextWeight 44 = .ok (.iconst 1, 1) := by decide +kernel
theorem dG_nextWeight_45 : decode cG_nextWeight 45 = .ok (.if_icmp .ne 7, 3) := by decide +kernel
theorem dG_nextWeight_48 : decode cG_nextWeight 48 = .ok (.iconst 1, 1) := by decide +kernel
theorem dG_nextWeight_49 : decode cG_nextWeight 49 = .ok (.goto 4, 3) := by decide +kernel
theorem dG_nextWeight_52 : decode cG_nextWeight 52 = .ok (.iconst 0, 1) := by decide +kernel
theorem dG_nextWeight_53 : decode cG_nextWeight 53 = .ok (.istore_n 3, 1) := by decide +kernel
theorem dG_nextWeight_54 : decode cG_nextWeight 54 = .ok (.aload_n 0, 1) := by decide +kernel
theorem dG_nextWeight_55 : decode cG_nextWeight 55 = .ok (.iload_n 1, 1) := by decide +kernel
theorem dG_nextWeight_56 : decode cG_nextWeight 56 = .ok (.invokevirtual 73, 3) := by decide +kernel
theorem dG_nextWeight_59 : decode cG_nextWeight 59 = .ok (.iload_n 2, 1) := by decide +kernel
theorem dG_nextWeight_60 : decode cG_nextWeight 60 = .ok (.bipush 8, 2) := by decide +kernel
theorem dG_nextWeight_62 : decode cG_nextWeight 62 = .ok (.if_icmp .eq 7, 3) := by decide +kernel
theorem dG_nextWeight_65 : decode cG_nextWeight 65 = .ok (.iload_n 3, 1) := by decide +kernel
theorem dG_nextWeight_66 : decode cG_nextWeight 66 = .ok (.ifCond .eq 7, 3) := by decide +kernel
theorem dG_nextWeight_69 : decode cG_nextWeight 69 = .ok (.iconst 1, 1) := by decide +kernel
theorem dG_nextWeight_70 : decode cG_nextWeight 70 = .ok (.goto 4, 3) := by decide +kernel
theorem dG_nextWeight_73 : decode cG_nextWeight 73 = .ok (.iconst 0, 1) := by decide +kernel
theorem dG_nextWeight_74 : decode cG_nextWeight 74 = .ok (.iadd, 1) := by decide +kernel
theorem dG_nextWeight_75 : decode cG_nextWeight 75 = .ok (.ireturn, 1) := by decide +kernel
theorem dG_weightOf_0 : decode cG_weightOf 0 = .ok (.aload_n 0, 1) := by decide +kernel
theorem dG_weightOf_1 : decode cG_weightOf 1 = .ok (.iload_n 1, 1) := by decide +kernel
theorem dG_weightOf_2 : decode cG_weightOf 2 = .ok (.invokevirtual 58, 3) := by decide +kernel
theorem dG_weightOf_5 : decode cG_weightOf 5 = .ok (.ifCond .eq 12, 3) := by decide +kernel
theorem dG_weightOf_8 : decode cG_weightOf 8 = .ok (.aload_n 0, 1) := by decide +kernel
theorem dG_weightOf_9 : decode cG_weightOf 9 = .ok (.getfield 21, 3) := by decide +kernel
theorem dG_weightOf_12 : decode cG_weightOf 12 = .ok (.iload_n 1, 1) := by decide +kernel
theorem dG_weightOf_13 : decode cG_weightOf 13 = .ok (.iaload, 1) := by decide +kernel
theorem dG_weightOf_14 : decode cG_weightOf 14 = .ok (.goto 4, 3) := by decide +kernel
theorem dG_weightOf_17 : decode cG_weightOf 17 = .ok (.iconst 0, 1) := by decide +kernel
theorem dG_weightOf_18 : decode cG_weightOf 18 = .ok (.ireturn, 1) := by decide +kernel
theorem dG_add_0 : decode cG_add 0 = .ok (.aload_n 0, 1) := by decide +kernel
theorem dG_add_1 : decode cG_add 1 = .ok (.getfield 43, 3) := by decide +kernel
theorem dG_add_4 : decode cG_add 4 = .ok (.istore_n 3, 1) := by decide +kernel
theorem dG_add_5 : decode cG_add 5 = .ok (.aload_n 0, 1) := by decide +kernel
theorem dG_add_6 : decode cG_add 6 = .ok (.invokevirtual 66, 3) := by decide +kernel
theorem dG_add_9 : decode cG_add 9 = .ok (.istore 4, 2) := by decide +kernel
theorem dG_add_11 : decode cG_add 11 = .ok (.aload_n 0, 1) := by decide +kernel
theorem dG_add_12 : decode cG_add 12 = .ok (.getfield 9, 3) := by decide +kernel
theorem dG_add_15 : decode cG_add 15 = .ok (.iload_n 3, 1) := by decide +kernel
theorem dG_add_16 : decode cG_add 16 = .ok (.iload_n 1, 1) := by decide +kernel
theorem dG_add_17 : decode cG_add 17 = .ok (.iastore, 1) := by decide +kernel
theorem dG_add_18 : decode cG_add 18 = .ok (.aload_n 0, 1) := by decide +kernel
theorem dG_add_19 : decode cG_add 19 = .ok (.getfield 15, 3) := by decide +kernel
theorem dG_add_22 : decode cG_add 22 = .ok (.iload_n 3, 1) := by decide +kernel
theorem dG_add_23 : decode cG_add 23 = .ok (.iload_n 2, 1) := by decide +kernel
theorem dG_add_24 : decode cG_add 24 = .ok (.iastore, 1) := by decide +kernel
theorem dG_add_25 : decode cG_add 25 = .ok (.aload_n 0, 1) := by decide +kernel
theorem dG_add_26 : decode cG_add 26 = .ok (.getfield 18, 3) := by decide +kernel
theorem dG_add_29 : decode cG_add 29 = .ok (.iload_n 3, 1) := by decide +kernel
theorem dG_add_30 : decode cG_add 30 = .ok (.iconst (-1), 1) := by decide +kernel
theorem dG_add_31 : decode cG_add 31 = .ok (.iastore, 1) := by decide +kernel
theorem dG_add_32 : decode cG_add 32 = .ok (.aload_n 0, 1) := by decide +kernel
theorem dG_add_33 : decode cG_add 33 = .ok (.getfield 21, 3) := by decide +kernel
theorem dG_add_36 : decode cG_add 36 = .ok (.iload_n 3, 1) := by decide +kernel
theorem dG_add_37 : decode cG_add 37 = .ok (.iload 4, 2) := by decide +kernel
theorem dG_add_39 : decode cG_add 39 = .ok (.iastore, 1) := by decide +kernel
theorem dG_add_40 : decode cG_add 40 = .ok (.aload_n 0, 1) := by decide +kernel
theorem dG_add_41 : decode cG_add 41 = .ok (.getfield 24, 3) := by decide +kernel
theorem dG_add_44 : decode cG_add 44 = .ok (.iload_n 3, 1) := by decide +kernel
theorem dG_add_45 : decode cG_add 45 = .ok (.aload_n 0, 1) := by decide +kernel
theorem dG_add_46 : decode cG_add 46 = .ok (.getfield 55, 3) := by decide +kernel
theorem dG_add_49 : decode cG_add 49 = .ok (.iastore, 1) := by decide +kernel
theorem dG_add_50 : decode cG_add 50 = .ok (.aload_n 0, 1) := by decide +kernel
theorem dG_add_51 : decode cG_add 51 = .ok (.getfield 27, 3) := by decide +kernel
theorem dG_add_54 : decode cG_add 54 = .ok (.iload_n 3, 1) := by decide +kernel
theorem dG_add_55 : decode cG_add 55 = .ok (.iconst 0, 1) := by decide +kernel
theorem dG_add_56 : decode cG_add 56 = .ok (.iastore, 1) := by decide +kernel
theorem dG_add_57 : decode cG_add 57 = .ok (.aload_n 0, 1) := by decide +kernel
theorem dG_add_58 : decode cG_add 58 = .ok (.dup, 1) := by decide +kernel
theorem dG_add_59 : decode cG_add 59 = .ok (.getfield 43, 3) := by decide +kernel
theorem dG_add_62 : decode cG_add 62 = .ok (.iconst 1, 1) := by decide +kernel
theorem dG_add_63 : decode cG_add 63 = .ok (.iadd, 1) := by decide +kernel
theorem dG_add_64 : decode cG_add 64 = .ok (.putfield 43, 3) := by decide +kernel
theorem dG_add_67 : decode cG_add 67 = .ok (.aload_n 0, 1) := by decide +kernel
theorem dG_add_68 : decode cG_add 68 = .ok (.dup, 1) := by decide +kernel
theorem dG_add_69 : decode cG_add 69 = .ok (.getfield 55, 3) := by decide +kernel
theorem dG_add_72 : decode cG_add 72 = .ok (.iload 4, 2) := by decide +kernel
theorem dG_add_74 : decode cG_add 74 = .ok (.iadd, 1) := by decide +kernel
theorem dG_add_75 : decode cG_add 75 = .ok (.putfield 55, 3) := by decide +kernel
theorem dG_add_78 : decode cG_add 78 = .ok (.aload_n 0, 1) := by decide +kernel
theorem dG_add_79 : decode cG_add 79 = .ok (.dup, 1) := by decide +kernel
theorem dG_add_80 : decode cG_add 80 = .ok (.getfield 39, 3) := by decide +kernel
theorem dG_add_83 : decode cG_add 83 = .ok (.getstatic 76, 3) := by decide +kernel
theorem dG_add_86 : decode cG_add 86 = .ok (.iload_n 1, 1) := by decide +kernel
theorem dG_add_87 : decode cG_add 87 = .ok (.iaload, 1) := by decide +kernel
theorem dG_add_88 : decode cG_add 88 = .ok (.iconst 1, 1) := by decide +kernel
theorem dG_add_89 : decode cG_add 89 = .ok (.isub, 1) := by decide +kernel
theorem dG_add_90 : decode cG_add 90 = .ok (.iadd, 1) := by decide +kernel
theorem dG_add_91 : decode cG_add 91 = .ok (.putfield 39, 3) := by decide +kernel
theorem dG_add_94 : decode cG_add 94 = .ok (.iload_n 1, 1) := by decide +kernel
theorem dG_add_95 : decode cG_add 95 = .ok (.bipush 8, 2) := by decide +kernel
theorem dG_add_97 : decode cG_add 97 = .ok (.if_icmp .ne 13, 3) := by decide +kernel
theorem dG_add_100 : decode cG_add 100 = .ok (.aload_n 0, 1) := by decide +kernel
theorem dG_add_101 : decode cG_add 101 = .ok (.dup, 1) := by decide +kernel
theorem dG_add_102 : decode cG_add 102 = .ok (.getfield 52, 3) := by decide +kernel
theorem dG_add_105 : decode cG_add 105 = .ok (.iconst 1, 1) := by decide +kernel
theorem dG_add_106 : decode cG_add 106 = .ok (.iadd, 1) := by decide +kernel
theorem dG_add_107 : decode cG_add 107 = .ok (.putfield 52, 3) := by decide +kernel
theorem dG_add_110 : decode cG_add 110 = .ok (.iload_n 1, 1) := by decide +kernel
theorem dG_add_111 : decode cG_add 111 = .ok (.iconst 1, 1) := by decide +kernel
theorem dG_add_112 : decode cG_add 112 = .ok (.if_icmp .ne 8, 3) := by decide +kernel
theorem dG_add_115 : decode cG_add 115 = .ok (.aload_n 0, 1) := by decide +kernel
theorem dG_add_116 : decode cG_add 116 = .ok (.iload_n 3, 1) := by decide +kernel
theorem dG_add_117 : decode cG_add 117 = .ok (.invokevirtual 79, 3) := by decide +kernel
theorem dG_add_120 : decode cG_add 120 = .ok (.aload_n 0, 1) := by decide +kernel
theorem dG_add_121 : decode cG_add 121 = .ok (.iload_n 3, 1) := by decide +kernel
theorem dG_add_122 : decode cG_add 122 = .ok (.invokevirtual 83, 3) := by decide +kernel
theorem dG_add_125 : decode cG_add 125 = .ok (.getstatic 76, 3) := by decide +kernel
theorem dG_add_128 : decode cG_add 128 = .ok (.iload_n 1, 1) := by decide +kernel
theorem dG_add_129 : decode cG_add 129 = .ok (.iaload, 1) := by decide +kernel
theorem dG_add_130 : decode cG_add 130 = .ok (.ifCond .le 16, 3) := by decide +kernel
theorem dG_add_133 : decode cG_add 133 = .ok (.aload_n 0, 1) := by decide +kernel
theorem dG_add_134 : decode cG_add 134 = .ok (.iload_n 3, 1) := by decide +kernel
theorem dG_add_135 : decode cG_add 135 = .ok (.getstatic 76, 3) := by decide +kernel
theorem dG_add_138 : decode cG_add 138 = .ok (.iload_n 1, 1) := by decide +kernel
theorem dG_add_139 : decode cG_add 139 = .ok (.iaload, 1) := by decide +kernel
theorem dG_add_140 : decode cG_add 140 = .ok (.invokevirtual 86, 3) := by decide +kernel
theorem dG_add_143 : decode cG_add 143 = .ok (.goto 7, 3) := by decide +kernel
theorem dG_add_146 : decode cG_add 146 = .ok (.aload_n 0, 1) := by decide +kernel
theorem dG_add_147 : decode cG_add 147 = .ok (.invokevirtual 90, 3) := by decide +kernel
theorem dG_add_150 : decode cG_add 150 = .ok (.return_, 1) := by decide +kernel
theorem dG_numberPause_0 : decode cG_numberPause 0 = .ok (.iconst 1, 1) := by decide +kernel
theorem dG_numberPause_1 : decode cG_numberPause 1 = .ok (.aload_n 0, 1) := by decide +kernel
theorem dG_numberPause_2 : decode cG_numberPause 2 = .ok (.getfield 49, 3) := by decide +kernel
theorem dG_numberPause_5 : decode cG_numberPause 5 = .ok (.ishl, 1) := by decide +kernel
theorem dG_numberPause_6 : decode cG_numberPause 6 = .ok (.istore_n 2, 1) := by decide +kernel
theorem dG_numberPause_7 : decode cG_numberPause 7 = .ok (.aload_n 0, 1) := by decide +kernel
theorem dG_numberPause_8 : decode cG_numberPause 8 = .ok (.dup, 1) := by decide +kernel
theorem dG_numberPause_9 : decode cG_numberPause 9 = .ok (.getfield 49, 3) := by decide +kernel
theorem dG_numberPause_12 : decode cG_numberPause 12 = .ok (.iconst 1, 1) := by decide +kernel
theorem dG_numberPause_13 : decode cG_numberPause 13 = .ok (.iadd, 1) := by decide +kernel
theorem dG_numberPause_14 : decode cG_numberPause 14 = .ok (.putfield 49, 3) := by decide +kernel
theorem dG_numberPause_17 : decode cG_numberPause 17 = .ok (.aload_n 0, 1) := by decide +kernel
theorem dG_numberPause_18 : decode cG_numberPause 18 = .ok (.getfield 27, 3) := by decide +kernel
theorem dG_numberPause_21 : decode cG_numberPause 21 = .ok (.iload_n 1, 1) := by decide +kernel
theorem dG_numberPause_22 : decode cG_numberPause 22 = .ok (.iload_n 2, 1) := by decide +kernel
theorem dG_numberPause_23 : decode cG_numberPause 23 = .ok (.iastore, 1) := by decide +kernel
theorem dG_numberPause_24 : decode cG_numberPause 24 = .ok (.iconst 0, 1) := by decide +kernel
theorem dG_numberPause_25 : decode cG_numberPause 25 = .ok (.istore_n 3, 1) := by decide +kernel
theorem dG_numberPause_26 : decode cG_numberPause 26 = .ok (.iload_n 3, 1) := by decide +kernel
theorem dG_numberPause_27 : decode cG_numberPause 27 = .ok (.aload_n 0, 1) := by decide +kernel
theorem dG_numberPause_28 : decode cG_numberPause 28 = .ok (.getfield 46, 3) := by decide +kernel
theorem dG_numberPause_31 : decode cG_numberPause 31 = .ok (.if_icmp .ge 24, 3) := by decide +kernel
theorem dG_numberPause_34 : decode cG_numberPause 34 = .ok (.aload_n 0, 1) := by decide +kernel
theorem dG_numberPause_35 : decode cG_numberPause 35 = .ok (.getfield 27, 3) := by decide +kernel
theorem dG_numberPause_38 : decode cG_numberPause 38 = .ok (.aload_n 0, 1) := by decide +kernel
theorem dG_numberPause_39 : decode cG_numberPause 39 = .ok (.getfield 33, 3) := by decide +kernel
theorem dG_numberPause_42 : decode cG_numberPause 42 = .ok (.iload_n 3, 1) := by decide +kernel
theorem dG_numberPause_43 : decode cG_numberPause 43 = .ok (.iaload, 1) := by decide +kernel
theorem dG_numberPause_44 : decode cG_numberPause 44 = .ok (.dup2, 1) := by decide +kernel
theorem dG_numberPause_45 : decode cG_numberPause 45 = .ok (.iaload, 1) := by decide +kernel
theorem dG_numberPause_46 : decode cG_numberPause 46 = .ok (.iload_n 2, 1) := by decide +kernel
theorem dG_numberPause_47 : decode cG_numberPause 47 = .ok (.ior, 1) := by decide +kernel
theorem dG_numberPause_48 : decode cG_numberPause 48 = .ok (.iastore, 1) := by decide +kernel
theorem dG_numberPause_49 : decode cG_numberPause 49 = .ok (.iinc 3 1, 3) := by decide +kernel
theorem dG_numberPause_52 : decode cG_numberPause 52 = .ok (.goto (-26), 3) := by decide +kernel
theorem dG_numberPause_55 : decode cG_numberPause 55 = .ok (.return_, 1) := by decide +kernel
theorem dG_attach_0 : decode cG_attach 0 = .ok (.aload_n 0, 1) := by decide +kernel
theorem dG_attach_1 : decode cG_attach 1 = .ok (.getfield 46, 3) := by decide +kernel
theorem dG_attach_4 : decode cG_attach 4 = .ok (.ifCond .le 35, 3) := by decide +kernel
theorem dG_attach_7 : decode cG_attach 7 = .ok (.aload_n 0, 1) := by decide +kernel
theorem dG_attach_8 : decode cG_attach 8 = .ok (.getfield 18, 3) := by decide +kernel
theorem dG_attach_11 : decode cG_attach 11 = .ok (.aload_n 0, 1) := by decide +kernel
theorem dG_attach_12 : decode cG_attach 12 = .ok (.getfield 33, 3) := by decide +kernel
theorem dG_attach_15 : decode cG_attach 15 = .ok (.aload_n 0, 1) := by decide +kernel
theorem dG_attach_16 : decode cG_attach 16 = .ok (.getfield 46, 3) := by decide +kernel
theorem dG_attach_19 : decode cG_attach 19 = .ok (.iconst 1, 1) := by decide +kernel
theorem dG_attach_20 : decode cG_attach 20 = .ok (.isub, 1) := by decide +kernel
theorem dG_attach_21 : decode cG_attach 21 = .ok (.iaload, 1) := by decide +kernel
theorem dG_attach_22 : decode cG_attach 22 = .ok (.iload_n 1, 1) := by decide +kernel
theorem dG_attach_23 : decode cG_attach 23 = .ok (.iastore, 1) := by decide +kernel
theorem dG_attach_24 : decode cG_attach 24 = .ok (.aload_n 0, 1) := by decide +kernel
theorem dG_attach_25 : decode cG_attach 25 = .ok (.getfield 36, 3) := by decide +kernel
theorem dG_attach_28 : decode cG_attach 28 = .ok (.aload_n 0, 1) := by decide +kernel
theorem dG_attach_29 : decode cG_attach 29 = .ok (.getfield 46, 3) := by decide +kernel
theorem dG_attach_32 : decode cG_attach 32 = .ok (.iconst 1, 1) := by decide +kernel
theorem dG_attach_33 : decode cG_attach 33 = .ok (.isub, 1) := by decide +kernel
theorem dG_attach_34 : decode cG_attach 34 = .ok (.dup2, 1) := by decide +kernel
theorem dG_attach_35 : decode cG_attach 35 = .ok (.iaload, 1) := by decide +kernel
theorem dG_attach_36 : decode cG_attach 36 = .ok (.iconst 1, 1) := by decide +kernel
theorem dG_attach_37 : decode cG_attach 37 = .ok (.isub, 1) := by decide +kernel
theorem dG_attach_38 : decode cG_attach 38 = .ok (.iastore, 1) := by decide +kernel
theorem dG_attach_39 : decode cG_attach 39 = .ok (.return_, 1) := by decide +kernel
theorem dG_openUp_0 : decode cG_openUp 0 = .ok (.aload_n 0, 1) := by decide +kernel
theorem dG_openUp_1 : decode cG_openUp 1 = .ok (.getfield 46, 3) := by decide +kernel
theorem dG_openUp_4 : decode cG_openUp 4 = .ok (.bipush 24, 2) := by decide +kernel
theorem dG_openUp_6 : decode cG_openUp 6 = .ok (.if_icmp .ge 33, 3) := by decide +kernel
theorem dG_openUp_9 : decode cG_openUp 9 = .ok (.aload_n 0, 1) := by decide +kernel
theorem dG_openUp_10 : decode cG_openUp 10 = .ok (.getfield 33, 3) := by decide +kernel
theorem dG_openUp_13 : decode cG_openUp 13 = .ok (.aload_n 0, 1) := by decide +kernel
theorem dG_openUp_14 : decode cG_openUp 14 = .ok (.getfield 46, 3) := by decide +kernel
theorem dG_openUp_17 : decode cG_openUp 17 = .ok (.iload_n 1, 1) := by decide +kernel
theorem dG_openUp_18 : decode cG_openUp 18 = .ok (.iastore, 1) := by decide +kernel
theorem dG_openUp_19 : decode cG_openUp 19 = .ok (.aload_n 0, 1) := by decide +kernel
theorem dG_openUp_20 : decode cG_openUp 20 = .ok (.getfield 36, 3) := by decide +kernel
theorem dG_openUp_23 : decode cG_openUp 23 = .ok (.aload_n 0, 1) := by decide +kernel
theorem dG_openUp_24 : decode cG_openUp 24 = .ok (.getfield 46, 3) := by decide +kernel
theorem dG_openUp_27 : decode cG_openUp 27 = .ok (.iload_n 2, 1) := by decide +kernel
theorem dG_openUp_28 : decode cG_openUp 28 = .ok (.iastore, 1) := by decide +kernel
theorem dG_openUp_29 : decode cG_openUp 29 = .ok (.aload_n 0, 1) := by decide +kernel
theorem dG_openUp_30 : decode cG_openUp 30 = .ok (.dup, 1) := by decide +kernel
theorem dG_openUp_31 : decode cG_openUp 31 = .ok (.getfield 46, 3) := by decide +kernel
theorem dG_openUp_34 : decode cG_openUp 34 = .ok (.iconst 1, 1) := by decide +kernel
theorem dG_openUp_35 : decode cG_openUp 35 = .ok (.iadd, 1) := by decide +kernel
theorem dG_openUp_36 : decode cG_openUp 36 = .ok (.putfield 46, 3) := by decide +kernel
theorem dG_openUp_39 : decode cG_openUp 39 = .ok (.return_, 1) := by decide +kernel
theorem dG_closeFull_0 : decode cG_closeFull 0 = .ok (.aload_n 0, 1) := by decide +kernel
theorem dG_closeFull_1 : decode cG_closeFull 1 = .ok (.getfield 46, 3) := by decide +kernel
theorem dG_closeFull_4 : decode cG_closeFull 4 = .ok (.ifCond .le 30, 3) := by decide +kernel
theorem dG_closeFull_7 : decode cG_closeFull 7 = .ok (.aload_n 0, 1) := by decide +kernel
theorem dG_closeFull_8 : decode cG_closeFull 8 = .ok (.getfield 36, 3) := by decide +kernel
theorem dG_closeFull_11 : decode cG_closeFull 11 = .ok (.aload_n 0, 1) := by decide +kernel
theorem dG_closeFull_12 : decode cG_closeFull 12 = .ok (.getfield 46, 3) := by decide +kernel
theorem dG_closeFull_15 : decode cG_closeFull 15 = .ok (.iconst 1, 1) := by decide +kernel
theorem dG_closeFull_16 : decode cG_closeFull 16 = .ok (.isub, 1) := by decide +kernel
theorem dG_closeFull_17 : decode cG_closeFull 17 = .ok (.iaload, 1) := by decide +kernel
theorem dG_closeFull_18 : decode cG_closeFull 18 = .ok (.ifCond .ne 16, 3) := by decide +kernel
theorem dG_closeFull_21 : decode cG_closeFull 21 = .ok (.aload_n 0, 1) := by decide +kernel
theorem dG_closeFull_22 : decode cG_closeFull 22 = .ok (.dup, 1) := by decide +kernel
theorem dG_closeFull_23 : decode cG_closeFull 23 = .ok (.getfield 46, 3) := by decide +kernel
theorem dG_closeFull_26 : decode cG_closeFull 26 = .ok (.iconst 1, 1) := by decide +kernel
theorem dG_closeFull_27 : decode cG_closeFull 27 = .ok (.isub, 1) := by decide +kernel
theorem dG_closeFull_28 : decode cG_closeFull 28 = .ok (.putfield 46, 3) := by decide +kernel
theorem dG_closeFull_31 : decode cG_closeFull 31 = .ok (.goto (-31), 3) := by decide +kernel
theorem dG_closeFull_34 : decode cG_closeFull 34 = .ok (.return_, 1) := by decide +kernel
theorem dL_start_0 : decode cL_start 0 = .ok (.aload_n 1, 1) := by decide +kernel
theorem dL_start_1 : decode cL_start 1 = .ok (.iconst 0, 1) := by decide +kernel
theorem dL_start_2 : decode cL_start 2 = .ok (.aload_n 0, 1) := by decide +kernel
theorem dL_start_3 : decode cL_start 3 = .ok (.invokevirtual 17, 3) := by decide +kernel
theorem dL_start_6 : decode cL_start 6 = .ok (.i2l, 1) := by decide +kernel
theorem dL_start_7 : decode cL_start 7 = .ok (.lastore, 1) := by decide +kernel
theorem dL_start_8 : decode cL_start 8 = .ok (.goto 6, 3) := by decide +kernel
theorem dL_start_11 : decode cL_start 11 = .ok (.astore_n 2, 1) := by decide +kernel
theorem dL_start_12 : decode cL_start 12 = .ok (.iconst 1, 1) := by decide +kernel
theorem dL_start_13 : decode cL_start 13 = .ok (.ireturn, 1) := by decide +kernel
theorem dL_start_14 : decode cL_start 14 = .ok (.iconst 0, 1) := by decide +kernel
theorem dL_start_15 : decode cL_start 15 = .ok (.ireturn, 1) := by decide +kernel
theorem dK_start_0 : decode cK_start 0 = .ok (.aload_n 0, 1) := by decide +kernel
theorem dK_start_1 : decode cK_start 1 = .ok (.getfield 10, 3) := by decide +kernel
theorem dK_start_4 : decode cK_start 4 = .ok (.invokevirtual 33, 3) := by decide +kernel
theorem dK_start_7 : decode cK_start 7 = .ok (.ifCond .ne 13, 3) := by decide +kernel
theorem dK_start_10 : decode cK_start 10 = .ok (.new 37, 3) := by decide +kernel
theorem dK_start_13 : decode cK_start 13 = .ok (.dup, 1) := by decide +kernel
theorem dK_start_14 : decode cK_start 14 = .ok (.ldc 64, 2) := by decide +kernel
theorem dK_start_16 : decode cK_start 16 = .ok (.invokespecial 41, 3) := by decide +kernel
theorem dK_start_19 : decode cK_start 19 = .ok (.athrow, 1) := by decide +kernel
theorem dK_start_20 : decode cK_start 20 = .ok (.aload_n 0, 1) := by decide +kernel
theorem dK_start_21 : decode cK_start 21 = .ok (.getfield 10, 3) := by decide +kernel
theorem dK_start_24 : decode cK_start 24 = .ok (.invokevirtual 66, 3) := by decide +kernel
theorem dK_start_27 : decode cK_start 27 = .ok (.istore_n 1, 1) := by decide +kernel
theorem dK_start_28 : decode cK_start 28 = .ok (.iload_n 1, 1) := by decide +kernel
theorem dK_start_29 : decode cK_start 29 = .ok (.iconst (-1), 1) := by decide +kernel
theorem dK_start_30 : decode cK_start 30 = .ok (.if_icmp .eq 7, 3) := by decide +kernel
theorem dK_start_33 : decode cK_start 33 = .ok (.iconst 1, 1) := by decide +kernel
theorem dK_start_34 : decode cK_start 34 = .ok (.iload_n 1, 1) := by decide +kernel
theorem dK_start_35 : decode cK_start 35 = .ok (.iadd, 1) := by decide +kernel
theorem dK_start_36 : decode cK_start 36 = .ok (.ireturn, 1) := by decide +kernel
theorem dK_start_37 : decode cK_start 37 = .ok (.aload_n 0, 1) := by decide +kernel
theorem dK_start_38 : decode cK_start 38 = .ok (.iconst 1, 1) := by decide +kernel
theorem dK_start_39 : decode cK_start 39 = .ok (.invokevirtual 70, 3) := by decide +kernel
theorem dK_start_42 : decode cK_start 42 = .ok (.iconst 0, 1) := by decide +kernel
theorem dK_start_43 : decode cK_start 43 = .ok (.ireturn, 1) := by decide +kernel
theorem dG_firstLoopAtOnce_0 : decode cG_firstLoopAtOnce 0 = .ok (.iconst (-1), 1) := by decide +kernel
theorem dG_firstLoopAtOnce_1 : decode cG_firstLoopAtOnce 1 = .ok (.istore_n 1, 1) := by decide +kernel
theorem dG_firstLoopAtOnce_2 : decode cG_firstLoopAtOnce 2 = .ok (.aload_n 0, 1) := by decide +kernel
theorem dG_firstLoopAtOnce_3 : decode cG_firstLoopAtOnce 3 = .ok (.getfield 52, 3) := by decide +kernel
theorem dG_firstLoopAtOnce_6 : decode cG_firstLoopAtOnce 6 = .ok (.istore_n 2, 1) := by decide +kernel
theorem dG_firstLoopAtOnce_7 : decode cG_firstLoopAtOnce 7 = .ok (.aload_n 0, 1) := by decide +kernel
theorem dG_firstLoopAtOnce_8 : decode cG_firstLoopAtOnce 8 = .ok (.getfield 43, 3) := by decide +kernel
theorem dG_firstLoopAtOnce_11 : decode cG_firstLoopAtOnce 11 = .ok (.iconst 1, 1) := by decide +kernel
theorem dG_firstLoopAtOnce_12 : decode cG_firstLoopAtOnce 12 = .ok (.isub, 1) := by decide +kernel
theorem dG_firstLoopAtOnce_13 : decode cG_firstLoopAtOnce 13 = .ok (.istore_n 3, 1) := by decide +kernel
theorem dG_firstLoopAtOnce_14 : decode cG_firstLoopAtOnce 14 = .ok (.iload_n 3, 1) := by decide +kernel
theorem dG_firstLoopAtOnce_15 : decode cG_firstLoopAtOnce 15 = .ok (.ifCond .lt 49, 3) := by decide +kernel
theorem dG_firstLoopAtOnce_18 : decode cG_firstLoopAtOnce 18 = .ok (.aload_n 0, 1) := by decide +kernel
theorem dG_firstLoopAtOnce_19 : decode cG_firstLoopAtOnce 19 = .ok (.getfield 30, 3) := by decide +kernel
theorem dG_firstLoopAtOnce_22 : decode cG_firstLoopAtOnce 22 = .ok (.iload_n 3, 1) := by decide +kernel
theorem dG_firstLoopAtOnce_23 : decode cG_firstLoopAtOnce 23 = .ok (.aload_n 0, 1) := by decide +kernel
theorem dG_firstLoopAtOnce_24 : decode cG_firstLoopAtOnce 24 = .ok (.iload_n 3, 1) := by decide +kernel
theorem dG_firstLoopAtOnce_25 : decode cG_firstLoopAtOnce 25 = .ok (.invokevirtual 93, 3) := by decide +kernel
theorem dG_firstLoopAtOnce_28 : decode cG_firstLoopAtOnce 28 = .ok (.iastore, 1) := by decide +kernel
theorem dG_firstLoopAtOnce_29 : decode cG_firstLoopAtOnce 29 = .ok (.aload_n 0, 1) := by decide +kernel
theorem dG_firstLoopAtOnce_30 : decode cG_firstLoopAtOnce 30 = .ok (.getfield 9, 3) := by decide +kernel
theorem dG_firstLoopAtOnce_33 : decode cG_firstLoopAtOnce 33 = .ok (.iload_n 3, 1) := by decide +kernel
theorem dG_firstLoopAtOnce_34 : decode cG_firstLoopAtOnce 34 = .ok (.iaload, 1) := by decide +kernel
theorem dG_firstLoopAtOnce_35 : decode cG_firstLoopAtOnce 35 = .ok (.bipush 8, 2) := by decide +kernel
theorem dG_firstLoopAtOnce_37 : decode cG_firstLoopAtOnce 37 = .ok (.if_icmp .ne 21, 3) := by decide +kernel
theorem dG_firstLoopAtOnce_40 : decode cG_firstLoopAtOnce 40 = .ok (.iinc 2 (-1), 3) := by decide +kernel
theorem dG_firstLoopAtOnce_43 : decode cG_firstLoopAtOnce 43 = .ok (.aload_n 0, 1) := by decide +kernel
theorem dG_firstLoopAtOnce_44 : decode cG_firstLoopAtOnce 44 = .ok (.iload_n 3, 1) := by decide +kernel
theorem dG_firstLoopAtOnce_45 : decode cG_firstLoopAtOnce 45 = .ok (.iconst 1, 1) := by decide +kernel
theorem dG_firstLoopAtOnce_46 : decode cG_firstLoopAtOnce 46 = .ok (.iadd, 1) := by decide +kernel
theorem dG_firstLoopAtOnce_47 : decode cG_firstLoopAtOnce 47 = .ok (.invokevirtual 96, 3) := by decide +kernel
theorem dG_firstLoopAtOnce_50 : decode cG_firstLoopAtOnce 50 = .ok (.invokestatic 99, 3) := by decide +kernel
theorem dG_firstLoopAtOnce_53 : decode cG_firstLoopAtOnce 53 = .ok (.ifCond .eq 5, 3) := by decide +kernel
theorem dG_firstLoopAtOnce_56 : decode cG_firstLoopAtOnce 56 = .ok (.iload_n 2, 1) := by decide +kernel
theorem dG_firstLoopAtOnce_57 : decode cG_firstLoopAtOnce 57 = .ok (.istore_n 1, 1) := by decide +kernel
theorem dG_firstLoopAtOnce_58 : decode cG_firstLoopAtOnce 58 = .ok (.iinc 3 (-1), 3) := by decide +kernel
theorem dG_firstLoopAtOnce_61 : decode cG_firstLoopAtOnce 61 = .ok (.goto (-47), 3) := by decide +kernel
theorem dG_firstLoopAtOnce_64 : decode cG_firstLoopAtOnce 64 = .ok (.iload_n 1, 1) := by decide +kernel
theorem dG_firstLoopAtOnce_65 : decode cG_firstLoopAtOnce 65 = .ok (.ireturn, 1) := by decide +kernel
theorem dG_findStartCodes_0 : decode cG_findStartCodes 0 = .ok (.aload_n 0, 1) := by decide +kernel
theorem dG_findStartCodes_1 : decode cG_findStartCodes 1 = .ok (.iload_n 1, 1) := by decide +kernel
theorem dG_findStartCodes_2 : decode cG_findStartCodes 2 = .ok (.iconst 1, 1) := by decide +kernel
theorem dG_findStartCodes_3 : decode cG_findStartCodes 3 = .ok (.iadd, 1) := by decide +kernel
theorem dG_findStartCodes_4 : decode cG_findStartCodes 4 = .ok (.invokevirtual 96, 3) := by decide +kernel
theorem dG_findStartCodes_7 : decode cG_findStartCodes 7 = .ok (.istore_n 2, 1) := by decide +kernel
theorem dG_findStartCodes_8 : decode cG_findStartCodes 8 = .ok (.aload_n 0, 1) := by decide +kernel
theorem dG_findStartCodes_9 : decode cG_findStartCodes 9 = .ok (.aload_n 0, 1) := by decide +kernel
theorem dG_findStartCodes_10 : decode cG_findStartCodes 10 = .ok (.iload_n 1, 1) := by decide +kernel
theorem dG_findStartCodes_11 : decode cG_findStartCodes 11 = .ok (.invokevirtual 104, 3) := by decide +kernel
theorem dG_findStartCodes_14 : decode cG_findStartCodes 14 = .ok (.invokevirtual 96, 3) := by decide +kernel
theorem dG_findStartCodes_17 : decode cG_findStartCodes 17 = .ok (.istore_n 3, 1) := by decide +kernel
theorem dG_findStartCodes_18 : decode cG_findStartCodes 18 = .ok (.aload_n 0, 1) := by decide +kernel
theorem dG_findStartCodes_19 : decode cG_findStartCodes 19 = .ok (.iload_n 1, 1) := by decide +kernel
theorem dG_findStartCodes_20 : decode cG_findStartCodes 20 = .ok (.invokevirtual 69, 3) := by decide +kernel
theorem dG_findStartCodes_23 : decode cG_findStartCodes 23 = .ok (.tableswitch 92 1 10 #[53, 92, 55, 64, 68, 75, 81, 70, 87, 68], 53) := by decide +kernel
theorem dG_findStartCodes_76 : decode cG_findStartCodes 76 = .ok (.iconst 2, 1) := by decide +kernel
theorem dG_findStartCodes_77 : decode cG_findStartCodes 77 = .ok (.ireturn, 1) := by decide +kernel
theorem dG_findStartCodes_78 : decode cG_findStartCodes 78 = .ok (.aload_n 0, 1) := by decide +kernel
theorem dG_findStartCodes_79 : decode cG_findStartCodes 79 = .ok (.iload_n 1, 1) := by decide +kernel
theorem dG_findStartCodes_80 : decode cG_findStartCodes 80 = .ok (.invokevirtual 107, 3) := by decide +kernel
theorem dG_findStartCodes_83 : decode cG_findStartCodes 83 = .ok (.invokestatic 110, 3) := by decide +kernel
theorem dG_findStartCodes_86 : decode cG_findStartCodes 86 = .ok (.ireturn, 1) := by decide +kernel
theorem dG_findStartCodes_87 : decode cG_findStartCodes 87 = .ok (.iload_n 2, 1) := by decide +kernel
theorem dG_findStartCodes_88 : decode cG_findStartCodes 88 = .ok (.iload_n 3, 1) := by decide +kernel
theorem dG_findStartCodes_89 : decode cG_findStartCodes 89 = .ok (.ior, 1) := by decide +kernel
theorem dG_findStartCodes_90 : decode cG_findStartCodes 90 = .ok (.ireturn, 1) := by decide +kernel
theorem dG_findStartCodes_91 : decode cG_findStartCodes 91 = .ok (.iload_n 2, 1) := by decide +kernel
theorem dG_findStartCodes_92 : decode cG_findStartCodes 92 = .ok (.ireturn, 1) := by decide +kernel
theorem dG_findStartCodes_93 : decode cG_findStartCodes 93 = .ok (.iload_n 2, 1) := by decide +kernel
theorem dG_findStartCodes_94 : decode cG_findStartCodes 94 = .ok (.invokestatic 113, 3) := by decide +kernel
theorem dG_findStartCodes_97 : decode cG_findStartCodes 97 = .ok (.ireturn, 1) := by decide +kernel
theorem dG_findStartCodes_98 : decode cG_findStartCodes 98 = .ok (.iload_n 2, 1) := by decide +kernel
theorem dG_findStartCodes_99 : decode cG_findStartCodes 99 = .ok (.iload_n 3, 1) := by decide +kernel
theorem dG_findStartCodes_100 : decode cG_findStartCodes 100 = .ok (.invokestatic 116, 3) := by decide +kernel
theorem dG_findStartCodes_103 : decode cG_findStartCodes 103 = .ok (.ireturn, 1) := by decide +kernel
theorem dG_findStartCodes_104 : decode cG_findStartCodes 104 = .ok (.iload_n 2, 1) := by decide +kernel
theorem dG_findStartCodes_105 : decode cG_findStartCodes 105 = .ok (.iload_n 3, 1) := by decide +kernel
theorem dG_findStartCodes_106 : decode cG_findStartCodes 106 = .ok (.invokestatic 120, 3) := by decide +kernel
theorem dG_findStartCodes_109 : decode cG_findStartCodes 109 = .ok (.ireturn, 1) := by decide +kernel
theorem dG_findStartCodes_110 : decode cG_findStartCodes 110 = .ok (.iload_n 2, 1) := by decide +kernel
theorem dG_findStartCodes_111 : decode cG_findStartCodes 111 = .ok (.invokestatic 123, 3) := by decide +kernel
theorem dG_findStartCodes_114 : decode cG_findStartCodes 114 = .ok (.ireturn, 1) := by decide +kernel
theorem dG_findStartCodes_115 : decode cG_findStartCodes 115 = .ok (.iconst 1, 1) := by decide +kernel
theorem dG_findStartCodes_116 : decode cG_findStartCodes 116 = .ok (.ireturn, 1) := by decide +kernel
theorem dG_startCodesOf_0 : decode cG_startCodesOf 0 = .ok (.aload_n 0, 1) := by decide +kernel
theorem dG_startCodesOf_1 : decode cG_startCodesOf 1 = .ok (.iload_n 1, 1) := by decide +kernel
theorem dG_startCodesOf_2 : decode cG_startCodesOf 2 = .ok (.invokevirtual 58, 3) := by decide +kernel
theorem dG_startCodesOf_5 : decode cG_startCodesOf 5 = .ok (.ifCond .eq 12, 3) := by decide +kernel
theorem dG_startCodesOf_8 : decode cG_startCodesOf 8 = .ok (.aload_n 0, 1) := by decide +kernel
theorem dG_startCodesOf_9 : decode cG_startCodesOf 9 = .ok (.getfield 30, 3) := by decide +kernel
theorem dG_startCodesOf_12 : decode cG_startCodesOf 12 = .ok (.iload_n 1, 1) := by decide +kernel
theorem dG_startCodesOf_13 : decode cG_startCodesOf 13 = .ok (.iaload, 1) := by decide +kernel
theorem dG_startCodesOf_14 : decode cG_startCodesOf 14 = .ok (.goto 4, 3) := by decide +kernel
theorem dG_startCodesOf_17 : decode cG_startCodesOf 17 = .ok (.iconst 0, 1) := by decide +kernel
theorem dG_startCodesOf_18 : decode cG_startCodesOf 18 = .ok (.ireturn, 1) := by decide +kernel
theorem dG_secondOf_0 : decode cG_secondOf 0 = .ok (.aload_n 0, 1) := by decide +kernel
theorem dG_secondOf_1 : decode cG_secondOf 1 = .ok (.iload_n 1, 1) := by decide +kernel
theorem dG_secondOf_2 : decode cG_secondOf 2 = .ok (.invokevirtual 58, 3) := by decide +kernel
theorem dG_secondOf_5 : decode cG_secondOf 5 = .ok (.ifCond .eq 12, 3) := by decide +kernel
theorem dG_secondOf_8 : decode cG_secondOf 8 = .ok (.aload_n 0, 1) := by decide +kernel
theorem dG_secondOf_9 : decode cG_secondOf 9 = .ok (.getfield 18, 3) := by decide +kernel
theorem dG_secondOf_12 : decode cG_secondOf 12 = .ok (.iload_n 1, 1) := by decide +kernel
theorem dG_secondOf_13 : decode cG_secondOf 13 = .ok (.iaload, 1) := by decide +kernel
theorem dG_secondOf_14 : decode cG_secondOf 14 = .ok (.goto 4, 3) := by decide +kernel
theorem dG_secondOf_17 : decode cG_secondOf 17 = .ok (.iconst (-1), 1) := by decide +kernel
theorem dG_secondOf_18 : decode cG_secondOf 18 = .ok (.ireturn, 1) := by decide +kernel
theorem dG_operandOf_0 : decode cG_operandOf 0 = .ok (.aload_n 0, 1) := by decide +kernel
theorem dG_operandOf_1 : decode cG_operandOf 1 = .ok (.iload_n 1, 1) := by decide +kernel
theorem dG_operandOf_2 : decode cG_operandOf 2 = .ok (.invokevirtual 58, 3) := by decide +kernel
theorem dG_operandOf_5 : decode cG_operandOf 5 = .ok (.ifCond .eq 12, 3) := by decide +kernel
theorem dG_operandOf_8 : decode cG_operandOf 8 = .ok (.aload_n 0, 1) := by decide +kernel
theorem dG_operandOf_9 : decode cG_operandOf 9 = .ok (.getfield 15, 3) := by decide +kernel
theorem dG_operandOf_12 : decode cG_operandOf 12 = .ok (.iload_n 1, 1) := by decide +kernel
theorem dG_operandOf_13 : decode cG_operandOf 13 = .ok (.iaload, 1) := by decide +kernel
theorem dG_operandOf_14 : decode cG_operandOf 14 = .ok (.goto 4, 3) := by decide +kernel
theorem dG_operandOf_17 : decode cG_operandOf 17 = .ok (.iconst 0, 1) := by decide +kernel
theorem dG_operandOf_18 : decode cG_operandOf 18 = .ok (.ireturn, 1) := by decide +kernel
theorem dC_ofExit_0 : decode cC_ofExit 0 = .ok (.iconst 4, 1) := by decide +kernel
theorem dC_ofExit_1 : decode cC_ofExit 1 = .ok (.iload_n 0, 1) := by decide +kernel
theorem dC_ofExit_2 : decode cC_ofExit 2 = .ok (.ishl, 1) := by decide +kernel
theorem dC_ofExit_3 : decode cC_ofExit 3 = .ok (.ireturn, 1) := by decide +kernel
theorem dC_withoutZero_0 : decode cC_withoutZero 0 = .ok (.iload_n 0, 1) := by decide +kernel
theorem dC_withoutZero_1 : decode cC_withoutZero 1 = .ok (.bipush (-2), 2) := by decide +kernel
theorem dC_withoutZero_3 : decode cC_withoutZero 3 = .ok (.iand, 1) := by decide +kernel
theorem dC_withoutZero_4 : decode cC_withoutZero 4 = .ok (.ireturn, 1) := by decide +kernel
theorem dC_inSequence_0 : decode cC_inSequence 0 = .ok (.iload_n 0, 1) := by decide +kernel
theorem dC_inSequence_1 : decode cC_inSequence 1 = .ok (.invokestatic 9, 3) := by decide +kernel
theorem dC_inSequence_4 : decode cC_inSequence 4 = .ok (.ifCond .eq 12, 3) := by decide +kernel
theorem dC_inSequence_7 : decode cC_inSequence 7 = .ok (.iload_n 0, 1) := by decide +kernel
theorem dC_inSequence_8 : decode cC_inSequence 8 = .ok (.invokestatic 13, 3) := by decide +kernel
theorem dC_inSequence_11 : decode cC_inSequence 11 = .ok (.iload_n 1, 1) := by decide +kernel
theorem dC_inSequence_12 : decode cC_inSequence 12 = .ok (.ior, 1) := by decide +kernel
theorem dC_inSequence_13 : decode cC_inSequence 13 = .ok (.goto 4, 3) := by decide +kernel
theorem dC_inSequence_16 : decode cC_inSequence 16 = .ok (.iload_n 0, 1) := by decide +kernel
theorem dC_inSequence_17 : decode cC_inSequence 17 = .ok (.ireturn, 1) := by decide +kernel
theorem dC_haveZero_0 : decode cC_haveZero 0 = .ok (.iload_n 0, 1) := by decide +kernel
theorem dC_haveZero_1 : decode cC_haveZero 1 = .ok (.iconst 1, 1) := by decide +kernel
theorem dC_haveZero_2 : decode cC_haveZero 2 = .ok (.iand, 1) := by decide +kernel
theorem dC_haveZero_3 : decode cC_haveZero 3 = .ok (.ifCond .eq 7, 3) := by decide +kernel
theorem dC_haveZero_6 : decode cC_haveZero 6 = .ok (.iconst 1, 1) := by decide +kernel
theorem dC_haveZero_7 : decode cC_haveZero 7 = .ok (.goto 4, 3) := by decide +kernel
theorem dC_haveZero_10 : decode cC_haveZero 10 = .ok (.iconst 0, 1) := by decide +kernel
theorem dC_haveZero_11 : decode cC_haveZero 11 = .ok (.ireturn, 1) := by decide +kernel
theorem dC_greaterOfPairs_0 : decode cC_greaterOfPairs 0 = .ok (.iload_n 0, 1) := by decide +kernel
theorem dC_greaterOfPairs_1 : decode cC_greaterOfPairs 1 = .ok (.ifCond .eq 7, 3) := by decide +kernel
theorem dC_greaterOfPairs_4 : decode cC_greaterOfPairs 4 = .ok (.iload_n 1, 1) := by decide +kernel
theorem dC_greaterOfPairs_5 : decode cC_greaterOfPairs 5 = .ok (.ifCond .ne 5, 3) := by decide +kernel
theorem dC_greaterOfPairs_8 : decode cC_greaterOfPairs 8 = .ok (.iconst 0, 1) := by decide +kernel
theorem dC_greaterOfPairs_9 : decode cC_greaterOfPairs 9 = .ok (.ireturn, 1) := by decide +kernel
theorem dC_greaterOfPairs_10 : decode cC_greaterOfPairs 10 = .ok (.iload_n 0, 1) := by decide +kernel
theorem dC_greaterOfPairs_11 : decode cC_greaterOfPairs 11 = .ok (.iload_n 0, 1) := by decide +kernel
theorem dC_greaterOfPairs_12 : decode cC_greaterOfPairs 12 = .ok (.ineg, 1) := by decide +kernel
theorem dC_greaterOfPairs_13 : decode cC_greaterOfPairs 13 = .ok (.iand, 1) := by decide +kernel
theorem dC_greaterOfPairs_14 : decode cC_greaterOfPairs 14 = .ok (.iload_n 1, 1) := by decide +kernel
theorem dC_greaterOfPairs_15 : decode cC_greaterOfPairs 15 = .ok (.iload_n 1, 1) := by decide +kernel
theorem dC_greaterOfPairs_16 : decode cC_greaterOfPairs 16 = .ok (.ineg, 1) := by decide +kernel
theorem dC_greaterOfPairs_17 : decode cC_greaterOfPairs 17 = .ok (.iand, 1) := by decide +kernel
theorem dC_greaterOfPairs_18 : decode cC_greaterOfPairs 18 = .ok (.invokestatic 17, 3) := by decide +kernel
theorem dC_greaterOfPairs_21 : decode cC_greaterOfPairs 21 = .ok (.istore_n 2, 1) := by decide +kernel
theorem dC_greaterOfPairs_22 : decode cC_greaterOfPairs 22 = .ok (.iload_n 0, 1) := by decide +kernel
theorem dC_greaterOfPairs_23 : decode cC_greaterOfPairs 23 = .ok (.iload_n 1, 1) := by decide +kernel
theorem dC_greaterOfPairs_24 : decode cC_greaterOfPairs 24 = .ok (.ior, 1) := by decide +kernel
theorem dC_greaterOfPairs_25 : decode cC_greaterOfPairs 25 = .ok (.iload_n 2, 1) := by decide +kernel
theorem dC_greaterOfPairs_26 : decode cC_greaterOfPairs 26 = .ok (.ineg, 1) := by decide +kernel
theorem dC_greaterOfPairs_27 : decode cC_greaterOfPairs 27 = .ok (.iand, 1) := by decide +kernel
theorem dC_greaterOfPairs_28 : decode cC_greaterOfPairs 28 = .ok (.ireturn, 1) := by decide +kernel
theorem dC_outsideTrap_0 : decode cC_outsideTrap 0 = .ok (.iload_n 0, 1) := by decide +kernel
theorem dC_outsideTrap_1 : decode cC_outsideTrap 1 = .ok (.iconst 4, 1) := by decide +kernel
theorem dC_outsideTrap_2 : decode cC_outsideTrap 2 = .ok (.iand, 1) := by decide +kernel
theorem dC_outsideTrap_3 : decode cC_outsideTrap 3 = .ok (.ifCond .eq 7, 3) := by decide +kernel
theorem dC_outsideTrap_6 : decode cC_outsideTrap 6 = .ok (.iconst 1, 1) := by decide +kernel
theorem dC_outsideTrap_7 : decode cC_outsideTrap 7 = .ok (.goto 4, 3) := by decide +kernel
theorem dC_outsideTrap_10 : decode cC_outsideTrap 10 = .ok (.iconst 0, 1) := by decide +kernel
theorem dC_outsideTrap_11 : decode cC_outsideTrap 11 = .ok (.istore_n 1, 1) := by decide +kernel
theorem dC_outsideTrap_12 : decode cC_outsideTrap 12 = .ok (.iload_n 0, 1) := by decide +kernel
theorem dC_outsideTrap_13 : decode cC_outsideTrap 13 = .ok (.iconst 3, 1) := by decide +kernel
theorem dC_outsideTrap_14 : decode cC_outsideTrap 14 = .ok (.ishr, 1) := by decide +kernel
theorem dC_outsideTrap_15 : decode cC_outsideTrap 15 = .ok (.iconst 2, 1) := by decide +kernel
theorem dC_outsideTrap_16 : decode cC_outsideTrap 16 = .ok (.ishl, 1) := by decide +kernel
theorem dC_outsideTrap_17 : decode cC_outsideTrap 17 = .ok (.istore_n 2, 1) := by decide +kernel
theorem dC_outsideTrap_18 : decode cC_outsideTrap 18 = .ok (.iload_n 0, 1) := by decide +kernel
theorem dC_outsideTrap_19 : decode cC_outsideTrap 19 = .ok (.iconst 3, 1) := by decide +kernel
theorem dC_outsideTrap_20 : decode cC_outsideTrap 20 = .ok (.iand, 1) := by decide +kernel
theorem dC_outsideTrap_21 : decode cC_outsideTrap 21 = .ok (.iload_n 1, 1) := by decide +kernel
theorem dC_outsideTrap_22 : decode cC_outsideTrap 22 = .ok (.ior, 1) := by decide +kernel
theorem dC_outsideTrap_23 : decode cC_outsideTrap 23 = .ok (.iload_n 2, 1) := by decide +kernel
theorem dC_outsideTrap_24 : decode cC_outsideTrap 24 = .ok (.ior, 1) := by decide +kernel
theorem dC_outsideTrap_25 : decode cC_outsideTrap 25 = .ok (.ireturn, 1) := by decide +kernel
theorem dL_instant_0 : decode cL_instant 0 = .ok (.aload_n 2, 1) := by decide +kernel
theorem dL_instant_1 : decode cL_instant 1 = .ok (.iconst 0, 1) := by decide +kernel
theorem dL_instant_2 : decode cL_instant 2 = .ok (.aload_n 0, 1) := by decide +kernel
theorem dL_instant_3 : decode cL_instant 3 = .ok (.iload_n 1, 1) := by decide +kernel
theorem dL_instant_4 : decode cL_instant 4 = .ok (.invokevirtual 21, 3) := by decide +kernel
theorem dL_instant_7 : decode cL_instant 7 = .ok (.i2l, 1) := by decide +kernel
theorem dL_instant_8 : decode cL_instant 8 = .ok (.lastore, 1) := by decide +kernel
theorem dL_instant_9 : decode cL_instant 9 = .ok (.goto 9, 3) := by decide +kernel
theorem dL_instant_12 : decode cL_instant 12 = .ok (.astore_n 3, 1) := by decide +kernel
theorem dL_instant_13 : decode cL_instant 13 = .ok (.iconst 1, 1) := by decide +kernel
theorem dL_instant_14 : decode cL_instant 14 = .ok (.ireturn, 1) := by decide +kernel
theorem dL_instant_15 : decode cL_instant 15 = .ok (.astore_n 3, 1) := by decide +kernel
theorem dL_instant_16 : decode cL_instant 16 = .ok (.iconst 2, 1) := by decide +kernel
theorem dL_instant_17 : decode cL_instant 17 = .ok (.ireturn, 1) := by decide +kernel
theorem dL_instant_18 : decode cL_instant 18 = .ok (.iconst 0, 1) := by decide +kernel
theorem dL_instant_19 : decode cL_instant 19 = .ok (.ireturn, 1) := by decide +kernel
theorem dK_instant_0 : decode cK_instant 0 = .ok (.aload_n 0, 1) := by decide +kernel
theorem dK_instant_1 : decode cK_instant 1 = .ok (.getfield 25, 3) := by decide +kernel
theorem dK_instant_4 : decode cK_instant 4 = .ok (.iconst 1, 1) := by decide +kernel
theorem dK_instant_5 : decode cK_instant 5 = .ok (.if_icmp .eq 13, 3) := by decide +kernel
theorem dK_instant_8 : decode cK_instant 8 = .ok (.new 37, 3) := by decide +kernel
theorem dK_instant_11 : decode cK_instant 11 = .ok (.dup, 1) := by decide +kernel
theorem dK_instant_12 : decode cK_instant 12 = .ok (.ldc 77, 2) := by decide +kernel
theorem dK_instant_14 : decode cK_instant 14 = .ok (.invokespecial 41, 3) := by decide +kernel
theorem dK_instant_17 : decode cK_instant 17 = .ok (.athrow, 1) := by decide +kernel
theorem dK_instant_18 : decode cK_instant 18 = .ok (.iload_n 1, 1) := by decide +kernel
theorem dK_instant_19 : decode cK_instant 19 = .ok (.ifCond .lt 9, 3) := by decide +kernel
theorem dK_instant_22 : decode cK_instant 22 = .ok (.iload_n 1, 1) := by decide +kernel
theorem dK_instant_23 : decode cK_instant 23 = .ok (.bipush 16, 2) := by decide +kernel
theorem dK_instant_25 : decode cK_instant 25 = .ok (.if_icmp .lt 13, 3) := by decide +kernel
theorem dK_instant_28 : decode cK_instant 28 = .ok (.new 48, 3) := by decide +kernel
theorem dK_instant_31 : decode cK_instant 31 = .ok (.dup, 1) := by decide +kernel
theorem dK_instant_32 : decode cK_instant 32 = .ok (.ldc 79, 2) := by decide +kernel
theorem dK_instant_34 : decode cK_instant 34 = .ok (.invokespecial 52, 3) := by decide +kernel
theorem dK_instant_37 : decode cK_instant 37 = .ok (.athrow, 1) := by decide +kernel
theorem dK_instant_38 : decode cK_instant 38 = .ok (.aload_n 0, 1) := by decide +kernel
theorem dK_instant_39 : decode cK_instant 39 = .ok (.getfield 21, 3) := by decide +kernel
theorem dK_instant_42 : decode cK_instant 42 = .ok (.iload_n 1, 1) := by decide +kernel
theorem dK_instant_43 : decode cK_instant 43 = .ok (.invokevirtual 81, 3) := by decide +kernel
theorem dK_instant_46 : decode cK_instant 46 = .ok (.istore_n 2, 1) := by decide +kernel
theorem dK_instant_47 : decode cK_instant 47 = .ok (.aload_n 0, 1) := by decide +kernel
theorem dK_instant_48 : decode cK_instant 48 = .ok (.aload_n 0, 1) := by decide +kernel
theorem dK_instant_49 : decode cK_instant 49 = .ok (.getfield 21, 3) := by decide +kernel
theorem dK_instant_52 : decode cK_instant 52 = .ok (.getfield 84, 3) := by decide +kernel
theorem dK_instant_55 : decode cK_instant 55 = .ok (.putfield 30, 3) := by decide +kernel
theorem dK_instant_58 : decode cK_instant 58 = .ok (.aload_n 0, 1) := by decide +kernel
theorem dK_instant_59 : decode cK_instant 59 = .ok (.aload_n 0, 1) := by decide +kernel
theorem dK_instant_60 : decode cK_instant 60 = .ok (.getfield 21, 3) := by decide +kernel
theorem dK_instant_63 : decode cK_instant 63 = .ok (.getfield 87, 3) := by decide +kernel
theorem dK_instant_66 : decode cK_instant 66 = .ok (.putfield 90, 3) := by decide +kernel
theorem dK_instant_69 : decode cK_instant 69 = .ok (.iload_n 2, 1) := by decide +kernel
theorem dK_instant_70 : decode cK_instant 70 = .ok (.ifCond .ne 5, 3) := by decide +kernel
theorem dK_instant_73 : decode cK_instant 73 = .ok (.iconst 2, 1) := by decide +kernel
theorem dK_instant_74 : decode cK_instant 74 = .ok (.ireturn, 1) := by decide +kernel
theorem dK_instant_75 : decode cK_instant 75 = .ok (.aload_n 0, 1) := by decide +kernel
theorem dK_instant_76 : decode cK_instant 76 = .ok (.dup, 1) := by decide +kernel
theorem dK_instant_77 : decode cK_instant 77 = .ok (.getfield 93, 3) := by decide +kernel
theorem dK_instant_80 : decode cK_instant 80 = .ok (.iconst 1, 1) := by decide +kernel
theorem dK_instant_81 : decode cK_instant 81 = .ok (.iadd, 1) := by decide +kernel
theorem dK_instant_82 : decode cK_instant 82 = .ok (.putfield 93, 3) := by decide +kernel
theorem dK_instant_85 : decode cK_instant 85 = .ok (.aload_n 0, 1) := by decide +kernel
theorem dK_instant_86 : decode cK_instant 86 = .ok (.getfield 21, 3) := by decide +kernel
theorem dK_instant_89 : decode cK_instant 89 = .ok (.invokevirtual 96, 3) := by decide +kernel
theorem dK_instant_92 : decode cK_instant 92 = .ok (.aload_n 0, 1) := by decide +kernel
theorem dK_instant_93 : decode cK_instant 93 = .ok (.getfield 21, 3) := by decide +kernel
theorem dK_instant_96 : decode cK_instant 96 = .ok (.invokevirtual 99, 3) := by decide +kernel
theorem dK_instant_99 : decode cK_instant 99 = .ok (.ifCond .eq 10, 3) := by decide +kernel
theorem dK_instant_102 : decode cK_instant 102 = .ok (.aload_n 0, 1) := by decide +kernel
theorem dK_instant_103 : decode cK_instant 103 = .ok (.iconst 2, 1) := by decide +kernel
theorem dK_instant_104 : decode cK_instant 104 = .ok (.putfield 25, 3) := by decide +kernel
theorem dK_instant_107 : decode cK_instant 107 = .ok (.iconst 1, 1) := by decide +kernel
theorem dK_instant_108 : decode cK_instant 108 = .ok (.ireturn, 1) := by decide +kernel
theorem dK_instant_109 : decode cK_instant 109 = .ok (.iconst 0, 1) := by decide +kernel
theorem dK_instant_110 : decode cK_instant 110 = .ok (.ireturn, 1) := by decide +kernel
theorem dX_isFound_0 : decode cX_isFound 0 = .ok (.aload_n 0, 1) := by decide +kernel
theorem dX_isFound_1 : decode cX_isFound 1 = .ok (.invokevirtual 27, 3) := by decide +kernel
theorem dX_isFound_4 : decode cX_isFound 4 = .ok (.aload_n 0, 1) := by decide +kernel
theorem dX_isFound_5 : decode cX_isFound 5 = .ok (.bipush 15, 2) := by decide +kernel
theorem dX_isFound_7 : decode cX_isFound 7 = .ok (.putfield 30, 3) := by decide +kernel
theorem dX_isFound_10 : decode cX_isFound 10 = .ok (.aload_n 0, 1) := by decide +kernel
theorem dX_isFound_11 : decode cX_isFound 11 = .ok (.iload_n 1, 1) := by decide +kernel
theorem dX_isFound_12 : decode cX_isFound 12 = .ok (.putfield 33, 3) := by decide +kernel
theorem dX_isFound_15 : decode cX_isFound 15 = .ok (.aload_n 0, 1) := by decide +kernel
theorem dX_isFound_16 : decode cX_isFound 16 = .ok (.iconst 1, 1) := by decide +kernel
theorem dX_isFound_17 : decode cX_isFound 17 = .ok (.putfield 36, 3) := by decide +kernel
theorem dX_isFound_20 : decode cX_isFound 20 = .ok (.iconst 0, 1) := by decide +kernel
theorem dX_isFound_21 : decode cX_isFound 21 = .ok (.istore_n 2, 1) := by decide +kernel
theorem dX_isFound_22 : decode cX_isFound 22 = .ok (.aload_n 0, 1) := by decide +kernel
theorem dX_isFound_23 : decode cX_isFound 23 = .ok (.getfield 36, 3) := by decide +kernel
theorem dX_isFound_26 : decode cX_isFound 26 = .ok (.ifCond .eq 41, 3) := by decide +kernel
theorem dX_isFound_29 : decode cX_isFound 29 = .ok (.iload_n 2, 1) := by decide +kernel
theorem dX_isFound_30 : decode cX_isFound 30 = .ok (.sipush 400, 3) := by decide +kernel
theorem dX_isFound_33 : decode cX_isFound 33 = .ok (.if_icmp .ge 34, 3) := by decide +kernel
theorem dX_isFound_36 : decode cX_isFound 36 = .ok (.aload_n 0, 1) := by decide +kernel
theorem dX_isFound_37 : decode cX_isFound 37 = .ok (.iconst 0, 1) := by decide +kernel
theorem dX_isFound_38 : decode cX_isFound 38 = .ok (.putfield 36, 3) := by decide +kernel
theorem dX_isFound_41 : decode cX_isFound 41 = .ok (.aload_n 0, 1) := by decide +kernel
theorem dX_isFound_42 : decode cX_isFound 42 = .ok (.iconst 0, 1) := by decide +kernel
theorem dX_isFound_43 : decode cX_isFound 43 = .ok (.putfield 39, 3) := by decide +kernel
theorem dX_isFound_46 : decode cX_isFound 46 = .ok (.aload_n 0, 1) := by decide +kernel
theorem dX_isFound_47 : decode cX_isFound 47 = .ok (.aload_n 0, 1) := by decide +kernel
theorem dX_isFound_48 : decode cX_isFound 48 = .ok (.iconst 0, 1) := by decide +kernel
theorem dX_isFound_49 : decode cX_isFound 49 = .ok (.iconst 0, 1) := by decide +kernel
theorem dX_isFound_50 : decode cX_isFound 50 = .ok (.iconst 1, 1) := by decide +kernel
theorem dX_isFound_51 : decode cX_isFound 51 = .ok (.invokevirtual 42, 3) := by decide +kernel
theorem dX_isFound_54 : decode cX_isFound 54 = .ok (.putfield 46, 3) := by decide +kernel
theorem dX_isFound_57 : decode cX_isFound 57 = .ok (.aload_n 0, 1) := by decide +kernel
theorem dX_isFound_58 : decode cX_isFound 58 = .ok (.invokevirtual 50, 3) := by decide +kernel
theorem dX_isFound_61 : decode cX_isFound 61 = .ok (.iinc 2 1, 3) := by decide +kernel
theorem dX_isFound_64 : decode cX_isFound 64 = .ok (.goto (-42), 3) := by decide +kernel
theorem dX_isFound_67 : decode cX_isFound 67 = .ok (.aload_n 0, 1) := by decide +kernel
theorem dX_isFound_68 : decode cX_isFound 68 = .ok (.invokevirtual 53, 3) := by decide +kernel
theorem dX_isFound_71 : decode cX_isFound 71 = .ok (.ifCond .eq 7, 3) := by decide +kernel
theorem dX_isFound_74 : decode cX_isFound 74 = .ok (.iconst 1, 1) := by decide +kernel
theorem dX_isFound_75 : decode cX_isFound 75 = .ok (.goto 4, 3) := by decide +kernel
theorem dX_isFound_78 : decode cX_isFound 78 = .ok (.iconst 0, 1) := by decide +kernel
theorem dX_isFound_79 : decode cX_isFound 79 = .ok (.ireturn, 1) := by decide +kernel
theorem dX_forgetLocals_0 : decode cX_forgetLocals 0 = .ok (.iconst 0, 1) := by decide +kernel
theorem dX_forgetLocals_1 : decode cX_forgetLocals 1 = .ok (.istore_n 1, 1) := by decide +kernel
theorem dX_forgetLocals_2 : decode cX_forgetLocals 2 = .ok (.iload_n 1, 1) := by decide +kernel
theorem dX_forgetLocals_3 : decode cX_forgetLocals 3 = .ok (.aload_n 0, 1) := by decide +kernel
theorem dX_forgetLocals_4 : decode cX_forgetLocals 4 = .ok (.getfield 15, 3) := by decide +kernel
theorem dX_forgetLocals_7 : decode cX_forgetLocals 7 = .ok (.getfield 57, 3) := by decide +kernel
theorem dX_forgetLocals_10 : decode cX_forgetLocals 10 = .ok (.if_icmp .ge 25, 3) := by decide +kernel
theorem dX_forgetLocals_13 : decode cX_forgetLocals 13 = .ok (.iload_n 1, 1) := by decide +kernel
theorem dX_forgetLocals_14 : decode cX_forgetLocals 14 = .ok (.aload_n 0, 1) := by decide +kernel
theorem dX_forgetLocals_15 : decode cX_forgetLocals 15 = .ok (.getfield 9, 3) := by decide +kernel
theorem dX_forgetLocals_18 : decode cX_forgetLocals 18 = .ok (.arraylength, 1) := by decide +kernel
theorem dX_forgetLocals_19 : decode cX_forgetLocals 19 = .ok (.if_icmp .ge 16, 3) := by decide +kernel
theorem dX_forgetLocals_22 : decode cX_forgetLocals 22 = .ok (.aload_n 0, 1) := by decide +kernel
theorem dX_forgetLocals_23 : decode cX_forgetLocals 23 = .ok (.getfield 9, 3) := by decide +kernel
theorem dX_forgetLocals_26 : decode cX_forgetLocals 26 = .ok (.iload_n 1, 1) := by decide +kernel
theorem dX_forgetLocals_27 : decode cX_forgetLocals 27 = .ok (.iconst 2, 1) := by decide +kernel
theorem dX_forgetLocals_28 : decode cX_forgetLocals 28 = .ok (.iastore, 1) := by decide +kernel
theorem dX_forgetLocals_29 : decode cX_forgetLocals 29 = .ok (.iinc 1 1, 3) := by decide +kernel
theorem dX_forgetLocals_32 : decode cX_forgetLocals 32 = .ok (.goto (-30), 3) := by decide +kernel
theorem dX_forgetLocals_35 : decode cX_forgetLocals 35 = .ok (.return_, 1) := by decide +kernel
theorem dX_run_0 : decode cX_run 0 = .ok (.aload_n 0, 1) := by decide +kernel
theorem dX_run_1 : decode cX_run 1 = .ok (.getfield 15, 3) := by decide +kernel
theorem dX_run_4 : decode cX_run 4 = .ok (.iload_n 1, 1) := by decide +kernel
theorem dX_run_5 : decode cX_run 5 = .ok (.invokevirtual 78, 3) := by decide +kernel
theorem dX_run_8 : decode cX_run 8 = .ok (.lookupswitch 44 #[(9, 28), (10, 36)], 28) := by decide +kernel
theorem dX_run_36 : decode cX_run 36 = .ok (.aload_n 0, 1) := by decide +kernel
theorem dX_run_37 : decode cX_run 37 = .ok (.iload_n 1, 1) := by decide +kernel
theorem dX_run_38 : decode cX_run 38 = .ok (.iload_n 2, 1) := by decide +kernel
theorem dX_run_39 : decode cX_run 39 = .ok (.iload_n 3, 1) := by decide +kernel
theorem dX_run_40 : decode cX_run 40 = .ok (.invokevirtual 81, 3) := by decide +kernel
theorem dX_run_43 : decode cX_run 43 = .ok (.lreturn, 1) := by decide +kernel
theorem dX_run_44 : decode cX_run 44 = .ok (.aload_n 0, 1) := by decide +kernel
theorem dX_run_45 : decode cX_run 45 = .ok (.iload_n 1, 1) := by decide +kernel
theorem dX_run_46 : decode cX_run 46 = .ok (.iload_n 2, 1) := by decide +kernel
theorem dX_run_47 : decode cX_run 47 = .ok (.iload_n 3, 1) := by decide +kernel
theorem dX_run_48 : decode cX_run 48 = .ok (.invokevirtual 84, 3) := by decide +kernel
theorem dX_run_51 : decode cX_run 51 = .ok (.lreturn, 1) := by decide +kernel
theorem dX_run_52 : decode cX_run 52 = .ok (.iload_n 2, 1) := by decide +kernel
theorem dX_run_53 : decode cX_run 53 = .ok (.ifCond .ne 19, 3) := by decide +kernel
theorem dX_run_56 : decode cX_run 56 = .ok (.aload_n 0, 1) := by decide +kernel
theorem dX_run_57 : decode cX_run 57 = .ok (.getfield 23, 3) := by decide +kernel
theorem dX_run_60 : decode cX_run 60 = .ok (.ifCond .eq 12, 3) := by decide +kernel
theorem dX_run_63 : decode cX_run 63 = .ok (.aload_n 0, 1) := by decide +kernel
theorem dX_run_64 : decode cX_run 64 = .ok (.iload_n 1, 1) := by decide +kernel
theorem dX_run_65 : decode cX_run 65 = .ok (.iload_n 3, 1) := by decide +kernel
theorem dX_run_66 : decode cX_run 66 = .ok (.invokevirtual 87, 3) := by decide +kernel
theorem dX_run_69 : decode cX_run 69 = .ok (.goto 10, 3) := by decide +kernel
theorem dX_run_72 : decode cX_run 72 = .ok (.aload_n 0, 1) := by decide +kernel
theorem dX_run_73 : decode cX_run 73 = .ok (.iload_n 1, 1) := by decide +kernel
theorem dX_run_74 : decode cX_run 74 = .ok (.iload_n 2, 1) := by decide +kernel
theorem dX_run_75 : decode cX_run 75 = .ok (.iload_n 3, 1) := by decide +kernel
theorem dX_run_76 : decode cX_run 76 = .ok (.invokevirtual 91, 3) := by decide +kernel
theorem dX_run_79 : decode cX_run 79 = .ok (.lreturn, 1) := by decide +kernel
theorem dX_runTrap_0 : decode cX_runTrap 0 = .ok (.aload_n 0, 1) := by decide +kernel
theorem dX_runTrap_1 : decode cX_runTrap 1 = .ok (.iload_n 1, 1) := by decide +kernel
theorem dX_runTrap_2 : decode cX_runTrap 2 = .ok (.iconst 1, 1) := by decide +kernel
theorem dX_runTrap_3 : decode cX_runTrap 3 = .ok (.iadd, 1) := by decide +kernel
theorem dX_runTrap_4 : decode cX_runTrap 4 = .ok (.iload_n 2, 1) := by decide +kernel
theorem dX_runTrap_5 : decode cX_runTrap 5 = .ok (.iload_n 3, 1) := by decide +kernel
theorem dX_runTrap_6 : decode cX_runTrap 6 = .ok (.invokevirtual 42, 3) := by decide +kernel
theorem dX_runTrap_9 : decode cX_runTrap 9 = .ok (.lstore 4, 2) := by decide +kernel
theorem dX_runTrap_11 : decode cX_runTrap 11 = .ok (.lload 4, 2) := by decide +kernel
theorem dX_runTrap_13 : decode cX_runTrap 13 = .ok (.invokestatic 64, 3) := by decide +kernel
theorem dX_runTrap_16 : decode cX_runTrap 16 = .ok (.invokestatic 70, 3) := by decide +kernel
theorem dX_runTrap_19 : decode cX_runTrap 19 = .ok (.iconst 4, 1) := by decide +kernel
theorem dX_runTrap_20 : decode cX_runTrap 20 = .ok (.if_icmp .ne 22, 3) := by decide +kernel
theorem dX_runTrap_23 : decode cX_runTrap 23 = .ok (.aload_n 0, 1) := by decide +kernel
theorem dX_runTrap_24 : decode cX_runTrap 24 = .ok (.dup, 1) := by decide +kernel
theorem dX_runTrap_25 : decode cX_runTrap 25 = .ok (.getfield 39, 3) := by decide +kernel
theorem dX_runTrap_28 : decode cX_runTrap 28 = .ok (.aload_n 0, 1) := by decide +kernel
theorem dX_runTrap_29 : decode cX_runTrap 29 = .ok (.getfield 15, 3) := by decide +kernel
theorem dX_runTrap_32 : decode cX_runTrap 32 = .ok (.iload_n 1, 1) := by decide +kernel
theorem dX_runTrap_33 : decode cX_runTrap 33 = .ok (.invokevirtual 97, 3) := by decide +kernel
theorem dX_runTrap_36 : decode cX_runTrap 36 = .ok (.iconst (-1), 1) := by decide +kernel
theorem dX_runTrap_37 : decode cX_runTrap 37 = .ok (.ixor, 1) := by decide +kernel
theorem dX_runTrap_38 : decode cX_runTrap 38 = .ok (.iand, 1) := by decide +kernel
theorem dX_runTrap_39 : decode cX_runTrap 39 = .ok (.putfield 39, 3) := by decide +kernel
theorem dX_runTrap_42 : decode cX_runTrap 42 = .ok (.lload 4, 2) := by decide +kernel
theorem dX_runTrap_44 : decode cX_runTrap 44 = .ok (.invokestatic 147, 3) := by decide +kernel
theorem dX_runTrap_47 : decode cX_runTrap 47 = .ok (.lreturn, 1) := by decide +kernel
theorem dO_must_0 : decode cO_must 0 = .ok (.lload_n 0, 1) := by decide +kernel
theorem dO_must_1 : decode cO_must 1 = .ok (.bipush 32, 2) := by decide +kernel
theorem dO_must_3 : decode cO_must 3 = .ok (.lushr, 1) := by decide +kernel
theorem dO_must_4 : decode cO_must 4 = .ok (.l2i, 1) := by decide +kernel
theorem dO_must_5 : decode cO_must 5 = .ok (.ireturn, 1) := by decide +kernel
theorem dO_codesIn_0 : decode cO_codesIn 0 = .ok (.iload_n 0, 1) := by decide +kernel
theorem dO_codesIn_1 : decode cO_codesIn 1 = .ok (.bipush 16, 2) := by decide +kernel
theorem dO_codesIn_3 : decode cO_codesIn 3 = .ok (.ishr, 1) := by decide +kernel
theorem dO_codesIn_4 : decode cO_codesIn 4 = .ok (.ireturn, 1) := by decide +kernel
theorem dG_pausesIn_0 : decode cG_pausesIn 0 = .ok (.aload_n 0, 1) := by decide +kernel
theorem dG_pausesIn_1 : decode cG_pausesIn 1 = .ok (.iload_n 1, 1) := by decide +kernel
theorem dG_pausesIn_2 : decode cG_pausesIn 2 = .ok (.invokevirtual 58, 3) := by decide +kernel
theorem dG_pausesIn_5 : decode cG_pausesIn 5 = .ok (.ifCond .eq 12, 3) := by decide +kernel
theorem dG_pausesIn_8 : decode cG_pausesIn 8 = .ok (.aload_n 0, 1) := by decide +kernel
theorem dG_pausesIn_9 : decode cG_pausesIn 9 = .ok (.getfield 27, 3) := by decide +kernel
theorem dG_pausesIn_12 : decode cG_pausesIn 12 = .ok (.iload_n 1, 1) := by decide +kernel
theorem dG_pausesIn_13 : decode cG_pausesIn 13 = .ok (.iaload, 1) := by decide +kernel
theorem dG_pausesIn_14 : decode cG_pausesIn 14 = .ok (.goto 4, 3) := by decide +kernel
theorem dG_pausesIn_17 : decode cG_pausesIn 17 = .ok (.iconst 0, 1) := by decide +kernel
theorem dG_pausesIn_18 : decode cG_pausesIn 18 = .ok (.ireturn, 1) := by decide +kernel
theorem dO_outsideTrap_0 : decode cO_outsideTrap 0 = .ok (.lload_n 0, 1) := by decide +kernel
theorem dO_outsideTrap_1 : decode cO_outsideTrap 1 = .ok (.invokestatic 28, 3) := by decide +kernel
theorem dO_outsideTrap_4 : decode cO_outsideTrap 4 = .ok (.invokestatic 38, 3) := by decide +kernel
theorem dO_outsideTrap_7 : decode cO_outsideTrap 7 = .ok (.lload_n 0, 1) := by decide +kernel
theorem dO_outsideTrap_8 : decode cO_outsideTrap 8 = .ok (.invokestatic 35, 3) := by decide +kernel
theorem dO_outsideTrap_11 : decode cO_outsideTrap 11 = .ok (.invokestatic 38, 3) := by decide +kernel
theorem dO_outsideTrap_14 : decode cO_outsideTrap 14 = .ok (.invokestatic 15, 3) := by decide +kernel
theorem dO_outsideTrap_17 : decode cO_outsideTrap 17 = .ok (.lreturn, 1) := by decide +kernel
theorem dO_outsideTrapHalf_0 : decode cO_outsideTrapHalf 0 = .ok (.iload_n 0, 1) := by decide +kernel
theorem dO_outsideTrapHalf_1 : decode cO_outsideTrapHalf 1 = .ok (.invokestatic 42, 3) := by decide +kernel
theorem dO_outsideTrapHalf_4 : decode cO_outsideTrapHalf 4 = .ok (.iload_n 0, 1) := by decide +kernel
theorem dO_outsideTrapHalf_5 : decode cO_outsideTrapHalf 5 = .ok (.invokestatic 45, 3) := by decide +kernel
theorem dO_outsideTrapHalf_8 : decode cO_outsideTrapHalf 8 = .ok (.invokestatic 53, 3) := by decide +kernel
theorem dO_outsideTrapHalf_11 : decode cO_outsideTrapHalf 11 = .ok (.invokestatic 11, 3) := by decide +kernel
theorem dO_outsideTrapHalf_14 : decode cO_outsideTrapHalf 14 = .ok (.ireturn, 1) := by decide +kernel
theorem dO_emittedIn_0 : decode cO_emittedIn 0 = .ok (.iload_n 0, 1) := by decide +kernel
theorem dO_emittedIn_1 : decode cO_emittedIn 1 = .ok (.ldc 19, 2) := by decide +kernel
theorem dO_emittedIn_3 : decode cO_emittedIn 3 = .ok (.iand, 1) := by decide +kernel
theorem dO_emittedIn_4 : decode cO_emittedIn 4 = .ok (.ireturn, 1) := by decide +kernel
theorem dO_half_0 : decode cO_half 0 = .ok (.iload_n 0, 1) := by decide +kernel
theorem dO_half_1 : decode cO_half 1 = .ok (.iload_n 1, 1) := by decide +kernel
theorem dO_half_2 : decode cO_half 2 = .ok (.bipush 16, 2) := by decide +kernel
theorem dO_half_4 : decode cO_half 4 = .ok (.ishl, 1) := by decide +kernel
theorem dO_half_5 : decode cO_half 5 = .ok (.ior, 1) := by decide +kernel
theorem dO_half_6 : decode cO_half 6 = .ok (.ireturn, 1) := by decide +kernel
theorem dO_can_0 : decode cO_can 0 = .ok (.lload_n 0, 1) := by decide +kernel
theorem dO_can_1 : decode cO_can 1 = .ok (.l2i, 1) := by decide +kernel
theorem dO_can_2 : decode cO_can 2 = .ok (.ireturn, 1) := by decide +kernel
theorem dO_whole_0 : decode cO_whole 0 = .ok (.iload_n 0, 1) := by decide +kernel
theorem dO_whole_1 : decode cO_whole 1 = .ok (.i2l, 1) := by decide +kernel
theorem dO_whole_2 : decode cO_whole 2 = .ok (.bipush 32, 2) := by decide +kernel
theorem dO_whole_4 : decode cO_whole 4 = .ok (.lshl, 1) := by decide +kernel
theorem dO_whole_5 : decode cO_whole 5 = .ok (.iload_n 1, 1) := by decide +kernel
theorem dO_whole_6 : decode cO_whole 6 = .ok (.i2l, 1) := by decide +kernel
theorem dO_whole_7 : decode cO_whole 7 = .ok (.lor, 1) := by decide +kernel
theorem dO_whole_8 : decode cO_whole 8 = .ok (.lreturn, 1) := by decide +kernel
theorem dX_runLocal_0 : decode cX_runLocal 0 = .ok (.aload_n 0, 1) := by decide +kernel
theorem dX_runLocal_1 : decode cX_runLocal 1 = .ok (.getfield 15, 3) := by decide +kernel
theorem dX_runLocal_4 : decode cX_runLocal 4 = .ok (.iload_n 1, 1) := by decide +kernel
theorem dX_runLocal_5 : decode cX_runLocal 5 = .ok (.invokevirtual 94, 3) := by decide +kernel
theorem dX_runLocal_8 : decode cX_runLocal 8 = .ok (.istore 4, 2) := by decide +kernel
theorem dX_runLocal_10 : decode cX_runLocal 10 = .ok (.aload_n 0, 1) := by decide +kernel
theorem dX_runLocal_11 : decode cX_runLocal 11 = .ok (.getfield 15, 3) := by decide +kernel
theorem dX_runLocal_14 : decode cX_runLocal 14 = .ok (.iload_n 1, 1) := by decide +kernel
theorem dX_runLocal_15 : decode cX_runLocal 15 = .ok (.invokevirtual 150, 3) := by decide +kernel
theorem dX_runLocal_18 : decode cX_runLocal 18 = .ok (.iload_n 2, 1) := by decide +kernel
theorem dX_runLocal_19 : decode cX_runLocal 19 = .ok (.iadd, 1) := by decide +kernel
theorem dX_runLocal_20 : decode cX_runLocal 20 = .ok (.istore 5, 2) := by decide +kernel
theorem dX_runLocal_22 : decode cX_runLocal 22 = .ok (.aload_n 0, 1) := by decide +kernel
theorem dX_runLocal_23 : decode cX_runLocal 23 = .ok (.getfield 30, 3) := by decide +kernel
theorem dX_runLocal_26 : decode cX_runLocal 26 = .ok (.istore 6, 2) := by decide +kernel
theorem dX_runLocal_28 : decode cX_runLocal 28 = .ok (.aload_n 0, 1) := by decide +kernel
theorem dX_runLocal_29 : decode cX_runLocal 29 = .ok (.getfield 33, 3) := by decide +kernel
theorem dX_runLocal_32 : decode cX_runLocal 32 = .ok (.istore 7, 2) := by decide +kernel
theorem dX_runLocal_34 : decode cX_runLocal 34 = .ok (.aload_n 0, 1) := by decide +kernel
theorem dX_runLocal_35 : decode cX_runLocal 35 = .ok (.iload_n 1, 1) := by decide +kernel
theorem dX_runLocal_36 : decode cX_runLocal 36 = .ok (.iload_n 2, 1) := by decide +kernel
theorem dX_runLocal_37 : decode cX_runLocal 37 = .ok (.iload_n 3, 1) := by decide +kernel
theorem dX_runLocal_38 : decode cX_runLocal 38 = .ok (.invokevirtual 153, 3) := by decide +kernel
theorem dX_runLocal_41 : decode cX_runLocal 41 = .ok (.lstore 8, 2) := by decide +kernel
theorem dX_runLocal_43 : decode cX_runLocal 43 = .ok (.aload_n 0, 1) := by decide +kernel
theorem dX_runLocal_44 : decode cX_runLocal 44 = .ok (.iload 5, 2) := by decide +kernel
theorem dX_runLocal_46 : decode cX_runLocal 46 = .ok (.invokevirtual 156, 3) := by decide +kernel
theorem dX_runLocal_49 : decode cX_runLocal 49 = .ok (.iconst 2, 1) := by decide +kernel
theorem dX_runLocal_50 : decode cX_runLocal 50 = .ok (.if_icmp .ne 25, 3) := by decide +kernel
theorem dX_runLocal_53 : decode cX_runLocal 53 = .ok (.aload_n 0, 1) := by decide +kernel
theorem dX_runLocal_54 : decode cX_runLocal 54 = .ok (.iload 5, 2) := by decide +kernel
theorem dX_runLocal_56 : decode cX_runLocal 56 = .ok (.iload 4, 2) := by decide +kernel
theorem dX_runLocal_58 : decode cX_runLocal 58 = .ok (.lload 8, 2) := by decide +kernel
theorem dX_runLocal_60 : decode cX_runLocal 60 = .ok (.invokevirtual 159, 3) := by decide +kernel
theorem dX_runLocal_63 : decode cX_runLocal 63 = .ok (.ifCond .eq 12, 3) := by decide +kernel
theorem dX_runLocal_66 : decode cX_runLocal 66 = .ok (.aload_n 0, 1) := by decide +kernel
theorem dX_runLocal_67 : decode cX_runLocal 67 = .ok (.iload_n 1, 1) := by decide +kernel
theorem dX_runLocal_68 : decode cX_runLocal 68 = .ok (.iload_n 2, 1) := by decide +kernel
theorem dX_runLocal_69 : decode cX_runLocal 69 = .ok (.iload_n 3, 1) := by decide +kernel
theorem dX_runLocal_70 : decode cX_runLocal 70 = .ok (.invokevirtual 153, 3) := by decide +kernel
theorem dX_runLocal_73 : decode cX_runLocal 73 = .ok (.lstore 8, 2) := by decide +kernel
theorem dX_runLocal_75 : decode cX_runLocal 75 = .ok (.aload_n 0, 1) := by decide +kernel
theorem dX_runLocal_76 : decode cX_runLocal 76 = .ok (.iload 6, 2) := by decide +kernel
theorem dX_runLocal_78 : decode cX_runLocal 78 = .ok (.putfield 30, 3) := by decide +kernel
theorem dX_runLocal_81 : decode cX_runLocal 81 = .ok (.aload_n 0, 1) := by decide +kernel
theorem dX_runLocal_82 : decode cX_runLocal 82 = .ok (.iload 7, 2) := by decide +kernel
theorem dX_runLocal_84 : decode cX_runLocal 84 = .ok (.putfield 33, 3) := by decide +kernel
theorem dX_runLocal_87 : decode cX_runLocal 87 = .ok (.lload 8, 2) := by decide +kernel
theorem dX_runLocal_89 : decode cX_runLocal 89 = .ok (.iload 4, 2) := by decide +kernel
theorem dX_runLocal_91 : decode cX_runLocal 91 = .ok (.invokestatic 163, 3) := by decide +kernel
theorem dX_runLocal_94 : decode cX_runLocal 94 = .ok (.lreturn, 1) := by decide +kernel
theorem dG_weightBefore_0 : decode cG_weightBefore 0 = .ok (.aload_n 0, 1) := by decide +kernel
theorem dG_weightBefore_1 : decode cG_weightBefore 1 = .ok (.iload_n 1, 1) := by decide +kernel
theorem dG_weightBefore_2 : decode cG_weightBefore 2 = .ok (.invokevirtual 58, 3) := by decide +kernel
theorem dG_weightBefore_5 : decode cG_weightBefore 5 = .ok (.ifCond .eq 12, 3) := by decide +kernel
theorem dG_weightBefore_8 : decode cG_weightBefore 8 = .ok (.aload_n 0, 1) := by decide +kernel
theorem dG_weightBefore_9 : decode cG_weightBefore 9 = .ok (.getfield 24, 3) := by decide +kernel
theorem dG_weightBefore_12 : decode cG_weightBefore 12 = .ok (.iload_n 1, 1) := by decide +kernel
theorem dG_weightBefore_13 : decode cG_weightBefore 13 = .ok (.iaload, 1) := by decide +kernel
theorem dG_weightBefore_14 : decode cG_weightBefore 14 = .ok (.goto 4, 3) := by decide +kernel
theorem dG_weightBefore_17 : decode cG_weightBefore 17 = .ok (.iconst 0, 1) := by decide +kernel
theorem dG_weightBefore_18 : decode cG_weightBefore 18 = .ok (.ireturn, 1) := by decide +kernel
theorem dX_runWithStatus_0 : decode cX_runWithStatus 0 = .ok (.iconst 1, 1) := by decide +kernel
theorem dX_runWithStatus_1 : decode cX_runWithStatus 1 = .ok (.aload_n 0, 1) := by decide +kernel
theorem dX_runWithStatus_2 : decode cX_runWithStatus 2 = .ok (.getfield 15, 3) := by decide +kernel
theorem dX_runWithStatus_5 : decode cX_runWithStatus 5 = .ok (.iload_n 1, 1) := by decide +kernel
theorem dX_runWithStatus_6 : decode cX_runWithStatus 6 = .ok (.invokevirtual 94, 3) := by decide +kernel
theorem dX_runWithStatus_9 : decode cX_runWithStatus 9 = .ok (.ishl, 1) := by decide +kernel
theorem dX_runWithStatus_10 : decode cX_runWithStatus 10 = .ok (.istore 4, 2) := by decide +kernel
theorem dX_runWithStatus_12 : decode cX_runWithStatus 12 = .ok (.aload_n 0, 1) := by decide +kernel
theorem dX_runWithStatus_13 : decode cX_runWithStatus 13 = .ok (.aload_n 0, 1) := by decide +kernel
theorem dX_runWithStatus_14 : decode cX_runWithStatus 14 = .ok (.getfield 15, 3) := by decide +kernel
theorem dX_runWithStatus_17 : decode cX_runWithStatus 17 = .ok (.iload_n 1, 1) := by decide +kernel
theorem dX_runWithStatus_18 : decode cX_runWithStatus 18 = .ok (.invokevirtual 150, 3) := by decide +kernel
theorem dX_runWithStatus_21 : decode cX_runWithStatus 21 = .ok (.iload_n 2, 1) := by decide +kernel
theorem dX_runWithStatus_22 : decode cX_runWithStatus 22 = .ok (.iadd, 1) := by decide +kernel
theorem dX_runWithStatus_23 : decode cX_runWithStatus 23 = .ok (.invokevirtual 156, 3) := by decide +kernel
theorem dX_runWithStatus_26 : decode cX_runWithStatus 26 = .ok (.istore 5, 2) := by decide +kernel
theorem dX_runWithStatus_28 : decode cX_runWithStatus 28 = .ok (.aload_n 0, 1) := by decide +kernel
theorem dX_runWithStatus_29 : decode cX_runWithStatus 29 = .ok (.iload 5, 2) := by decide +kernel
theorem dX_runWithStatus_31 : decode cX_runWithStatus 31 = .ok (.iconst 2, 1) := by decide +kernel
theorem dX_runWithStatus_32 : decode cX_runWithStatus 32 = .ok (.if_icmp .ne 15, 3) := by decide +kernel
theorem dX_runWithStatus_35 : decode cX_runWithStatus 35 = .ok (.aload_n 0, 1) := by decide +kernel
theorem dX_runWithStatus_36 : decode cX_runWithStatus 36 = .ok (.getfield 30, 3) := by decide +kernel
theorem dX_runWithStatus_39 : decode cX_runWithStatus 39 = .ok (.iload 4, 2) := by decide +kernel
theorem dX_runWithStatus_41 : decode cX_runWithStatus 41 = .ok (.iconst (-1), 1) := by decide +kernel
theorem dX_runWithStatus_42 : decode cX_runWithStatus 42 = .ok (.ixor, 1) := by decide +kernel
theorem dX_runWithStatus_43 : decode cX_runWithStatus 43 = .ok (.iand, 1) := by decide +kernel
theorem dX_runWithStatus_44 : decode cX_runWithStatus 44 = .ok (.goto 10, 3) := by decide +kernel
theorem dX_runWithStatus_47 : decode cX_runWithStatus 47 = .ok (.aload_n 0, 1) := by decide +kernel
theorem dX_runWithStatus_48 : decode cX_runWithStatus 48 = .ok (.getfield 30, 3) := by decide +kernel
theorem dX_runWithStatus_51 : decode cX_runWithStatus 51 = .ok (.iload 4, 2) := by decide +kernel
theorem dX_runWithStatus_53 : decode cX_runWithStatus 53 = .ok (.ior, 1) := by decide +kernel
theorem dX_runWithStatus_54 : decode cX_runWithStatus 54 = .ok (.putfield 30, 3) := by decide +kernel
theorem dX_runWithStatus_57 : decode cX_runWithStatus 57 = .ok (.aload_n 0, 1) := by decide +kernel
theorem dX_runWithStatus_58 : decode cX_runWithStatus 58 = .ok (.iload 5, 2) := by decide +kernel
theorem dX_runWithStatus_60 : decode cX_runWithStatus 60 = .ok (.iconst 1, 1) := by decide +kernel
theorem dX_runWithStatus_61 : decode cX_runWithStatus 61 = .ok (.if_icmp .ne 13, 3) := by decide +kernel
theorem dX_runWithStatus_64 : decode cX_runWithStatus 64 = .ok (.aload_n 0, 1) := by decide +kernel
theorem dX_runWithStatus_65 : decode cX_runWithStatus 65 = .ok (.getfield 33, 3) := by decide +kernel
theorem dX_runWithStatus_68 : decode cX_runWithStatus 68 = .ok (.iload 4, 2) := by decide +kernel
theorem dX_runWithStatus_70 : decode cX_runWithStatus 70 = .ok (.ior, 1) := by decide +kernel
theorem dX_runWithStatus_71 : decode cX_runWithStatus 71 = .ok (.goto 12, 3) := by decide +kernel
theorem dX_runWithStatus_74 : decode cX_runWithStatus 74 = .ok (.aload_n 0, 1) := by decide +kernel
theorem dX_runWithStatus_75 : decode cX_runWithStatus 75 = .ok (.getfield 33, 3) := by decide +kernel
theorem dX_runWithStatus_78 : decode cX_runWithStatus 78 = .ok (.iload 4, 2) := by decide +kernel
theorem dX_runWithStatus_80 : decode cX_runWithStatus 80 = .ok (.iconst (-1), 1) := by decide +kernel
theorem dX_runWithStatus_81 : decode cX_runWithStatus 81 = .ok (.ixor, 1) := by decide +kernel
theorem dX_runWithStatus_82 : decode cX_runWithStatus 82 = .ok (.iand, 1) := by decide +kernel
theorem dX_runWithStatus_83 : decode cX_runWithStatus 83 = .ok (.putfield 33, 3) := by decide +kernel
theorem dX_runWithStatus_86 : decode cX_runWithStatus 86 = .ok (.aload_n 0, 1) := by decide +kernel
theorem dX_runWithStatus_87 : decode cX_runWithStatus 87 = .ok (.iload_n 1, 1) := by decide +kernel
theorem dX_runWithStatus_88 : decode cX_runWithStatus 88 = .ok (.iconst 1, 1) := by decide +kernel
theorem dX_runWithStatus_89 : decode cX_runWithStatus 89 = .ok (.iadd, 1) := by decide +kernel
theorem dX_runWithStatus_90 : decode cX_runWithStatus 90 = .ok (.iload_n 2, 1) := by decide +kernel
theorem dX_runWithStatus_91 : decode cX_runWithStatus 91 = .ok (.iload_n 3, 1) := by decide +kernel
theorem dX_runWithStatus_92 : decode cX_runWithStatus 92 = .ok (.invokevirtual 42, 3) := by decide +kernel
theorem dX_runWithStatus_95 : decode cX_runWithStatus 95 = .ok (.lreturn, 1) := by decide +kernel
theorem dX_statusAt_0 : decode cX_statusAt 0 = .ok (.iload_n 1, 1) := by decide +kernel
theorem dX_statusAt_1 : decode cX_statusAt 1 = .ok (.ifCond .lt 21, 3) := by decide +kernel
theorem dX_statusAt_4 : decode cX_statusAt 4 = .ok (.iload_n 1, 1) := by decide +kernel
theorem dX_statusAt_5 : decode cX_statusAt 5 = .ok (.aload_n 0, 1) := by decide +kernel
theorem dX_statusAt_6 : decode cX_statusAt 6 = .ok (.getfield 9, 3) := by decide +kernel
theorem dX_statusAt_9 : decode cX_statusAt 9 = .ok (.arraylength, 1) := by decide +kernel
theorem dX_statusAt_10 : decode cX_statusAt 10 = .ok (.if_icmp .ge 12, 3) := by decide +kernel
theorem dX_statusAt_13 : decode cX_statusAt 13 = .ok (.aload_n 0, 1) := by decide +kernel
theorem dX_statusAt_14 : decode cX_statusAt 14 = .ok (.getfield 9, 3) := by decide +kernel
theorem dX_statusAt_17 : decode cX_statusAt 17 = .ok (.iload_n 1, 1) := by decide +kernel
theorem dX_statusAt_18 : decode cX_statusAt 18 = .ok (.iaload, 1) := by decide +kernel
theorem dX_statusAt_19 : decode cX_statusAt 19 = .ok (.goto 4, 3) := by decide +kernel
theorem dX_statusAt_22 : decode cX_statusAt 22 = .ok (.iconst 2, 1) := by decide +kernel
theorem dX_statusAt_23 : decode cX_statusAt 23 = .ok (.ireturn, 1) := by decide +kernel
theorem dX_learnLocal_0 : decode cX_learnLocal 0 = .ok (.lload_n 3, 1) := by decide +kernel
theorem dX_learnLocal_1 : decode cX_learnLocal 1 = .ok (.invokestatic 64, 3) := by decide +kernel
theorem dX_learnLocal_4 : decode cX_learnLocal 4 = .ok (.iload_n 2, 1) := by decide +kernel
theorem dX_learnLocal_5 : decode cX_learnLocal 5 = .ok (.invokestatic 167, 3) := by decide +kernel
theorem dX_learnLocal_8 : decode cX_learnLocal 8 = .ok (.ifCond .eq 11, 3) := by decide +kernel
theorem dX_learnLocal_11 : decode cX_learnLocal 11 = .ok (.aload_n 0, 1) := by decide +kernel
theorem dX_learnLocal_12 : decode cX_learnLocal 12 = .ok (.iload_n 1, 1) := by decide +kernel
theorem dX_learnLocal_13 : decode cX_learnLocal 13 = .ok (.iconst 1, 1) := by decide +kernel
theorem dX_learnLocal_14 : decode cX_learnLocal 14 = .ok (.invokevirtual 171, 3) := by decide +kernel
theorem dX_learnLocal_17 : decode cX_learnLocal 17 = .ok (.iconst 1, 1) := by decide +kernel
theorem dX_learnLocal_18 : decode cX_learnLocal 18 = .ok (.ireturn, 1) := by decide +kernel
theorem dX_learnLocal_19 : decode cX_learnLocal 19 = .ok (.lload_n 3, 1) := by decide +kernel
theorem dX_learnLocal_20 : decode cX_learnLocal 20 = .ok (.invokestatic 75, 3) := by decide +kernel
theorem dX_learnLocal_23 : decode cX_learnLocal 23 = .ok (.iload_n 2, 1) := by decide +kernel
theorem dX_learnLocal_24 : decode cX_learnLocal 24 = .ok (.invokestatic 167, 3) := by decide +kernel
theorem dX_learnLocal_27 : decode cX_learnLocal 27 = .ok (.ifCond .ne 11, 3) := by decide +kernel
theorem dX_learnLocal_30 : decode cX_learnLocal 30 = .ok (.aload_n 0, 1) := by decide +kernel
theorem dX_learnLocal_31 : decode cX_learnLocal 31 = .ok (.iload_n 1, 1) := by decide +kernel
theorem dX_learnLocal_32 : decode cX_learnLocal 32 = .ok (.iconst 0, 1) := by decide +kernel
theorem dX_learnLocal_33 : decode cX_learnLocal 33 = .ok (.invokevirtual 171, 3) := by decide +kernel
theorem dX_learnLocal_36 : decode cX_learnLocal 36 = .ok (.iconst 1, 1) := by decide +kernel
theorem dX_learnLocal_37 : decode cX_learnLocal 37 = .ok (.ireturn, 1) := by decide +kernel
theorem dX_learnLocal_38 : decode cX_learnLocal 38 = .ok (.iconst 0, 1) := by decide +kernel
theorem dX_learnLocal_39 : decode cX_learnLocal 39 = .ok (.ireturn, 1) := by decide +kernel
theorem dK_hasBit_0 : decode cK_hasBit 0 = .ok (.iload_n 0, 1) := by decide +kernel
theorem dK_hasBit_1 : decode cK_hasBit 1 = .ok (.iload_n 1, 1) := by decide +kernel
theorem dK_hasBit_2 : decode cK_hasBit 2 = .ok (.ishr, 1) := by decide +kernel
theorem dK_hasBit_3 : decode cK_hasBit 3 = .ok (.iconst 1, 1) := by decide +kernel
theorem dK_hasBit_4 : decode cK_hasBit 4 = .ok (.iand, 1) := by decide +kernel
theorem dK_hasBit_5 : decode cK_hasBit 5 = .ok (.ifCond .eq 7, 3) := by decide +kernel
theorem dK_hasBit_8 : decode cK_hasBit 8 = .ok (.iconst 1, 1) := by decide +kernel
theorem dK_hasBit_9 : decode cK_hasBit 9 = .ok (.goto 4, 3) := by decide +kernel
theorem dK_hasBit_12 : decode cK_hasBit 12 = .ok (.iconst 0, 1) := by decide +kernel
theorem dK_hasBit_13 : decode cK_hasBit 13 = .ok (.ireturn, 1) := by decide +kernel
theorem dX_learnStatus_0 : decode cX_learnStatus 0 = .ok (.iload_n 1, 1) := by decide +kernel
theorem dX_learnStatus_1 : decode cX_learnStatus 1 = .ok (.ifCond .lt 24, 3) := by decide +kernel
theorem dX_learnStatus_4 : decode cX_learnStatus 4 = .ok (.iload_n 1, 1) := by decide +kernel
theorem dX_learnStatus_5 : decode cX_learnStatus 5 = .ok (.aload_n 0, 1) := by decide +kernel
theorem dX_learnStatus_6 : decode cX_learnStatus 6 = .ok (.getfield 9, 3) := by decide +kernel
theorem dX_learnStatus_9 : decode cX_learnStatus 9 = .ok (.arraylength, 1) := by decide +kernel
theorem dX_learnStatus_10 : decode cX_learnStatus 10 = .ok (.if_icmp .ge 15, 3) := by decide +kernel
theorem dX_learnStatus_13 : decode cX_learnStatus 13 = .ok (.aload_n 0, 1) := by decide +kernel
theorem dX_learnStatus_14 : decode cX_learnStatus 14 = .ok (.getfield 9, 3) := by decide +kernel
theorem dX_learnStatus_17 : decode cX_learnStatus 17 = .ok (.iload_n 1, 1) := by decide +kernel
theorem dX_learnStatus_18 : decode cX_learnStatus 18 = .ok (.iload_n 2, 1) := by decide +kernel
theorem dX_learnStatus_19 : decode cX_learnStatus 19 = .ok (.iastore, 1) := by decide +kernel
theorem dX_learnStatus_20 : decode cX_learnStatus 20 = .ok (.aload_n 0, 1) := by decide +kernel
theorem dX_learnStatus_21 : decode cX_learnStatus 21 = .ok (.iconst 1, 1) := by decide +kernel
theorem dX_learnStatus_22 : decode cX_learnStatus 22 = .ok (.putfield 36, 3) := by decide +kernel
theorem dX_learnStatus_25 : decode cX_learnStatus 25 = .ok (.return_, 1) := by decide +kernel
theorem dO_withoutSignal_0 : decode cO_withoutSignal 0 = .ok (.lconst 1, 1) := by decide +kernel
theorem dO_withoutSignal_1 : decode cO_withoutSignal 1 = .ok (.iload_n 2, 1) := by decide +kernel
theorem dO_withoutSignal_2 : decode cO_withoutSignal 2 = .ok (.lshl, 1) := by decide +kernel
theorem dO_withoutSignal_3 : decode cO_withoutSignal 3 = .ok (.lstore_n 3, 1) := by decide +kernel
theorem dO_withoutSignal_4 : decode cO_withoutSignal 4 = .ok (.lload_n 0, 1) := by decide +kernel
theorem dO_withoutSignal_5 : decode cO_withoutSignal 5 = .ok (.lload_n 3, 1) := by decide +kernel
theorem dO_withoutSignal_6 : decode cO_withoutSignal 6 = .ok (.lload_n 3, 1) := by decide +kernel
theorem dO_withoutSignal_7 : decode cO_withoutSignal 7 = .ok (.bipush 32, 2) := by decide +kernel
theorem dO_withoutSignal_9 : decode cO_withoutSignal 9 = .ok (.lshl, 1) := by decide +kernel
theorem dO_withoutSignal_10 : decode cO_withoutSignal 10 = .ok (.lor, 1) := by decide +kernel
theorem dO_withoutSignal_11 : decode cO_withoutSignal 11 = .ok (.ldc2_w 26, 3) := by decide +kernel
theorem dO_withoutSignal_14 : decode cO_withoutSignal 14 = .ok (.lxor, 1) := by decide +kernel
theorem dO_withoutSignal_15 : decode cO_withoutSignal 15 = .ok (.land, 1) := by decide +kernel
theorem dO_withoutSignal_16 : decode cO_withoutSignal 16 = .ok (.lreturn, 1) := by decide +kernel
