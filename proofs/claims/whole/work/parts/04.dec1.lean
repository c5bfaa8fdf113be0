theorem dX9_look_25 : decode cX9_look 25 = .ok (.getfield 28, 3) := by decide +kernel
theorem dX9_look_28 : decode cX9_look 28 = .ok (.if_icmp .le 12, 3) := by decide +kernel
theorem dX9_look_31 : decode cX9_look 31 = .ok (.aload_n 0, 1) := by decide +kernel
theorem dX9_look_32 : decode cX9_look 32 = .ok (.getfield 37, 3) := by decide +kernel
theorem dX9_look_35 : decode cX9_look 35 = .ok (.iconst 1, 1) := by decide +kernel
theorem dX9_look_36 : decode cX9_look 36 = .ok (.iadd, 1) := by decide +kernel
theorem dX9_look_37 : decode cX9_look 37 = .ok (.goto 4, 3) := by decide +kernel
theorem dX9_look_40 : decode cX9_look 40 = .ok (.iconst 0, 1) := by decide +kernel
theorem dX9_look_41 : decode cX9_look 41 = .ok (.putfield 37, 3) := by decide +kernel
theorem dX9_look_44 : decode cX9_look 44 = .ok (.aload_n 0, 1) := by decide +kernel
theorem dX9_look_45 : decode cX9_look 45 = .ok (.getfield 37, 3) := by decide +kernel
theorem dX9_look_48 : decode cX9_look 48 = .ok (.aload_n 0, 1) := by decide +kernel
theorem dX9_look_49 : decode cX9_look 49 = .ok (.getfield 31, 3) := by decide +kernel
theorem dX9_look_52 : decode cX9_look 52 = .ok (.if_icmp .lt 30, 3) := by decide +kernel
theorem dX9_look_55 : decode cX9_look 55 = .ok (.aload_n 0, 1) := by decide +kernel
theorem dX9_look_56 : decode cX9_look 56 = .ok (.getfield 40, 3) := by decide +kernel
theorem dX9_look_59 : decode cX9_look 59 = .ok (.ifCond .ne 23, 3) := by decide +kernel
theorem dX9_look_62 : decode cX9_look 62 = .ok (.aload_n 0, 1) := by decide +kernel
theorem dX9_look_63 : decode cX9_look 63 = .ok (.iconst 1, 1) := by decide +kernel
theorem dX9_look_64 : decode cX9_look 64 = .ok (.putfield 40, 3) := by decide +kernel
theorem dX9_look_67 : decode cX9_look 67 = .ok (.aload_n 0, 1) := by decide +kernel
theorem dX9_look_68 : decode cX9_look 68 = .ok (.iload_n 3, 1) := by decide +kernel
theorem dX9_look_69 : decode cX9_look 69 = .ok (.putfield 9, 3) := by decide +kernel
theorem dX9_look_72 : decode cX9_look 72 = .ok (.aload_n 0, 1) := by decide +kernel
theorem dX9_look_73 : decode cX9_look 73 = .ok (.iload_n 1, 1) := by decide +kernel
theorem dX9_look_74 : decode cX9_look 74 = .ok (.putfield 15, 3) := by decide +kernel
theorem dX9_look_77 : decode cX9_look 77 = .ok (.aload_n 0, 1) := by decide +kernel
theorem dX9_look_78 : decode cX9_look 78 = .ok (.iload_n 2, 1) := by decide +kernel
theorem dX9_look_79 : decode cX9_look 79 = .ok (.putfield 18, 3) := by decide +kernel
theorem dX9_look_82 : decode cX9_look 82 = .ok (.return_, 1) := by decide +kernel
theorem dX9_calmDown_0 : decode cX9_calmDown 0 = .ok (.aload_n 0, 1) := by decide +kernel
theorem dX9_calmDown_1 : decode cX9_calmDown 1 = .ok (.getfield 40, 3) := by decide +kernel
theorem dX9_calmDown_4 : decode cX9_calmDown 4 = .ok (.istore_n 1, 1) := by decide +kernel
theorem dX9_calmDown_5 : decode cX9_calmDown 5 = .ok (.aload_n 0, 1) := by decide +kernel
theorem dX9_calmDown_6 : decode cX9_calmDown 6 = .ok (.iconst 0, 1) := by decide +kernel
theorem dX9_calmDown_7 : decode cX9_calmDown 7 = .ok (.putfield 40, 3) := by decide +kernel
theorem dX9_calmDown_10 : decode cX9_calmDown 10 = .ok (.aload_n 0, 1) := by decide +kernel
theorem dX9_calmDown_11 : decode cX9_calmDown 11 = .ok (.iconst 0, 1) := by decide +kernel
theorem dX9_calmDown_12 : decode cX9_calmDown 12 = .ok (.putfield 37, 3) := by decide +kernel
theorem dX9_calmDown_15 : decode cX9_calmDown 15 = .ok (.aload_n 0, 1) := by decide +kernel
theorem dX9_calmDown_16 : decode cX9_calmDown 16 = .ok (.iconst (-1), 1) := by decide +kernel
theorem dX9_calmDown_17 : decode cX9_calmDown 17 = .ok (.putfield 9, 3) := by decide +kernel
theorem dX9_calmDown_20 : decode cX9_calmDown 20 = .ok (.aload_n 0, 1) := by decide +kernel
theorem dX9_calmDown_21 : decode cX9_calmDown 21 = .ok (.iconst (-1), 1) := by decide +kernel
theorem dX9_calmDown_22 : decode cX9_calmDown 22 = .ok (.putfield 15, 3) := by decide +kernel
theorem dX9_calmDown_25 : decode cX9_calmDown 25 = .ok (.aload_n 0, 1) := by decide +kernel
theorem dX9_calmDown_26 : decode cX9_calmDown 26 = .ok (.iconst (-1), 1) := by decide +kernel
theorem dX9_calmDown_27 : decode cX9_calmDown 27 = .ok (.putfield 18, 3) := by decide +kernel
theorem dX9_calmDown_30 : decode cX9_calmDown 30 = .ok (.iload_n 1, 1) := by decide +kernel
theorem dX9_calmDown_31 : decode cX9_calmDown 31 = .ok (.ireturn, 1) := by decide +kernel
theorem dX10_of_0 : decode cX10_of 0 = .ok (.getstatic 127, 3) := by decide +kernel
theorem dX10_of_3 : decode cX10_of 3 = .ok (.astore_n 2, 1) := by decide +kernel
theorem dX10_of_4 : decode cX10_of 4 = .ok (.aload_n 2, 1) := by decide +kernel
theorem dX10_of_5 : decode cX10_of 5 = .ok (.arraylength, 1) := by decide +kernel
theorem dX10_of_6 : decode cX10_of 6 = .ok (.istore_n 3, 1) := by decide +kernel
theorem dX10_of_7 : decode cX10_of 7 = .ok (.iconst 0, 1) := by decide +kernel
theorem dX10_of_8 : decode cX10_of 8 = .ok (.istore 4, 2) := by decide +kernel
theorem dX10_of_10 : decode cX10_of 10 = .ok (.iload 4, 2) := by decide +kernel
theorem dX10_of_12 : decode cX10_of 12 = .ok (.iload_n 3, 1) := by decide +kernel
theorem dX10_of_13 : decode cX10_of 13 = .ok (.if_icmp .ge 28, 3) := by decide +kernel
theorem dX10_of_16 : decode cX10_of 16 = .ok (.aload_n 2, 1) := by decide +kernel
theorem dX10_of_17 : decode cX10_of 17 = .ok (.iload 4, 2) := by decide +kernel
theorem dX10_of_19 : decode cX10_of 19 = .ok (.aaload, 1) := by decide +kernel
theorem dX10_of_20 : decode cX10_of 20 = .ok (.astore 5, 2) := by decide +kernel
theorem dX10_of_22 : decode cX10_of 22 = .ok (.aload 5, 2) := by decide +kernel
theorem dX10_of_24 : decode cX10_of 24 = .ok (.getfield 117, 3) := by decide +kernel
theorem dX10_of_27 : decode cX10_of 27 = .ok (.lload_n 0, 1) := by decide +kernel
theorem dX10_of_28 : decode cX10_of 28 = .ok (.lcmp, 1) := by decide +kernel
theorem dX10_of_29 : decode cX10_of 29 = .ok (.ifCond .ne 6, 3) := by decide +kernel
theorem dX10_of_32 : decode cX10_of 32 = .ok (.aload 5, 2) := by decide +kernel
theorem dX10_of_34 : decode cX10_of 34 = .ok (.areturn, 1) := by decide +kernel
theorem dX10_of_35 : decode cX10_of 35 = .ok (.iinc 4 1, 3) := by decide +kernel
theorem dX10_of_38 : decode cX10_of 38 = .ok (.goto (-28), 3) := by decide +kernel
theorem dX10_of_41 : decode cX10_of 41 = .ok (.getstatic 79, 3) := by decide +kernel
theorem dX10_of_44 : decode cX10_of 44 = .ok (.areturn, 1) := by decide +kernel
theorem dX10_allows_0 : decode cX10_allows 0 = .ok (.iload_n 1, 1) := by decide +kernel
theorem dX10_allows_1 : decode cX10_allows 1 = .ok (.aload_n 0, 1) := by decide +kernel
theorem dX10_allows_2 : decode cX10_allows 2 = .ok (.getfield 121, 3) := by decide +kernel
theorem dX10_allows_5 : decode cX10_allows 5 = .ok (.if_icmp .lt 15, 3) := by decide +kernel
theorem dX10_allows_8 : decode cX10_allows 8 = .ok (.iload_n 1, 1) := by decide +kernel
theorem dX10_allows_9 : decode cX10_allows 9 = .ok (.aload_n 0, 1) := by decide +kernel
theorem dX10_allows_10 : decode cX10_allows 10 = .ok (.getfield 124, 3) := by decide +kernel
theorem dX10_allows_13 : decode cX10_allows 13 = .ok (.if_icmp .gt 7, 3) := by decide +kernel
theorem dX10_allows_16 : decode cX10_allows 16 = .ok (.iconst 1, 1) := by decide +kernel
theorem dX10_allows_17 : decode cX10_allows 17 = .ok (.goto 4, 3) := by decide +kernel
theorem dX10_allows_20 : decode cX10_allows 20 = .ok (.iconst 0, 1) := by decide +kernel
theorem dX10_allows_21 : decode cX10_allows 21 = .ok (.ireturn, 1) := by decide +kernel
theorem dX10_isProperty_0 : decode cX10_isProperty 0 = .ok (.aload_n 0, 1) := by decide +kernel
theorem dX10_isProperty_1 : decode cX10_isProperty 1 = .ok (.getstatic 37, 3) := by decide +kernel
theorem dX10_isProperty_4 : decode cX10_isProperty 4 = .ok (.if_acmp .eq 31, 3) := by decide +kernel
theorem dX10_isProperty_7 : decode cX10_isProperty 7 = .ok (.aload_n 0, 1) := by decide +kernel
theorem dX10_isProperty_8 : decode cX10_isProperty 8 = .ok (.getstatic 40, 3) := by decide +kernel
theorem dX10_isProperty_11 : decode cX10_isProperty 11 = .ok (.if_acmp .eq 24, 3) := by decide +kernel
theorem dX10_isProperty_14 : decode cX10_isProperty 14 = .ok (.aload_n 0, 1) := by decide +kernel
theorem dX10_isProperty_15 : decode cX10_isProperty 15 = .ok (.getstatic 43, 3) := by decide +kernel
theorem dX10_isProperty_18 : decode cX10_isProperty 18 = .ok (.if_acmp .eq 17, 3) := by decide +kernel
theorem dX10_isProperty_21 : decode cX10_isProperty 21 = .ok (.aload_n 0, 1) := by decide +kernel
theorem dX10_isProperty_22 : decode cX10_isProperty 22 = .ok (.getstatic 46, 3) := by decide +kernel
theorem dX10_isProperty_25 : decode cX10_isProperty 25 = .ok (.if_acmp .eq 10, 3) := by decide +kernel
theorem dX10_isProperty_28 : decode cX10_isProperty 28 = .ok (.aload_n 0, 1) := by decide +kernel
theorem dX10_isProperty_29 : decode cX10_isProperty 29 = .ok (.getstatic 49, 3) := by decide +kernel
theorem dX10_isProperty_32 : decode cX10_isProperty 32 = .ok (.if_acmp .ne 7, 3) := by decide +kernel
theorem dX10_isProperty_35 : decode cX10_isProperty 35 = .ok (.iconst 1, 1) := by decide +kernel
theorem dX10_isProperty_36 : decode cX10_isProperty 36 = .ok (.goto 4, 3) := by decide +kernel
theorem dX10_isProperty_39 : decode cX10_isProperty 39 = .ok (.iconst 0, 1) := by decide +kernel
theorem dX10_isProperty_40 : decode cX10_isProperty 40 = .ok (.ireturn, 1) := by decide +kernel
theorem dX11_init_0 : decode cX11_init 0 = .ok (.aload_n 0, 1) := by decide +kernel
theorem dX11_init_1 : decode cX11_init 1 = .ok (.invokespecial 1, 3) := by decide +kernel
theorem dX11_init_4 : decode cX11_init 4 = .ok (.aload_n 0, 1) := by decide +kernel
theorem dX11_init_5 : decode cX11_init 5 = .ok (.new 7, 3) := by decide +kernel
theorem dX11_init_8 : decode cX11_init 8 = .ok (.dup, 1) := by decide +kernel
theorem dX11_init_9 : decode cX11_init 9 = .ok (.invokespecial 9, 3) := by decide +kernel
theorem dX11_init_12 : decode cX11_init 12 = .ok (.putfield 10, 3) := by decide +kernel
theorem dX11_init_15 : decode cX11_init 15 = .ok (.aload_n 0, 1) := by decide +kernel
theorem dX11_init_16 : decode cX11_init 16 = .ok (.new 7, 3) := by decide +kernel
theorem dX11_init_19 : decode cX11_init 19 = .ok (.dup, 1) := by decide +kernel
theorem dX11_init_20 : decode cX11_init 20 = .ok (.invokespecial 9, 3) := by decide +kernel
theorem dX11_init_23 : decode cX11_init 23 = .ok (.putfield 16, 3) := by decide +kernel
theorem dX11_init_26 : decode cX11_init 26 = .ok (.aload_n 0, 1) := by decide +kernel
theorem dX11_init_27 : decode cX11_init 27 = .ok (.iconst 2, 1) := by decide +kernel
theorem dX11_init_28 : decode cX11_init 28 = .ok (.anewarray 7, 3) := by decide +kernel
theorem dX11_init_31 : decode cX11_init 31 = .ok (.dup, 1) := by decide +kernel
theorem dX11_init_32 : decode cX11_init 32 = .ok (.iconst 0, 1) := by decide +kernel
theorem dX11_init_33 : decode cX11_init 33 = .ok (.new 7, 3) := by decide +kernel
theorem dX11_init_36 : decode cX11_init 36 = .ok (.dup, 1) := by decide +kernel
theorem dX11_init_37 : decode cX11_init 37 = .ok (.invokespecial 9, 3) := by decide +kernel
theorem dX11_init_40 : decode cX11_init 40 = .ok (.aastore, 1) := by decide +kernel
theorem dX11_init_41 : decode cX11_init 41 = .ok (.dup, 1) := by decide +kernel
theorem dX11_init_42 : decode cX11_init 42 = .ok (.iconst 1, 1) := by decide +kernel
theorem dX11_init_43 : decode cX11_init 43 = .ok (.new 7, 3) := by decide +kernel
theorem dX11_init_46 : decode cX11_init 46 = .ok (.dup, 1) := by decide +kernel
theorem dX11_init_47 : decode cX11_init 47 = .ok (.invokespecial 9, 3) := by decide +kernel
theorem dX11_init_50 : decode cX11_init 50 = .ok (.aastore, 1) := by decide +kernel
theorem dX11_init_51 : decode cX11_init 51 = .ok (.putfield 19, 3) := by decide +kernel
theorem dX11_init_54 : decode cX11_init 54 = .ok (.aload_n 0, 1) := by decide +kernel
theorem dX11_init_55 : decode cX11_init 55 = .ok (.iconst 2, 1) := by decide +kernel
theorem dX11_init_56 : decode cX11_init 56 = .ok (.newarray .boolean, 2) := by decide +kernel
theorem dX11_init_58 : decode cX11_init 58 = .ok (.putfield 23, 3) := by decide +kernel
theorem dX11_init_61 : decode cX11_init 61 = .ok (.aload_n 0, 1) := by decide +kernel
theorem dX11_init_62 : decode cX11_init 62 = .ok (.new 27, 3) := by decide +kernel
theorem dX11_init_65 : decode cX11_init 65 = .ok (.dup, 1) := by decide +kernel
theorem dX11_init_66 : decode cX11_init 66 = .ok (.invokespecial 29, 3) := by decide +kernel
theorem dX11_init_69 : decode cX11_init 69 = .ok (.putfield 30, 3) := by decide +kernel
theorem dX11_init_72 : decode cX11_init 72 = .ok (.return_, 1) := by decide +kernel
theorem dX11_append_0 : decode cX11_append 0 = .ok (.aload_n 0, 1) := by decide +kernel
theorem dX11_append_1 : decode cX11_append 1 = .ok (.getfield 30, 3) := by decide +kernel
theorem dX11_append_4 : decode cX11_append 4 = .ok (.getfield 34, 3) := by decide +kernel
theorem dX11_append_7 : decode cX11_append 7 = .ok (.astore 6, 2) := by decide +kernel
theorem dX11_append_9 : decode cX11_append 9 = .ok (.aload 6, 2) := by decide +kernel
theorem dX11_append_11 : decode cX11_append 11 = .ok (.getfield 38, 3) := by decide +kernel
theorem dX11_append_14 : decode cX11_append 14 = .ok (.sipush 880, 3) := by decide +kernel
theorem dX11_append_17 : decode cX11_append 17 = .ok (.if_icmp .le 13, 3) := by decide +kernel
theorem dX11_append_20 : decode cX11_append 20 = .ok (.new 44, 3) := by decide +kernel
theorem dX11_append_23 : decode cX11_append 23 = .ok (.dup, 1) := by decide +kernel
theorem dX11_append_24 : decode cX11_append 24 = .ok (.ldc 46, 2) := by decide +kernel
theorem dX11_append_26 : decode cX11_append 26 = .ok (.invokespecial 48, 3) := by decide +kernel
theorem dX11_append_29 : decode cX11_append 29 = .ok (.athrow, 1) := by decide +kernel
theorem dX11_append_30 : decode cX11_append 30 = .ok (.aload 6, 2) := by decide +kernel
theorem dX11_append_32 : decode cX11_append 32 = .ok (.iload_n 1, 1) := by decide +kernel
theorem dX11_append_33 : decode cX11_append 33 = .ok (.invokevirtual 51, 3) := by decide +kernel
theorem dX11_append_36 : decode cX11_append 36 = .ok (.aload 6, 2) := by decide +kernel
theorem dX11_append_38 : decode cX11_append 38 = .ok (.iload_n 2, 1) := by decide +kernel
theorem dX11_append_39 : decode cX11_append 39 = .ok (.invokevirtual 51, 3) := by decide +kernel
theorem dX11_append_42 : decode cX11_append 42 = .ok (.aload 6, 2) := by decide +kernel
theorem dX11_append_44 : decode cX11_append 44 = .ok (.iload_n 3, 1) := by decide +kernel
theorem dX11_append_45 : decode cX11_append 45 = .ok (.invokevirtual 51, 3) := by decide +kernel
theorem dX11_append_48 : decode cX11_append 48 = .ok (.aload 6, 2) := by decide +kernel
theorem dX11_append_50 : decode cX11_append 50 = .ok (.iload 4, 2) := by decide +kernel
theorem dX11_append_52 : decode cX11_append 52 = .ok (.invokevirtual 51, 3) := by decide +kernel
theorem dX11_append_55 : decode cX11_append 55 = .ok (.aload 6, 2) := by decide +kernel
theorem dX11_append_57 : decode cX11_append 57 = .ok (.iload 5, 2) := by decide +kernel
theorem dX11_append_59 : decode cX11_append 59 = .ok (.invokevirtual 51, 3) := by decide +kernel
theorem dX11_append_62 : decode cX11_append 62 = .ok (.aload 6, 2) := by decide +kernel
theorem dX11_append_64 : decode cX11_append 64 = .ok (.getfield 38, 3) := by decide +kernel
theorem dX11_append_67 : decode cX11_append 67 = .ok (.ireturn, 1) := by decide +kernel
theorem dX11_truncate_0 : decode cX11_truncate 0 = .ok (.aload_n 0, 1) := by decide +kernel
theorem dX11_truncate_1 : decode cX11_truncate 1 = .ok (.getfield 30, 3) := by decide +kernel
theorem dX11_truncate_4 : decode cX11_truncate 4 = .ok (.getfield 34, 3) := by decide +kernel
theorem dX11_truncate_7 : decode cX11_truncate 7 = .ok (.astore_n 2, 1) := by decide +kernel
theorem dX11_truncate_8 : decode cX11_truncate 8 = .ok (.iload_n 1, 1) := by decide +kernel
theorem dX11_truncate_9 : decode cX11_truncate 9 = .ok (.ifCond .lt 11, 3) := by decide +kernel
theorem dX11_truncate_12 : decode cX11_truncate 12 = .ok (.iload_n 1, 1) := by decide +kernel
theorem dX11_truncate_13 : decode cX11_truncate 13 = .ok (.aload_n 2, 1) := by decide +kernel
theorem dX11_truncate_14 : decode cX11_truncate 14 = .ok (.getfield 38, 3) := by decide +kernel
theorem dX11_truncate_17 : decode cX11_truncate 17 = .ok (.if_icmp .le 13, 3) := by decide +kernel
theorem dX11_truncate_20 : decode cX11_truncate 20 = .ok (.new 55, 3) := by decide +kernel
theorem dX11_truncate_23 : decode cX11_truncate 23 = .ok (.dup, 1) := by decide +kernel
theorem dX11_truncate_24 : decode cX11_truncate 24 = .ok (.ldc 57, 2) := by decide +kernel
theorem dX11_truncate_26 : decode cX11_truncate 26 = .ok (.invokespecial 59, 3) := by decide +kernel
theorem dX11_truncate_29 : decode cX11_truncate 29 = .ok (.athrow, 1) := by decide +kernel
theorem dX11_truncate_30 : decode cX11_truncate 30 = .ok (.aload_n 2, 1) := by decide +kernel
theorem dX11_truncate_31 : decode cX11_truncate 31 = .ok (.iload_n 1, 1) := by decide +kernel
theorem dX11_truncate_32 : decode cX11_truncate 32 = .ok (.putfield 38, 3) := by decide +kernel
theorem dX11_truncate_35 : decode cX11_truncate 35 = .ok (.iload_n 1, 1) := by decide +kernel
theorem dX11_truncate_36 : decode cX11_truncate 36 = .ok (.ireturn, 1) := by decide +kernel
theorem dX11_setup_0 : decode cX11_setup 0 = .ok (.aload_n 0, 1) := by decide +kernel
theorem dX11_setup_1 : decode cX11_setup 1 = .ok (.getfield 30, 3) := by decide +kernel
theorem dX11_setup_4 : decode cX11_setup 4 = .ok (.invokevirtual 60, 3) := by decide +kernel
theorem dX11_setup_7 : decode cX11_setup 7 = .ok (.istore_n 1, 1) := by decide +kernel
theorem dX11_setup_8 : decode cX11_setup 8 = .ok (.aload_n 0, 1) := by decide +kernel
theorem dX11_setup_9 : decode cX11_setup 9 = .ok (.getfield 30, 3) := by decide +kernel
theorem dX11_setup_12 : decode cX11_setup 12 = .ok (.getfield 34, 3) := by decide +kernel
theorem dX11_setup_15 : decode cX11_setup 15 = .ok (.iconst 0, 1) := by decide +kernel
theorem dX11_setup_16 : decode cX11_setup 16 = .ok (.putfield 38, 3) := by decide +kernel
theorem dX11_setup_19 : decode cX11_setup 19 = .ok (.iload_n 1, 1) := by decide +kernel
theorem dX11_setup_20 : decode cX11_setup 20 = .ok (.iconst (-1), 1) := by decide +kernel
theorem dX11_setup_21 : decode cX11_setup 21 = .ok (.if_icmp .eq 37, 3) := by decide +kernel
theorem dX11_setup_24 : decode cX11_setup 24 = .ok (.aload_n 0, 1) := by decide +kernel
theorem dX11_setup_25 : decode cX11_setup 25 = .ok (.getfield 10, 3) := by decide +kernel
theorem dX11_setup_28 : decode cX11_setup 28 = .ok (.aload_n 0, 1) := by decide +kernel
theorem dX11_setup_29 : decode cX11_setup 29 = .ok (.getfield 30, 3) := by decide +kernel
theorem dX11_setup_32 : decode cX11_setup 32 = .ok (.getfield 64, 3) := by decide +kernel
theorem dX11_setup_35 : decode cX11_setup 35 = .ok (.invokevirtual 67, 3) := by decide +kernel
theorem dX11_setup_38 : decode cX11_setup 38 = .ok (.iconst 0, 1) := by decide +kernel
theorem dX11_setup_39 : decode cX11_setup 39 = .ok (.istore_n 2, 1) := by decide +kernel
theorem dX11_setup_40 : decode cX11_setup 40 = .ok (.iload_n 2, 1) := by decide +kernel
theorem dX11_setup_41 : decode cX11_setup 41 = .ok (.iconst 2, 1) := by decide +kernel
theorem dX11_setup_42 : decode cX11_setup 42 = .ok (.if_icmp .ge 16, 3) := by decide +kernel
theorem dX11_setup_45 : decode cX11_setup 45 = .ok (.aload_n 0, 1) := by decide +kernel
theorem dX11_setup_46 : decode cX11_setup 46 = .ok (.getfield 23, 3) := by decide +kernel
theorem dX11_setup_49 : decode cX11_setup 49 = .ok (.iload_n 2, 1) := by decide +kernel
theorem dX11_setup_50 : decode cX11_setup 50 = .ok (.iconst 0, 1) := by decide +kernel
theorem dX11_setup_51 : decode cX11_setup 51 = .ok (.bastore, 1) := by decide +kernel
theorem dX11_setup_52 : decode cX11_setup 52 = .ok (.iinc 2 1, 3) := by decide +kernel
theorem dX11_setup_55 : decode cX11_setup 55 = .ok (.goto (-15), 3) := by decide +kernel
theorem dX11_setup_58 : decode cX11_setup 58 = .ok (.iload_n 1, 1) := by decide +kernel
theorem dX11_setup_59 : decode cX11_setup 59 = .ok (.ireturn, 1) := by decide +kernel
theorem dX11_errorCode_0 : decode cX11_errorCode 0 = .ok (.aload_n 0, 1) := by decide +kernel
theorem dX11_errorCode_1 : decode cX11_errorCode 1 = .ok (.getfield 30, 3) := by decide +kernel
theorem dX11_errorCode_4 : decode cX11_errorCode 4 = .ok (.getfield 71, 3) := by decide +kernel
theorem dX11_errorCode_7 : decode cX11_errorCode 7 = .ok (.ireturn, 1) := by decide +kernel
theorem dX11_errorPosition_0 : decode cX11_errorPosition 0 = .ok (.aload_n 0, 1) := by decide +kernel
theorem dX11_errorPosition_1 : decode cX11_errorPosition 1 = .ok (.getfield 30, 3) := by decide +kernel
theorem dX11_errorPosition_4 : decode cX11_errorPosition 4 = .ok (.getfield 74, 3) := by decide +kernel
theorem dX11_errorPosition_7 : decode cX11_errorPosition 7 = .ok (.ireturn, 1) := by decide +kernel
theorem dX11_run_0 : decode cX11_run 0 = .ok (.iload_n 1, 1) := by decide +kernel
theorem dX11_run_1 : decode cX11_run 1 = .ok (.sipush 5000, 3) := by decide +kernel
theorem dX11_run_4 : decode cX11_run 4 = .ok (.invokestatic 77, 3) := by decide +kernel
theorem dX11_run_7 : decode cX11_run 7 = .ok (.aload_n 0, 1) := by decide +kernel
theorem dX11_run_8 : decode cX11_run 8 = .ok (.getfield 10, 3) := by decide +kernel
theorem dX11_run_11 : decode cX11_run 11 = .ok (.invokevirtual 81, 3) := by decide +kernel
theorem dX11_run_14 : decode cX11_run 14 = .ok (.istore_n 2, 1) := by decide +kernel
theorem dX11_run_15 : decode cX11_run 15 = .ok (.iconst 0, 1) := by decide +kernel
theorem dX11_run_16 : decode cX11_run 16 = .ok (.istore_n 3, 1) := by decide +kernel
theorem dX11_run_17 : decode cX11_run 17 = .ok (.iload_n 3, 1) := by decide +kernel
theorem dX11_run_18 : decode cX11_run 18 = .ok (.iload_n 1, 1) := by decide +kernel
theorem dX11_run_19 : decode cX11_run 19 = .ok (.if_icmp .ge 16, 3) := by decide +kernel
theorem dX11_run_22 : decode cX11_run 22 = .ok (.aload_n 0, 1) := by decide +kernel
theorem dX11_run_23 : decode cX11_run 23 = .ok (.getfield 10, 3) := by decide +kernel
theorem dX11_run_26 : decode cX11_run 26 = .ok (.invokevirtual 84, 3) := by decide +kernel
theorem dX11_run_29 : decode cX11_run 29 = .ok (.iinc 3 1, 3) := by decide +kernel
theorem dX11_run_32 : decode cX11_run 32 = .ok (.goto (-15), 3) := by decide +kernel
theorem dX11_run_35 : decode cX11_run 35 = .ok (.aload_n 0, 1) := by decide +kernel
theorem dX11_run_36 : decode cX11_run 36 = .ok (.getfield 10, 3) := by decide +kernel
theorem dX11_run_39 : decode cX11_run 39 = .ok (.invokevirtual 81, 3) := by decide +kernel
theorem dX11_run_42 : decode cX11_run 42 = .ok (.iload_n 2, 1) := by decide +kernel
theorem dX11_run_43 : decode cX11_run 43 = .ok (.isub, 1) := by decide +kernel
theorem dX11_run_44 : decode cX11_run 44 = .ok (.ireturn, 1) := by decide +kernel
theorem dX11_fire_0 : decode cX11_fire 0 = .ok (.iload_n 1, 1) := by decide +kernel
theorem dX11_fire_1 : decode cX11_fire 1 = .ok (.invokestatic 87, 3) := by decide +kernel
theorem dX11_fire_4 : decode cX11_fire 4 = .ok (.aload_n 0, 1) := by decide +kernel
theorem dX11_fire_5 : decode cX11_fire 5 = .ok (.getfield 10, 3) := by decide +kernel
theorem dX11_fire_8 : decode cX11_fire 8 = .ok (.iload_n 1, 1) := by decide +kernel
theorem dX11_fire_9 : decode cX11_fire 9 = .ok (.invokevirtual 90, 3) := by decide +kernel
theorem dX11_fire_12 : decode cX11_fire 12 = .ok (.ifCond .eq 7, 3) := by decide +kernel
theorem dX11_fire_15 : decode cX11_fire 15 = .ok (.iconst 1, 1) := by decide +kernel
theorem dX11_fire_16 : decode cX11_fire 16 = .ok (.goto 4, 3) := by decide +kernel
theorem dX11_fire_19 : decode cX11_fire 19 = .ok (.iconst 0, 1) := by decide +kernel
theorem dX11_fire_20 : decode cX11_fire 20 = .ok (.ireturn, 1) := by decide +kernel
theorem dX11_stop_0 : decode cX11_stop 0 = .ok (.aload_n 0, 1) := by decide +kernel
theorem dX11_stop_1 : decode cX11_stop 1 = .ok (.getfield 10, 3) := by decide +kernel
theorem dX11_stop_4 : decode cX11_stop 4 = .ok (.invokevirtual 94, 3) := by decide +kernel
theorem dX11_stop_7 : decode cX11_stop 7 = .ok (.ifCond .eq 7, 3) := by decide +kernel
theorem dX11_stop_10 : decode cX11_stop 10 = .ok (.iconst 1, 1) := by decide +kernel
theorem dX11_stop_11 : decode cX11_stop 11 = .ok (.goto 4, 3) := by decide +kernel
theorem dX11_stop_14 : decode cX11_stop 14 = .ok (.iconst 0, 1) := by decide +kernel
theorem dX11_stop_15 : decode cX11_stop 15 = .ok (.ireturn, 1) := by decide +kernel
theorem dX11_take_0 : decode cX11_take 0 = .ok (.aload_n 0, 1) := by decide +kernel
theorem dX11_take_1 : decode cX11_take 1 = .ok (.getfield 10, 3) := by decide +kernel
theorem dX11_take_4 : decode cX11_take 4 = .ok (.getfield 98, 3) := by decide +kernel
theorem dX11_take_7 : decode cX11_take 7 = .ok (.getfield 102, 3) := by decide +kernel
theorem dX11_take_10 : decode cX11_take 10 = .ok (.ifCond .ne 13, 3) := by decide +kernel
theorem dX11_take_13 : decode cX11_take 13 = .ok (.new 107, 3) := by decide +kernel
theorem dX11_take_16 : decode cX11_take 16 = .ok (.dup, 1) := by decide +kernel
theorem dX11_take_17 : decode cX11_take 17 = .ok (.ldc 109, 2) := by decide +kernel
theorem dX11_take_19 : decode cX11_take 19 = .ok (.invokespecial 111, 3) := by decide +kernel
theorem dX11_take_22 : decode cX11_take 22 = .ok (.athrow, 1) := by decide +kernel
theorem dX11_take_23 : decode cX11_take 23 = .ok (.aload_n 0, 1) := by decide +kernel
theorem dX11_take_24 : decode cX11_take 24 = .ok (.getfield 10, 3) := by decide +kernel
theorem dX11_take_27 : decode cX11_take 27 = .ok (.getfield 98, 3) := by decide +kernel
theorem dX11_take_30 : decode cX11_take 30 = .ok (.iconst 3, 1) := by decide +kernel
theorem dX11_take_31 : decode cX11_take 31 = .ok (.invokevirtual 112, 3) := by decide +kernel
theorem dX11_take_34 : decode cX11_take 34 = .ok (.istore_n 1, 1) := by decide +kernel
theorem dX11_take_35 : decode cX11_take 35 = .ok (.aload_n 0, 1) := by decide +kernel
theorem dX11_take_36 : decode cX11_take 36 = .ok (.getfield 10, 3) := by decide +kernel
theorem dX11_take_39 : decode cX11_take 39 = .ok (.getfield 98, 3) := by decide +kernel
theorem dX11_take_42 : decode cX11_take 42 = .ok (.invokevirtual 116, 3) := by decide +kernel
theorem dX11_take_45 : decode cX11_take 45 = .ok (.iload_n 1, 1) := by decide +kernel
theorem dX11_take_46 : decode cX11_take 46 = .ok (.ireturn, 1) := by decide +kernel
theorem dX11_acknowledge_0 : decode cX11_acknowledge 0 = .ok (.aload_n 0, 1) := by decide +kernel
theorem dX11_acknowledge_1 : decode cX11_acknowledge 1 = .ok (.iload_n 1, 1) := by decide +kernel
theorem dX11_acknowledge_2 : decode cX11_acknowledge 2 = .ok (.invokevirtual 119, 3) := by decide +kernel
theorem dX11_acknowledge_5 : decode cX11_acknowledge 5 = .ok (.aload_n 0, 1) := by decide +kernel
theorem dX11_acknowledge_6 : decode cX11_acknowledge 6 = .ok (.getfield 10, 3) := by decide +kernel
theorem dX11_acknowledge_9 : decode cX11_acknowledge 9 = .ok (.getfield 122, 3) := by decide +kernel
theorem dX11_acknowledge_12 : decode cX11_acknowledge 12 = .ok (.iload_n 1, 1) := by decide +kernel
theorem dX11_acknowledge_13 : decode cX11_acknowledge 13 = .ok (.aaload, 1) := by decide +kernel
theorem dX11_acknowledge_14 : decode cX11_acknowledge 14 = .ok (.invokevirtual 126, 3) := by decide +kernel
theorem dX11_acknowledge_17 : decode cX11_acknowledge 17 = .ok (.ifCond .eq 7, 3) := by decide +kernel
theorem dX11_acknowledge_20 : decode cX11_acknowledge 20 = .ok (.iconst 1, 1) := by decide +kernel
theorem dX11_acknowledge_21 : decode cX11_acknowledge 21 = .ok (.goto 4, 3) := by decide +kernel
theorem dX11_acknowledge_24 : decode cX11_acknowledge 24 = .ok (.iconst 0, 1) := by decide +kernel
theorem dX11_acknowledge_25 : decode cX11_acknowledge 25 = .ok (.ireturn, 1) := by decide +kernel
theorem dX11_setSignal_0 : decode cX11_setSignal 0 = .ok (.iload_n 1, 1) := by decide +kernel
theorem dX11_setSignal_1 : decode cX11_setSignal 1 = .ok (.invokestatic 131, 3) := by decide +kernel
theorem dX11_setSignal_4 : decode cX11_setSignal 4 = .ok (.getstatic 134, 3) := by decide +kernel
theorem dX11_setSignal_7 : decode cX11_setSignal 7 = .ok (.iload_n 2, 1) := by decide +kernel
theorem dX11_setSignal_8 : decode cX11_setSignal 8 = .ok (.invokevirtual 140, 3) := by decide +kernel
theorem dX11_setSignal_11 : decode cX11_setSignal 11 = .ok (.ifCond .eq 24, 3) := by decide +kernel
theorem dX11_setSignal_14 : decode cX11_setSignal 14 = .ok (.getstatic 143, 3) := by decide +kernel
theorem dX11_setSignal_17 : decode cX11_setSignal 17 = .ok (.iload_n 3, 1) := by decide +kernel
theorem dX11_setSignal_18 : decode cX11_setSignal 18 = .ok (.invokevirtual 140, 3) := by decide +kernel
theorem dX11_setSignal_21 : decode cX11_setSignal 21 = .ok (.ifCond .eq 14, 3) := by decide +kernel
theorem dX11_setSignal_24 : decode cX11_setSignal 24 = .ok (.getstatic 146, 3) := by decide +kernel
theorem dX11_setSignal_27 : decode cX11_setSignal 27 = .ok (.iload 4, 2) := by decide +kernel
theorem dX11_setSignal_29 : decode cX11_setSignal 29 = .ok (.invokevirtual 140, 3) := by decide +kernel
theorem dX11_setSignal_32 : decode cX11_setSignal 32 = .ok (.ifCond .ne 13, 3) := by decide +kernel
theorem dX11_setSignal_35 : decode cX11_setSignal 35 = .ok (.new 55, 3) := by decide +kernel
theorem dX11_setSignal_38 : decode cX11_setSignal 38 = .ok (.dup, 1) := by decide +kernel
theorem dX11_setSignal_39 : decode cX11_setSignal 39 = .ok (.ldc 149, 2) := by decide +kernel
theorem dX11_setSignal_41 : decode cX11_setSignal 41 = .ok (.invokespecial 59, 3) := by decide +kernel
theorem dX11_setSignal_44 : decode cX11_setSignal 44 = .ok (.athrow, 1) := by decide +kernel
theorem dX11_setSignal_45 : decode cX11_setSignal 45 = .ok (.aload_n 0, 1) := by decide +kernel
theorem dX11_setSignal_46 : decode cX11_setSignal 46 = .ok (.getfield 10, 3) := by decide +kernel
theorem dX11_setSignal_49 : decode cX11_setSignal 49 = .ok (.getfield 151, 3) := by decide +kernel
theorem dX11_setSignal_52 : decode cX11_setSignal 52 = .ok (.iload_n 1, 1) := by decide +kernel
theorem dX11_setSignal_53 : decode cX11_setSignal 53 = .ok (.aaload, 1) := by decide +kernel
theorem dX11_setSignal_54 : decode cX11_setSignal 54 = .ok (.astore 5, 2) := by decide +kernel
theorem dX11_setSignal_56 : decode cX11_setSignal 56 = .ok (.aload 5, 2) := by decide +kernel
theorem dX11_setSignal_58 : decode cX11_setSignal 58 = .ok (.iload_n 2, 1) := by decide +kernel
theorem dX11_setSignal_59 : decode cX11_setSignal 59 = .ok (.putfield 155, 3) := by decide +kernel
theorem dX11_setSignal_62 : decode cX11_setSignal 62 = .ok (.aload 5, 2) := by decide +kernel
theorem dX11_setSignal_64 : decode cX11_setSignal 64 = .ok (.iload_n 3, 1) := by decide +kernel
theorem dX11_setSignal_65 : decode cX11_setSignal 65 = .ok (.putfield 160, 3) := by decide +kernel
theorem dX11_setSignal_68 : decode cX11_setSignal 68 = .ok (.aload 5, 2) := by decide +kernel
theorem dX11_setSignal_70 : decode cX11_setSignal 70 = .ok (.iload 4, 2) := by decide +kernel
theorem dX11_setSignal_72 : decode cX11_setSignal 72 = .ok (.putfield 163, 3) := by decide +kernel
theorem dX11_setSignal_75 : decode cX11_setSignal 75 = .ok (.aload 5, 2) := by decide +kernel
theorem dX11_setSignal_77 : decode cX11_setSignal 77 = .ok (.aload_n 0, 1) := by decide +kernel
theorem dX11_setSignal_78 : decode cX11_setSignal 78 = .ok (.getfield 10, 3) := by decide +kernel
theorem dX11_setSignal_81 : decode cX11_setSignal 81 = .ok (.getfield 166, 3) := by decide +kernel
theorem dX11_setSignal_84 : decode cX11_setSignal 84 = .ok (.invokevirtual 169, 3) := by decide +kernel
theorem dX11_setSignal_87 : decode cX11_setSignal 87 = .ok (.ireturn, 1) := by decide +kernel
theorem dX11_setSample_0 : decode cX11_setSample 0 = .ok (.iload_n 1, 1) := by decide +kernel
theorem dX11_setSample_1 : decode cX11_setSample 1 = .ok (.invokestatic 131, 3) := by decide +kernel
theorem dX11_setSample_4 : decode cX11_setSample 4 = .ok (.getstatic 172, 3) := by decide +kernel
theorem dX11_setSample_7 : decode cX11_setSample 7 = .ok (.iload_n 2, 1) := by decide +kernel
theorem dX11_setSample_8 : decode cX11_setSample 8 = .ok (.invokevirtual 140, 3) := by decide +kernel
theorem dX11_setSample_11 : decode cX11_setSample 11 = .ok (.ifCond .ne 13, 3) := by decide +kernel
theorem dX11_setSample_14 : decode cX11_setSample 14 = .ok (.new 55, 3) := by decide +kernel
theorem dX11_setSample_17 : decode cX11_setSample 17 = .ok (.dup, 1) := by decide +kernel
theorem dX11_setSample_18 : decode cX11_setSample 18 = .ok (.ldc 175, 2) := by decide +kernel
theorem dX11_setSample_20 : decode cX11_setSample 20 = .ok (.invokespecial 59, 3) := by decide +kernel
theorem dX11_setSample_23 : decode cX11_setSample 23 = .ok (.athrow, 1) := by decide +kernel
theorem dX11_setSample_24 : decode cX11_setSample 24 = .ok (.aload_n 0, 1) := by decide +kernel
theorem dX11_setSample_25 : decode cX11_setSample 25 = .ok (.getfield 10, 3) := by decide +kernel
theorem dX11_setSample_28 : decode cX11_setSample 28 = .ok (.getfield 151, 3) := by decide +kernel
theorem dX11_setSample_31 : decode cX11_setSample 31 = .ok (.iload_n 1, 1) := by decide +kernel
theorem dX11_setSample_32 : decode cX11_setSample 32 = .ok (.aaload, 1) := by decide +kernel
theorem dX11_setSample_33 : decode cX11_setSample 33 = .ok (.getfield 177, 3) := by decide +kernel
theorem dX11_setSample_36 : decode cX11_setSample 36 = .ok (.istore_n 3, 1) := by decide +kernel
theorem dX11_setSample_37 : decode cX11_setSample 37 = .ok (.aload_n 0, 1) := by decide +kernel
theorem dX11_setSample_38 : decode cX11_setSample 38 = .ok (.getfield 10, 3) := by decide +kernel
theorem dX11_setSample_41 : decode cX11_setSample 41 = .ok (.getfield 151, 3) := by decide +kernel
theorem dX11_setSample_44 : decode cX11_setSample 44 = .ok (.iload_n 1, 1) := by decide +kernel
theorem dX11_setSample_45 : decode cX11_setSample 45 = .ok (.aaload, 1) := by decide +kernel
theorem dX11_setSample_46 : decode cX11_setSample 46 = .ok (.iload_n 2, 1) := by decide +kernel
theorem dX11_setSample_47 : decode cX11_setSample 47 = .ok (.putfield 177, 3) := by decide +kernel
theorem dX11_setSample_50 : decode cX11_setSample 50 = .ok (.iload_n 3, 1) := by decide +kernel
theorem dX11_setSample_51 : decode cX11_setSample 51 = .ok (.ireturn, 1) := by decide +kernel
theorem dX11_setWindow_0 : decode cX11_setWindow 0 = .ok (.aload_n 0, 1) := by decide +kernel
theorem dX11_setWindow_1 : decode cX11_setWindow 1 = .ok (.iload_n 1, 1) := by decide +kernel
theorem dX11_setWindow_2 : decode cX11_setWindow 2 = .ok (.invokevirtual 119, 3) := by decide +kernel
theorem dX11_setWindow_5 : decode cX11_setWindow 5 = .ok (.iload_n 2, 1) := by decide +kernel
theorem dX11_setWindow_6 : decode cX11_setWindow 6 = .ok (.ifCond .lt 14, 3) := by decide +kernel
theorem dX11_setWindow_9 : decode cX11_setWindow 9 = .ok (.iload_n 3, 1) := by decide +kernel
theorem dX11_setWindow_10 : decode cX11_setWindow 10 = .ok (.iload_n 2, 1) := by decide +kernel
theorem dX11_setWindow_11 : decode cX11_setWindow 11 = .ok (.if_icmp .lt 9, 3) := by decide +kernel
theorem dX11_setWindow_14 : decode cX11_setWindow 14 = .ok (.iload_n 3, 1) := by decide +kernel
theorem dX11_setWindow_15 : decode cX11_setWindow 15 = .ok (.ldc 180, 2) := by decide +kernel
theorem dX11_setWindow_17 : decode cX11_setWindow 17 = .ok (.if_icmp .le 13, 3) := by decide +kernel
theorem dX11_setWindow_20 : decode cX11_setWindow 20 = .ok (.new 55, 3) := by decide +kernel
theorem dX11_setWindow_23 : decode cX11_setWindow 23 = .ok (.dup, 1) := by decide +kernel
theorem dX11_setWindow_24 : decode cX11_setWindow 24 = .ok (.ldc 181, 2) := by decide +kernel
theorem dX11_setWindow_26 : decode cX11_setWindow 26 = .ok (.invokespecial 59, 3) := by decide +kernel
theorem dX11_setWindow_29 : decode cX11_setWindow 29 = .ok (.athrow, 1) := by decide +kernel
theorem dX11_setWindow_30 : decode cX11_setWindow 30 = .ok (.aload_n 0, 1) := by decide +kernel
theorem dX11_setWindow_31 : decode cX11_setWindow 31 = .ok (.getfield 10, 3) := by decide +kernel
theorem dX11_setWindow_34 : decode cX11_setWindow 34 = .ok (.getfield 122, 3) := by decide +kernel
theorem dX11_setWindow_37 : decode cX11_setWindow 37 = .ok (.iload_n 1, 1) := by decide +kernel
theorem dX11_setWindow_38 : decode cX11_setWindow 38 = .ok (.aaload, 1) := by decide +kernel
theorem dX11_setWindow_39 : decode cX11_setWindow 39 = .ok (.astore 4, 2) := by decide +kernel
theorem dX11_setWindow_41 : decode cX11_setWindow 41 = .ok (.aload 4, 2) := by decide +kernel
theorem dX11_setWindow_43 : decode cX11_setWindow 43 = .ok (.iload_n 2, 1) := by decide +kernel
theorem dX11_setWindow_44 : decode cX11_setWindow 44 = .ok (.putfield 183, 3) := by decide +kernel
theorem dX11_setWindow_47 : decode cX11_setWindow 47 = .ok (.aload 4, 2) := by decide +kernel
theorem dX11_setWindow_49 : decode cX11_setWindow 49 = .ok (.iload_n 3, 1) := by decide +kernel
theorem dX11_setWindow_50 : decode cX11_setWindow 50 = .ok (.putfield 186, 3) := by decide +kernel
theorem dX11_setWindow_53 : decode cX11_setWindow 53 = .ok (.aload 4, 2) := by decide +kernel
theorem dX11_setWindow_55 : decode cX11_setWindow 55 = .ok (.getfield 189, 3) := by decide +kernel
theorem dX11_setWindow_58 : decode cX11_setWindow 58 = .ok (.ifCond .eq 7, 3) := by decide +kernel
theorem dX11_setWindow_61 : decode cX11_setWindow 61 = .ok (.iconst 1, 1) := by decide +kernel
theorem dX11_setWindow_62 : decode cX11_setWindow 62 = .ok (.goto 4, 3) := by decide +kernel
theorem dX11_setWindow_65 : decode cX11_setWindow 65 = .ok (.iconst 0, 1) := by decide +kernel
theorem dX11_setWindow_66 : decode cX11_setWindow 66 = .ok (.ireturn, 1) := by decide +kernel
theorem dX11_setPace_0 : decode cX11_setPace 0 = .ok (.iload_n 1, 1) := by decide +kernel
theorem dX11_setPace_1 : decode cX11_setPace 1 = .ok (.invokestatic 193, 3) := by decide +kernel
theorem dX11_setPace_4 : decode cX11_setPace 4 = .ok (.aload_n 0, 1) := by decide +kernel
theorem dX11_setPace_5 : decode cX11_setPace 5 = .ok (.getfield 10, 3) := by decide +kernel
theorem dX11_setPace_8 : decode cX11_setPace 8 = .ok (.getfield 196, 3) := by decide +kernel
theorem dX11_setPace_11 : decode cX11_setPace 11 = .ok (.istore_n 2, 1) := by decide +kernel
theorem dX11_setPace_12 : decode cX11_setPace 12 = .ok (.aload_n 0, 1) := by decide +kernel
theorem dX11_setPace_13 : decode cX11_setPace 13 = .ok (.getfield 10, 3) := by decide +kernel
theorem dX11_setPace_16 : decode cX11_setPace 16 = .ok (.iload_n 1, 1) := by decide +kernel
theorem dX11_setPace_17 : decode cX11_setPace 17 = .ok (.putfield 196, 3) := by decide +kernel
theorem dX11_setPace_20 : decode cX11_setPace 20 = .ok (.iload_n 2, 1) := by decide +kernel
theorem dX11_setPace_21 : decode cX11_setPace 21 = .ok (.ireturn, 1) := by decide +kernel
theorem dX11_state_0 : decode cX11_state 0 = .ok (.iload_n 1, 1) := by decide +kernel
theorem dX11_state_1 : decode cX11_state 1 = .ok (.bipush 10, 2) := by decide +kernel
theorem dX11_state_3 : decode cX11_state 3 = .ok (.invokestatic 199, 3) := by decide +kernel
theorem dX11_state_6 : decode cX11_state 6 = .ok (.aload_n 0, 1) := by decide +kernel
theorem dX11_state_7 : decode cX11_state 7 = .ok (.getfield 10, 3) := by decide +kernel
theorem dX11_state_10 : decode cX11_state 10 = .ok (.getfield 202, 3) := by decide +kernel
theorem dX11_state_13 : decode cX11_state 13 = .ok (.astore_n 2, 1) := by decide +kernel
theorem dX11_state_14 : decode cX11_state 14 = .ok (.aload_n 2, 1) := by decide +kernel
theorem dX11_state_15 : decode cX11_state 15 = .ok (.getfield 206, 3) := by decide +kernel
theorem dX11_state_18 : decode cX11_state 18 = .ok (.ifCond .eq 7, 3) := by decide +kernel
theorem dX11_state_21 : decode cX11_state 21 = .ok (.iconst 1, 1) := by decide +kernel
theorem dX11_state_22 : decode cX11_state 22 = .ok (.goto 4, 3) := by decide +kernel
theorem dX11_state_25 : decode cX11_state 25 = .ok (.iconst 0, 1) := by decide +kernel
theorem dX11_state_26 : decode cX11_state 26 = .ok (.istore_n 3, 1) := by decide +kernel
theorem dX11_state_27 : decode cX11_state 27 = .ok (.iload_n 1, 1) := by decide +kernel
theorem dX11_state_28 : decode cX11_state 28 = .ok (.tableswitch 143 0 9 #[56, 64, 69, 82, 95, 100, 105, 116, 124, 132], 56) := by decide +kernel
theorem dX11_state_84 : decode cX11_state 84 = .ok (.aload_n 0, 1) := by decide +kernel
theorem dX11_state_85 : decode cX11_state 85 = .ok (.getfield 10, 3) := by decide +kernel
theorem dX11_state_88 : decode cX11_state 88 = .ok (.getfield 166, 3) := by decide +kernel
theorem dX11_state_91 : decode cX11_state 91 = .ok (.ireturn, 1) := by decide +kernel
theorem dX11_state_92 : decode cX11_state 92 = .ok (.aload_n 2, 1) := by decide +kernel
theorem dX11_state_93 : decode cX11_state 93 = .ok (.getfield 206, 3) := by decide +kernel
theorem dX11_state_96 : decode cX11_state 96 = .ok (.ireturn, 1) := by decide +kernel
theorem dX11_state_97 : decode cX11_state 97 = .ok (.iload_n 3, 1) := by decide +kernel
theorem dX11_state_98 : decode cX11_state 98 = .ok (.ifCond .eq 10, 3) := by decide +kernel
theorem dX11_state_101 : decode cX11_state 101 = .ok (.aload_n 2, 1) := by decide +kernel
theorem dX11_state_102 : decode cX11_state 102 = .ok (.getfield 211, 3) := by decide +kernel
theorem dX11_state_105 : decode cX11_state 105 = .ok (.goto 4, 3) := by decide +kernel
theorem dX11_state_108 : decode cX11_state 108 = .ok (.iconst (-1), 1) := by decide +kernel
theorem dX11_state_109 : decode cX11_state 109 = .ok (.ireturn, 1) := by decide +kernel
theorem dX11_state_110 : decode cX11_state 110 = .ok (.iload_n 3, 1) := by decide +kernel
theorem dX11_state_111 : decode cX11_state 111 = .ok (.ifCond .eq 10, 3) := by decide +kernel
theorem dX11_state_114 : decode cX11_state 114 = .ok (.aload_n 2, 1) := by decide +kernel
theorem dX11_state_115 : decode cX11_state 115 = .ok (.getfield 214, 3) := by decide +kernel
theorem dX11_state_118 : decode cX11_state 118 = .ok (.goto 4, 3) := by decide +kernel
theorem dX11_state_121 : decode cX11_state 121 = .ok (.iconst (-1), 1) := by decide +kernel
theorem dX11_state_122 : decode cX11_state 122 = .ok (.ireturn, 1) := by decide +kernel
theorem dX11_state_123 : decode cX11_state 123 = .ok (.aload_n 2, 1) := by decide +kernel
theorem dX11_state_124 : decode cX11_state 124 = .ok (.getfield 217, 3) := by decide +kernel
theorem dX11_state_127 : decode cX11_state 127 = .ok (.ireturn, 1) := by decide +kernel
theorem dX11_state_128 : decode cX11_state 128 = .ok (.aload_n 2, 1) := by decide +kernel
theorem dX11_state_129 : decode cX11_state 129 = .ok (.getfield 220, 3) := by decide +kernel
theorem dX11_state_132 : decode cX11_state 132 = .ok (.ireturn, 1) := by decide +kernel
theorem dX11_state_133 : decode cX11_state 133 = .ok (.aload_n 0, 1) := by decide +kernel
theorem dX11_state_134 : decode cX11_state 134 = .ok (.getfield 10, 3) := by decide +kernel
theorem dX11_state_137 : decode cX11_state 137 = .ok (.getfield 98, 3) := by decide +kernel
theorem dX11_state_140 : decode cX11_state 140 = .ok (.getfield 223, 3) := by decide +kernel
theorem dX11_state_143 : decode cX11_state 143 = .ok (.ireturn, 1) := by decide +kernel
theorem dX11_state_144 : decode cX11_state 144 = .ok (.aload_n 0, 1) := by decide +kernel
theorem dX11_state_145 : decode cX11_state 145 = .ok (.getfield 10, 3) := by decide +kernel
theorem dX11_state_148 : decode cX11_state 148 = .ok (.getfield 226, 3) := by decide +kernel
theorem dX11_state_151 : decode cX11_state 151 = .ok (.ireturn, 1) := by decide +kernel
theorem dX11_state_152 : decode cX11_state 152 = .ok (.aload_n 0, 1) := by decide +kernel
theorem dX11_state_153 : decode cX11_state 153 = .ok (.getfield 10, 3) := by decide +kernel
theorem dX11_state_156 : decode cX11_state 156 = .ok (.getfield 196, 3) := by decide +kernel
theorem dX11_state_159 : decode cX11_state 159 = .ok (.ireturn, 1) := by decide +kernel
theorem dX11_state_160 : decode cX11_state 160 = .ok (.aload_n 0, 1) := by decide +kernel
theorem dX11_state_161 : decode cX11_state 161 = .ok (.getfield 10, 3) := by decide +kernel
theorem dX11_state_164 : decode cX11_state 164 = .ok (.getfield 98, 3) := by decide +kernel
theorem dX11_state_167 : decode cX11_state 167 = .ok (.getfield 102, 3) := by decide +kernel
theorem dX11_state_170 : decode cX11_state 170 = .ok (.ireturn, 1) := by decide +kernel
theorem dX11_state_171 : decode cX11_state 171 = .ok (.aload_n 0, 1) := by decide +kernel
theorem dX11_state_172 : decode cX11_state 172 = .ok (.getfield 10, 3) := by decide +kernel
theorem dX11_state_175 : decode cX11_state 175 = .ok (.getfield 98, 3) := by decide +kernel
theorem dX11_state_178 : decode cX11_state 178 = .ok (.getfield 229, 3) := by decide +kernel
theorem dX11_state_181 : decode cX11_state 181 = .ok (.ireturn, 1) := by decide +kernel
theorem dX11_sequence_0 : decode cX11_sequence 0 = .ok (.iload_n 2, 1) := by decide +kernel
theorem dX11_sequence_1 : decode cX11_sequence 1 = .ok (.bipush 7, 2) := by decide +kernel
theorem dX11_sequence_3 : decode cX11_sequence 3 = .ok (.invokestatic 199, 3) := by decide +kernel
theorem dX11_sequence_6 : decode cX11_sequence 6 = .ok (.aload_n 0, 1) := by decide +kernel
theorem dX11_sequence_7 : decode cX11_sequence 7 = .ok (.getfield 10, 3) := by decide +kernel
theorem dX11_sequence_10 : decode cX11_sequence 10 = .ok (.iload_n 1, 1) := by decide +kernel
theorem dX11_sequence_11 : decode cX11_sequence 11 = .ok (.ifCond .eq 7, 3) := by decide +kernel
theorem dX11_sequence_14 : decode cX11_sequence 14 = .ok (.iconst 2, 1) := by decide +kernel
theorem dX11_sequence_15 : decode cX11_sequence 15 = .ok (.goto 4, 3) := by decide +kernel
theorem dX11_sequence_18 : decode cX11_sequence 18 = .ok (.iconst 1, 1) := by decide +kernel
theorem dX11_sequence_19 : decode cX11_sequence 19 = .ok (.invokevirtual 232, 3) := by decide +kernel
theorem dX11_sequence_22 : decode cX11_sequence 22 = .ok (.astore_n 3, 1) := by decide +kernel
theorem dX11_sequence_23 : decode cX11_sequence 23 = .ok (.iload_n 2, 1) := by decide +kernel
theorem dX11_sequence_24 : decode cX11_sequence 24 = .ok (.tableswitch 87 0 6 #[44, 49, 62, 67, 72, 77, 82], 44) := by decide +kernel
theorem dX11_sequence_68 : decode cX11_sequence 68 = .ok (.aload_n 3, 1) := by decide +kernel
theorem dX11_sequence_69 : decode cX11_sequence 69 = .ok (.getfield 236, 3) := by decide +kernel
theorem dX11_sequence_72 : decode cX11_sequence 72 = .ok (.ireturn, 1) := by decide +kernel
theorem dX11_sequence_73 : decode cX11_sequence 73 = .ok (.aload_n 3, 1) := by decide +kernel
theorem dX11_sequence_74 : decode cX11_sequence 74 = .ok (.getfield 241, 3) := by decide +kernel
theorem dX11_sequence_77 : decode cX11_sequence 77 = .ok (.ifCond .eq 7, 3) := by decide +kernel
theorem dX11_sequence_80 : decode cX11_sequence 80 = .ok (.iconst 1, 1) := by decide +kernel
theorem dX11_sequence_81 : decode cX11_sequence 81 = .ok (.goto 4, 3) := by decide +kernel
theorem dX11_sequence_84 : decode cX11_sequence 84 = .ok (.iconst 0, 1) := by decide +kernel
theorem dX11_sequence_85 : decode cX11_sequence 85 = .ok (.ireturn, 1) := by decide +kernel
theorem dX11_sequence_86 : decode cX11_sequence 86 = .ok (.aload_n 3, 1) := by decide +kernel
theorem dX11_sequence_87 : decode cX11_sequence 87 = .ok (.getfield 244, 3) := by decide +kernel
theorem dX11_sequence_90 : decode cX11_sequence 90 = .ok (.ireturn, 1) := by decide +kernel
theorem dX11_sequence_91 : decode cX11_sequence 91 = .ok (.aload_n 3, 1) := by decide +kernel
theorem dX11_sequence_92 : decode cX11_sequence 92 = .ok (.getfield 247, 3) := by decide +kernel
theorem dX11_sequence_95 : decode cX11_sequence 95 = .ok (.ireturn, 1) := by decide +kernel
theorem dX11_sequence_96 : decode cX11_sequence 96 = .ok (.aload_n 3, 1) := by decide +kernel
theorem dX11_sequence_97 : decode cX11_sequence 97 = .ok (.getfield 250, 3) := by decide +kernel
theorem dX11_sequence_100 : decode cX11_sequence 100 = .ok (.ireturn, 1) := by decide +kernel
theorem dX11_sequence_101 : decode cX11_sequence 101 = .ok (.aload_n 3, 1) := by decide +kernel
theorem dX11_sequence_102 : decode cX11_sequence 102 = .ok (.getfield 253, 3) := by decide +kernel
theorem dX11_sequence_105 : decode cX11_sequence 105 = .ok (.ireturn, 1) := by decide +kernel
theorem dX11_sequence_106 : decode cX11_sequence 106 = .ok (.aload_n 3, 1) := by decide +kernel
theorem dX11_sequence_107 : decode cX11_sequence 107 = .ok (.getfield 256, 3) := by decide +kernel
theorem dX11_sequence_110 : decode cX11_sequence 110 = .ok (.ireturn, 1) := by decide +kernel
theorem dX11_sequence_111 : decode cX11_sequence 111 = .ok (.aload_n 3, 1) := by decide +kernel
theorem dX11_sequence_112 : decode cX11_sequence 112 = .ok (.getfield 259, 3) := by decide +kernel
theorem dX11_sequence_115 : decode cX11_sequence 115 = .ok (.ireturn, 1) := by decide +kernel
theorem dX11_entry_0 : decode cX11_entry 0 = .ok (.aload_n 0, 1) := by decide +kernel
theorem dX11_entry_1 : decode cX11_entry 1 = .ok (.getfield 10, 3) := by decide +kernel
theorem dX11_entry_4 : decode cX11_entry 4 = .ok (.iload_n 1, 1) := by decide +kernel
theorem dX11_entry_5 : decode cX11_entry 5 = .ok (.ifCond .eq 7, 3) := by decide +kernel
theorem dX11_entry_8 : decode cX11_entry 8 = .ok (.iconst 2, 1) := by decide +kernel
theorem dX11_entry_9 : decode cX11_entry 9 = .ok (.goto 4, 3) := by decide +kernel
theorem dX11_entry_12 : decode cX11_entry 12 = .ok (.iconst 1, 1) := by decide +kernel
theorem dX11_entry_13 : decode cX11_entry 13 = .ok (.invokevirtual 232, 3) := by decide +kernel
theorem dX11_entry_16 : decode cX11_entry 16 = .ok (.astore_n 3, 1) := by decide +kernel
theorem dX11_entry_17 : decode cX11_entry 17 = .ok (.iload_n 2, 1) := by decide +kernel
theorem dX11_entry_18 : decode cX11_entry 18 = .ok (.ifCond .lt 11, 3) := by decide +kernel
theorem dX11_entry_21 : decode cX11_entry 21 = .ok (.iload_n 2, 1) := by decide +kernel
theorem dX11_entry_22 : decode cX11_entry 22 = .ok (.aload_n 3, 1) := by decide +kernel
theorem dX11_entry_23 : decode cX11_entry 23 = .ok (.getfield 236, 3) := by decide +kernel
theorem dX11_entry_26 : decode cX11_entry 26 = .ok (.if_icmp .lt 14, 3) := by decide +kernel
theorem dX11_entry_29 : decode cX11_entry 29 = .ok (.new 262, 3) := by decide +kernel
theorem dX11_entry_32 : decode cX11_entry 32 = .ok (.dup, 1) := by decide +kernel
theorem dX11_entry_33 : decode cX11_entry 33 = .ok (.ldc_w 264, 3) := by decide +kernel
theorem dX11_entry_36 : decode cX11_entry 36 = .ok (.invokespecial 266, 3) := by decide +kernel
theorem dX11_entry_39 : decode cX11_entry 39 = .ok (.athrow, 1) := by decide +kernel
theorem dX11_entry_40 : decode cX11_entry 40 = .ok (.aload_n 3, 1) := by decide +kernel
theorem dX11_entry_41 : decode cX11_entry 41 = .ok (.getfield 267, 3) := by decide +kernel
theorem dX11_entry_44 : decode cX11_entry 44 = .ok (.iload_n 2, 1) := by decide +kernel
theorem dX11_entry_45 : decode cX11_entry 45 = .ok (.iaload, 1) := by decide +kernel
theorem dX11_entry_46 : decode cX11_entry 46 = .ok (.ireturn, 1) := by decide +kernel
theorem dX11_channel_0 : decode cX11_channel 0 = .ok (.iload_n 1, 1) := by decide +kernel
theorem dX11_channel_1 : decode cX11_channel 1 = .ok (.invokestatic 131, 3) := by decide +kernel
theorem dX11_channel_4 : decode cX11_channel 4 = .ok (.iload_n 2, 1) := by decide +kernel
theorem dX11_channel_5 : decode cX11_channel 5 = .ok (.bipush 7, 2) := by decide +kernel
theorem dX11_channel_7 : decode cX11_channel 7 = .ok (.invokestatic 199, 3) := by decide +kernel
theorem dX11_channel_10 : decode cX11_channel 10 = .ok (.aload_n 0, 1) := by decide +kernel
theorem dX11_channel_11 : decode cX11_channel 11 = .ok (.getfield 10, 3) := by decide +kernel
theorem dX11_channel_14 : decode cX11_channel 14 = .ok (.getfield 151, 3) := by decide +kernel
theorem dX11_channel_17 : decode cX11_channel 17 = .ok (.iload_n 1, 1) := by decide +kernel
theorem dX11_channel_18 : decode cX11_channel 18 = .ok (.aaload, 1) := by decide +kernel
theorem dX11_channel_19 : decode cX11_channel 19 = .ok (.astore_n 3, 1) := by decide +kernel
theorem dX11_channel_20 : decode cX11_channel 20 = .ok (.iload_n 2, 1) := by decide +kernel
theorem dX11_channel_21 : decode cX11_channel 21 = .ok (.tableswitch 78 0 6 #[43, 48, 53, 58, 63, 68, 73], 43) := by decide +kernel
theorem dX11_channel_64 : decode cX11_channel 64 = .ok (.aload_n 3, 1) := by decide +kernel
theorem dX11_channel_65 : decode cX11_channel 65 = .ok (.getfield 177, 3) := by decide +kernel
theorem dX11_channel_68 : decode cX11_channel 68 = .ok (.ireturn, 1) := by decide +kernel
theorem dX11_channel_69 : decode cX11_channel 69 = .ok (.aload_n 3, 1) := by decide +kernel
theorem dX11_channel_70 : decode cX11_channel 70 = .ok (.getfield 271, 3) := by decide +kernel
theorem dX11_channel_73 : decode cX11_channel 73 = .ok (.ireturn, 1) := by decide +kernel
theorem dX11_channel_74 : decode cX11_channel 74 = .ok (.aload_n 3, 1) := by decide +kernel
theorem dX11_channel_75 : decode cX11_channel 75 = .ok (.getfield 155, 3) := by decide +kernel
theorem dX11_channel_78 : decode cX11_channel 78 = .ok (.ireturn, 1) := by decide +kernel
theorem dX11_channel_79 : decode cX11_channel 79 = .ok (.aload_n 3, 1) := by decide +kernel
theorem dX11_channel_80 : decode cX11_channel 80 = .ok (.getfield 160, 3) := by decide +kernel
theorem dX11_channel_83 : decode cX11_channel 83 = .ok (.ireturn, 1) := by decide +kernel
theorem dX11_channel_84 : decode cX11_channel 84 = .ok (.aload_n 3, 1) := by decide +kernel
theorem dX11_channel_85 : decode cX11_channel 85 = .ok (.getfield 163, 3) := by decide +kernel
theorem dX11_channel_88 : decode cX11_channel 88 = .ok (.ireturn, 1) := by decide +kernel
theorem dX11_channel_89 : decode cX11_channel 89 = .ok (.aload_n 3, 1) := by decide +kernel
theorem dX11_channel_90 : decode cX11_channel 90 = .ok (.getfield 274, 3) := by decide +kernel
theorem dX11_channel_93 : decode cX11_channel 93 = .ok (.ireturn, 1) := by decide +kernel
theorem dX11_channel_94 : decode cX11_channel 94 = .ok (.aload_n 3, 1) := by decide +kernel
theorem dX11_channel_95 : decode cX11_channel 95 = .ok (.getfield 275, 3) := by decide +kernel
theorem dX11_channel_98 : decode cX11_channel 98 = .ok (.ireturn, 1) := by decide +kernel
theorem dX11_channel_99 : decode cX11_channel 99 = .ok (.aload_n 3, 1) := by decide +kernel
theorem dX11_channel_100 : decode cX11_channel 100 = .ok (.getfield 278, 3) := by decide +kernel
theorem dX11_channel_103 : decode cX11_channel 103 = .ok (.ireturn, 1) := by decide +kernel
theorem dX11_sum_0 : decode cX11_sum 0 = .ok (.iload_n 1, 1) := by decide +kernel
theorem dX11_sum_1 : decode cX11_sum 1 = .ok (.invokestatic 131, 3) := by decide +kernel
theorem dX11_sum_4 : decode cX11_sum 4 = .ok (.aload_n 0, 1) := by decide +kernel
theorem dX11_sum_5 : decode cX11_sum 5 = .ok (.getfield 10, 3) := by decide +kernel
theorem dX11_sum_8 : decode cX11_sum 8 = .ok (.getfield 151, 3) := by decide +kernel
theorem dX11_sum_11 : decode cX11_sum 11 = .ok (.iload_n 1, 1) := by decide +kernel
theorem dX11_sum_12 : decode cX11_sum 12 = .ok (.aaload, 1) := by decide +kernel
theorem dX11_sum_13 : decode cX11_sum 13 = .ok (.getfield 281, 3) := by decide +kernel
theorem dX11_sum_16 : decode cX11_sum 16 = .ok (.lreturn, 1) := by decide +kernel
theorem dX11_mean_0 : decode cX11_mean 0 = .ok (.iload_n 1, 1) := by decide +kernel
theorem dX11_mean_1 : decode cX11_mean 1 = .ok (.invokestatic 131, 3) := by decide +kernel
theorem dX11_mean_4 : decode cX11_mean 4 = .ok (.aload_n 0, 1) := by decide +kernel
theorem dX11_mean_5 : decode cX11_mean 5 = .ok (.getfield 10, 3) := by decide +kernel
theorem dX11_mean_8 : decode cX11_mean 8 = .ok (.getfield 151, 3) := by decide +kernel
theorem dX11_mean_11 : decode cX11_mean 11 = .ok (.iload_n 1, 1) := by decide +kernel
theorem dX11_mean_12 : decode cX11_mean 12 = .ok (.aaload, 1) := by decide +kernel
theorem dX11_mean_13 : decode cX11_mean 13 = .ok (.astore_n 2, 1) := by decide +kernel
theorem dX11_mean_14 : decode cX11_mean 14 = .ok (.aload_n 2, 1) := by decide +kernel
theorem dX11_mean_15 : decode cX11_mean 15 = .ok (.getfield 274, 3) := by decide +kernel
theorem dX11_mean_18 : decode cX11_mean 18 = .ok (.ifCond .ne 14, 3) := by decide +kernel
theorem dX11_mean_21 : decode cX11_mean 21 = .ok (.new 107, 3) := by decide +kernel
theorem dX11_mean_24 : decode cX11_mean 24 = .ok (.dup, 1) := by decide +kernel
theorem dX11_mean_25 : decode cX11_mean 25 = .ok (.ldc_w 285, 3) := by decide +kernel
theorem dX11_mean_28 : decode cX11_mean 28 = .ok (.invokespecial 111, 3) := by decide +kernel
theorem dX11_mean_31 : decode cX11_mean 31 = .ok (.athrow, 1) := by decide +kernel
theorem dX11_mean_32 : decode cX11_mean 32 = .ok (.aload_n 2, 1) := by decide +kernel
theorem dX11_mean_33 : decode cX11_mean 33 = .ok (.getfield 281, 3) := by decide +kernel
theorem dX11_mean_36 : decode cX11_mean 36 = .ok (.l2d, 1) := by decide +kernel
theorem dX11_mean_37 : decode cX11_mean 37 = .ok (.aload_n 2, 1) := by decide +kernel
theorem dX11_mean_38 : decode cX11_mean 38 = .ok (.getfield 274, 3) := by decide +kernel
theorem dX11_mean_41 : decode cX11_mean 41 = .ok (.i2d, 1) := by decide +kernel
theorem dX11_mean_42 : decode cX11_mean 42 = .ok (.ddiv, 1) := by decide +kernel
theorem dX11_mean_43 : decode cX11_mean 43 = .ok (.dreturn, 1) := by decide +kernel
theorem dX11_trigger_0 : decode cX11_trigger 0 = .ok (.iload_n 1, 1) := by decide +kernel
theorem dX11_trigger_1 : decode cX11_trigger 1 = .ok (.invokestatic 87, 3) := by decide +kernel
theorem dX11_trigger_4 : decode cX11_trigger 4 = .ok (.iload_n 2, 1) := by decide +kernel
theorem dX11_trigger_5 : decode cX11_trigger 5 = .ok (.iconst 4, 1) := by decide +kernel
theorem dX11_trigger_6 : decode cX11_trigger 6 = .ok (.invokestatic 199, 3) := by decide +kernel
theorem dX11_trigger_9 : decode cX11_trigger 9 = .ok (.aload_n 0, 1) := by decide +kernel
theorem dX11_trigger_10 : decode cX11_trigger 10 = .ok (.getfield 10, 3) := by decide +kernel
theorem dX11_trigger_13 : decode cX11_trigger 13 = .ok (.getfield 287, 3) := by decide +kernel
theorem dX11_trigger_16 : decode cX11_trigger 16 = .ok (.iload_n 1, 1) := by decide +kernel
theorem dX11_trigger_17 : decode cX11_trigger 17 = .ok (.aaload, 1) := by decide +kernel
theorem dX11_trigger_18 : decode cX11_trigger 18 = .ok (.astore_n 3, 1) := by decide +kernel
theorem dX11_trigger_19 : decode cX11_trigger 19 = .ok (.iload_n 2, 1) := by decide +kernel
theorem dX11_trigger_20 : decode cX11_trigger 20 = .ok (.tableswitch 52 0 3 #[32, 37, 42, 47], 32) := by decide +kernel
theorem dX11_trigger_52 : decode cX11_trigger 52 = .ok (.aload_n 3, 1) := by decide +kernel
theorem dX11_trigger_53 : decode cX11_trigger 53 = .ok (.getfield 291, 3) := by decide +kernel
theorem dX11_trigger_56 : decode cX11_trigger 56 = .ok (.ireturn, 1) := by decide +kernel
theorem dX11_trigger_57 : decode cX11_trigger 57 = .ok (.aload_n 3, 1) := by decide +kernel
theorem dX11_trigger_58 : decode cX11_trigger 58 = .ok (.getfield 296, 3) := by decide +kernel
theorem dX11_trigger_61 : decode cX11_trigger 61 = .ok (.ireturn, 1) := by decide +kernel
theorem dX11_trigger_62 : decode cX11_trigger 62 = .ok (.aload_n 3, 1) := by decide +kernel
theorem dX11_trigger_63 : decode cX11_trigger 63 = .ok (.getfield 297, 3) := by decide +kernel
theorem dX11_trigger_66 : decode cX11_trigger 66 = .ok (.ireturn, 1) := by decide +kernel
theorem dX11_trigger_67 : decode cX11_trigger 67 = .ok (.aload_n 3, 1) := by decide +kernel
theorem dX11_trigger_68 : decode cX11_trigger 68 = .ok (.getfield 300, 3) := by decide +kernel
theorem dX11_trigger_71 : decode cX11_trigger 71 = .ok (.ireturn, 1) := by decide +kernel
theorem dX11_trigger_72 : decode cX11_trigger 72 = .ok (.aload_n 3, 1) := by decide +kernel
theorem dX11_trigger_73 : decode cX11_trigger 73 = .ok (.getfield 303, 3) := by decide +kernel
theorem dX11_trigger_76 : decode cX11_trigger 76 = .ok (.ireturn, 1) := by decide +kernel
theorem dX11_window_0 : decode cX11_window 0 = .ok (.aload_n 0, 1) := by decide +kernel
theorem dX11_window_1 : decode cX11_window 1 = .ok (.iload_n 1, 1) := by decide +kernel
theorem dX11_window_2 : decode cX11_window 2 = .ok (.invokevirtual 119, 3) := by decide +kernel
theorem dX11_window_5 : decode cX11_window 5 = .ok (.iload_n 2, 1) := by decide +kernel
theorem dX11_window_6 : decode cX11_window 6 = .ok (.bipush 8, 2) := by decide +kernel
theorem dX11_window_8 : decode cX11_window 8 = .ok (.invokestatic 199, 3) := by decide +kernel
theorem dX11_window_11 : decode cX11_window 11 = .ok (.aload_n 0, 1) := by decide +kernel
theorem dX11_window_12 : decode cX11_window 12 = .ok (.getfield 10, 3) := by decide +kernel
theorem dX11_window_15 : decode cX11_window 15 = .ok (.getfield 122, 3) := by decide +kernel
theorem dX11_window_18 : decode cX11_window 18 = .ok (.iload_n 1, 1) := by decide +kernel
theorem dX11_window_19 : decode cX11_window 19 = .ok (.aaload, 1) := by decide +kernel
theorem dX11_window_20 : decode cX11_window 20 = .ok (.astore_n 3, 1) := by decide +kernel
theorem dX11_window_21 : decode cX11_window 21 = .ok (.iload_n 2, 1) := by decide +kernel
theorem dX11_window_22 : decode cX11_window 22 = .ok (.tableswitch 94 0 7 #[46, 51, 56, 61, 66, 71, 84, 89], 46) := by decide +kernel
theorem dX11_window_68 : decode cX11_window 68 = .ok (.aload_n 3, 1) := by decide +kernel
theorem dX11_window_69 : decode cX11_window 69 = .ok (.getfield 183, 3) := by decide +kernel
theorem dX11_window_72 : decode cX11_window 72 = .ok (.ireturn, 1) := by decide +kernel
theorem dX11_window_73 : decode cX11_window 73 = .ok (.aload_n 3, 1) := by decide +kernel
theorem dX11_window_74 : decode cX11_window 74 = .ok (.getfield 186, 3) := by decide +kernel
theorem dX11_window_77 : decode cX11_window 77 = .ok (.ireturn, 1) := by decide +kernel
theorem dX11_window_78 : decode cX11_window 78 = .ok (.aload_n 3, 1) := by decide +kernel
theorem dX11_window_79 : decode cX11_window 79 = .ok (.getfield 306, 3) := by decide +kernel
theorem dX11_window_82 : decode cX11_window 82 = .ok (.ireturn, 1) := by decide +kernel
theorem dX11_window_83 : decode cX11_window 83 = .ok (.aload_n 3, 1) := by decide +kernel
theorem dX11_window_84 : decode cX11_window 84 = .ok (.getfield 309, 3) := by decide +kernel
theorem dX11_window_87 : decode cX11_window 87 = .ok (.ireturn, 1) := by decide +kernel
theorem dX11_window_88 : decode cX11_window 88 = .ok (.aload_n 3, 1) := by decide +kernel
theorem dX11_window_89 : decode cX11_window 89 = .ok (.getfield 311, 3) := by decide +kernel
theorem dX11_window_92 : decode cX11_window 92 = .ok (.ireturn, 1) := by decide +kernel
theorem dX11_window_93 : decode cX11_window 93 = .ok (.aload_n 3, 1) := by decide +kernel
theorem dX11_window_94 : decode cX11_window 94 = .ok (.getfield 189, 3) := by decide +kernel
theorem dX11_window_97 : decode cX11_window 97 = .ok (.ifCond .eq 7, 3) := by decide +kernel
theorem dX11_window_100 : decode cX11_window 100 = .ok (.iconst 1, 1) := by decide +kernel
theorem dX11_window_101 : decode cX11_window 101 = .ok (.goto 4, 3) := by decide +kernel
theorem dX11_window_104 : decode cX11_window 104 = .ok (.iconst 0, 1) := by decide +kernel
theorem dX11_window_105 : decode cX11_window 105 = .ok (.ireturn, 1) := by decide +kernel
theorem dX11_window_106 : decode cX11_window 106 = .ok (.aload_n 3, 1) := by decide +kernel
theorem dX11_window_107 : decode cX11_window 107 = .ok (.getfield 312, 3) := by decide +kernel
theorem dX11_window_110 : decode cX11_window 110 = .ok (.ireturn, 1) := by decide +kernel
theorem dX11_window_111 : decode cX11_window 111 = .ok (.aload_n 3, 1) := by decide +kernel
theorem dX11_window_112 : decode cX11_window 112 = .ok (.getfield 315, 3) := by decide +kernel
theorem dX11_window_115 : decode cX11_window 115 = .ok (.ireturn, 1) := by decide +kernel
theorem dX11_window_116 : decode cX11_window 116 = .ok (.aload_n 3, 1) := by decide +kernel
theorem dX11_window_117 : decode cX11_window 117 = .ok (.getfield 318, 3) := by decide +kernel
theorem dX11_window_120 : decode cX11_window 120 = .ok (.ireturn, 1) := by decide +kernel
theorem dX11_signal_0 : decode cX11_signal 0 = .ok (.iload_n 1, 1) := by decide +kernel
theorem dX11_signal_1 : decode cX11_signal 1 = .ok (.invokestatic 131, 3) := by decide +kernel
theorem dX11_signal_4 : decode cX11_signal 4 = .ok (.iload_n 2, 1) := by decide +kernel
theorem dX11_signal_5 : decode cX11_signal 5 = .ok (.ifCond .ge 14, 3) := by decide +kernel
theorem dX11_signal_8 : decode cX11_signal 8 = .ok (.new 55, 3) := by decide +kernel
theorem dX11_signal_11 : decode cX11_signal 11 = .ok (.dup, 1) := by decide +kernel
theorem dX11_signal_12 : decode cX11_signal 12 = .ok (.ldc_w 321, 3) := by decide +kernel
theorem dX11_signal_15 : decode cX11_signal 15 = .ok (.invokespecial 59, 3) := by decide +kernel
theorem dX11_signal_18 : decode cX11_signal 18 = .ok (.athrow, 1) := by decide +kernel
theorem dX11_signal_19 : decode cX11_signal 19 = .ok (.aload_n 0, 1) := by decide +kernel
theorem dX11_signal_20 : decode cX11_signal 20 = .ok (.getfield 10, 3) := by decide +kernel
theorem dX11_signal_23 : decode cX11_signal 23 = .ok (.getfield 151, 3) := by decide +kernel
theorem dX11_signal_26 : decode cX11_signal 26 = .ok (.iload_n 1, 1) := by decide +kernel
theorem dX11_signal_27 : decode cX11_signal 27 = .ok (.aaload, 1) := by decide +kernel
theorem dX11_signal_28 : decode cX11_signal 28 = .ok (.iload_n 2, 1) := by decide +kernel
theorem dX11_signal_29 : decode cX11_signal 29 = .ok (.invokevirtual 169, 3) := by decide +kernel
theorem dX11_signal_32 : decode cX11_signal 32 = .ok (.ireturn, 1) := by decide +kernel
theorem dX11_queued_0 : decode cX11_queued 0 = .ok (.aload_n 0, 1) := by decide +kernel
theorem dX11_queued_1 : decode cX11_queued 1 = .ok (.getfield 10, 3) := by decide +kernel
theorem dX11_queued_4 : decode cX11_queued 4 = .ok (.getfield 98, 3) := by decide +kernel
theorem dX11_queued_7 : decode cX11_queued 7 = .ok (.iload_n 1, 1) := by decide +kernel
theorem dX11_queued_8 : decode cX11_queued 8 = .ok (.iload_n 2, 1) := by decide +kernel
theorem dX11_queued_9 : decode cX11_queued 9 = .ok (.invokestatic 323, 3) := by decide +kernel
theorem dX11_queued_12 : decode cX11_queued 12 = .ok (.ireturn, 1) := by decide +kernel
theorem dX11_stored_0 : decode cX11_stored 0 = .ok (.aload_n 0, 1) := by decide +kernel
theorem dX11_stored_1 : decode cX11_stored 1 = .ok (.getfield 10, 3) := by decide +kernel
theorem dX11_stored_4 : decode cX11_stored 4 = .ok (.getfield 327, 3) := by decide +kernel
theorem dX11_stored_7 : decode cX11_stored 7 = .ok (.iload_n 1, 1) := by decide +kernel
theorem dX11_stored_8 : decode cX11_stored 8 = .ok (.iload_n 2, 1) := by decide +kernel
theorem dX11_stored_9 : decode cX11_stored 9 = .ok (.invokestatic 323, 3) := by decide +kernel
theorem dX11_stored_12 : decode cX11_stored 12 = .ok (.ireturn, 1) := by decide +kernel
theorem dX11_numberOf_0 : decode cX11_numberOf 0 = .ok (.iload_n 1, 1) := by decide +kernel
theorem dX11_numberOf_1 : decode cX11_numberOf 1 = .ok (.ifCond .lt 11, 3) := by decide +kernel
theorem dX11_numberOf_4 : decode cX11_numberOf 4 = .ok (.iload_n 1, 1) := by decide +kernel
theorem dX11_numberOf_5 : decode cX11_numberOf 5 = .ok (.aload_n 0, 1) := by decide +kernel
theorem dX11_numberOf_6 : decode cX11_numberOf 6 = .ok (.getfield 102, 3) := by decide +kernel
theorem dX11_numberOf_9 : decode cX11_numberOf 9 = .ok (.if_icmp .lt 14, 3) := by decide +kernel
theorem dX11_numberOf_12 : decode cX11_numberOf 12 = .ok (.new 107, 3) := by decide +kernel
theorem dX11_numberOf_15 : decode cX11_numberOf 15 = .ok (.dup, 1) := by decide +kernel
theorem dX11_numberOf_16 : decode cX11_numberOf 16 = .ok (.ldc_w 330, 3) := by decide +kernel
theorem dX11_numberOf_19 : decode cX11_numberOf 19 = .ok (.invokespecial 111, 3) := by decide +kernel
theorem dX11_numberOf_22 : decode cX11_numberOf 22 = .ok (.athrow, 1) := by decide +kernel
theorem dX11_numberOf_23 : decode cX11_numberOf 23 = .ok (.iload_n 2, 1) := by decide +kernel
theorem dX11_numberOf_24 : decode cX11_numberOf 24 = .ok (.iconst 3, 1) := by decide +kernel
theorem dX11_numberOf_25 : decode cX11_numberOf 25 = .ok (.invokestatic 199, 3) := by decide +kernel
theorem dX11_numberOf_28 : decode cX11_numberOf 28 = .ok (.aload_n 0, 1) := by decide +kernel
theorem dX11_numberOf_29 : decode cX11_numberOf 29 = .ok (.aload_n 0, 1) := by decide +kernel
theorem dX11_numberOf_30 : decode cX11_numberOf 30 = .ok (.getfield 332, 3) := by decide +kernel
theorem dX11_numberOf_33 : decode cX11_numberOf 33 = .ok (.iload_n 1, 1) := by decide +kernel
theorem dX11_numberOf_34 : decode cX11_numberOf 34 = .ok (.iadd, 1) := by decide +kernel
theorem dX11_numberOf_35 : decode cX11_numberOf 35 = .ok (.iload_n 2, 1) := by decide +kernel
theorem dX11_numberOf_36 : decode cX11_numberOf 36 = .ok (.invokevirtual 335, 3) := by decide +kernel
theorem dX11_numberOf_39 : decode cX11_numberOf 39 = .ok (.ireturn, 1) := by decide +kernel
theorem dX11_memorySize_0 : decode cX11_memorySize 0 = .ok (.aload_n 0, 1) := by decide +kernel
theorem dX11_memorySize_1 : decode cX11_memorySize 1 = .ok (.getfield 10, 3) := by decide +kernel
theorem dX11_memorySize_4 : decode cX11_memorySize 4 = .ok (.getfield 327, 3) := by decide +kernel
theorem dX11_memorySize_7 : decode cX11_memorySize 7 = .ok (.getfield 102, 3) := by decide +kernel
theorem dX11_memorySize_10 : decode cX11_memorySize 10 = .ok (.ireturn, 1) := by decide +kernel
theorem dX11_injected_0 : decode cX11_injected 0 = .ok (.iload_n 1, 1) := by decide +kernel
theorem dX11_injected_1 : decode cX11_injected 1 = .ok (.ifCond .lt 17, 3) := by decide +kernel
theorem dX11_injected_4 : decode cX11_injected 4 = .ok (.iload_n 1, 1) := by decide +kernel
theorem dX11_injected_5 : decode cX11_injected 5 = .ok (.aload_n 0, 1) := by decide +kernel
theorem dX11_injected_6 : decode cX11_injected 6 = .ok (.getfield 10, 3) := by decide +kernel
theorem dX11_injected_9 : decode cX11_injected 9 = .ok (.getfield 339, 3) := by decide +kernel
theorem dX11_injected_12 : decode cX11_injected 12 = .ok (.getfield 236, 3) := by decide +kernel
theorem dX11_injected_15 : decode cX11_injected 15 = .ok (.if_icmp .lt 14, 3) := by decide +kernel
theorem dX11_injected_18 : decode cX11_injected 18 = .ok (.new 262, 3) := by decide +kernel
theorem dX11_injected_21 : decode cX11_injected 21 = .ok (.dup, 1) := by decide +kernel
theorem dX11_injected_22 : decode cX11_injected 22 = .ok (.ldc_w 264, 3) := by decide +kernel
theorem dX11_injected_25 : decode cX11_injected 25 = .ok (.invokespecial 266, 3) := by decide +kernel
theorem dX11_injected_28 : decode cX11_injected 28 = .ok (.athrow, 1) := by decide +kernel
theorem dX11_injected_29 : decode cX11_injected 29 = .ok (.iload_n 2, 1) := by decide +kernel
theorem dX11_injected_30 : decode cX11_injected 30 = .ok (.iconst 3, 1) := by decide +kernel
theorem dX11_injected_31 : decode cX11_injected 31 = .ok (.invokestatic 199, 3) := by decide +kernel
theorem dX11_injected_34 : decode cX11_injected 34 = .ok (.aload_n 0, 1) := by decide +kernel
theorem dX11_injected_35 : decode cX11_injected 35 = .ok (.getfield 10, 3) := by decide +kernel
theorem dX11_injected_38 : decode cX11_injected 38 = .ok (.getfield 339, 3) := by decide +kernel
theorem dX11_injected_41 : decode cX11_injected 41 = .ok (.getfield 253, 3) := by decide +kernel
theorem dX11_injected_44 : decode cX11_injected 44 = .ok (.iload_n 1, 1) := by decide +kernel
theorem dX11_injected_45 : decode cX11_injected 45 = .ok (.if_icmp .gt 14, 3) := by decide +kernel
theorem dX11_injected_48 : decode cX11_injected 48 = .ok (.new 107, 3) := by decide +kernel
theorem dX11_injected_51 : decode cX11_injected 51 = .ok (.dup, 1) := by decide +kernel
theorem dX11_injected_52 : decode cX11_injected 52 = .ok (.ldc_w 343, 3) := by decide +kernel
theorem dX11_injected_55 : decode cX11_injected 55 = .ok (.invokespecial 111, 3) := by decide +kernel
theorem dX11_injected_58 : decode cX11_injected 58 = .ok (.athrow, 1) := by decide +kernel
theorem dX11_injected_59 : decode cX11_injected 59 = .ok (.aload_n 0, 1) := by decide +kernel
theorem dX11_injected_60 : decode cX11_injected 60 = .ok (.getfield 10, 3) := by decide +kernel
theorem dX11_injected_63 : decode cX11_injected 63 = .ok (.getfield 345, 3) := by decide +kernel
theorem dX11_injected_66 : decode cX11_injected 66 = .ok (.iload_n 1, 1) := by decide +kernel
theorem dX11_injected_67 : decode cX11_injected 67 = .ok (.iload_n 2, 1) := by decide +kernel
theorem dX11_injected_68 : decode cX11_injected 68 = .ok (.invokevirtual 335, 3) := by decide +kernel
theorem dX11_injected_71 : decode cX11_injected 71 = .ok (.ireturn, 1) := by decide +kernel
theorem dX11_latency_0 : decode cX11_latency 0 = .ok (.aload_n 0, 1) := by decide +kernel
theorem dX11_latency_1 : decode cX11_latency 1 = .ok (.getfield 10, 3) := by decide +kernel
theorem dX11_latency_4 : decode cX11_latency 4 = .ok (.iload_n 1, 1) := by decide +kernel
theorem dX11_latency_5 : decode cX11_latency 5 = .ok (.ifCond .eq 7, 3) := by decide +kernel
theorem dX11_latency_8 : decode cX11_latency 8 = .ok (.iconst 2, 1) := by decide +kernel
theorem dX11_latency_9 : decode cX11_latency 9 = .ok (.goto 4, 3) := by decide +kernel
theorem dX11_latency_12 : decode cX11_latency 12 = .ok (.iconst 1, 1) := by decide +kernel
theorem dX11_latency_13 : decode cX11_latency 13 = .ok (.invokevirtual 232, 3) := by decide +kernel
theorem dX11_latency_16 : decode cX11_latency 16 = .ok (.astore_n 2, 1) := by decide +kernel
theorem dX11_latency_17 : decode cX11_latency 17 = .ok (.aload_n 2, 1) := by decide +kernel
theorem dX11_latency_18 : decode cX11_latency 18 = .ok (.getfield 253, 3) := by decide +kernel
theorem dX11_latency_21 : decode cX11_latency 21 = .ok (.ifCond .ne 14, 3) := by decide +kernel
theorem dX11_latency_24 : decode cX11_latency 24 = .ok (.new 107, 3) := by decide +kernel
theorem dX11_latency_27 : decode cX11_latency 27 = .ok (.dup, 1) := by decide +kernel
theorem dX11_latency_28 : decode cX11_latency 28 = .ok (.ldc_w 348, 3) := by decide +kernel
theorem dX11_latency_31 : decode cX11_latency 31 = .ok (.invokespecial 111, 3) := by decide +kernel
theorem dX11_latency_34 : decode cX11_latency 34 = .ok (.athrow, 1) := by decide +kernel
theorem dX11_latency_35 : decode cX11_latency 35 = .ok (.aload_n 2, 1) := by decide +kernel
theorem dX11_latency_36 : decode cX11_latency 36 = .ok (.getfield 350, 3) := by decide +kernel
theorem dX11_latency_39 : decode cX11_latency 39 = .ok (.l2d, 1) := by decide +kernel
theorem dX11_latency_40 : decode cX11_latency 40 = .ok (.aload_n 2, 1) := by decide +kernel
theorem dX11_latency_41 : decode cX11_latency 41 = .ok (.getfield 253, 3) := by decide +kernel
theorem dX11_latency_44 : decode cX11_latency 44 = .ok (.i2d, 1) := by decide +kernel
theorem dX11_latency_45 : decode cX11_latency 45 = .ok (.ddiv, 1) := by decide +kernel
theorem dX11_latency_46 : decode cX11_latency 46 = .ok (.dreturn, 1) := by decide +kernel
theorem dX11_nextResult_0 : decode cX11_nextResult 0 = .ok (.iload_n 1, 1) := by decide +kernel
theorem dX11_nextResult_1 : decode cX11_nextResult 1 = .ok (.sipush 5000, 3) := by decide +kernel
theorem dX11_nextResult_4 : decode cX11_nextResult 4 = .ok (.invokestatic 77, 3) := by decide +kernel
theorem dX11_nextResult_7 : decode cX11_nextResult 7 = .ok (.aload_n 0, 1) := by decide +kernel
theorem dX11_nextResult_8 : decode cX11_nextResult 8 = .ok (.getfield 16, 3) := by decide +kernel
theorem dX11_nextResult_11 : decode cX11_nextResult 11 = .ok (.aload_n 0, 1) := by decide +kernel
theorem dX11_nextResult_12 : decode cX11_nextResult 12 = .ok (.getfield 10, 3) := by decide +kernel
theorem dX11_nextResult_15 : decode cX11_nextResult 15 = .ok (.invokevirtual 67, 3) := by decide +kernel
theorem dX11_nextResult_18 : decode cX11_nextResult 18 = .ok (.aload_n 0, 1) := by decide +kernel
theorem dX11_nextResult_19 : decode cX11_nextResult 19 = .ok (.getfield 10, 3) := by decide +kernel
theorem dX11_nextResult_22 : decode cX11_nextResult 22 = .ok (.invokevirtual 81, 3) := by decide +kernel
theorem dX11_nextResult_25 : decode cX11_nextResult 25 = .ok (.istore_n 2, 1) := by decide +kernel
theorem dX11_nextResult_26 : decode cX11_nextResult 26 = .ok (.iconst 0, 1) := by decide +kernel
theorem dX11_nextResult_27 : decode cX11_nextResult 27 = .ok (.istore_n 3, 1) := by decide +kernel
theorem dX11_nextResult_28 : decode cX11_nextResult 28 = .ok (.iload_n 3, 1) := by decide +kernel
theorem dX11_nextResult_29 : decode cX11_nextResult 29 = .ok (.iload_n 1, 1) := by decide +kernel
theorem dX11_nextResult_30 : decode cX11_nextResult 30 = .ok (.if_icmp .ge 39, 3) := by decide +kernel
theorem dX11_nextResult_33 : decode cX11_nextResult 33 = .ok (.aload_n 0, 1) := by decide +kernel
theorem dX11_nextResult_34 : decode cX11_nextResult 34 = .ok (.getfield 16, 3) := by decide +kernel
theorem dX11_nextResult_37 : decode cX11_nextResult 37 = .ok (.getfield 166, 3) := by decide +kernel
theorem dX11_nextResult_40 : decode cX11_nextResult 40 = .ok (.istore 4, 2) := by decide +kernel
theorem dX11_nextResult_42 : decode cX11_nextResult 42 = .ok (.aload_n 0, 1) := by decide +kernel
theorem dX11_nextResult_43 : decode cX11_nextResult 43 = .ok (.getfield 16, 3) := by decide +kernel
theorem dX11_nextResult_46 : decode cX11_nextResult 46 = .ok (.invokevirtual 84, 3) := by decide +kernel
theorem dX11_nextResult_49 : decode cX11_nextResult 49 = .ok (.aload_n 0, 1) := by decide +kernel
theorem dX11_nextResult_50 : decode cX11_nextResult 50 = .ok (.getfield 16, 3) := by decide +kernel
theorem dX11_nextResult_53 : decode cX11_nextResult 53 = .ok (.invokevirtual 81, 3) := by decide +kernel
theorem dX11_nextResult_56 : decode cX11_nextResult 56 = .ok (.iload_n 2, 1) := by decide +kernel
theorem dX11_nextResult_57 : decode cX11_nextResult 57 = .ok (.if_icmp .eq 6, 3) := by decide +kernel
theorem dX11_nextResult_60 : decode cX11_nextResult 60 = .ok (.iload 4, 2) := by decide +kernel
theorem dX11_nextResult_62 : decode cX11_nextResult 62 = .ok (.ireturn, 1) := by decide +kernel
theorem dX11_nextResult_63 : decode cX11_nextResult 63 = .ok (.iinc 3 1, 3) := by decide +kernel
theorem dX11_nextResult_66 : decode cX11_nextResult 66 = .ok (.goto (-38), 3) := by decide +kernel
theorem dX11_nextResult_69 : decode cX11_nextResult 69 = .ok (.iconst (-1), 1) := by decide +kernel
theorem dX11_nextResult_70 : decode cX11_nextResult 70 = .ok (.ireturn, 1) := by decide +kernel
theorem dX11_whenRaised_0 : decode cX11_whenRaised 0 = .ok (.aload_n 0, 1) := by decide +kernel
theorem dX11_whenRaised_1 : decode cX11_whenRaised 1 = .ok (.iload_n 1, 1) := by decide +kernel
theorem dX11_whenRaised_2 : decode cX11_whenRaised 2 = .ok (.invokevirtual 119, 3) := by decide +kernel
theorem dX11_whenRaised_5 : decode cX11_whenRaised 5 = .ok (.iload_n 2, 1) := by decide +kernel
theorem dX11_whenRaised_6 : decode cX11_whenRaised 6 = .ok (.sipush 5000, 3) := by decide +kernel
theorem dX11_whenRaised_9 : decode cX11_whenRaised 9 = .ok (.invokestatic 77, 3) := by decide +kernel
theorem dX11_whenRaised_12 : decode cX11_whenRaised 12 = .ok (.aload_n 0, 1) := by decide +kernel
theorem dX11_whenRaised_13 : decode cX11_whenRaised 13 = .ok (.getfield 10, 3) := by decide +kernel
theorem dX11_whenRaised_16 : decode cX11_whenRaised 16 = .ok (.getfield 122, 3) := by decide +kernel
theorem dX11_whenRaised_19 : decode cX11_whenRaised 19 = .ok (.iload_n 1, 1) := by decide +kernel
theorem dX11_whenRaised_20 : decode cX11_whenRaised 20 = .ok (.aaload, 1) := by decide +kernel
theorem dX11_whenRaised_21 : decode cX11_whenRaised 21 = .ok (.getfield 189, 3) := by decide +kernel
theorem dX11_whenRaised_24 : decode cX11_whenRaised 24 = .ok (.ifCond .eq 5, 3) := by decide +kernel
theorem dX11_whenRaised_27 : decode cX11_whenRaised 27 = .ok (.iconst (-1), 1) := by decide +kernel
theorem dX11_whenRaised_28 : decode cX11_whenRaised 28 = .ok (.ireturn, 1) := by decide +kernel
theorem dX11_whenRaised_29 : decode cX11_whenRaised 29 = .ok (.aload_n 0, 1) := by decide +kernel
theorem dX11_whenRaised_30 : decode cX11_whenRaised 30 = .ok (.getfield 16, 3) := by decide +kernel
theorem dX11_whenRaised_33 : decode cX11_whenRaised 33 = .ok (.aload_n 0, 1) := by decide +kernel
theorem dX11_whenRaised_34 : decode cX11_whenRaised 34 = .ok (.getfield 10, 3) := by decide +kernel
theorem dX11_whenRaised_37 : decode cX11_whenRaised 37 = .ok (.invokevirtual 67, 3) := by decide +kernel
theorem dX11_whenRaised_40 : decode cX11_whenRaised 40 = .ok (.aload_n 0, 1) := by decide +kernel
theorem dX11_whenRaised_41 : decode cX11_whenRaised 41 = .ok (.getfield 16, 3) := by decide +kernel
theorem dX11_whenRaised_44 : decode cX11_whenRaised 44 = .ok (.getfield 122, 3) := by decide +kernel
theorem dX11_whenRaised_47 : decode cX11_whenRaised 47 = .ok (.iload_n 1, 1) := by decide +kernel
theorem dX11_whenRaised_48 : decode cX11_whenRaised 48 = .ok (.aaload, 1) := by decide +kernel
theorem dX11_whenRaised_49 : decode cX11_whenRaised 49 = .ok (.astore_n 3, 1) := by decide +kernel
theorem dX11_whenRaised_50 : decode cX11_whenRaised 50 = .ok (.iconst 0, 1) := by decide +kernel
theorem dX11_whenRaised_51 : decode cX11_whenRaised 51 = .ok (.istore 4, 2) := by decide +kernel
theorem dX11_whenRaised_53 : decode cX11_whenRaised 53 = .ok (.iload 4, 2) := by decide +kernel
theorem dX11_whenRaised_55 : decode cX11_whenRaised 55 = .ok (.iload_n 2, 1) := by decide +kernel
theorem dX11_whenRaised_56 : decode cX11_whenRaised 56 = .ok (.if_icmp .ge 23, 3) := by decide +kernel
theorem dX11_whenRaised_59 : decode cX11_whenRaised 59 = .ok (.aload_n 3, 1) := by decide +kernel
theorem dX11_whenRaised_60 : decode cX11_whenRaised 60 = .ok (.getfield 189, 3) := by decide +kernel
theorem dX11_whenRaised_63 : decode cX11_whenRaised 63 = .ok (.ifCond .ne 16, 3) := by decide +kernel
theorem dX11_whenRaised_66 : decode cX11_whenRaised 66 = .ok (.aload_n 0, 1) := by decide +kernel
theorem dX11_whenRaised_67 : decode cX11_whenRaised 67 = .ok (.getfield 16, 3) := by decide +kernel
theorem dX11_whenRaised_70 : decode cX11_whenRaised 70 = .ok (.invokevirtual 84, 3) := by decide +kernel
theorem dX11_whenRaised_73 : decode cX11_whenRaised 73 = .ok (.iinc 4 1, 3) := by decide +kernel
theorem dX11_whenRaised_76 : decode cX11_whenRaised 76 = .ok (.goto (-23), 3) := by decide +kernel
theorem dX11_whenRaised_79 : decode cX11_whenRaised 79 = .ok (.aload_n 3, 1) := by decide +kernel
theorem dX11_whenRaised_80 : decode cX11_whenRaised 80 = .ok (.getfield 312, 3) := by decide +kernel
theorem dX11_whenRaised_83 : decode cX11_whenRaised 83 = .ok (.ireturn, 1) := by decide +kernel
theorem dX11_overrunsWith_0 : decode cX11_overrunsWith 0 = .ok (.iload_n 1, 1) := by decide +kernel
theorem dX11_overrunsWith_1 : decode cX11_overrunsWith 1 = .ok (.invokestatic 193, 3) := by decide +kernel
theorem dX11_overrunsWith_4 : decode cX11_overrunsWith 4 = .ok (.iload_n 2, 1) := by decide +kernel
theorem dX11_overrunsWith_5 : decode cX11_overrunsWith 5 = .ok (.sipush 5000, 3) := by decide +kernel
theorem dX11_overrunsWith_8 : decode cX11_overrunsWith 8 = .ok (.invokestatic 77, 3) := by decide +kernel
theorem dX11_overrunsWith_11 : decode cX11_overrunsWith 11 = .ok (.aload_n 0, 1) := by decide +kernel
theorem dX11_overrunsWith_12 : decode cX11_overrunsWith 12 = .ok (.iload_n 1, 1) := by decide +kernel
theorem dX11_overrunsWith_13 : decode cX11_overrunsWith 13 = .ok (.iload_n 2, 1) := by decide +kernel
theorem dX11_overrunsWith_14 : decode cX11_overrunsWith 14 = .ok (.sipush 5000, 3) := by decide +kernel
theorem dX11_overrunsWith_17 : decode cX11_overrunsWith 17 = .ok (.invokevirtual 353, 3) := by decide +kernel
theorem dX11_overrunsWith_20 : decode cX11_overrunsWith 20 = .ok (.ireturn, 1) := by decide +kernel
theorem dX11_slowestPace_0 : decode cX11_slowestPace 0 = .ok (.iload_n 1, 1) := by decide +kernel
theorem dX11_slowestPace_1 : decode cX11_slowestPace 1 = .ok (.sipush 500, 3) := by decide +kernel
theorem dX11_slowestPace_4 : decode cX11_slowestPace 4 = .ok (.invokestatic 77, 3) := by decide +kernel
theorem dX11_slowestPace_7 : decode cX11_slowestPace 7 = .ok (.bipush 60, 2) := by decide +kernel
theorem dX11_slowestPace_9 : decode cX11_slowestPace 9 = .ok (.istore_n 2, 1) := by decide +kernel
theorem dX11_slowestPace_10 : decode cX11_slowestPace 10 = .ok (.iload_n 2, 1) := by decide +kernel
theorem dX11_slowestPace_11 : decode cX11_slowestPace 11 = .ok (.iconst 1, 1) := by decide +kernel
theorem dX11_slowestPace_12 : decode cX11_slowestPace 12 = .ok (.if_icmp .lt 21, 3) := by decide +kernel
theorem dX11_slowestPace_15 : decode cX11_slowestPace 15 = .ok (.aload_n 0, 1) := by decide +kernel
theorem dX11_slowestPace_16 : decode cX11_slowestPace 16 = .ok (.iload_n 2, 1) := by decide +kernel
theorem dX11_slowestPace_17 : decode cX11_slowestPace 17 = .ok (.iload_n 1, 1) := by decide +kernel
theorem dX11_slowestPace_18 : decode cX11_slowestPace 18 = .ok (.iconst 1, 1) := by decide +kernel
theorem dX11_slowestPace_19 : decode cX11_slowestPace 19 = .ok (.invokevirtual 353, 3) := by decide +kernel
theorem dX11_slowestPace_22 : decode cX11_slowestPace 22 = .ok (.ifCond .ne 5, 3) := by decide +kernel
theorem dX11_slowestPace_25 : decode cX11_slowestPace 25 = .ok (.iload_n 2, 1) := by decide +kernel
theorem dX11_slowestPace_26 : decode cX11_slowestPace 26 = .ok (.ireturn, 1) := by decide +kernel
theorem dX11_slowestPace_27 : decode cX11_slowestPace 27 = .ok (.iinc 2 (-1), 3) := by decide +kernel
theorem dX11_slowestPace_30 : decode cX11_slowestPace 30 = .ok (.goto (-20), 3) := by decide +kernel
theorem dX11_slowestPace_33 : decode cX11_slowestPace 33 = .ok (.iconst (-1), 1) := by decide +kernel
theorem dX11_slowestPace_34 : decode cX11_slowestPace 34 = .ok (.ireturn, 1) := by decide +kernel
theorem dX11_countOverruns_0 : decode cX11_countOverruns 0 = .ok (.aload_n 0, 1) := by decide +kernel
theorem dX11_countOverruns_1 : decode cX11_countOverruns 1 = .ok (.getfield 16, 3) := by decide +kernel
theorem dX11_countOverruns_4 : decode cX11_countOverruns 4 = .ok (.aload_n 0, 1) := by decide +kernel
theorem dX11_countOverruns_5 : decode cX11_countOverruns 5 = .ok (.getfield 10, 3) := by decide +kernel
theorem dX11_countOverruns_8 : decode cX11_countOverruns 8 = .ok (.invokevirtual 67, 3) := by decide +kernel
theorem dX11_countOverruns_11 : decode cX11_countOverruns 11 = .ok (.aload_n 0, 1) := by decide +kernel
theorem dX11_countOverruns_12 : decode cX11_countOverruns 12 = .ok (.getfield 16, 3) := by decide +kernel
theorem dX11_countOverruns_15 : decode cX11_countOverruns 15 = .ok (.iload_n 1, 1) := by decide +kernel
theorem dX11_countOverruns_16 : decode cX11_countOverruns 16 = .ok (.putfield 196, 3) := by decide +kernel
theorem dX11_countOverruns_19 : decode cX11_countOverruns 19 = .ok (.iconst 0, 1) := by decide +kernel
theorem dX11_countOverruns_20 : decode cX11_countOverruns 20 = .ok (.istore 4, 2) := by decide +kernel
theorem dX11_countOverruns_22 : decode cX11_countOverruns 22 = .ok (.iconst 0, 1) := by decide +kernel
theorem dX11_countOverruns_23 : decode cX11_countOverruns 23 = .ok (.istore 5, 2) := by decide +kernel
theorem dX11_countOverruns_25 : decode cX11_countOverruns 25 = .ok (.iload 5, 2) := by decide +kernel
theorem dX11_countOverruns_27 : decode cX11_countOverruns 27 = .ok (.iload_n 2, 1) := by decide +kernel
theorem dX11_countOverruns_28 : decode cX11_countOverruns 28 = .ok (.if_icmp .ge 45, 3) := by decide +kernel
theorem dX11_countOverruns_31 : decode cX11_countOverruns 31 = .ok (.iload 4, 2) := by decide +kernel
theorem dX11_countOverruns_33 : decode cX11_countOverruns 33 = .ok (.iload_n 3, 1) := by decide +kernel
theorem dX11_countOverruns_34 : decode cX11_countOverruns 34 = .ok (.if_icmp .ge 39, 3) := by decide +kernel
theorem dX11_countOverruns_37 : decode cX11_countOverruns 37 = .ok (.aload_n 0, 1) := by decide +kernel
theorem dX11_countOverruns_38 : decode cX11_countOverruns 38 = .ok (.getfield 16, 3) := by decide +kernel
theorem dX11_countOverruns_41 : decode cX11_countOverruns 41 = .ok (.invokevirtual 84, 3) := by decide +kernel
theorem dX11_countOverruns_44 : decode cX11_countOverruns 44 = .ok (.aload_n 0, 1) := by decide +kernel
theorem dX11_countOverruns_45 : decode cX11_countOverruns 45 = .ok (.getfield 16, 3) := by decide +kernel
theorem dX11_countOverruns_48 : decode cX11_countOverruns 48 = .ok (.getfield 98, 3) := by decide +kernel
theorem dX11_countOverruns_51 : decode cX11_countOverruns 51 = .ok (.getfield 223, 3) := by decide +kernel
theorem dX11_countOverruns_54 : decode cX11_countOverruns 54 = .ok (.aload_n 0, 1) := by decide +kernel
theorem dX11_countOverruns_55 : decode cX11_countOverruns 55 = .ok (.getfield 10, 3) := by decide +kernel
theorem dX11_countOverruns_58 : decode cX11_countOverruns 58 = .ok (.getfield 98, 3) := by decide +kernel
theorem dX11_countOverruns_61 : decode cX11_countOverruns 61 = .ok (.getfield 223, 3) := by decide +kernel
theorem dX11_countOverruns_64 : decode cX11_countOverruns 64 = .ok (.isub, 1) := by decide +kernel
theorem dX11_countOverruns_65 : decode cX11_countOverruns 65 = .ok (.istore 4, 2) := by decide +kernel
theorem dX11_countOverruns_67 : decode cX11_countOverruns 67 = .ok (.iinc 5 1, 3) := by decide +kernel
theorem dX11_countOverruns_70 : decode cX11_countOverruns 70 = .ok (.goto (-45), 3) := by decide +kernel
theorem dX11_countOverruns_73 : decode cX11_countOverruns 73 = .ok (.iload 4, 2) := by decide +kernel
theorem dX11_countOverruns_75 : decode cX11_countOverruns 75 = .ok (.ireturn, 1) := by decide +kernel
theorem dX11_passLength_0 : decode cX11_passLength 0 = .ok (.aload_n 0, 1) := by decide +kernel
theorem dX11_passLength_1 : decode cX11_passLength 1 = .ok (.getfield 10, 3) := by decide +kernel
theorem dX11_passLength_4 : decode cX11_passLength 4 = .ok (.iload_n 1, 1) := by decide +kernel
theorem dX11_passLength_5 : decode cX11_passLength 5 = .ok (.ifCond .eq 7, 3) := by decide +kernel
theorem dX11_passLength_8 : decode cX11_passLength 8 = .ok (.iconst 2, 1) := by decide +kernel
theorem dX11_passLength_9 : decode cX11_passLength 9 = .ok (.goto 4, 3) := by decide +kernel
theorem dX11_passLength_12 : decode cX11_passLength 12 = .ok (.iconst 1, 1) := by decide +kernel
theorem dX11_passLength_13 : decode cX11_passLength 13 = .ok (.invokevirtual 232, 3) := by decide +kernel
theorem dX11_passLength_16 : decode cX11_passLength 16 = .ok (.astore_n 2, 1) := by decide +kernel
theorem dX11_passLength_17 : decode cX11_passLength 17 = .ok (.iconst 0, 1) := by decide +kernel
theorem dX11_passLength_18 : decode cX11_passLength 18 = .ok (.istore_n 3, 1) := by decide +kernel
theorem dX11_passLength_19 : decode cX11_passLength 19 = .ok (.iconst 0, 1) := by decide +kernel
theorem dX11_passLength_20 : decode cX11_passLength 20 = .ok (.istore 4, 2) := by decide +kernel
theorem dX11_passLength_22 : decode cX11_passLength 22 = .ok (.iload 4, 2) := by decide +kernel
theorem dX11_passLength_24 : decode cX11_passLength 24 = .ok (.aload_n 2, 1) := by decide +kernel
theorem dX11_passLength_25 : decode cX11_passLength 25 = .ok (.getfield 236, 3) := by decide +kernel
theorem dX11_passLength_28 : decode cX11_passLength 28 = .ok (.if_icmp .ge 38, 3) := by decide +kernel
theorem dX11_passLength_31 : decode cX11_passLength 31 = .ok (.iload_n 3, 1) := by decide +kernel
theorem dX11_passLength_32 : decode cX11_passLength 32 = .ok (.aload_n 0, 1) := by decide +kernel
theorem dX11_passLength_33 : decode cX11_passLength 33 = .ok (.getfield 10, 3) := by decide +kernel
theorem dX11_passLength_36 : decode cX11_passLength 36 = .ok (.getfield 151, 3) := by decide +kernel
theorem dX11_passLength_39 : decode cX11_passLength 39 = .ok (.aload_n 2, 1) := by decide +kernel
theorem dX11_passLength_40 : decode cX11_passLength 40 = .ok (.getfield 267, 3) := by decide +kernel
theorem dX11_passLength_43 : decode cX11_passLength 43 = .ok (.iload 4, 2) := by decide +kernel
theorem dX11_passLength_45 : decode cX11_passLength 45 = .ok (.iaload, 1) := by decide +kernel
theorem dX11_passLength_46 : decode cX11_passLength 46 = .ok (.aaload, 1) := by decide +kernel
theorem dX11_passLength_47 : decode cX11_passLength 47 = .ok (.invokevirtual 357, 3) := by decide +kernel
theorem dX11_passLength_50 : decode cX11_passLength 50 = .ok (.aload_n 0, 1) := by decide +kernel
theorem dX11_passLength_51 : decode cX11_passLength 51 = .ok (.getfield 10, 3) := by decide +kernel
theorem dX11_passLength_54 : decode cX11_passLength 54 = .ok (.getfield 360, 3) := by decide +kernel
theorem dX11_passLength_57 : decode cX11_passLength 57 = .ok (.ishl, 1) := by decide +kernel
theorem dX11_passLength_58 : decode cX11_passLength 58 = .ok (.iadd, 1) := by decide +kernel
theorem dX11_passLength_59 : decode cX11_passLength 59 = .ok (.istore_n 3, 1) := by decide +kernel
theorem dX11_passLength_60 : decode cX11_passLength 60 = .ok (.iinc 4 1, 3) := by decide +kernel
theorem dX11_passLength_63 : decode cX11_passLength 63 = .ok (.goto (-41), 3) := by decide +kernel
theorem dX11_passLength_66 : decode cX11_passLength 66 = .ok (.iload_n 3, 1) := by decide +kernel
theorem dX11_passLength_67 : decode cX11_passLength 67 = .ok (.ireturn, 1) := by decide +kernel
theorem dX11_save_0 : decode cX11_save 0 = .ok (.iload_n 1, 1) := by decide +kernel
theorem dX11_save_1 : decode cX11_save 1 = .ok (.invokestatic 363, 3) := by decide +kernel
theorem dX11_save_4 : decode cX11_save 4 = .ok (.aload_n 0, 1) := by decide +kernel
theorem dX11_save_5 : decode cX11_save 5 = .ok (.getfield 19, 3) := by decide +kernel
theorem dX11_save_8 : decode cX11_save 8 = .ok (.iload_n 1, 1) := by decide +kernel
theorem dX11_save_9 : decode cX11_save 9 = .ok (.aaload, 1) := by decide +kernel
theorem dX11_save_10 : decode cX11_save 10 = .ok (.aload_n 0, 1) := by decide +kernel
theorem dX11_save_11 : decode cX11_save 11 = .ok (.getfield 10, 3) := by decide +kernel
theorem dX11_save_14 : decode cX11_save 14 = .ok (.invokevirtual 67, 3) := by decide +kernel
theorem dX11_save_17 : decode cX11_save 17 = .ok (.aload_n 0, 1) := by decide +kernel
theorem dX11_save_18 : decode cX11_save 18 = .ok (.getfield 23, 3) := by decide +kernel
theorem dX11_save_21 : decode cX11_save 21 = .ok (.iload_n 1, 1) := by decide +kernel
theorem dX11_save_22 : decode cX11_save 22 = .ok (.iconst 1, 1) := by decide +kernel
theorem dX11_save_23 : decode cX11_save 23 = .ok (.bastore, 1) := by decide +kernel
theorem dX11_save_24 : decode cX11_save 24 = .ok (.aload_n 0, 1) := by decide +kernel
theorem dX11_save_25 : decode cX11_save 25 = .ok (.getfield 10, 3) := by decide +kernel
theorem dX11_save_28 : decode cX11_save 28 = .ok (.getfield 166, 3) := by decide +kernel
theorem dX11_save_31 : decode cX11_save 31 = .ok (.ireturn, 1) := by decide +kernel
theorem dX11_restore_0 : decode cX11_restore 0 = .ok (.iload_n 1, 1) := by decide +kernel
theorem dX11_restore_1 : decode cX11_restore 1 = .ok (.invokestatic 363, 3) := by decide +kernel
theorem dX11_restore_4 : decode cX11_restore 4 = .ok (.aload_n 0, 1) := by decide +kernel
theorem dX11_restore_5 : decode cX11_restore 5 = .ok (.getfield 23, 3) := by decide +kernel
theorem dX11_restore_8 : decode cX11_restore 8 = .ok (.iload_n 1, 1) := by decide +kernel
theorem dX11_restore_9 : decode cX11_restore 9 = .ok (.baload, 1) := by decide +kernel
theorem dX11_restore_10 : decode cX11_restore 10 = .ok (.ifCond .ne 14, 3) := by decide +kernel
theorem dX11_restore_13 : decode cX11_restore 13 = .ok (.new 44, 3) := by decide +kernel
theorem dX11_restore_16 : decode cX11_restore 16 = .ok (.dup, 1) := by decide +kernel
theorem dX11_restore_17 : decode cX11_restore 17 = .ok (.ldc_w 366, 3) := by decide +kernel
theorem dX11_restore_20 : decode cX11_restore 20 = .ok (.invokespecial 48, 3) := by decide +kernel
theorem dX11_restore_23 : decode cX11_restore 23 = .ok (.athrow, 1) := by decide +kernel
theorem dX11_restore_24 : decode cX11_restore 24 = .ok (.aload_n 0, 1) := by decide +kernel
theorem dX11_restore_25 : decode cX11_restore 25 = .ok (.getfield 10, 3) := by decide +kernel
theorem dX11_restore_28 : decode cX11_restore 28 = .ok (.aload_n 0, 1) := by decide +kernel
theorem dX11_restore_29 : decode cX11_restore 29 = .ok (.getfield 19, 3) := by decide +kernel
theorem dX11_restore_32 : decode cX11_restore 32 = .ok (.iload_n 1, 1) := by decide +kernel
theorem dX11_restore_33 : decode cX11_restore 33 = .ok (.aaload, 1) := by decide +kernel
theorem dX11_restore_34 : decode cX11_restore 34 = .ok (.invokevirtual 67, 3) := by decide +kernel
theorem dX11_restore_37 : decode cX11_restore 37 = .ok (.aload_n 0, 1) := by decide +kernel
theorem dX11_restore_38 : decode cX11_restore 38 = .ok (.getfield 10, 3) := by decide +kernel
theorem dX11_restore_41 : decode cX11_restore 41 = .ok (.getfield 166, 3) := by decide +kernel
theorem dX11_restore_44 : decode cX11_restore 44 = .ok (.ireturn, 1) := by decide +kernel
theorem dX11_requireChannel_0 : decode cX11_requireChannel 0 = .ok (.getstatic 368, 3) := by decide +kernel
theorem dX11_requireChannel_3 : decode cX11_requireChannel 3 = .ok (.iload_n 0, 1) := by decide +kernel
theorem dX11_requireChannel_4 : decode cX11_requireChannel 4 = .ok (.invokevirtual 140, 3) := by decide +kernel
theorem dX11_requireChannel_7 : decode cX11_requireChannel 7 = .ok (.ifCond .ne 14, 3) := by decide +kernel
theorem dX11_requireChannel_10 : decode cX11_requireChannel 10 = .ok (.new 262, 3) := by decide +kernel
theorem dX11_requireChannel_13 : decode cX11_requireChannel 13 = .ok (.dup, 1) := by decide +kernel
theorem dX11_requireChannel_14 : decode cX11_requireChannel 14 = .ok (.ldc_w 371, 3) := by decide +kernel
theorem dX11_requireChannel_17 : decode cX11_requireChannel 17 = .ok (.invokespecial 266, 3) := by decide +kernel
theorem dX11_requireChannel_20 : decode cX11_requireChannel 20 = .ok (.athrow, 1) := by decide +kernel
theorem dX11_requireChannel_21 : decode cX11_requireChannel 21 = .ok (.return_, 1) := by decide +kernel
theorem dX11_requireTrigger_0 : decode cX11_requireTrigger 0 = .ok (.getstatic 373, 3) := by decide +kernel
theorem dX11_requireTrigger_3 : decode cX11_requireTrigger 3 = .ok (.iload_n 0, 1) := by decide +kernel
theorem dX11_requireTrigger_4 : decode cX11_requireTrigger 4 = .ok (.invokevirtual 140, 3) := by decide +kernel
theorem dX11_requireTrigger_7 : decode cX11_requireTrigger 7 = .ok (.ifCond .ne 14, 3) := by decide +kernel
theorem dX11_requireTrigger_10 : decode cX11_requireTrigger 10 = .ok (.new 262, 3) := by decide +kernel
theorem dX11_requireTrigger_13 : decode cX11_requireTrigger 13 = .ok (.dup, 1) := by decide +kernel
theorem dX11_requireTrigger_14 : decode cX11_requireTrigger 14 = .ok (.ldc_w 376, 3) := by decide +kernel
theorem dX11_requireTrigger_17 : decode cX11_requireTrigger 17 = .ok (.invokespecial 266, 3) := by decide +kernel
theorem dX11_requireTrigger_20 : decode cX11_requireTrigger 20 = .ok (.athrow, 1) := by decide +kernel
theorem dX11_requireTrigger_21 : decode cX11_requireTrigger 21 = .ok (.return_, 1) := by decide +kernel
theorem dX11_requireWindow_0 : decode cX11_requireWindow 0 = .ok (.getstatic 378, 3) := by decide +kernel
theorem dX11_requireWindow_3 : decode cX11_requireWindow 3 = .ok (.iload_n 1, 1) := by decide +kernel
theorem dX11_requireWindow_4 : decode cX11_requireWindow 4 = .ok (.invokevirtual 140, 3) := by decide +kernel
theorem dX11_requireWindow_7 : decode cX11_requireWindow 7 = .ok (.ifCond .eq 18, 3) := by decide +kernel
theorem dX11_requireWindow_10 : decode cX11_requireWindow 10 = .ok (.aload_n 0, 1) := by decide +kernel
theorem dX11_requireWindow_11 : decode cX11_requireWindow 11 = .ok (.getfield 10, 3) := by decide +kernel
theorem dX11_requireWindow_14 : decode cX11_requireWindow 14 = .ok (.getfield 122, 3) := by decide +kernel
theorem dX11_requireWindow_17 : decode cX11_requireWindow 17 = .ok (.iload_n 1, 1) := by decide +kernel
theorem dX11_requireWindow_18 : decode cX11_requireWindow 18 = .ok (.aaload, 1) := by decide +kernel
theorem dX11_requireWindow_19 : decode cX11_requireWindow 19 = .ok (.getfield 381, 3) := by decide +kernel
theorem dX11_requireWindow_22 : decode cX11_requireWindow 22 = .ok (.ifCond .ne 14, 3) := by decide +kernel
theorem dX11_requireWindow_25 : decode cX11_requireWindow 25 = .ok (.new 262, 3) := by decide +kernel
theorem dX11_requireWindow_28 : decode cX11_requireWindow 28 = .ok (.dup, 1) := by decide +kernel
theorem dX11_requireWindow_29 : decode cX11_requireWindow 29 = .ok (.ldc_w 384, 3) := by decide +kernel
theorem dX11_requireWindow_32 : decode cX11_requireWindow 32 = .ok (.invokespecial 266, 3) := by decide +kernel
theorem dX11_requireWindow_35 : decode cX11_requireWindow 35 = .ok (.athrow, 1) := by decide +kernel
theorem dX11_requireWindow_36 : decode cX11_requireWindow 36 = .ok (.return_, 1) := by decide +kernel
theorem dX11_requireWhat_0 : decode cX11_requireWhat 0 = .ok (.iload_n 0, 1) := by decide +kernel
theorem dX11_requireWhat_1 : decode cX11_requireWhat 1 = .ok (.ifCond .lt 8, 3) := by decide +kernel
theorem dX11_requireWhat_4 : decode cX11_requireWhat 4 = .ok (.iload_n 0, 1) := by decide +kernel
theorem dX11_requireWhat_5 : decode cX11_requireWhat 5 = .ok (.iload_n 1, 1) := by decide +kernel
theorem dX11_requireWhat_6 : decode cX11_requireWhat 6 = .ok (.if_icmp .le 14, 3) := by decide +kernel
theorem dX11_requireWhat_9 : decode cX11_requireWhat 9 = .ok (.new 55, 3) := by decide +kernel
theorem dX11_requireWhat_12 : decode cX11_requireWhat 12 = .ok (.dup, 1) := by decide +kernel
theorem dX11_requireWhat_13 : decode cX11_requireWhat 13 = .ok (.ldc_w 386, 3) := by decide +kernel
theorem dX11_requireWhat_16 : decode cX11_requireWhat 16 = .ok (.invokespecial 59, 3) := by decide +kernel
theorem dX11_requireWhat_19 : decode cX11_requireWhat 19 = .ok (.athrow, 1) := by decide +kernel
theorem dX11_requireWhat_20 : decode cX11_requireWhat 20 = .ok (.return_, 1) := by decide +kernel
theorem dX11_requireCycles_0 : decode cX11_requireCycles 0 = .ok (.iload_n 0, 1) := by decide +kernel
theorem dX11_requireCycles_1 : decode cX11_requireCycles 1 = .ok (.iconst 1, 1) := by decide +kernel
theorem dX11_requireCycles_2 : decode cX11_requireCycles 2 = .ok (.if_icmp .lt 8, 3) := by decide +kernel
theorem dX11_requireCycles_5 : decode cX11_requireCycles 5 = .ok (.iload_n 0, 1) := by decide +kernel
theorem dX11_requireCycles_6 : decode cX11_requireCycles 6 = .ok (.iload_n 1, 1) := by decide +kernel
theorem dX11_requireCycles_7 : decode cX11_requireCycles 7 = .ok (.if_icmp .le 14, 3) := by decide +kernel
theorem dX11_requireCycles_10 : decode cX11_requireCycles 10 = .ok (.new 55, 3) := by decide +kernel
theorem dX11_requireCycles_13 : decode cX11_requireCycles 13 = .ok (.dup, 1) := by decide +kernel
theorem dX11_requireCycles_14 : decode cX11_requireCycles 14 = .ok (.ldc_w 388, 3) := by decide +kernel
theorem dX11_requireCycles_17 : decode cX11_requireCycles 17 = .ok (.invokespecial 59, 3) := by decide +kernel
theorem dX11_requireCycles_20 : decode cX11_requireCycles 20 = .ok (.athrow, 1) := by decide +kernel
theorem dX11_requireCycles_21 : decode cX11_requireCycles 21 = .ok (.return_, 1) := by decide +kernel
theorem dX11_requirePace_0 : decode cX11_requirePace 0 = .ok (.getstatic 390, 3) := by decide +kernel
theorem dX11_requirePace_3 : decode cX11_requirePace 3 = .ok (.iload_n 0, 1) := by decide +kernel
theorem dX11_requirePace_4 : decode cX11_requirePace 4 = .ok (.invokevirtual 140, 3) := by decide +kernel
theorem dX11_requirePace_7 : decode cX11_requirePace 7 = .ok (.ifCond .ne 14, 3) := by decide +kernel
theorem dX11_requirePace_10 : decode cX11_requirePace 10 = .ok (.new 55, 3) := by decide +kernel
theorem dX11_requirePace_13 : decode cX11_requirePace 13 = .ok (.dup, 1) := by decide +kernel
theorem dX11_requirePace_14 : decode cX11_requirePace 14 = .ok (.ldc_w 393, 3) := by decide +kernel
theorem dX11_requirePace_17 : decode cX11_requirePace 17 = .ok (.invokespecial 59, 3) := by decide +kernel
theorem dX11_requirePace_20 : decode cX11_requirePace 20 = .ok (.athrow, 1) := by decide +kernel
theorem dX11_requirePace_21 : decode cX11_requirePace 21 = .ok (.return_, 1) := by decide +kernel
theorem dX11_requireSlot_0 : decode cX11_requireSlot 0 = .ok (.iload_n 0, 1) := by decide +kernel
theorem dX11_requireSlot_1 : decode cX11_requireSlot 1 = .ok (.ifCond .lt 8, 3) := by decide +kernel
theorem dX11_requireSlot_4 : decode cX11_requireSlot 4 = .ok (.iload_n 0, 1) := by decide +kernel
theorem dX11_requireSlot_5 : decode cX11_requireSlot 5 = .ok (.iconst 2, 1) := by decide +kernel
theorem dX11_requireSlot_6 : decode cX11_requireSlot 6 = .ok (.if_icmp .lt 14, 3) := by decide +kernel
theorem dX11_requireSlot_9 : decode cX11_requireSlot 9 = .ok (.new 55, 3) := by decide +kernel
theorem dX11_requireSlot_12 : decode cX11_requireSlot 12 = .ok (.dup, 1) := by decide +kernel
theorem dX11_requireSlot_13 : decode cX11_requireSlot 13 = .ok (.ldc_w 395, 3) := by decide +kernel
theorem dX11_requireSlot_16 : decode cX11_requireSlot 16 = .ok (.invokespecial 59, 3) := by decide +kernel
theorem dX11_requireSlot_19 : decode cX11_requireSlot 19 = .ok (.athrow, 1) := by decide +kernel
theorem dX11_requireSlot_20 : decode cX11_requireSlot 20 = .ok (.return_, 1) := by decide +kernel
theorem dX12_thrown_0 : decode cX12_thrown 0 = .ok (.aload_n 0, 1) := by decide +kernel
theorem dX12_thrown_1 : decode cX12_thrown 1 = .ok (.getfield 1, 3) := by decide +kernel
theorem dX12_thrown_4 : decode cX12_thrown 4 = .ok (.ireturn, 1) := by decide +kernel
theorem dX12_inRange_0 : decode cX12_inRange 0 = .ok (.iload_n 0, 1) := by decide +kernel
theorem dX12_inRange_1 : decode cX12_inRange 1 = .ok (.iload_n 1, 1) := by decide +kernel
theorem dX12_inRange_2 : decode cX12_inRange 2 = .ok (.if_icmp .lt 12, 3) := by decide +kernel
theorem dX12_inRange_5 : decode cX12_inRange 5 = .ok (.iload_n 0, 1) := by decide +kernel
theorem dX12_inRange_6 : decode cX12_inRange 6 = .ok (.iload_n 2, 1) := by decide +kernel
theorem dX12_inRange_7 : decode cX12_inRange 7 = .ok (.if_icmp .gt 7, 3) := by decide +kernel
theorem dX12_inRange_10 : decode cX12_inRange 10 = .ok (.iconst 1, 1) := by decide +kernel
theorem dX12_inRange_11 : decode cX12_inRange 11 = .ok (.goto 4, 3) := by decide +kernel
theorem dX12_inRange_14 : decode cX12_inRange 14 = .ok (.iconst 0, 1) := by decide +kernel
theorem dX12_inRange_15 : decode cX12_inRange 15 = .ok (.ireturn, 1) := by decide +kernel
theorem dX12_fails_0 : decode cX12_fails 0 = .ok (.aload_n 0, 1) := by decide +kernel
theorem dX12_fails_1 : decode cX12_fails 1 = .ok (.iload_n 1, 1) := by decide +kernel
theorem dX12_fails_2 : decode cX12_fails 2 = .ok (.ifCond .eq 7, 3) := by decide +kernel
theorem dX12_fails_5 : decode cX12_fails 5 = .ok (.iconst 1, 1) := by decide +kernel
theorem dX12_fails_6 : decode cX12_fails 6 = .ok (.goto 20, 3) := by decide +kernel
theorem dX12_fails_9 : decode cX12_fails 9 = .ok (.iload_n 2, 1) := by decide +kernel
theorem dX12_fails_10 : decode cX12_fails 10 = .ok (.ifCond .eq 7, 3) := by decide +kernel
theorem dX12_fails_13 : decode cX12_fails 13 = .ok (.iconst 2, 1) := by decide +kernel
theorem dX12_fails_14 : decode cX12_fails 14 = .ok (.goto 12, 3) := by decide +kernel
theorem dX12_fails_17 : decode cX12_fails 17 = .ok (.iload_n 3, 1) := by decide +kernel
theorem dX12_fails_18 : decode cX12_fails 18 = .ok (.ifCond .eq 7, 3) := by decide +kernel
theorem dX12_fails_21 : decode cX12_fails 21 = .ok (.iconst 3, 1) := by decide +kernel
theorem dX12_fails_22 : decode cX12_fails 22 = .ok (.goto 4, 3) := by decide +kernel
theorem dX12_fails_25 : decode cX12_fails 25 = .ok (.iconst 0, 1) := by decide +kernel
theorem dX12_fails_26 : decode cX12_fails 26 = .ok (.putfield 1, 3) := by decide +kernel
theorem dX12_fails_29 : decode cX12_fails 29 = .ok (.aload_n 0, 1) := by decide +kernel
theorem dX12_fails_30 : decode cX12_fails 30 = .ok (.getfield 1, 3) := by decide +kernel
theorem dX12_fails_33 : decode cX12_fails 33 = .ok (.ifCond .le 7, 3) := by decide +kernel
theorem dX12_fails_36 : decode cX12_fails 36 = .ok (.iconst 1, 1) := by decide +kernel
theorem dX12_fails_37 : decode cX12_fails 37 = .ok (.goto 4, 3) := by decide +kernel
theorem dX12_fails_40 : decode cX12_fails 40 = .ok (.iconst 0, 1) := by decide +kernel
theorem dX12_fails_41 : decode cX12_fails 41 = .ok (.ireturn, 1) := by decide +kernel
theorem dX12_lesser_0 : decode cX12_lesser 0 = .ok (.iload_n 0, 1) := by decide +kernel
theorem dX12_lesser_1 : decode cX12_lesser 1 = .ok (.iload_n 1, 1) := by decide +kernel
theorem dX12_lesser_2 : decode cX12_lesser 2 = .ok (.if_icmp .ge 7, 3) := by decide +kernel
theorem dX12_lesser_5 : decode cX12_lesser 5 = .ok (.iload_n 0, 1) := by decide +kernel
theorem dX12_lesser_6 : decode cX12_lesser 6 = .ok (.goto 4, 3) := by decide +kernel
theorem dX12_lesser_9 : decode cX12_lesser 9 = .ok (.iload_n 1, 1) := by decide +kernel
theorem dX12_lesser_10 : decode cX12_lesser 10 = .ok (.ireturn, 1) := by decide +kernel
theorem dX12_appendWord_0 : decode cX12_appendWord 0 = .ok (.bipush 24, 2) := by decide +kernel
theorem dX12_appendWord_2 : decode cX12_appendWord 2 = .ok (.istore_n 2, 1) := by decide +kernel
theorem dX12_appendWord_3 : decode cX12_appendWord 3 = .ok (.iload_n 2, 1) := by decide +kernel
theorem dX12_appendWord_4 : decode cX12_appendWord 4 = .ok (.ifCond .lt 35, 3) := by decide +kernel
theorem dX12_appendWord_7 : decode cX12_appendWord 7 = .ok (.aload_n 0, 1) := by decide +kernel
theorem dX12_appendWord_8 : decode cX12_appendWord 8 = .ok (.getfield 7, 3) := by decide +kernel
theorem dX12_appendWord_11 : decode cX12_appendWord 11 = .ok (.aload_n 0, 1) := by decide +kernel
theorem dX12_appendWord_12 : decode cX12_appendWord 12 = .ok (.getfield 11, 3) := by decide +kernel
theorem dX12_appendWord_15 : decode cX12_appendWord 15 = .ok (.iload_n 1, 1) := by decide +kernel
theorem dX12_appendWord_16 : decode cX12_appendWord 16 = .ok (.iload_n 2, 1) := by decide +kernel
theorem dX12_appendWord_17 : decode cX12_appendWord 17 = .ok (.ishr, 1) := by decide +kernel
theorem dX12_appendWord_18 : decode cX12_appendWord 18 = .ok (.sipush 255, 3) := by decide +kernel
theorem dX12_appendWord_21 : decode cX12_appendWord 21 = .ok (.iand, 1) := by decide +kernel
theorem dX12_appendWord_22 : decode cX12_appendWord 22 = .ok (.iastore, 1) := by decide +kernel
theorem dX12_appendWord_23 : decode cX12_appendWord 23 = .ok (.aload_n 0, 1) := by decide +kernel
theorem dX12_appendWord_24 : decode cX12_appendWord 24 = .ok (.dup, 1) := by decide +kernel
theorem dX12_appendWord_25 : decode cX12_appendWord 25 = .ok (.getfield 11, 3) := by decide +kernel
theorem dX12_appendWord_28 : decode cX12_appendWord 28 = .ok (.iconst 1, 1) := by decide +kernel
theorem dX12_appendWord_29 : decode cX12_appendWord 29 = .ok (.iadd, 1) := by decide +kernel
theorem dX12_appendWord_30 : decode cX12_appendWord 30 = .ok (.putfield 11, 3) := by decide +kernel
theorem dX12_appendWord_33 : decode cX12_appendWord 33 = .ok (.iinc 2 (-8), 3) := by decide +kernel
theorem dX12_appendWord_36 : decode cX12_appendWord 36 = .ok (.goto (-33), 3) := by decide +kernel
theorem dX12_appendWord_39 : decode cX12_appendWord 39 = .ok (.return_, 1) := by decide +kernel
theorem dX12_append_0 : decode cX12_append 0 = .ok (.aload_n 0, 1) := by decide +kernel
theorem dX12_append_1 : decode cX12_append 1 = .ok (.aload_n 0, 1) := by decide +kernel
theorem dX12_append_2 : decode cX12_append 2 = .ok (.getfield 11, 3) := by decide +kernel
theorem dX12_append_5 : decode cX12_append 5 = .ok (.bipush 20, 2) := by decide +kernel
theorem dX12_append_7 : decode cX12_append 7 = .ok (.iadd, 1) := by decide +kernel
theorem dX12_append_8 : decode cX12_append 8 = .ok (.sipush 900, 3) := by decide +kernel
theorem dX12_append_11 : decode cX12_append 11 = .ok (.if_icmp .le 7, 3) := by decide +kernel
theorem dX12_append_14 : decode cX12_append 14 = .ok (.iconst 1, 1) := by decide +kernel
theorem dX12_append_15 : decode cX12_append 15 = .ok (.goto 4, 3) := by decide +kernel
theorem dX12_append_18 : decode cX12_append 18 = .ok (.iconst 0, 1) := by decide +kernel
theorem dX12_append_19 : decode cX12_append 19 = .ok (.iconst 0, 1) := by decide +kernel
theorem dX12_append_20 : decode cX12_append 20 = .ok (.iconst 0, 1) := by decide +kernel
theorem dX12_append_21 : decode cX12_append 21 = .ok (.invokevirtual 14, 3) := by decide +kernel
theorem dX12_append_24 : decode cX12_append 24 = .ok (.ifCond .eq 5, 3) := by decide +kernel
theorem dX12_append_27 : decode cX12_append 27 = .ok (.iconst 0, 1) := by decide +kernel
theorem dX12_append_28 : decode cX12_append 28 = .ok (.ireturn, 1) := by decide +kernel
theorem dX12_append_29 : decode cX12_append 29 = .ok (.aload_n 0, 1) := by decide +kernel
theorem dX12_append_30 : decode cX12_append 30 = .ok (.iload_n 1, 1) := by decide +kernel
theorem dX12_append_31 : decode cX12_append 31 = .ok (.invokevirtual 18, 3) := by decide +kernel
theorem dX12_append_34 : decode cX12_append 34 = .ok (.aload_n 0, 1) := by decide +kernel
theorem dX12_append_35 : decode cX12_append 35 = .ok (.iload_n 2, 1) := by decide +kernel
theorem dX12_append_36 : decode cX12_append 36 = .ok (.invokevirtual 18, 3) := by decide +kernel
theorem dX12_append_39 : decode cX12_append 39 = .ok (.aload_n 0, 1) := by decide +kernel
theorem dX12_append_40 : decode cX12_append 40 = .ok (.iload_n 3, 1) := by decide +kernel
theorem dX12_append_41 : decode cX12_append 41 = .ok (.invokevirtual 18, 3) := by decide +kernel
theorem dX12_append_44 : decode cX12_append 44 = .ok (.aload_n 0, 1) := by decide +kernel
theorem dX12_append_45 : decode cX12_append 45 = .ok (.iload 4, 2) := by decide +kernel
theorem dX12_append_47 : decode cX12_append 47 = .ok (.invokevirtual 18, 3) := by decide +kernel
theorem dX12_append_50 : decode cX12_append 50 = .ok (.aload_n 0, 1) := by decide +kernel
theorem dX12_append_51 : decode cX12_append 51 = .ok (.iload 5, 2) := by decide +kernel
theorem dX12_append_53 : decode cX12_append 53 = .ok (.invokevirtual 18, 3) := by decide +kernel
theorem dX12_append_56 : decode cX12_append 56 = .ok (.aload_n 0, 1) := by decide +kernel
theorem dX12_append_57 : decode cX12_append 57 = .ok (.getfield 11, 3) := by decide +kernel
theorem dX12_append_60 : decode cX12_append 60 = .ok (.ireturn, 1) := by decide +kernel
theorem dX12_truncate_0 : decode cX12_truncate 0 = .ok (.aload_n 0, 1) := by decide +kernel
theorem dX12_truncate_1 : decode cX12_truncate 1 = .ok (.iload_n 1, 1) := by decide +kernel
theorem dX12_truncate_2 : decode cX12_truncate 2 = .ok (.iconst 0, 1) := by decide +kernel
theorem dX12_truncate_3 : decode cX12_truncate 3 = .ok (.aload_n 0, 1) := by decide +kernel
theorem dX12_truncate_4 : decode cX12_truncate 4 = .ok (.getfield 11, 3) := by decide +kernel
theorem dX12_truncate_7 : decode cX12_truncate 7 = .ok (.invokestatic 22, 3) := by decide +kernel
theorem dX12_truncate_10 : decode cX12_truncate 10 = .ok (.ifCond .ne 7, 3) := by decide +kernel
theorem dX12_truncate_13 : decode cX12_truncate 13 = .ok (.iconst 1, 1) := by decide +kernel
theorem dX12_truncate_14 : decode cX12_truncate 14 = .ok (.goto 4, 3) := by decide +kernel
theorem dX12_truncate_17 : decode cX12_truncate 17 = .ok (.iconst 0, 1) := by decide +kernel
theorem dX12_truncate_18 : decode cX12_truncate 18 = .ok (.iconst 0, 1) := by decide +kernel
theorem dX12_truncate_19 : decode cX12_truncate 19 = .ok (.iconst 0, 1) := by decide +kernel
theorem dX12_truncate_20 : decode cX12_truncate 20 = .ok (.invokevirtual 14, 3) := by decide +kernel
theorem dX12_truncate_23 : decode cX12_truncate 23 = .ok (.ifCond .eq 5, 3) := by decide +kernel
theorem dX12_truncate_26 : decode cX12_truncate 26 = .ok (.iconst 0, 1) := by decide +kernel
theorem dX12_truncate_27 : decode cX12_truncate 27 = .ok (.ireturn, 1) := by decide +kernel
theorem dX12_truncate_28 : decode cX12_truncate 28 = .ok (.aload_n 0, 1) := by decide +kernel
theorem dX12_truncate_29 : decode cX12_truncate 29 = .ok (.iload_n 1, 1) := by decide +kernel
theorem dX12_truncate_30 : decode cX12_truncate 30 = .ok (.putfield 11, 3) := by decide +kernel
theorem dX12_truncate_33 : decode cX12_truncate 33 = .ok (.iload_n 1, 1) := by decide +kernel
theorem dX12_truncate_34 : decode cX12_truncate 34 = .ok (.ireturn, 1) := by decide +kernel
theorem dX12_entries_0 : decode cX12_entries 0 = .ok (.aload_n 0, 1) := by decide +kernel
theorem dX12_entries_1 : decode cX12_entries 1 = .ok (.getfield 26, 3) := by decide +kernel
theorem dX12_entries_4 : decode cX12_entries 4 = .ok (.iconst 0, 1) := by decide +kernel
theorem dX12_entries_5 : decode cX12_entries 5 = .ok (.iload_n 1, 1) := by decide +kernel
theorem dX12_entries_6 : decode cX12_entries 6 = .ok (.iadd, 1) := by decide +kernel
theorem dX12_entries_7 : decode cX12_entries 7 = .ok (.iaload, 1) := by decide +kernel
theorem dX12_entries_8 : decode cX12_entries 8 = .ok (.ireturn, 1) := by decide +kernel
theorem dX12_entryOf_0 : decode cX12_entryOf 0 = .ok (.aload_n 0, 1) := by decide +kernel
theorem dX12_entryOf_1 : decode cX12_entryOf 1 = .ok (.getfield 26, 3) := by decide +kernel
theorem dX12_entryOf_4 : decode cX12_entryOf 4 = .ok (.bipush 10, 2) := by decide +kernel
theorem dX12_entryOf_6 : decode cX12_entryOf 6 = .ok (.bipush 8, 2) := by decide +kernel
theorem dX12_entryOf_8 : decode cX12_entryOf 8 = .ok (.iload_n 1, 1) := by decide +kernel
theorem dX12_entryOf_9 : decode cX12_entryOf 9 = .ok (.imul, 1) := by decide +kernel
theorem dX12_entryOf_10 : decode cX12_entryOf 10 = .ok (.iadd, 1) := by decide +kernel
theorem dX12_entryOf_11 : decode cX12_entryOf 11 = .ok (.iload_n 2, 1) := by decide +kernel
theorem dX12_entryOf_12 : decode cX12_entryOf 12 = .ok (.iadd, 1) := by decide +kernel
theorem dX12_entryOf_13 : decode cX12_entryOf 13 = .ok (.iaload, 1) := by decide +kernel
theorem dX12_entryOf_14 : decode cX12_entryOf 14 = .ok (.ireturn, 1) := by decide +kernel
theorem dX12_its_0 : decode cX12_its 0 = .ok (.aload_n 0, 1) := by decide +kernel
theorem dX12_its_1 : decode cX12_its 1 = .ok (.getfield 29, 3) := by decide +kernel
theorem dX12_its_4 : decode cX12_its 4 = .ok (.sipush 472, 3) := by decide +kernel
theorem dX12_its_7 : decode cX12_its 7 = .ok (.aload_n 0, 1) := by decide +kernel
theorem dX12_its_8 : decode cX12_its 8 = .ok (.getfield 32, 3) := by decide +kernel
theorem dX12_its_11 : decode cX12_its 11 = .ok (.imul, 1) := by decide +kernel
theorem dX12_its_12 : decode cX12_its 12 = .ok (.iload_n 1, 1) := by decide +kernel
theorem dX12_its_13 : decode cX12_its 13 = .ok (.iadd, 1) := by decide +kernel
theorem dX12_its_14 : decode cX12_its 14 = .ok (.iaload, 1) := by decide +kernel
theorem dX12_its_15 : decode cX12_its 15 = .ok (.ireturn, 1) := by decide +kernel
theorem dX12_puts_0 : decode cX12_puts 0 = .ok (.aload_n 0, 1) := by decide +kernel
theorem dX12_puts_1 : decode cX12_puts 1 = .ok (.getfield 29, 3) := by decide +kernel
theorem dX12_puts_4 : decode cX12_puts 4 = .ok (.sipush 472, 3) := by decide +kernel
theorem dX12_puts_7 : decode cX12_puts 7 = .ok (.aload_n 0, 1) := by decide +kernel
theorem dX12_puts_8 : decode cX12_puts 8 = .ok (.getfield 32, 3) := by decide +kernel
theorem dX12_puts_11 : decode cX12_puts 11 = .ok (.imul, 1) := by decide +kernel
theorem dX12_puts_12 : decode cX12_puts 12 = .ok (.iload_n 1, 1) := by decide +kernel
theorem dX12_puts_13 : decode cX12_puts 13 = .ok (.iadd, 1) := by decide +kernel
theorem dX12_puts_14 : decode cX12_puts 14 = .ok (.iload_n 2, 1) := by decide +kernel
theorem dX12_puts_15 : decode cX12_puts 15 = .ok (.iastore, 1) := by decide +kernel
theorem dX12_puts_16 : decode cX12_puts 16 = .ok (.return_, 1) := by decide +kernel
theorem dX12_adds_0 : decode cX12_adds 0 = .ok (.aload_n 0, 1) := by decide +kernel
theorem dX12_adds_1 : decode cX12_adds 1 = .ok (.getfield 29, 3) := by decide +kernel
theorem dX12_adds_4 : decode cX12_adds 4 = .ok (.sipush 472, 3) := by decide +kernel
theorem dX12_adds_7 : decode cX12_adds 7 = .ok (.aload_n 0, 1) := by decide +kernel
theorem dX12_adds_8 : decode cX12_adds 8 = .ok (.getfield 32, 3) := by decide +kernel
theorem dX12_adds_11 : decode cX12_adds 11 = .ok (.imul, 1) := by decide +kernel
theorem dX12_adds_12 : decode cX12_adds 12 = .ok (.iload_n 1, 1) := by decide +kernel
theorem dX12_adds_13 : decode cX12_adds 13 = .ok (.iadd, 1) := by decide +kernel
theorem dX12_adds_14 : decode cX12_adds 14 = .ok (.dup2, 1) := by decide +kernel
theorem dX12_adds_15 : decode cX12_adds 15 = .ok (.iaload, 1) := by decide +kernel
theorem dX12_adds_16 : decode cX12_adds 16 = .ok (.iload_n 2, 1) := by decide +kernel
theorem dX12_adds_17 : decode cX12_adds 17 = .ok (.iadd, 1) := by decide +kernel
theorem dX12_adds_18 : decode cX12_adds 18 = .ok (.iastore, 1) := by decide +kernel
theorem dX12_adds_19 : decode cX12_adds 19 = .ok (.return_, 1) := by decide +kernel
theorem dX12_seq_0 : decode cX12_seq 0 = .ok (.bipush 20, 2) := by decide +kernel
theorem dX12_seq_2 : decode cX12_seq 2 = .ok (.bipush 12, 2) := by decide +kernel
theorem dX12_seq_4 : decode cX12_seq 4 = .ok (.iload_n 0, 1) := by decide +kernel
theorem dX12_seq_5 : decode cX12_seq 5 = .ok (.imul, 1) := by decide +kernel
theorem dX12_seq_6 : decode cX12_seq 6 = .ok (.iadd, 1) := by decide +kernel
theorem dX12_seq_7 : decode cX12_seq 7 = .ok (.iload_n 1, 1) := by decide +kernel
theorem dX12_seq_8 : decode cX12_seq 8 = .ok (.iadd, 1) := by decide +kernel
theorem dX12_seq_9 : decode cX12_seq 9 = .ok (.ireturn, 1) := by decide +kernel
theorem dX12_chan_0 : decode cX12_chan 0 = .ok (.bipush 44, 2) := by decide +kernel
theorem dX12_chan_2 : decode cX12_chan 2 = .ok (.bipush 7, 2) := by decide +kernel
theorem dX12_chan_4 : decode cX12_chan 4 = .ok (.iload_n 0, 1) := by decide +kernel
theorem dX12_chan_5 : decode cX12_chan 5 = .ok (.imul, 1) := by decide +kernel
theorem dX12_chan_6 : decode cX12_chan 6 = .ok (.iadd, 1) := by decide +kernel
theorem dX12_chan_7 : decode cX12_chan 7 = .ok (.iload_n 1, 1) := by decide +kernel
theorem dX12_chan_8 : decode cX12_chan 8 = .ok (.iadd, 1) := by decide +kernel
theorem dX12_chan_9 : decode cX12_chan 9 = .ok (.ireturn, 1) := by decide +kernel
theorem dX12_trig_0 : decode cX12_trig 0 = .ok (.bipush 100, 2) := by decide +kernel
theorem dX12_trig_2 : decode cX12_trig 2 = .ok (.iconst 2, 1) := by decide +kernel
theorem dX12_trig_3 : decode cX12_trig 3 = .ok (.iload_n 0, 1) := by decide +kernel
theorem dX12_trig_4 : decode cX12_trig 4 = .ok (.imul, 1) := by decide +kernel
theorem dX12_trig_5 : decode cX12_trig 5 = .ok (.iadd, 1) := by decide +kernel
theorem dX12_trig_6 : decode cX12_trig 6 = .ok (.iload_n 1, 1) := by decide +kernel
theorem dX12_trig_7 : decode cX12_trig 7 = .ok (.iadd, 1) := by decide +kernel
theorem dX12_trig_8 : decode cX12_trig 8 = .ok (.ireturn, 1) := by decide +kernel
theorem dX12_win_0 : decode cX12_win 0 = .ok (.bipush 108, 2) := by decide +kernel
theorem dX12_win_2 : decode cX12_win 2 = .ok (.bipush 8, 2) := by decide +kernel
theorem dX12_win_4 : decode cX12_win 4 = .ok (.iload_n 0, 1) := by decide +kernel
theorem dX12_win_5 : decode cX12_win 5 = .ok (.imul, 1) := by decide +kernel
theorem dX12_win_6 : decode cX12_win 6 = .ok (.iadd, 1) := by decide +kernel
theorem dX12_win_7 : decode cX12_win 7 = .ok (.iload_n 1, 1) := by decide +kernel
theorem dX12_win_8 : decode cX12_win 8 = .ok (.iadd, 1) := by decide +kernel
theorem dX12_win_9 : decode cX12_win 9 = .ok (.ireturn, 1) := by decide +kernel
theorem dX12_copyBlock_0 : decode cX12_copyBlock 0 = .ok (.iconst 0, 1) := by decide +kernel
theorem dX12_copyBlock_1 : decode cX12_copyBlock 1 = .ok (.istore_n 3, 1) := by decide +kernel
theorem dX12_copyBlock_2 : decode cX12_copyBlock 2 = .ok (.iload_n 3, 1) := by decide +kernel
theorem dX12_copyBlock_3 : decode cX12_copyBlock 3 = .ok (.sipush 472, 3) := by decide +kernel
theorem dX12_copyBlock_6 : decode cX12_copyBlock 6 = .ok (.if_icmp .ge 33, 3) := by decide +kernel
theorem dX12_copyBlock_9 : decode cX12_copyBlock 9 = .ok (.aload_n 0, 1) := by decide +kernel
theorem dX12_copyBlock_10 : decode cX12_copyBlock 10 = .ok (.getfield 29, 3) := by decide +kernel
theorem dX12_copyBlock_13 : decode cX12_copyBlock 13 = .ok (.sipush 472, 3) := by decide +kernel
theorem dX12_copyBlock_16 : decode cX12_copyBlock 16 = .ok (.iload_n 2, 1) := by decide +kernel
theorem dX12_copyBlock_17 : decode cX12_copyBlock 17 = .ok (.imul, 1) := by decide +kernel
theorem dX12_copyBlock_18 : decode cX12_copyBlock 18 = .ok (.iload_n 3, 1) := by decide +kernel
theorem dX12_copyBlock_19 : decode cX12_copyBlock 19 = .ok (.iadd, 1) := by decide +kernel
theorem dX12_copyBlock_20 : decode cX12_copyBlock 20 = .ok (.aload_n 0, 1) := by decide +kernel
theorem dX12_copyBlock_21 : decode cX12_copyBlock 21 = .ok (.getfield 29, 3) := by decide +kernel
theorem dX12_copyBlock_24 : decode cX12_copyBlock 24 = .ok (.sipush 472, 3) := by decide +kernel
theorem dX12_copyBlock_27 : decode cX12_copyBlock 27 = .ok (.iload_n 1, 1) := by decide +kernel
theorem dX12_copyBlock_28 : decode cX12_copyBlock 28 = .ok (.imul, 1) := by decide +kernel
theorem dX12_copyBlock_29 : decode cX12_copyBlock 29 = .ok (.iload_n 3, 1) := by decide +kernel
theorem dX12_copyBlock_30 : decode cX12_copyBlock 30 = .ok (.iadd, 1) := by decide +kernel
theorem dX12_copyBlock_31 : decode cX12_copyBlock 31 = .ok (.iaload, 1) := by decide +kernel
theorem dX12_copyBlock_32 : decode cX12_copyBlock 32 = .ok (.iastore, 1) := by decide +kernel
theorem dX12_copyBlock_33 : decode cX12_copyBlock 33 = .ok (.iinc 3 1, 3) := by decide +kernel
theorem dX12_copyBlock_36 : decode cX12_copyBlock 36 = .ok (.goto (-34), 3) := by decide +kernel
theorem dX12_copyBlock_39 : decode cX12_copyBlock 39 = .ok (.iconst 0, 1) := by decide +kernel
theorem dX12_copyBlock_40 : decode cX12_copyBlock 40 = .ok (.istore_n 3, 1) := by decide +kernel
theorem dX12_copyBlock_41 : decode cX12_copyBlock 41 = .ok (.iload_n 3, 1) := by decide +kernel
theorem dX12_copyBlock_42 : decode cX12_copyBlock 42 = .ok (.bipush 10, 2) := by decide +kernel
theorem dX12_copyBlock_44 : decode cX12_copyBlock 44 = .ok (.if_icmp .ge 31, 3) := by decide +kernel
theorem dX12_copyBlock_47 : decode cX12_copyBlock 47 = .ok (.aload_n 0, 1) := by decide +kernel
theorem dX12_copyBlock_48 : decode cX12_copyBlock 48 = .ok (.getfield 35, 3) := by decide +kernel
theorem dX12_copyBlock_51 : decode cX12_copyBlock 51 = .ok (.bipush 10, 2) := by decide +kernel
theorem dX12_copyBlock_53 : decode cX12_copyBlock 53 = .ok (.iload_n 2, 1) := by decide +kernel
theorem dX12_copyBlock_54 : decode cX12_copyBlock 54 = .ok (.imul, 1) := by decide +kernel
theorem dX12_copyBlock_55 : decode cX12_copyBlock 55 = .ok (.iload_n 3, 1) := by decide +kernel
theorem dX12_copyBlock_56 : decode cX12_copyBlock 56 = .ok (.iadd, 1) := by decide +kernel
theorem dX12_copyBlock_57 : decode cX12_copyBlock 57 = .ok (.aload_n 0, 1) := by decide +kernel
theorem dX12_copyBlock_58 : decode cX12_copyBlock 58 = .ok (.getfield 35, 3) := by decide +kernel
theorem dX12_copyBlock_61 : decode cX12_copyBlock 61 = .ok (.bipush 10, 2) := by decide +kernel
theorem dX12_copyBlock_63 : decode cX12_copyBlock 63 = .ok (.iload_n 1, 1) := by decide +kernel
theorem dX12_copyBlock_64 : decode cX12_copyBlock 64 = .ok (.imul, 1) := by decide +kernel
theorem dX12_copyBlock_65 : decode cX12_copyBlock 65 = .ok (.iload_n 3, 1) := by decide +kernel
theorem dX12_copyBlock_66 : decode cX12_copyBlock 66 = .ok (.iadd, 1) := by decide +kernel
theorem dX12_copyBlock_67 : decode cX12_copyBlock 67 = .ok (.laload, 1) := by decide +kernel
theorem dX12_copyBlock_68 : decode cX12_copyBlock 68 = .ok (.lastore, 1) := by decide +kernel
theorem dX12_copyBlock_69 : decode cX12_copyBlock 69 = .ok (.iinc 3 1, 3) := by decide +kernel
theorem dX12_copyBlock_72 : decode cX12_copyBlock 72 = .ok (.goto (-31), 3) := by decide +kernel
theorem dX12_copyBlock_75 : decode cX12_copyBlock 75 = .ok (.return_, 1) := by decide +kernel
theorem dX12_first_0 : decode cX12_first 0 = .ok (.aload_n 0, 1) := by decide +kernel
theorem dX12_first_1 : decode cX12_first 1 = .ok (.iload_n 1, 1) := by decide +kernel
theorem dX12_first_2 : decode cX12_first 2 = .ok (.putfield 32, 3) := by decide +kernel
theorem dX12_first_5 : decode cX12_first 5 = .ok (.iconst 0, 1) := by decide +kernel
theorem dX12_first_6 : decode cX12_first 6 = .ok (.istore_n 2, 1) := by decide +kernel
theorem dX12_first_7 : decode cX12_first 7 = .ok (.iload_n 2, 1) := by decide +kernel
theorem dX12_first_8 : decode cX12_first 8 = .ok (.sipush 472, 3) := by decide +kernel
theorem dX12_first_11 : decode cX12_first 11 = .ok (.if_icmp .ge 15, 3) := by decide +kernel
theorem dX12_first_14 : decode cX12_first 14 = .ok (.aload_n 0, 1) := by decide +kernel
theorem dX12_first_15 : decode cX12_first 15 = .ok (.iload_n 2, 1) := by decide +kernel
theorem dX12_first_16 : decode cX12_first 16 = .ok (.iconst 0, 1) := by decide +kernel
theorem dX12_first_17 : decode cX12_first 17 = .ok (.invokevirtual 39, 3) := by decide +kernel
theorem dX12_first_20 : decode cX12_first 20 = .ok (.iinc 2 1, 3) := by decide +kernel
theorem dX12_first_23 : decode cX12_first 23 = .ok (.goto (-16), 3) := by decide +kernel
theorem dX12_first_26 : decode cX12_first 26 = .ok (.iconst 0, 1) := by decide +kernel
theorem dX12_first_27 : decode cX12_first 27 = .ok (.istore_n 2, 1) := by decide +kernel
theorem dX12_first_28 : decode cX12_first 28 = .ok (.iload_n 2, 1) := by decide +kernel
theorem dX12_first_29 : decode cX12_first 29 = .ok (.bipush 10, 2) := by decide +kernel
theorem dX12_first_31 : decode cX12_first 31 = .ok (.if_icmp .ge 21, 3) := by decide +kernel
theorem dX12_first_34 : decode cX12_first 34 = .ok (.aload_n 0, 1) := by decide +kernel
theorem dX12_first_35 : decode cX12_first 35 = .ok (.getfield 35, 3) := by decide +kernel
theorem dX12_first_38 : decode cX12_first 38 = .ok (.bipush 10, 2) := by decide +kernel
theorem dX12_first_40 : decode cX12_first 40 = .ok (.iload_n 1, 1) := by decide +kernel
theorem dX12_first_41 : decode cX12_first 41 = .ok (.imul, 1) := by decide +kernel
theorem dX12_first_42 : decode cX12_first 42 = .ok (.iload_n 2, 1) := by decide +kernel
theorem dX12_first_43 : decode cX12_first 43 = .ok (.iadd, 1) := by decide +kernel
theorem dX12_first_44 : decode cX12_first 44 = .ok (.lconst 0, 1) := by decide +kernel
theorem dX12_first_45 : decode cX12_first 45 = .ok (.lastore, 1) := by decide +kernel
theorem dX12_first_46 : decode cX12_first 46 = .ok (.iinc 2 1, 3) := by decide +kernel
theorem dX12_first_49 : decode cX12_first 49 = .ok (.goto (-21), 3) := by decide +kernel
theorem dX12_first_52 : decode cX12_first 52 = .ok (.iconst 0, 1) := by decide +kernel
theorem dX12_first_53 : decode cX12_first 53 = .ok (.istore_n 2, 1) := by decide +kernel
theorem dX12_first_54 : decode cX12_first 54 = .ok (.iload_n 2, 1) := by decide +kernel
theorem dX12_first_55 : decode cX12_first 55 = .ok (.iconst 2, 1) := by decide +kernel
theorem dX12_first_56 : decode cX12_first 56 = .ok (.if_icmp .ge 29, 3) := by decide +kernel
theorem dX12_first_59 : decode cX12_first 59 = .ok (.aload_n 0, 1) := by decide +kernel
theorem dX12_first_60 : decode cX12_first 60 = .ok (.iload_n 2, 1) := by decide +kernel
theorem dX12_first_61 : decode cX12_first 61 = .ok (.iconst 2, 1) := by decide +kernel
theorem dX12_first_62 : decode cX12_first 62 = .ok (.invokestatic 43, 3) := by decide +kernel
theorem dX12_first_65 : decode cX12_first 65 = .ok (.iconst (-1), 1) := by decide +kernel
theorem dX12_first_66 : decode cX12_first 66 = .ok (.invokevirtual 39, 3) := by decide +kernel
theorem dX12_first_69 : decode cX12_first 69 = .ok (.aload_n 0, 1) := by decide +kernel
theorem dX12_first_70 : decode cX12_first 70 = .ok (.iload_n 2, 1) := by decide +kernel
theorem dX12_first_71 : decode cX12_first 71 = .ok (.iconst 3, 1) := by decide +kernel
theorem dX12_first_72 : decode cX12_first 72 = .ok (.invokestatic 43, 3) := by decide +kernel
theorem dX12_first_75 : decode cX12_first 75 = .ok (.iconst (-1), 1) := by decide +kernel
theorem dX12_first_76 : decode cX12_first 76 = .ok (.invokevirtual 39, 3) := by decide +kernel
theorem dX12_first_79 : decode cX12_first 79 = .ok (.iinc 2 1, 3) := by decide +kernel
theorem dX12_first_82 : decode cX12_first 82 = .ok (.goto (-28), 3) := by decide +kernel
theorem dX12_first_85 : decode cX12_first 85 = .ok (.iconst 0, 1) := by decide +kernel
theorem dX12_first_86 : decode cX12_first 86 = .ok (.istore_n 2, 1) := by decide +kernel
theorem dX12_first_87 : decode cX12_first 87 = .ok (.iload_n 2, 1) := by decide +kernel
theorem dX12_first_88 : decode cX12_first 88 = .ok (.bipush 8, 2) := by decide +kernel
theorem dX12_first_90 : decode cX12_first 90 = .ok (.if_icmp .ge 50, 3) := by decide +kernel
theorem dX12_first_93 : decode cX12_first 93 = .ok (.aload_n 0, 1) := by decide +kernel
theorem dX12_first_94 : decode cX12_first 94 = .ok (.iload_n 2, 1) := by decide +kernel
theorem dX12_first_95 : decode cX12_first 95 = .ok (.iconst 0, 1) := by decide +kernel
theorem dX12_first_96 : decode cX12_first 96 = .ok (.invokestatic 47, 3) := by decide +kernel
theorem dX12_first_99 : decode cX12_first 99 = .ok (.iconst 3, 1) := by decide +kernel
theorem dX12_first_100 : decode cX12_first 100 = .ok (.invokevirtual 39, 3) := by decide +kernel
theorem dX12_first_103 : decode cX12_first 103 = .ok (.aload_n 0, 1) := by decide +kernel
theorem dX12_first_104 : decode cX12_first 104 = .ok (.iload_n 2, 1) := by decide +kernel
theorem dX12_first_105 : decode cX12_first 105 = .ok (.iconst 3, 1) := by decide +kernel
theorem dX12_first_106 : decode cX12_first 106 = .ok (.invokestatic 47, 3) := by decide +kernel
theorem dX12_first_109 : decode cX12_first 109 = .ok (.iconst 1, 1) := by decide +kernel
theorem dX12_first_110 : decode cX12_first 110 = .ok (.invokevirtual 39, 3) := by decide +kernel
theorem dX12_first_113 : decode cX12_first 113 = .ok (.aload_n 0, 1) := by decide +kernel
theorem dX12_first_114 : decode cX12_first 114 = .ok (.iload_n 2, 1) := by decide +kernel
theorem dX12_first_115 : decode cX12_first 115 = .ok (.iconst 5, 1) := by decide +kernel
theorem dX12_first_116 : decode cX12_first 116 = .ok (.invokestatic 47, 3) := by decide +kernel
theorem dX12_first_119 : decode cX12_first 119 = .ok (.iconst (-1), 1) := by decide +kernel
theorem dX12_first_120 : decode cX12_first 120 = .ok (.invokevirtual 39, 3) := by decide +kernel
theorem dX12_first_123 : decode cX12_first 123 = .ok (.aload_n 0, 1) := by decide +kernel
theorem dX12_first_124 : decode cX12_first 124 = .ok (.iload_n 2, 1) := by decide +kernel
theorem dX12_first_125 : decode cX12_first 125 = .ok (.bipush 6, 2) := by decide +kernel
theorem dX12_first_127 : decode cX12_first 127 = .ok (.invokestatic 47, 3) := by decide +kernel
theorem dX12_first_130 : decode cX12_first 130 = .ok (.iconst (-1), 1) := by decide +kernel
theorem dX12_first_131 : decode cX12_first 131 = .ok (.invokevirtual 39, 3) := by decide +kernel
theorem dX12_first_134 : decode cX12_first 134 = .ok (.iinc 2 1, 3) := by decide +kernel
theorem dX12_first_137 : decode cX12_first 137 = .ok (.goto (-50), 3) := by decide +kernel
theorem dX12_first_140 : decode cX12_first 140 = .ok (.aload_n 0, 1) := by decide +kernel
theorem dX12_first_141 : decode cX12_first 141 = .ok (.iconst 0, 1) := by decide +kernel
theorem dX12_first_142 : decode cX12_first 142 = .ok (.putfield 32, 3) := by decide +kernel
theorem dX12_first_145 : decode cX12_first 145 = .ok (.return_, 1) := by decide +kernel
theorem dX12_firstSettings_0 : decode cX12_firstSettings 0 = .ok (.iconst 0, 1) := by decide +kernel
theorem dX12_firstSettings_1 : decode cX12_firstSettings 1 = .ok (.istore_n 2, 1) := by decide +kernel
theorem dX12_firstSettings_2 : decode cX12_firstSettings 2 = .ok (.iload_n 2, 1) := by decide +kernel
theorem dX12_firstSettings_3 : decode cX12_firstSettings 3 = .ok (.bipush 52, 2) := by decide +kernel
theorem dX12_firstSettings_5 : decode cX12_firstSettings 5 = .ok (.if_icmp .ge 18, 3) := by decide +kernel
theorem dX12_firstSettings_8 : decode cX12_firstSettings 8 = .ok (.aload_n 0, 1) := by decide +kernel
theorem dX12_firstSettings_9 : decode cX12_firstSettings 9 = .ok (.getfield 26, 3) := by decide +kernel
theorem dX12_firstSettings_12 : decode cX12_firstSettings 12 = .ok (.iload_n 1, 1) := by decide +kernel
theorem dX12_firstSettings_13 : decode cX12_firstSettings 13 = .ok (.iload_n 2, 1) := by decide +kernel
theorem dX12_firstSettings_14 : decode cX12_firstSettings 14 = .ok (.iadd, 1) := by decide +kernel
theorem dX12_firstSettings_15 : decode cX12_firstSettings 15 = .ok (.iconst 0, 1) := by decide +kernel
theorem dX12_firstSettings_16 : decode cX12_firstSettings 16 = .ok (.iastore, 1) := by decide +kernel
theorem dX12_firstSettings_17 : decode cX12_firstSettings 17 = .ok (.iinc 2 1, 3) := by decide +kernel
theorem dX12_firstSettings_20 : decode cX12_firstSettings 20 = .ok (.goto (-18), 3) := by decide +kernel
theorem dX12_firstSettings_23 : decode cX12_firstSettings 23 = .ok (.aload_n 0, 1) := by decide +kernel
theorem dX12_firstSettings_24 : decode cX12_firstSettings 24 = .ok (.getfield 26, 3) := by decide +kernel
theorem dX12_firstSettings_27 : decode cX12_firstSettings 27 = .ok (.iload_n 1, 1) := by decide +kernel
theorem dX12_firstSettings_28 : decode cX12_firstSettings 28 = .ok (.bipush 8, 2) := by decide +kernel
theorem dX12_firstSettings_30 : decode cX12_firstSettings 30 = .ok (.iadd, 1) := by decide +kernel
theorem dX12_firstSettings_31 : decode cX12_firstSettings 31 = .ok (.iconst 4, 1) := by decide +kernel
theorem dX12_firstSettings_32 : decode cX12_firstSettings 32 = .ok (.iastore, 1) := by decide +kernel
theorem dX12_firstSettings_33 : decode cX12_firstSettings 33 = .ok (.return_, 1) := by decide +kernel
theorem dX12_init_0 : decode cX12_init 0 = .ok (.aload_n 0, 1) := by decide +kernel
theorem dX12_init_1 : decode cX12_init 1 = .ok (.invokespecial 50, 3) := by decide +kernel
theorem dX12_init_4 : decode cX12_init 4 = .ok (.aload_n 0, 1) := by decide +kernel
theorem dX12_init_5 : decode cX12_init 5 = .ok (.iconst 0, 1) := by decide +kernel
theorem dX12_init_6 : decode cX12_init 6 = .ok (.putfield 1, 3) := by decide +kernel
theorem dX12_init_9 : decode cX12_init 9 = .ok (.aload_n 0, 1) := by decide +kernel
theorem dX12_init_10 : decode cX12_init 10 = .ok (.sipush 900, 3) := by decide +kernel
theorem dX12_init_13 : decode cX12_init 13 = .ok (.newarray .int, 2) := by decide +kernel
theorem dX12_init_15 : decode cX12_init 15 = .ok (.putfield 7, 3) := by decide +kernel
theorem dX12_init_18 : decode cX12_init 18 = .ok (.aload_n 0, 1) := by decide +kernel
theorem dX12_init_19 : decode cX12_init 19 = .ok (.iconst 0, 1) := by decide +kernel
theorem dX12_init_20 : decode cX12_init 20 = .ok (.putfield 11, 3) := by decide +kernel
theorem dX12_init_23 : decode cX12_init 23 = .ok (.aload_n 0, 1) := by decide +kernel
theorem dX12_init_24 : decode cX12_init 24 = .ok (.bipush 104, 2) := by decide +kernel
theorem dX12_init_26 : decode cX12_init 26 = .ok (.newarray .int, 2) := by decide +kernel
theorem dX12_init_28 : decode cX12_init 28 = .ok (.putfield 26, 3) := by decide +kernel
theorem dX12_init_31 : decode cX12_init 31 = .ok (.aload_n 0, 1) := by decide +kernel
theorem dX12_init_32 : decode cX12_init 32 = .ok (.sipush 2360, 3) := by decide +kernel
theorem dX12_init_35 : decode cX12_init 35 = .ok (.newarray .int, 2) := by decide +kernel
theorem dX12_init_37 : decode cX12_init 37 = .ok (.putfield 29, 3) := by decide +kernel
theorem dX12_init_40 : decode cX12_init 40 = .ok (.aload_n 0, 1) := by decide +kernel
theorem dX12_init_41 : decode cX12_init 41 = .ok (.bipush 50, 2) := by decide +kernel
theorem dX12_init_43 : decode cX12_init 43 = .ok (.newarray .long, 2) := by decide +kernel
theorem dX12_init_45 : decode cX12_init 45 = .ok (.putfield 35, 3) := by decide +kernel
theorem dX12_init_48 : decode cX12_init 48 = .ok (.aload_n 0, 1) := by decide +kernel
theorem dX12_init_49 : decode cX12_init 49 = .ok (.iconst 2, 1) := by decide +kernel
theorem dX12_init_50 : decode cX12_init 50 = .ok (.newarray .boolean, 2) := by decide +kernel
theorem dX12_init_52 : decode cX12_init 52 = .ok (.putfield 56, 3) := by decide +kernel
theorem dX12_init_55 : decode cX12_init 55 = .ok (.aload_n 0, 1) := by decide +kernel
theorem dX12_init_56 : decode cX12_init 56 = .ok (.iconst 0, 1) := by decide +kernel
theorem dX12_init_57 : decode cX12_init 57 = .ok (.putfield 32, 3) := by decide +kernel
theorem dX12_init_60 : decode cX12_init 60 = .ok (.aload_n 0, 1) := by decide +kernel
theorem dX12_init_61 : decode cX12_init 61 = .ok (.bipush 25, 2) := by decide +kernel
theorem dX12_init_63 : decode cX12_init 63 = .ok (.newarray .long, 2) := by decide +kernel
theorem dX12_init_65 : decode cX12_init 65 = .ok (.dup, 1) := by decide +kernel
theorem dX12_init_66 : decode cX12_init 66 = .ok (.iconst 0, 1) := by decide +kernel
theorem dX12_init_67 : decode cX12_init 67 = .ok (.ldc2_w 60, 3) := by decide +kernel
theorem dX12_init_70 : decode cX12_init 70 = .ok (.lastore, 1) := by decide +kernel
theorem dX12_init_71 : decode cX12_init 71 = .ok (.dup, 1) := by decide +kernel
theorem dX12_init_72 : decode cX12_init 72 = .ok (.iconst 1, 1) := by decide +kernel
theorem dX12_init_73 : decode cX12_init 73 = .ok (.ldc2_w 62, 3) := by decide +kernel
theorem dX12_init_76 : decode cX12_init 76 = .ok (.lastore, 1) := by decide +kernel
theorem dX12_init_77 : decode cX12_init 77 = .ok (.dup, 1) := by decide +kernel
theorem dX12_init_78 : decode cX12_init 78 = .ok (.iconst 2, 1) := by decide +kernel
theorem dX12_init_79 : decode cX12_init 79 = .ok (.ldc2_w 64, 3) := by decide +kernel
theorem dX12_init_82 : decode cX12_init 82 = .ok (.lastore, 1) := by decide +kernel
theorem dX12_init_83 : decode cX12_init 83 = .ok (.dup, 1) := by decide +kernel
theorem dX12_init_84 : decode cX12_init 84 = .ok (.iconst 3, 1) := by decide +kernel
theorem dX12_init_85 : decode cX12_init 85 = .ok (.ldc2_w 66, 3) := by decide +kernel
theorem dX12_init_88 : decode cX12_init 88 = .ok (.lastore, 1) := by decide +kernel
theorem dX12_init_89 : decode cX12_init 89 = .ok (.dup, 1) := by decide +kernel
theorem dX12_init_90 : decode cX12_init 90 = .ok (.iconst 4, 1) := by decide +kernel
theorem dX12_init_91 : decode cX12_init 91 = .ok (.ldc2_w 68, 3) := by decide +kernel
theorem dX12_init_94 : decode cX12_init 94 = .ok (.lastore, 1) := by decide +kernel
theorem dX12_init_95 : decode cX12_init 95 = .ok (.dup, 1) := by decide +kernel
theorem dX12_init_96 : decode cX12_init 96 = .ok (.iconst 5, 1) := by decide +kernel
theorem dX12_init_97 : decode cX12_init 97 = .ok (.ldc2_w 70, 3) := by decide +kernel
theorem dX12_init_100 : decode cX12_init 100 = .ok (.lastore, 1) := by decide +kernel
theorem dX12_init_101 : decode cX12_init 101 = .ok (.dup, 1) := by decide +kernel
theorem dX12_init_102 : decode cX12_init 102 = .ok (.bipush 6, 2) := by decide +kernel
theorem dX12_init_104 : decode cX12_init 104 = .ok (.ldc2_w 72, 3) := by decide +kernel
theorem dX12_init_107 : decode cX12_init 107 = .ok (.lastore, 1) := by decide +kernel
theorem dX12_init_108 : decode cX12_init 108 = .ok (.dup, 1) := by decide +kernel
theorem dX12_init_109 : decode cX12_init 109 = .ok (.bipush 7, 2) := by decide +kernel
theorem dX12_init_111 : decode cX12_init 111 = .ok (.ldc2_w 74, 3) := by decide +kernel
theorem dX12_init_114 : decode cX12_init 114 = .ok (.lastore, 1) := by decide +kernel
theorem dX12_init_115 : decode cX12_init 115 = .ok (.dup, 1) := by decide +kernel
theorem dX12_init_116 : decode cX12_init 116 = .ok (.bipush 8, 2) := by decide +kernel
theorem dX12_init_118 : decode cX12_init 118 = .ok (.ldc2_w 76, 3) := by decide +kernel
theorem dX12_init_121 : decode cX12_init 121 = .ok (.lastore, 1) := by decide +kernel
theorem dX12_init_122 : decode cX12_init 122 = .ok (.dup, 1) := by decide +kernel
theorem dX12_init_123 : decode cX12_init 123 = .ok (.bipush 9, 2) := by decide +kernel
theorem dX12_init_125 : decode cX12_init 125 = .ok (.ldc2_w 78, 3) := by decide +kernel
theorem dX12_init_128 : decode cX12_init 128 = .ok (.lastore, 1) := by decide +kernel
theorem dX12_init_129 : decode cX12_init 129 = .ok (.dup, 1) := by decide +kernel
theorem dX12_init_130 : decode cX12_init 130 = .ok (.bipush 10, 2) := by decide +kernel
theorem dX12_init_132 : decode cX12_init 132 = .ok (.ldc2_w 80, 3) := by decide +kernel
theorem dX12_init_135 : decode cX12_init 135 = .ok (.lastore, 1) := by decide +kernel
theorem dX12_init_136 : decode cX12_init 136 = .ok (.dup, 1) := by decide +kernel
theorem dX12_init_137 : decode cX12_init 137 = .ok (.bipush 11, 2) := by decide +kernel
theorem dX12_init_139 : decode cX12_init 139 = .ok (.ldc2_w 82, 3) := by decide +kernel
theorem dX12_init_142 : decode cX12_init 142 = .ok (.lastore, 1) := by decide +kernel
theorem dX12_init_143 : decode cX12_init 143 = .ok (.dup, 1) := by decide +kernel
theorem dX12_init_144 : decode cX12_init 144 = .ok (.bipush 12, 2) := by decide +kernel
theorem dX12_init_146 : decode cX12_init 146 = .ok (.ldc2_w 84, 3) := by decide +kernel
theorem dX12_init_149 : decode cX12_init 149 = .ok (.lastore, 1) := by decide +kernel
theorem dX12_init_150 : decode cX12_init 150 = .ok (.dup, 1) := by decide +kernel
theorem dX12_init_151 : decode cX12_init 151 = .ok (.bipush 13, 2) := by decide +kernel
theorem dX12_init_153 : decode cX12_init 153 = .ok (.ldc2_w 86, 3) := by decide +kernel
theorem dX12_init_156 : decode cX12_init 156 = .ok (.lastore, 1) := by decide +kernel
theorem dX12_init_157 : decode cX12_init 157 = .ok (.dup, 1) := by decide +kernel
theorem dX12_init_158 : decode cX12_init 158 = .ok (.bipush 14, 2) := by decide +kernel
theorem dX12_init_160 : decode cX12_init 160 = .ok (.ldc2_w 88, 3) := by decide +kernel
theorem dX12_init_163 : decode cX12_init 163 = .ok (.lastore, 1) := by decide +kernel
theorem dX12_init_164 : decode cX12_init 164 = .ok (.dup, 1) := by decide +kernel
theorem dX12_init_165 : decode cX12_init 165 = .ok (.bipush 15, 2) := by decide +kernel
theorem dX12_init_167 : decode cX12_init 167 = .ok (.ldc2_w 90, 3) := by decide +kernel
theorem dX12_init_170 : decode cX12_init 170 = .ok (.lastore, 1) := by decide +kernel
theorem dX12_init_171 : decode cX12_init 171 = .ok (.dup, 1) := by decide +kernel
theorem dX12_init_172 : decode cX12_init 172 = .ok (.bipush 16, 2) := by decide +kernel
theorem dX12_init_174 : decode cX12_init 174 = .ok (.ldc2_w 92, 3) := by decide +kernel
theorem dX12_init_177 : decode cX12_init 177 = .ok (.lastore, 1) := by decide +kernel
theorem dX12_init_178 : decode cX12_init 178 = .ok (.dup, 1) := by decide +kernel
theorem dX12_init_179 : decode cX12_init 179 = .ok (.bipush 17, 2) := by decide +kernel
theorem dX12_init_181 : decode cX12_init 181 = .ok (.ldc2_w 94, 3) := by decide +kernel
theorem dX12_init_184 : decode cX12_init 184 = .ok (.lastore, 1) := by decide +kernel
theorem dX12_init_185 : decode cX12_init 185 = .ok (.dup, 1) := by decide +kernel
theorem dX12_init_186 : decode cX12_init 186 = .ok (.bipush 18, 2) := by decide +kernel
theorem dX12_init_188 : decode cX12_init 188 = .ok (.ldc2_w 96, 3) := by decide +kernel
theorem dX12_init_191 : decode cX12_init 191 = .ok (.lastore, 1) := by decide +kernel
theorem dX12_init_192 : decode cX12_init 192 = .ok (.dup, 1) := by decide +kernel
theorem dX12_init_193 : decode cX12_init 193 = .ok (.bipush 19, 2) := by decide +kernel
theorem dX12_init_195 : decode cX12_init 195 = .ok (.ldc2_w 98, 3) := by decide +kernel
theorem dX12_init_198 : decode cX12_init 198 = .ok (.lastore, 1) := by decide +kernel
theorem dX12_init_199 : decode cX12_init 199 = .ok (.dup, 1) := by decide +kernel
theorem dX12_init_200 : decode cX12_init 200 = .ok (.bipush 20, 2) := by decide +kernel
theorem dX12_init_202 : decode cX12_init 202 = .ok (.ldc2_w 100, 3) := by decide +kernel
theorem dX12_init_205 : decode cX12_init 205 = .ok (.lastore, 1) := by decide +kernel
theorem dX12_init_206 : decode cX12_init 206 = .ok (.dup, 1) := by decide +kernel
theorem dX12_init_207 : decode cX12_init 207 = .ok (.bipush 21, 2) := by decide +kernel
theorem dX12_init_209 : decode cX12_init 209 = .ok (.ldc2_w 102, 3) := by decide +kernel
theorem dX12_init_212 : decode cX12_init 212 = .ok (.lastore, 1) := by decide +kernel
theorem dX12_init_213 : decode cX12_init 213 = .ok (.dup, 1) := by decide +kernel
theorem dX12_init_214 : decode cX12_init 214 = .ok (.bipush 22, 2) := by decide +kernel
theorem dX12_init_216 : decode cX12_init 216 = .ok (.ldc2_w 104, 3) := by decide +kernel
theorem dX12_init_219 : decode cX12_init 219 = .ok (.lastore, 1) := by decide +kernel
theorem dX12_init_220 : decode cX12_init 220 = .ok (.dup, 1) := by decide +kernel
theorem dX12_init_221 : decode cX12_init 221 = .ok (.bipush 23, 2) := by decide +kernel
theorem dX12_init_223 : decode cX12_init 223 = .ok (.ldc2_w 106, 3) := by decide +kernel
theorem dX12_init_226 : decode cX12_init 226 = .ok (.lastore, 1) := by decide +kernel
theorem dX12_init_227 : decode cX12_init 227 = .ok (.dup, 1) := by decide +kernel
theorem dX12_init_228 : decode cX12_init 228 = .ok (.bipush 24, 2) := by decide +kernel
theorem dX12_init_230 : decode cX12_init 230 = .ok (.ldc2_w 108, 3) := by decide +kernel
theorem dX12_init_233 : decode cX12_init 233 = .ok (.lastore, 1) := by decide +kernel
theorem dX12_init_234 : decode cX12_init 234 = .ok (.putfield 110, 3) := by decide +kernel
theorem dX12_init_237 : decode cX12_init 237 = .ok (.aload_n 0, 1) := by decide +kernel
theorem dX12_init_238 : decode cX12_init 238 = .ok (.iconst 0, 1) := by decide +kernel
theorem dX12_init_239 : decode cX12_init 239 = .ok (.putfield 113, 3) := by decide +kernel
theorem dX12_init_242 : decode cX12_init 242 = .ok (.aload_n 0, 1) := by decide +kernel
theorem dX12_init_243 : decode cX12_init 243 = .ok (.iconst 0, 1) := by decide +kernel
theorem dX12_init_244 : decode cX12_init 244 = .ok (.putfield 116, 3) := by decide +kernel
theorem dX12_init_247 : decode cX12_init 247 = .ok (.aload_n 0, 1) := by decide +kernel
theorem dX12_init_248 : decode cX12_init 248 = .ok (.iconst 0, 1) := by decide +kernel
theorem dX12_init_249 : decode cX12_init 249 = .ok (.putfield 119, 3) := by decide +kernel
theorem dX12_init_252 : decode cX12_init 252 = .ok (.aload_n 0, 1) := by decide +kernel
theorem dX12_init_253 : decode cX12_init 253 = .ok (.iconst 0, 1) := by decide +kernel
theorem dX12_init_254 : decode cX12_init 254 = .ok (.putfield 122, 3) := by decide +kernel
theorem dX12_init_257 : decode cX12_init 257 = .ok (.aload_n 0, 1) := by decide +kernel
theorem dX12_init_258 : decode cX12_init 258 = .ok (.iconst 0, 1) := by decide +kernel
theorem dX12_init_259 : decode cX12_init 259 = .ok (.putfield 125, 3) := by decide +kernel
theorem dX12_init_262 : decode cX12_init 262 = .ok (.aload_n 0, 1) := by decide +kernel
theorem dX12_init_263 : decode cX12_init 263 = .ok (.iconst 0, 1) := by decide +kernel
theorem dX12_init_264 : decode cX12_init 264 = .ok (.putfield 128, 3) := by decide +kernel
theorem dX12_init_267 : decode cX12_init 267 = .ok (.aload_n 0, 1) := by decide +kernel
theorem dX12_init_268 : decode cX12_init 268 = .ok (.iconst (-1), 1) := by decide +kernel
theorem dX12_init_269 : decode cX12_init 269 = .ok (.putfield 131, 3) := by decide +kernel
theorem dX12_init_272 : decode cX12_init 272 = .ok (.aload_n 0, 1) := by decide +kernel
theorem dX12_init_273 : decode cX12_init 273 = .ok (.iconst 0, 1) := by decide +kernel
theorem dX12_init_274 : decode cX12_init 274 = .ok (.putfield 134, 3) := by decide +kernel
theorem dX12_init_277 : decode cX12_init 277 = .ok (.aload_n 0, 1) := by decide +kernel
theorem dX12_init_278 : decode cX12_init 278 = .ok (.iconst (-1), 1) := by decide +kernel
theorem dX12_init_279 : decode cX12_init 279 = .ok (.putfield 137, 3) := by decide +kernel
theorem dX12_init_282 : decode cX12_init 282 = .ok (.aload_n 0, 1) := by decide +kernel
theorem dX12_init_283 : decode cX12_init 283 = .ok (.bipush 25, 2) := by decide +kernel
theorem dX12_init_285 : decode cX12_init 285 = .ok (.newarray .boolean, 2) := by decide +kernel
theorem dX12_init_287 : decode cX12_init 287 = .ok (.putfield 140, 3) := by decide +kernel
theorem dX12_init_290 : decode cX12_init 290 = .ok (.aload_n 0, 1) := by decide +kernel
theorem dX12_init_291 : decode cX12_init 291 = .ok (.bipush 8, 2) := by decide +kernel
theorem dX12_init_293 : decode cX12_init 293 = .ok (.newarray .boolean, 2) := by decide +kernel
theorem dX12_init_295 : decode cX12_init 295 = .ok (.putfield 143, 3) := by decide +kernel
theorem dX12_init_298 : decode cX12_init 298 = .ok (.aload_n 0, 1) := by decide +kernel
theorem dX12_init_299 : decode cX12_init 299 = .ok (.iconst 4, 1) := by decide +kernel
theorem dX12_init_300 : decode cX12_init 300 = .ok (.newarray .boolean, 2) := by decide +kernel
theorem dX12_init_302 : decode cX12_init 302 = .ok (.putfield 146, 3) := by decide +kernel
theorem dX12_init_305 : decode cX12_init 305 = .ok (.aload_n 0, 1) := by decide +kernel
theorem dX12_init_306 : decode cX12_init 306 = .ok (.iconst 0, 1) := by decide +kernel
theorem dX12_init_307 : decode cX12_init 307 = .ok (.invokevirtual 149, 3) := by decide +kernel
theorem dX12_init_310 : decode cX12_init 310 = .ok (.aload_n 0, 1) := by decide +kernel
theorem dX12_init_311 : decode cX12_init 311 = .ok (.iconst 0, 1) := by decide +kernel
theorem dX12_init_312 : decode cX12_init 312 = .ok (.invokevirtual 152, 3) := by decide +kernel
theorem dX12_init_315 : decode cX12_init 315 = .ok (.return_, 1) := by decide +kernel
theorem dX12_signalOf_0 : decode cX12_signalOf 0 = .ok (.aload_n 0, 1) := by decide +kernel
theorem dX12_signalOf_1 : decode cX12_signalOf 1 = .ok (.iload_n 1, 1) := by decide +kernel
theorem dX12_signalOf_2 : decode cX12_signalOf 2 = .ok (.iconst 1, 1) := by decide +kernel
theorem dX12_signalOf_3 : decode cX12_signalOf 3 = .ok (.invokestatic 47, 3) := by decide +kernel
theorem dX12_signalOf_6 : decode cX12_signalOf 6 = .ok (.invokevirtual 155, 3) := by decide +kernel
theorem dX12_signalOf_9 : decode cX12_signalOf 9 = .ok (.aload_n 0, 1) := by decide +kernel
theorem dX12_signalOf_10 : decode cX12_signalOf 10 = .ok (.iload_n 1, 1) := by decide +kernel
theorem dX12_signalOf_11 : decode cX12_signalOf 11 = .ok (.iconst 2, 1) := by decide +kernel
theorem dX12_signalOf_12 : decode cX12_signalOf 12 = .ok (.invokestatic 47, 3) := by decide +kernel
theorem dX12_signalOf_15 : decode cX12_signalOf 15 = .ok (.invokevirtual 155, 3) := by decide +kernel
theorem dX12_signalOf_18 : decode cX12_signalOf 18 = .ok (.iload_n 2, 1) := by decide +kernel
theorem dX12_signalOf_19 : decode cX12_signalOf 19 = .ok (.aload_n 0, 1) := by decide +kernel
theorem dX12_signalOf_20 : decode cX12_signalOf 20 = .ok (.iload_n 1, 1) := by decide +kernel
theorem dX12_signalOf_21 : decode cX12_signalOf 21 = .ok (.iconst 3, 1) := by decide +kernel
theorem dX12_signalOf_22 : decode cX12_signalOf 22 = .ok (.invokestatic 47, 3) := by decide +kernel
theorem dX12_signalOf_25 : decode cX12_signalOf 25 = .ok (.invokevirtual 155, 3) := by decide +kernel
theorem dX12_signalOf_28 : decode cX12_signalOf 28 = .ok (.irem, 1) := by decide +kernel
theorem dX12_signalOf_29 : decode cX12_signalOf 29 = .ok (.imul, 1) := by decide +kernel
theorem dX12_signalOf_30 : decode cX12_signalOf 30 = .ok (.iadd, 1) := by decide +kernel
theorem dX12_signalOf_31 : decode cX12_signalOf 31 = .ok (.istore_n 3, 1) := by decide +kernel
theorem dX12_signalOf_32 : decode cX12_signalOf 32 = .ok (.iload_n 3, 1) := by decide +kernel
theorem dX12_signalOf_33 : decode cX12_signalOf 33 = .ok (.ifCond .ge 7, 3) := by decide +kernel
theorem dX12_signalOf_36 : decode cX12_signalOf 36 = .ok (.iconst 0, 1) := by decide +kernel
theorem dX12_signalOf_37 : decode cX12_signalOf 37 = .ok (.goto 10, 3) := by decide +kernel
theorem dX12_signalOf_40 : decode cX12_signalOf 40 = .ok (.sipush 4095, 3) := by decide +kernel
theorem dX12_signalOf_43 : decode cX12_signalOf 43 = .ok (.iload_n 3, 1) := by decide +kernel
theorem dX12_signalOf_44 : decode cX12_signalOf 44 = .ok (.invokestatic 159, 3) := by decide +kernel
theorem dX12_signalOf_47 : decode cX12_signalOf 47 = .ok (.ireturn, 1) := by decide +kernel
theorem dX12_isChannel_0 : decode cX12_isChannel 0 = .ok (.iload_n 1, 1) := by decide +kernel
theorem dX12_isChannel_1 : decode cX12_isChannel 1 = .ok (.iconst 0, 1) := by decide +kernel
theorem dX12_isChannel_2 : decode cX12_isChannel 2 = .ok (.bipush 7, 2) := by decide +kernel
theorem dX12_isChannel_4 : decode cX12_isChannel 4 = .ok (.invokestatic 22, 3) := by decide +kernel
theorem dX12_isChannel_7 : decode cX12_isChannel 7 = .ok (.ireturn, 1) := by decide +kernel
theorem dX12_breakOff_0 : decode cX12_breakOff 0 = .ok (.aload_n 0, 1) := by decide +kernel
theorem dX12_breakOff_1 : decode cX12_breakOff 1 = .ok (.iconst 1, 1) := by decide +kernel
theorem dX12_breakOff_2 : decode cX12_breakOff 2 = .ok (.iconst 0, 1) := by decide +kernel
theorem dX12_breakOff_3 : decode cX12_breakOff 3 = .ok (.invokevirtual 39, 3) := by decide +kernel
theorem dX12_breakOff_6 : decode cX12_breakOff 6 = .ok (.aload_n 0, 1) := by decide +kernel
theorem dX12_breakOff_7 : decode cX12_breakOff 7 = .ok (.bipush 7, 2) := by decide +kernel
theorem dX12_breakOff_9 : decode cX12_breakOff 9 = .ok (.iconst 1, 1) := by decide +kernel
theorem dX12_breakOff_10 : decode cX12_breakOff 10 = .ok (.invokevirtual 162, 3) := by decide +kernel
theorem dX12_breakOff_13 : decode cX12_breakOff 13 = .ok (.return_, 1) := by decide +kernel
theorem dX12_clearResult_0 : decode cX12_clearResult 0 = .ok (.aload_n 0, 1) := by decide +kernel
theorem dX12_clearResult_1 : decode cX12_clearResult 1 = .ok (.iload_n 1, 1) := by decide +kernel
theorem dX12_clearResult_2 : decode cX12_clearResult 2 = .ok (.bipush 6, 2) := by decide +kernel
theorem dX12_clearResult_4 : decode cX12_clearResult 4 = .ok (.invokestatic 43, 3) := by decide +kernel
theorem dX12_clearResult_7 : decode cX12_clearResult 7 = .ok (.iconst 0, 1) := by decide +kernel
theorem dX12_clearResult_8 : decode cX12_clearResult 8 = .ok (.invokevirtual 39, 3) := by decide +kernel
theorem dX12_clearResult_11 : decode cX12_clearResult 11 = .ok (.aload_n 0, 1) := by decide +kernel
theorem dX12_clearResult_12 : decode cX12_clearResult 12 = .ok (.iload_n 1, 1) := by decide +kernel
theorem dX12_clearResult_13 : decode cX12_clearResult 13 = .ok (.bipush 7, 2) := by decide +kernel
theorem dX12_clearResult_15 : decode cX12_clearResult 15 = .ok (.invokestatic 43, 3) := by decide +kernel
theorem dX12_clearResult_18 : decode cX12_clearResult 18 = .ok (.iconst 0, 1) := by decide +kernel
theorem dX12_clearResult_19 : decode cX12_clearResult 19 = .ok (.invokevirtual 39, 3) := by decide +kernel
theorem dX12_clearResult_22 : decode cX12_clearResult 22 = .ok (.return_, 1) := by decide +kernel
theorem dX12_beginPass_0 : decode cX12_beginPass 0 = .ok (.aload_n 0, 1) := by decide +kernel
theorem dX12_beginPass_1 : decode cX12_beginPass 1 = .ok (.iload_n 1, 1) := by decide +kernel
theorem dX12_beginPass_2 : decode cX12_beginPass 2 = .ok (.invokevirtual 165, 3) := by decide +kernel
theorem dX12_beginPass_5 : decode cX12_beginPass 5 = .ok (.aload_n 0, 1) := by decide +kernel
theorem dX12_beginPass_6 : decode cX12_beginPass 6 = .ok (.iload_n 1, 1) := by decide +kernel
theorem dX12_beginPass_7 : decode cX12_beginPass 7 = .ok (.iconst 1, 1) := by decide +kernel
theorem dX12_beginPass_8 : decode cX12_beginPass 8 = .ok (.invokestatic 43, 3) := by decide +kernel
theorem dX12_beginPass_11 : decode cX12_beginPass 11 = .ok (.invokevirtual 155, 3) := by decide +kernel
theorem dX12_beginPass_14 : decode cX12_beginPass 14 = .ok (.isub, 1) := by decide +kernel
theorem dX12_beginPass_15 : decode cX12_beginPass 15 = .ok (.istore_n 2, 1) := by decide +kernel
theorem dX12_beginPass_16 : decode cX12_beginPass 16 = .ok (.aload_n 0, 1) := by decide +kernel
theorem dX12_beginPass_17 : decode cX12_beginPass 17 = .ok (.getfield 26, 3) := by decide +kernel
theorem dX12_beginPass_20 : decode cX12_beginPass 20 = .ok (.iconst 5, 1) := by decide +kernel
theorem dX12_beginPass_21 : decode cX12_beginPass 21 = .ok (.iaload, 1) := by decide +kernel
theorem dX12_beginPass_22 : decode cX12_beginPass 22 = .ok (.istore_n 3, 1) := by decide +kernel
theorem dX12_beginPass_23 : decode cX12_beginPass 23 = .ok (.aload_n 0, 1) := by decide +kernel
theorem dX12_beginPass_24 : decode cX12_beginPass 24 = .ok (.iload_n 1, 1) := by decide +kernel
theorem dX12_beginPass_25 : decode cX12_beginPass 25 = .ok (.bipush 8, 2) := by decide +kernel
theorem dX12_beginPass_27 : decode cX12_beginPass 27 = .ok (.invokestatic 43, 3) := by decide +kernel
theorem dX12_beginPass_30 : decode cX12_beginPass 30 = .ok (.iload_n 1, 1) := by decide +kernel
theorem dX12_beginPass_31 : decode cX12_beginPass 31 = .ok (.ifCond .ne 15, 3) := by decide +kernel
theorem dX12_beginPass_34 : decode cX12_beginPass 34 = .ok (.iload_n 3, 1) := by decide +kernel
theorem dX12_beginPass_35 : decode cX12_beginPass 35 = .ok (.ifCond .le 11, 3) := by decide +kernel
theorem dX12_beginPass_38 : decode cX12_beginPass 38 = .ok (.iload_n 3, 1) := by decide +kernel
theorem dX12_beginPass_39 : decode cX12_beginPass 39 = .ok (.iload_n 2, 1) := by decide +kernel
theorem dX12_beginPass_40 : decode cX12_beginPass 40 = .ok (.invokestatic 159, 3) := by decide +kernel
theorem dX12_beginPass_43 : decode cX12_beginPass 43 = .ok (.goto 4, 3) := by decide +kernel
theorem dX12_beginPass_46 : decode cX12_beginPass 46 = .ok (.iload_n 2, 1) := by decide +kernel
theorem dX12_beginPass_47 : decode cX12_beginPass 47 = .ok (.invokevirtual 39, 3) := by decide +kernel
theorem dX12_beginPass_50 : decode cX12_beginPass 50 = .ok (.return_, 1) := by decide +kernel
theorem dX12_startSequence_0 : decode cX12_startSequence 0 = .ok (.aload_n 0, 1) := by decide +kernel
theorem dX12_startSequence_1 : decode cX12_startSequence 1 = .ok (.iload_n 1, 1) := by decide +kernel
theorem dX12_startSequence_2 : decode cX12_startSequence 2 = .ok (.iconst 0, 1) := by decide +kernel
theorem dX12_startSequence_3 : decode cX12_startSequence 3 = .ok (.invokestatic 43, 3) := by decide +kernel
theorem dX12_startSequence_6 : decode cX12_startSequence 6 = .ok (.iconst 1, 1) := by decide +kernel
theorem dX12_startSequence_7 : decode cX12_startSequence 7 = .ok (.invokevirtual 39, 3) := by decide +kernel
theorem dX12_startSequence_10 : decode cX12_startSequence 10 = .ok (.aload_n 0, 1) := by decide +kernel
theorem dX12_startSequence_11 : decode cX12_startSequence 11 = .ok (.iload_n 1, 1) := by decide +kernel
theorem dX12_startSequence_12 : decode cX12_startSequence 12 = .ok (.iconst 2, 1) := by decide +kernel
theorem dX12_startSequence_13 : decode cX12_startSequence 13 = .ok (.invokestatic 43, 3) := by decide +kernel
theorem dX12_startSequence_16 : decode cX12_startSequence 16 = .ok (.iload_n 2, 1) := by decide +kernel
theorem dX12_startSequence_17 : decode cX12_startSequence 17 = .ok (.invokevirtual 39, 3) := by decide +kernel
theorem dX12_startSequence_20 : decode cX12_startSequence 20 = .ok (.aload_n 0, 1) := by decide +kernel
theorem dX12_startSequence_21 : decode cX12_startSequence 21 = .ok (.iload_n 1, 1) := by decide +kernel
theorem dX12_startSequence_22 : decode cX12_startSequence 22 = .ok (.iconst 3, 1) := by decide +kernel
theorem dX12_startSequence_23 : decode cX12_startSequence 23 = .ok (.invokestatic 43, 3) := by decide +kernel
theorem dX12_startSequence_26 : decode cX12_startSequence 26 = .ok (.aload_n 0, 1) := by decide +kernel
theorem dX12_startSequence_27 : decode cX12_startSequence 27 = .ok (.iconst 0, 1) := by decide +kernel
theorem dX12_startSequence_28 : decode cX12_startSequence 28 = .ok (.invokevirtual 155, 3) := by decide +kernel
theorem dX12_startSequence_31 : decode cX12_startSequence 31 = .ok (.invokevirtual 39, 3) := by decide +kernel
theorem dX12_startSequence_34 : decode cX12_startSequence 34 = .ok (.aload_n 0, 1) := by decide +kernel
theorem dX12_startSequence_35 : decode cX12_startSequence 35 = .ok (.iload_n 1, 1) := by decide +kernel
theorem dX12_startSequence_36 : decode cX12_startSequence 36 = .ok (.invokevirtual 168, 3) := by decide +kernel
theorem dX12_startSequence_39 : decode cX12_startSequence 39 = .ok (.iload_n 1, 1) := by decide +kernel
theorem dX12_startSequence_40 : decode cX12_startSequence 40 = .ok (.ifCond .eq 12, 3) := by decide +kernel
theorem dX12_startSequence_43 : decode cX12_startSequence 43 = .ok (.aload_n 0, 1) := by decide +kernel
theorem dX12_startSequence_44 : decode cX12_startSequence 44 = .ok (.iconst 1, 1) := by decide +kernel
theorem dX12_startSequence_45 : decode cX12_startSequence 45 = .ok (.invokevirtual 155, 3) := by decide +kernel
theorem dX12_startSequence_48 : decode cX12_startSequence 48 = .ok (.iconst 1, 1) := by decide +kernel
theorem dX12_startSequence_49 : decode cX12_startSequence 49 = .ok (.if_icmp .eq 4, 3) := by decide +kernel
theorem dX12_startSequence_52 : decode cX12_startSequence 52 = .ok (.return_, 1) := by decide +kernel
theorem dX12_startSequence_53 : decode cX12_startSequence 53 = .ok (.aload_n 0, 1) := by decide +kernel
theorem dX12_startSequence_54 : decode cX12_startSequence 54 = .ok (.invokevirtual 171, 3) := by decide +kernel
theorem dX12_startSequence_57 : decode cX12_startSequence 57 = .ok (.aload_n 0, 1) := by decide +kernel
theorem dX12_startSequence_58 : decode cX12_startSequence 58 = .ok (.getfield 26, 3) := by decide +kernel
theorem dX12_startSequence_61 : decode cX12_startSequence 61 = .ok (.iconst 4, 1) := by decide +kernel
theorem dX12_startSequence_62 : decode cX12_startSequence 62 = .ok (.iaload, 1) := by decide +kernel
theorem dX12_startSequence_63 : decode cX12_startSequence 63 = .ok (.ifCond .ne 8, 3) := by decide +kernel
theorem dX12_startSequence_66 : decode cX12_startSequence 66 = .ok (.aload_n 0, 1) := by decide +kernel
theorem dX12_startSequence_67 : decode cX12_startSequence 67 = .ok (.iconst 0, 1) := by decide +kernel
theorem dX12_startSequence_68 : decode cX12_startSequence 68 = .ok (.invokevirtual 174, 3) := by decide +kernel
theorem dX12_startSequence_71 : decode cX12_startSequence 71 = .ok (.return_, 1) := by decide +kernel
theorem dX12_fires_0 : decode cX12_fires 0 = .ok (.aload_n 0, 1) := by decide +kernel
theorem dX12_fires_1 : decode cX12_fires 1 = .ok (.iload_n 1, 1) := by decide +kernel
theorem dX12_fires_2 : decode cX12_fires 2 = .ok (.iconst 0, 1) := by decide +kernel
theorem dX12_fires_3 : decode cX12_fires 3 = .ok (.invokestatic 177, 3) := by decide +kernel
theorem dX12_fires_6 : decode cX12_fires 6 = .ok (.iconst 1, 1) := by decide +kernel
theorem dX12_fires_7 : decode cX12_fires 7 = .ok (.invokevirtual 162, 3) := by decide +kernel
theorem dX12_fires_10 : decode cX12_fires 10 = .ok (.aload_n 0, 1) := by decide +kernel
theorem dX12_fires_11 : decode cX12_fires 11 = .ok (.getfield 26, 3) := by decide +kernel
theorem dX12_fires_14 : decode cX12_fires 14 = .ok (.bipush 30, 2) := by decide +kernel
theorem dX12_fires_16 : decode cX12_fires 16 = .ok (.iload_n 1, 1) := by decide +kernel
theorem dX12_fires_17 : decode cX12_fires 17 = .ok (.iadd, 1) := by decide +kernel
theorem dX12_fires_18 : decode cX12_fires 18 = .ok (.iaload, 1) := by decide +kernel
theorem dX12_fires_19 : decode cX12_fires 19 = .ok (.iconst 1, 1) := by decide +kernel
theorem dX12_fires_20 : decode cX12_fires 20 = .ok (.isub, 1) := by decide +kernel
theorem dX12_fires_21 : decode cX12_fires 21 = .ok (.istore_n 2, 1) := by decide +kernel
theorem dX12_fires_22 : decode cX12_fires 22 = .ok (.iload_n 2, 1) := by decide +kernel
theorem dX12_fires_23 : decode cX12_fires 23 = .ok (.ifCond .lt 24, 3) := by decide +kernel
theorem dX12_fires_26 : decode cX12_fires 26 = .ok (.aload_n 0, 1) := by decide +kernel
theorem dX12_fires_27 : decode cX12_fires 27 = .ok (.iload_n 2, 1) := by decide +kernel
theorem dX12_fires_28 : decode cX12_fires 28 = .ok (.invokevirtual 165, 3) := by decide +kernel
theorem dX12_fires_31 : decode cX12_fires 31 = .ok (.ifCond .eq 16, 3) := by decide +kernel
theorem dX12_fires_34 : decode cX12_fires 34 = .ok (.aload_n 0, 1) := by decide +kernel
theorem dX12_fires_35 : decode cX12_fires 35 = .ok (.iload_n 2, 1) := by decide +kernel
theorem dX12_fires_36 : decode cX12_fires 36 = .ok (.iconst 0, 1) := by decide +kernel
theorem dX12_fires_37 : decode cX12_fires 37 = .ok (.invokestatic 43, 3) := by decide +kernel
theorem dX12_fires_40 : decode cX12_fires 40 = .ok (.invokevirtual 155, 3) := by decide +kernel
theorem dX12_fires_43 : decode cX12_fires 43 = .ok (.iconst 1, 1) := by decide +kernel
theorem dX12_fires_44 : decode cX12_fires 44 = .ok (.if_icmp .ne 15, 3) := by decide +kernel
theorem dX12_fires_47 : decode cX12_fires 47 = .ok (.aload_n 0, 1) := by decide +kernel
theorem dX12_fires_48 : decode cX12_fires 48 = .ok (.iload_n 1, 1) := by decide +kernel
theorem dX12_fires_49 : decode cX12_fires 49 = .ok (.iconst 1, 1) := by decide +kernel
theorem dX12_fires_50 : decode cX12_fires 50 = .ok (.invokestatic 177, 3) := by decide +kernel
theorem dX12_fires_53 : decode cX12_fires 53 = .ok (.iconst 1, 1) := by decide +kernel
theorem dX12_fires_54 : decode cX12_fires 54 = .ok (.invokevirtual 162, 3) := by decide +kernel
theorem dX12_fires_57 : decode cX12_fires 57 = .ok (.iconst 0, 1) := by decide +kernel
theorem dX12_fires_58 : decode cX12_fires 58 = .ok (.ireturn, 1) := by decide +kernel
theorem dX12_fires_59 : decode cX12_fires 59 = .ok (.aload_n 0, 1) := by decide +kernel
theorem dX12_fires_60 : decode cX12_fires 60 = .ok (.iload_n 2, 1) := by decide +kernel
theorem dX12_fires_61 : decode cX12_fires 61 = .ok (.iload_n 1, 1) := by decide +kernel
theorem dX12_fires_62 : decode cX12_fires 62 = .ok (.invokevirtual 180, 3) := by decide +kernel
theorem dX12_fires_65 : decode cX12_fires 65 = .ok (.iconst 1, 1) := by decide +kernel
theorem dX12_fires_66 : decode cX12_fires 66 = .ok (.ireturn, 1) := by decide +kernel
theorem dX12_fireTimers_0 : decode cX12_fireTimers 0 = .ok (.iconst 0, 1) := by decide +kernel
theorem dX12_fireTimers_1 : decode cX12_fireTimers 1 = .ok (.istore_n 1, 1) := by decide +kernel
theorem dX12_fireTimers_2 : decode cX12_fireTimers 2 = .ok (.iload_n 1, 1) := by decide +kernel
theorem dX12_fireTimers_3 : decode cX12_fireTimers 3 = .ok (.iconst 4, 1) := by decide +kernel
theorem dX12_fireTimers_4 : decode cX12_fireTimers 4 = .ok (.if_icmp .ge 55, 3) := by decide +kernel
theorem dX12_fireTimers_7 : decode cX12_fireTimers 7 = .ok (.aload_n 0, 1) := by decide +kernel
theorem dX12_fireTimers_8 : decode cX12_fireTimers 8 = .ok (.getfield 26, 3) := by decide +kernel
theorem dX12_fireTimers_11 : decode cX12_fireTimers 11 = .ok (.bipush 34, 2) := by decide +kernel
theorem dX12_fireTimers_13 : decode cX12_fireTimers 13 = .ok (.iload_n 1, 1) := by decide +kernel
theorem dX12_fireTimers_14 : decode cX12_fireTimers 14 = .ok (.iadd, 1) := by decide +kernel
theorem dX12_fireTimers_15 : decode cX12_fireTimers 15 = .ok (.iaload, 1) := by decide +kernel
theorem dX12_fireTimers_16 : decode cX12_fireTimers 16 = .ok (.istore_n 2, 1) := by decide +kernel
theorem dX12_fireTimers_17 : decode cX12_fireTimers 17 = .ok (.aload_n 0, 1) := by decide +kernel
theorem dX12_fireTimers_18 : decode cX12_fireTimers 18 = .ok (.iconst 0, 1) := by decide +kernel
theorem dX12_fireTimers_19 : decode cX12_fireTimers 19 = .ok (.invokevirtual 155, 3) := by decide +kernel
theorem dX12_fireTimers_22 : decode cX12_fireTimers 22 = .ok (.aload_n 0, 1) := by decide +kernel
theorem dX12_fireTimers_23 : decode cX12_fireTimers 23 = .ok (.getfield 26, 3) := by decide +kernel
theorem dX12_fireTimers_26 : decode cX12_fireTimers 26 = .ok (.bipush 38, 2) := by decide +kernel
theorem dX12_fireTimers_28 : decode cX12_fireTimers 28 = .ok (.iload_n 1, 1) := by decide +kernel
theorem dX12_fireTimers_29 : decode cX12_fireTimers 29 = .ok (.iadd, 1) := by decide +kernel
theorem dX12_fireTimers_30 : decode cX12_fireTimers 30 = .ok (.iaload, 1) := by decide +kernel
theorem dX12_fireTimers_31 : decode cX12_fireTimers 31 = .ok (.isub, 1) := by decide +kernel
theorem dX12_fireTimers_32 : decode cX12_fireTimers 32 = .ok (.istore_n 3, 1) := by decide +kernel
theorem dX12_fireTimers_33 : decode cX12_fireTimers 33 = .ok (.iload_n 2, 1) := by decide +kernel
theorem dX12_fireTimers_34 : decode cX12_fireTimers 34 = .ok (.ifCond .le 19, 3) := by decide +kernel
theorem dX12_fireTimers_37 : decode cX12_fireTimers 37 = .ok (.iload_n 3, 1) := by decide +kernel
theorem dX12_fireTimers_38 : decode cX12_fireTimers 38 = .ok (.ifCond .lt 15, 3) := by decide +kernel
theorem dX12_fireTimers_41 : decode cX12_fireTimers 41 = .ok (.iload_n 3, 1) := by decide +kernel
theorem dX12_fireTimers_42 : decode cX12_fireTimers 42 = .ok (.iload_n 2, 1) := by decide +kernel
theorem dX12_fireTimers_43 : decode cX12_fireTimers 43 = .ok (.irem, 1) := by decide +kernel
theorem dX12_fireTimers_44 : decode cX12_fireTimers 44 = .ok (.ifCond .ne 9, 3) := by decide +kernel
theorem dX12_fireTimers_47 : decode cX12_fireTimers 47 = .ok (.aload_n 0, 1) := by decide +kernel
theorem dX12_fireTimers_48 : decode cX12_fireTimers 48 = .ok (.iload_n 1, 1) := by decide +kernel
theorem dX12_fireTimers_49 : decode cX12_fireTimers 49 = .ok (.invokevirtual 183, 3) := by decide +kernel
theorem dX12_fireTimers_52 : decode cX12_fireTimers 52 = .ok (.pop, 1) := by decide +kernel
theorem dX12_fireTimers_53 : decode cX12_fireTimers 53 = .ok (.iinc 1 1, 3) := by decide +kernel
theorem dX12_fireTimers_56 : decode cX12_fireTimers 56 = .ok (.goto (-54), 3) := by decide +kernel
theorem dX12_fireTimers_59 : decode cX12_fireTimers 59 = .ok (.return_, 1) := by decide +kernel
theorem dX12_lookAt_0 : decode cX12_lookAt 0 = .ok (.aload_n 0, 1) := by decide +kernel
theorem dX12_lookAt_1 : decode cX12_lookAt 1 = .ok (.getfield 26, 3) := by decide +kernel
theorem dX12_lookAt_4 : decode cX12_lookAt 4 = .ok (.bipush 48, 2) := by decide +kernel
theorem dX12_lookAt_6 : decode cX12_lookAt 6 = .ok (.iload_n 1, 1) := by decide +kernel
theorem dX12_lookAt_7 : decode cX12_lookAt 7 = .ok (.iadd, 1) := by decide +kernel
theorem dX12_lookAt_8 : decode cX12_lookAt 8 = .ok (.iaload, 1) := by decide +kernel
theorem dX12_lookAt_9 : decode cX12_lookAt 9 = .ok (.ifCond .eq 19, 3) := by decide +kernel
theorem dX12_lookAt_12 : decode cX12_lookAt 12 = .ok (.aload_n 0, 1) := by decide +kernel
theorem dX12_lookAt_13 : decode cX12_lookAt 13 = .ok (.getfield 26, 3) := by decide +kernel
theorem dX12_lookAt_16 : decode cX12_lookAt 16 = .ok (.bipush 45, 2) := by decide +kernel
theorem dX12_lookAt_18 : decode cX12_lookAt 18 = .ok (.iload_n 1, 1) := by decide +kernel
theorem dX12_lookAt_19 : decode cX12_lookAt 19 = .ok (.iadd, 1) := by decide +kernel
theorem dX12_lookAt_20 : decode cX12_lookAt 20 = .ok (.iaload, 1) := by decide +kernel
theorem dX12_lookAt_21 : decode cX12_lookAt 21 = .ok (.iload_n 2, 1) := by decide +kernel
theorem dX12_lookAt_22 : decode cX12_lookAt 22 = .ok (.ishr, 1) := by decide +kernel
theorem dX12_lookAt_23 : decode cX12_lookAt 23 = .ok (.iconst 1, 1) := by decide +kernel
theorem dX12_lookAt_24 : decode cX12_lookAt 24 = .ok (.iand, 1) := by decide +kernel
theorem dX12_lookAt_25 : decode cX12_lookAt 25 = .ok (.ifCond .ne 4, 3) := by decide +kernel
theorem dX12_lookAt_28 : decode cX12_lookAt 28 = .ok (.return_, 1) := by decide +kernel
theorem dX12_lookAt_29 : decode cX12_lookAt 29 = .ok (.iload 4, 2) := by decide +kernel
theorem dX12_lookAt_31 : decode cX12_lookAt 31 = .ok (.aload_n 0, 1) := by decide +kernel
theorem dX12_lookAt_32 : decode cX12_lookAt 32 = .ok (.iload_n 1, 1) := by decide +kernel
theorem dX12_lookAt_33 : decode cX12_lookAt 33 = .ok (.iconst 0, 1) := by decide +kernel
theorem dX12_lookAt_34 : decode cX12_lookAt 34 = .ok (.invokestatic 187, 3) := by decide +kernel
theorem dX12_lookAt_37 : decode cX12_lookAt 37 = .ok (.invokevirtual 155, 3) := by decide +kernel
theorem dX12_lookAt_40 : decode cX12_lookAt 40 = .ok (.if_icmp .lt 17, 3) := by decide +kernel
theorem dX12_lookAt_43 : decode cX12_lookAt 43 = .ok (.iload 4, 2) := by decide +kernel
theorem dX12_lookAt_45 : decode cX12_lookAt 45 = .ok (.aload_n 0, 1) := by decide +kernel
theorem dX12_lookAt_46 : decode cX12_lookAt 46 = .ok (.iload_n 1, 1) := by decide +kernel
theorem dX12_lookAt_47 : decode cX12_lookAt 47 = .ok (.iconst 1, 1) := by decide +kernel
theorem dX12_lookAt_48 : decode cX12_lookAt 48 = .ok (.invokestatic 187, 3) := by decide +kernel
theorem dX12_lookAt_51 : decode cX12_lookAt 51 = .ok (.invokevirtual 155, 3) := by decide +kernel
theorem dX12_lookAt_54 : decode cX12_lookAt 54 = .ok (.if_icmp .le 7, 3) := by decide +kernel
theorem dX12_lookAt_57 : decode cX12_lookAt 57 = .ok (.iconst 1, 1) := by decide +kernel
theorem dX12_lookAt_58 : decode cX12_lookAt 58 = .ok (.goto 4, 3) := by decide +kernel
theorem dX12_lookAt_61 : decode cX12_lookAt 61 = .ok (.iconst 0, 1) := by decide +kernel
theorem dX12_lookAt_62 : decode cX12_lookAt 62 = .ok (.istore 5, 2) := by decide +kernel
theorem dX12_lookAt_64 : decode cX12_lookAt 64 = .ok (.aload_n 0, 1) := by decide +kernel
theorem dX12_lookAt_65 : decode cX12_lookAt 65 = .ok (.iload_n 1, 1) := by decide +kernel
theorem dX12_lookAt_66 : decode cX12_lookAt 66 = .ok (.iconst 2, 1) := by decide +kernel
theorem dX12_lookAt_67 : decode cX12_lookAt 67 = .ok (.invokestatic 187, 3) := by decide +kernel
theorem dX12_lookAt_70 : decode cX12_lookAt 70 = .ok (.iload 5, 2) := by decide +kernel
theorem dX12_lookAt_72 : decode cX12_lookAt 72 = .ok (.ifCond .eq 17, 3) := by decide +kernel
theorem dX12_lookAt_75 : decode cX12_lookAt 75 = .ok (.aload_n 0, 1) := by decide +kernel
theorem dX12_lookAt_76 : decode cX12_lookAt 76 = .ok (.iload_n 1, 1) := by decide +kernel
theorem dX12_lookAt_77 : decode cX12_lookAt 77 = .ok (.iconst 2, 1) := by decide +kernel
theorem dX12_lookAt_78 : decode cX12_lookAt 78 = .ok (.invokestatic 187, 3) := by decide +kernel
theorem dX12_lookAt_81 : decode cX12_lookAt 81 = .ok (.invokevirtual 155, 3) := by decide +kernel
theorem dX12_lookAt_84 : decode cX12_lookAt 84 = .ok (.iconst 1, 1) := by decide +kernel
theorem dX12_lookAt_85 : decode cX12_lookAt 85 = .ok (.iadd, 1) := by decide +kernel
theorem dX12_lookAt_86 : decode cX12_lookAt 86 = .ok (.goto 4, 3) := by decide +kernel
theorem dX12_lookAt_89 : decode cX12_lookAt 89 = .ok (.iconst 0, 1) := by decide +kernel
theorem dX12_lookAt_90 : decode cX12_lookAt 90 = .ok (.invokevirtual 39, 3) := by decide +kernel
theorem dX12_lookAt_93 : decode cX12_lookAt 93 = .ok (.aload_n 0, 1) := by decide +kernel
theorem dX12_lookAt_94 : decode cX12_lookAt 94 = .ok (.iload_n 1, 1) := by decide +kernel
theorem dX12_lookAt_95 : decode cX12_lookAt 95 = .ok (.iconst 2, 1) := by decide +kernel
theorem dX12_lookAt_96 : decode cX12_lookAt 96 = .ok (.invokestatic 187, 3) := by decide +kernel
theorem dX12_lookAt_99 : decode cX12_lookAt 99 = .ok (.invokevirtual 155, 3) := by decide +kernel
theorem dX12_lookAt_102 : decode cX12_lookAt 102 = .ok (.aload_n 0, 1) := by decide +kernel
theorem dX12_lookAt_103 : decode cX12_lookAt 103 = .ok (.getfield 26, 3) := by decide +kernel
theorem dX12_lookAt_106 : decode cX12_lookAt 106 = .ok (.bipush 42, 2) := by decide +kernel
theorem dX12_lookAt_108 : decode cX12_lookAt 108 = .ok (.iload_n 1, 1) := by decide +kernel
theorem dX12_lookAt_109 : decode cX12_lookAt 109 = .ok (.iadd, 1) := by decide +kernel
theorem dX12_lookAt_110 : decode cX12_lookAt 110 = .ok (.iaload, 1) := by decide +kernel
theorem dX12_lookAt_111 : decode cX12_lookAt 111 = .ok (.if_icmp .lt 16, 3) := by decide +kernel
theorem dX12_lookAt_114 : decode cX12_lookAt 114 = .ok (.aload_n 0, 1) := by decide +kernel
theorem dX12_lookAt_115 : decode cX12_lookAt 115 = .ok (.iload_n 1, 1) := by decide +kernel
theorem dX12_lookAt_116 : decode cX12_lookAt 116 = .ok (.iconst 3, 1) := by decide +kernel
theorem dX12_lookAt_117 : decode cX12_lookAt 117 = .ok (.invokestatic 187, 3) := by decide +kernel
theorem dX12_lookAt_120 : decode cX12_lookAt 120 = .ok (.invokevirtual 155, 3) := by decide +kernel
theorem dX12_lookAt_123 : decode cX12_lookAt 123 = .ok (.iconst 1, 1) := by decide +kernel
theorem dX12_lookAt_124 : decode cX12_lookAt 124 = .ok (.if_icmp .ne 4, 3) := by decide +kernel
theorem dX12_lookAt_127 : decode cX12_lookAt 127 = .ok (.return_, 1) := by decide +kernel
theorem dX12_lookAt_128 : decode cX12_lookAt 128 = .ok (.aload_n 0, 1) := by decide +kernel
theorem dX12_lookAt_129 : decode cX12_lookAt 129 = .ok (.iload_n 1, 1) := by decide +kernel
theorem dX12_lookAt_130 : decode cX12_lookAt 130 = .ok (.iconst 3, 1) := by decide +kernel
theorem dX12_lookAt_131 : decode cX12_lookAt 131 = .ok (.invokestatic 187, 3) := by decide +kernel
theorem dX12_lookAt_134 : decode cX12_lookAt 134 = .ok (.iconst 1, 1) := by decide +kernel
theorem dX12_lookAt_135 : decode cX12_lookAt 135 = .ok (.invokevirtual 39, 3) := by decide +kernel
theorem dX12_lookAt_138 : decode cX12_lookAt 138 = .ok (.aload_n 0, 1) := by decide +kernel
theorem dX12_lookAt_139 : decode cX12_lookAt 139 = .ok (.iload_n 1, 1) := by decide +kernel
theorem dX12_lookAt_140 : decode cX12_lookAt 140 = .ok (.iconst 4, 1) := by decide +kernel
theorem dX12_lookAt_141 : decode cX12_lookAt 141 = .ok (.invokestatic 187, 3) := by decide +kernel
theorem dX12_lookAt_144 : decode cX12_lookAt 144 = .ok (.aload_n 0, 1) := by decide +kernel
theorem dX12_lookAt_145 : decode cX12_lookAt 145 = .ok (.iconst 0, 1) := by decide +kernel
theorem dX12_lookAt_146 : decode cX12_lookAt 146 = .ok (.invokevirtual 155, 3) := by decide +kernel
theorem dX12_lookAt_149 : decode cX12_lookAt 149 = .ok (.invokevirtual 39, 3) := by decide +kernel
theorem dX12_lookAt_152 : decode cX12_lookAt 152 = .ok (.aload_n 0, 1) := by decide +kernel
theorem dX12_lookAt_153 : decode cX12_lookAt 153 = .ok (.iload_n 1, 1) := by decide +kernel
theorem dX12_lookAt_154 : decode cX12_lookAt 154 = .ok (.iconst 5, 1) := by decide +kernel
theorem dX12_lookAt_155 : decode cX12_lookAt 155 = .ok (.invokestatic 187, 3) := by decide +kernel
theorem dX12_lookAt_158 : decode cX12_lookAt 158 = .ok (.iload_n 2, 1) := by decide +kernel
theorem dX12_lookAt_159 : decode cX12_lookAt 159 = .ok (.invokevirtual 39, 3) := by decide +kernel
theorem dX12_lookAt_162 : decode cX12_lookAt 162 = .ok (.aload_n 0, 1) := by decide +kernel
theorem dX12_lookAt_163 : decode cX12_lookAt 163 = .ok (.iload_n 1, 1) := by decide +kernel
theorem dX12_lookAt_164 : decode cX12_lookAt 164 = .ok (.bipush 6, 2) := by decide +kernel
theorem dX12_lookAt_166 : decode cX12_lookAt 166 = .ok (.invokestatic 187, 3) := by decide +kernel
theorem dX12_lookAt_169 : decode cX12_lookAt 169 = .ok (.iload_n 3, 1) := by decide +kernel
theorem dX12_lookAt_170 : decode cX12_lookAt 170 = .ok (.invokevirtual 39, 3) := by decide +kernel
theorem dX12_lookAt_173 : decode cX12_lookAt 173 = .ok (.return_, 1) := by decide +kernel
theorem dX12_putRow_0 : decode cX12_putRow 0 = .ok (.aload_n 0, 1) := by decide +kernel
theorem dX12_putRow_1 : decode cX12_putRow 1 = .ok (.iload_n 1, 1) := by decide +kernel
theorem dX12_putRow_2 : decode cX12_putRow 2 = .ok (.iload_n 2, 1) := by decide +kernel
theorem dX12_putRow_3 : decode cX12_putRow 3 = .ok (.invokevirtual 39, 3) := by decide +kernel
theorem dX12_putRow_6 : decode cX12_putRow 6 = .ok (.aload_n 0, 1) := by decide +kernel
theorem dX12_putRow_7 : decode cX12_putRow 7 = .ok (.iload_n 1, 1) := by decide +kernel
theorem dX12_putRow_8 : decode cX12_putRow 8 = .ok (.iconst 1, 1) := by decide +kernel
theorem dX12_putRow_9 : decode cX12_putRow 9 = .ok (.iadd, 1) := by decide +kernel
theorem dX12_putRow_10 : decode cX12_putRow 10 = .ok (.iload_n 3, 1) := by decide +kernel
theorem dX12_putRow_11 : decode cX12_putRow 11 = .ok (.invokevirtual 39, 3) := by decide +kernel
theorem dX12_putRow_14 : decode cX12_putRow 14 = .ok (.aload_n 0, 1) := by decide +kernel
theorem dX12_putRow_15 : decode cX12_putRow 15 = .ok (.iload_n 1, 1) := by decide +kernel
theorem dX12_putRow_16 : decode cX12_putRow 16 = .ok (.iconst 2, 1) := by decide +kernel
theorem dX12_putRow_17 : decode cX12_putRow 17 = .ok (.iadd, 1) := by decide +kernel
theorem dX12_putRow_18 : decode cX12_putRow 18 = .ok (.iload 4, 2) := by decide +kernel
theorem dX12_putRow_20 : decode cX12_putRow 20 = .ok (.invokevirtual 39, 3) := by decide +kernel
theorem dX12_putRow_23 : decode cX12_putRow 23 = .ok (.aload_n 0, 1) := by decide +kernel
theorem dX12_putRow_24 : decode cX12_putRow 24 = .ok (.iload_n 1, 1) := by decide +kernel
theorem dX12_putRow_25 : decode cX12_putRow 25 = .ok (.iconst 3, 1) := by decide +kernel
theorem dX12_putRow_26 : decode cX12_putRow 26 = .ok (.iadd, 1) := by decide +kernel
theorem dX12_putRow_27 : decode cX12_putRow 27 = .ok (.iload 5, 2) := by decide +kernel
theorem dX12_putRow_29 : decode cX12_putRow 29 = .ok (.invokevirtual 39, 3) := by decide +kernel
theorem dX12_putRow_32 : decode cX12_putRow 32 = .ok (.return_, 1) := by decide +kernel
theorem dX12_dropOldest_0 : decode cX12_dropOldest 0 = .ok (.iconst 0, 1) := by decide +kernel
theorem dX12_dropOldest_1 : decode cX12_dropOldest 1 = .ok (.istore_n 1, 1) := by decide +kernel
theorem dX12_dropOldest_2 : decode cX12_dropOldest 2 = .ok (.iload_n 1, 1) := by decide +kernel
theorem dX12_dropOldest_3 : decode cX12_dropOldest 3 = .ok (.iconst 4, 1) := by decide +kernel
theorem dX12_dropOldest_4 : decode cX12_dropOldest 4 = .ok (.aload_n 0, 1) := by decide +kernel
theorem dX12_dropOldest_5 : decode cX12_dropOldest 5 = .ok (.bipush 11, 2) := by decide +kernel
theorem dX12_dropOldest_7 : decode cX12_dropOldest 7 = .ok (.invokevirtual 155, 3) := by decide +kernel
theorem dX12_dropOldest_10 : decode cX12_dropOldest 10 = .ok (.imul, 1) := by decide +kernel
theorem dX12_dropOldest_11 : decode cX12_dropOldest 11 = .ok (.iconst 4, 1) := by decide +kernel
theorem dX12_dropOldest_12 : decode cX12_dropOldest 12 = .ok (.isub, 1) := by decide +kernel
theorem dX12_dropOldest_13 : decode cX12_dropOldest 13 = .ok (.if_icmp .ge 29, 3) := by decide +kernel
theorem dX12_dropOldest_16 : decode cX12_dropOldest 16 = .ok (.aload_n 0, 1) := by decide +kernel
theorem dX12_dropOldest_17 : decode cX12_dropOldest 17 = .ok (.sipush 152, 3) := by decide +kernel
theorem dX12_dropOldest_20 : decode cX12_dropOldest 20 = .ok (.iload_n 1, 1) := by decide +kernel
theorem dX12_dropOldest_21 : decode cX12_dropOldest 21 = .ok (.iadd, 1) := by decide +kernel
theorem dX12_dropOldest_22 : decode cX12_dropOldest 22 = .ok (.aload_n 0, 1) := by decide +kernel
theorem dX12_dropOldest_23 : decode cX12_dropOldest 23 = .ok (.sipush 152, 3) := by decide +kernel
theorem dX12_dropOldest_26 : decode cX12_dropOldest 26 = .ok (.iload_n 1, 1) := by decide +kernel
theorem dX12_dropOldest_27 : decode cX12_dropOldest 27 = .ok (.iadd, 1) := by decide +kernel
theorem dX12_dropOldest_28 : decode cX12_dropOldest 28 = .ok (.iconst 4, 1) := by decide +kernel
theorem dX12_dropOldest_29 : decode cX12_dropOldest 29 = .ok (.iadd, 1) := by decide +kernel
theorem dX12_dropOldest_30 : decode cX12_dropOldest 30 = .ok (.invokevirtual 155, 3) := by decide +kernel
theorem dX12_dropOldest_33 : decode cX12_dropOldest 33 = .ok (.invokevirtual 39, 3) := by decide +kernel
theorem dX12_dropOldest_36 : decode cX12_dropOldest 36 = .ok (.iinc 1 1, 3) := by decide +kernel
theorem dX12_dropOldest_39 : decode cX12_dropOldest 39 = .ok (.goto (-37), 3) := by decide +kernel
theorem dX12_dropOldest_42 : decode cX12_dropOldest 42 = .ok (.aload_n 0, 1) := by decide +kernel
theorem dX12_dropOldest_43 : decode cX12_dropOldest 43 = .ok (.bipush 11, 2) := by decide +kernel
theorem dX12_dropOldest_45 : decode cX12_dropOldest 45 = .ok (.iconst (-1), 1) := by decide +kernel
theorem dX12_dropOldest_46 : decode cX12_dropOldest 46 = .ok (.invokevirtual 162, 3) := by decide +kernel
theorem dX12_dropOldest_49 : decode cX12_dropOldest 49 = .ok (.return_, 1) := by decide +kernel
theorem dX12_enqueue_0 : decode cX12_enqueue 0 = .ok (.aload_n 0, 1) := by decide +kernel
theorem dX12_enqueue_1 : decode cX12_enqueue 1 = .ok (.bipush 11, 2) := by decide +kernel
theorem dX12_enqueue_3 : decode cX12_enqueue 3 = .ok (.invokevirtual 155, 3) := by decide +kernel
theorem dX12_enqueue_6 : decode cX12_enqueue 6 = .ok (.aload_n 0, 1) := by decide +kernel
theorem dX12_enqueue_7 : decode cX12_enqueue 7 = .ok (.getfield 26, 3) := by decide +kernel
theorem dX12_enqueue_10 : decode cX12_enqueue 10 = .ok (.bipush 8, 2) := by decide +kernel
theorem dX12_enqueue_12 : decode cX12_enqueue 12 = .ok (.iaload, 1) := by decide +kernel
theorem dX12_enqueue_13 : decode cX12_enqueue 13 = .ok (.if_icmp .ne 25, 3) := by decide +kernel
theorem dX12_enqueue_16 : decode cX12_enqueue 16 = .ok (.aload_n 0, 1) := by decide +kernel
theorem dX12_enqueue_17 : decode cX12_enqueue 17 = .ok (.bipush 8, 2) := by decide +kernel
theorem dX12_enqueue_19 : decode cX12_enqueue 19 = .ok (.iconst 1, 1) := by decide +kernel
theorem dX12_enqueue_20 : decode cX12_enqueue 20 = .ok (.invokevirtual 162, 3) := by decide +kernel
theorem dX12_enqueue_23 : decode cX12_enqueue 23 = .ok (.aload_n 0, 1) := by decide +kernel
theorem dX12_enqueue_24 : decode cX12_enqueue 24 = .ok (.getfield 26, 3) := by decide +kernel
theorem dX12_enqueue_27 : decode cX12_enqueue 27 = .ok (.bipush 9, 2) := by decide +kernel
theorem dX12_enqueue_29 : decode cX12_enqueue 29 = .ok (.iaload, 1) := by decide +kernel
theorem dX12_enqueue_30 : decode cX12_enqueue 30 = .ok (.ifCond .ne 4, 3) := by decide +kernel
theorem dX12_enqueue_33 : decode cX12_enqueue 33 = .ok (.return_, 1) := by decide +kernel
theorem dX12_enqueue_34 : decode cX12_enqueue 34 = .ok (.aload_n 0, 1) := by decide +kernel
theorem dX12_enqueue_35 : decode cX12_enqueue 35 = .ok (.invokevirtual 190, 3) := by decide +kernel
theorem dX12_enqueue_38 : decode cX12_enqueue 38 = .ok (.aload_n 0, 1) := by decide +kernel
theorem dX12_enqueue_39 : decode cX12_enqueue 39 = .ok (.sipush 152, 3) := by decide +kernel
theorem dX12_enqueue_42 : decode cX12_enqueue 42 = .ok (.iconst 4, 1) := by decide +kernel
theorem dX12_enqueue_43 : decode cX12_enqueue 43 = .ok (.aload_n 0, 1) := by decide +kernel
theorem dX12_enqueue_44 : decode cX12_enqueue 44 = .ok (.bipush 11, 2) := by decide +kernel
theorem dX12_enqueue_46 : decode cX12_enqueue 46 = .ok (.invokevirtual 155, 3) := by decide +kernel
theorem dX12_enqueue_49 : decode cX12_enqueue 49 = .ok (.imul, 1) := by decide +kernel
theorem dX12_enqueue_50 : decode cX12_enqueue 50 = .ok (.iadd, 1) := by decide +kernel
theorem dX12_enqueue_51 : decode cX12_enqueue 51 = .ok (.iload_n 1, 1) := by decide +kernel
theorem dX12_enqueue_52 : decode cX12_enqueue 52 = .ok (.iload_n 2, 1) := by decide +kernel
theorem dX12_enqueue_53 : decode cX12_enqueue 53 = .ok (.aload_n 0, 1) := by decide +kernel
theorem dX12_enqueue_54 : decode cX12_enqueue 54 = .ok (.iconst 0, 1) := by decide +kernel
theorem dX12_enqueue_55 : decode cX12_enqueue 55 = .ok (.invokevirtual 155, 3) := by decide +kernel
theorem dX12_enqueue_58 : decode cX12_enqueue 58 = .ok (.iload_n 3, 1) := by decide +kernel
theorem dX12_enqueue_59 : decode cX12_enqueue 59 = .ok (.invokevirtual 193, 3) := by decide +kernel
theorem dX12_enqueue_62 : decode cX12_enqueue 62 = .ok (.aload_n 0, 1) := by decide +kernel
theorem dX12_enqueue_63 : decode cX12_enqueue 63 = .ok (.bipush 11, 2) := by decide +kernel
theorem dX12_enqueue_65 : decode cX12_enqueue 65 = .ok (.iconst 1, 1) := by decide +kernel
theorem dX12_enqueue_66 : decode cX12_enqueue 66 = .ok (.invokevirtual 162, 3) := by decide +kernel
theorem dX12_enqueue_69 : decode cX12_enqueue 69 = .ok (.return_, 1) := by decide +kernel
theorem dX12_transfer_0 : decode cX12_transfer 0 = .ok (.aload_n 0, 1) := by decide +kernel
theorem dX12_transfer_1 : decode cX12_transfer 1 = .ok (.bipush 10, 2) := by decide +kernel
theorem dX12_transfer_3 : decode cX12_transfer 3 = .ok (.invokevirtual 155, 3) := by decide +kernel
theorem dX12_transfer_6 : decode cX12_transfer 6 = .ok (.istore_n 1, 1) := by decide +kernel
theorem dX12_transfer_7 : decode cX12_transfer 7 = .ok (.iload_n 1, 1) := by decide +kernel
theorem dX12_transfer_8 : decode cX12_transfer 8 = .ok (.ifCond .eq 24, 3) := by decide +kernel
theorem dX12_transfer_11 : decode cX12_transfer 11 = .ok (.aload_n 0, 1) := by decide +kernel
theorem dX12_transfer_12 : decode cX12_transfer 12 = .ok (.iconst 0, 1) := by decide +kernel
theorem dX12_transfer_13 : decode cX12_transfer 13 = .ok (.invokevirtual 155, 3) := by decide +kernel
theorem dX12_transfer_16 : decode cX12_transfer 16 = .ok (.iconst 1, 1) := by decide +kernel
theorem dX12_transfer_17 : decode cX12_transfer 17 = .ok (.iadd, 1) := by decide +kernel
theorem dX12_transfer_18 : decode cX12_transfer 18 = .ok (.iload_n 1, 1) := by decide +kernel
theorem dX12_transfer_19 : decode cX12_transfer 19 = .ok (.irem, 1) := by decide +kernel
theorem dX12_transfer_20 : decode cX12_transfer 20 = .ok (.ifCond .ne 12, 3) := by decide +kernel
theorem dX12_transfer_23 : decode cX12_transfer 23 = .ok (.aload_n 0, 1) := by decide +kernel
theorem dX12_transfer_24 : decode cX12_transfer 24 = .ok (.bipush 11, 2) := by decide +kernel
theorem dX12_transfer_26 : decode cX12_transfer 26 = .ok (.invokevirtual 155, 3) := by decide +kernel
theorem dX12_transfer_29 : decode cX12_transfer 29 = .ok (.ifCond .ne 4, 3) := by decide +kernel
theorem dX12_transfer_32 : decode cX12_transfer 32 = .ok (.return_, 1) := by decide +kernel
theorem dX12_transfer_33 : decode cX12_transfer 33 = .ok (.aload_n 0, 1) := by decide +kernel
theorem dX12_transfer_34 : decode cX12_transfer 34 = .ok (.bipush 12, 2) := by decide +kernel
theorem dX12_transfer_36 : decode cX12_transfer 36 = .ok (.invokevirtual 155, 3) := by decide +kernel
theorem dX12_transfer_39 : decode cX12_transfer 39 = .ok (.bipush 64, 2) := by decide +kernel
theorem dX12_transfer_41 : decode cX12_transfer 41 = .ok (.if_icmp .ne 45, 3) := by decide +kernel
theorem dX12_transfer_44 : decode cX12_transfer 44 = .ok (.iconst 0, 1) := by decide +kernel
theorem dX12_transfer_45 : decode cX12_transfer 45 = .ok (.istore_n 2, 1) := by decide +kernel
theorem dX12_transfer_46 : decode cX12_transfer 46 = .ok (.iload_n 2, 1) := by decide +kernel
theorem dX12_transfer_47 : decode cX12_transfer 47 = .ok (.sipush 252, 3) := by decide +kernel
theorem dX12_transfer_50 : decode cX12_transfer 50 = .ok (.if_icmp .ge 29, 3) := by decide +kernel
theorem dX12_transfer_53 : decode cX12_transfer 53 = .ok (.aload_n 0, 1) := by decide +kernel
theorem dX12_transfer_54 : decode cX12_transfer 54 = .ok (.sipush 216, 3) := by decide +kernel
theorem dX12_transfer_57 : decode cX12_transfer 57 = .ok (.iload_n 2, 1) := by decide +kernel
theorem dX12_transfer_58 : decode cX12_transfer 58 = .ok (.iadd, 1) := by decide +kernel
theorem dX12_transfer_59 : decode cX12_transfer 59 = .ok (.aload_n 0, 1) := by decide +kernel
theorem dX12_transfer_60 : decode cX12_transfer 60 = .ok (.sipush 216, 3) := by decide +kernel
theorem dX12_transfer_63 : decode cX12_transfer 63 = .ok (.iload_n 2, 1) := by decide +kernel
theorem dX12_transfer_64 : decode cX12_transfer 64 = .ok (.iadd, 1) := by decide +kernel
theorem dX12_transfer_65 : decode cX12_transfer 65 = .ok (.iconst 4, 1) := by decide +kernel
theorem dX12_transfer_66 : decode cX12_transfer 66 = .ok (.iadd, 1) := by decide +kernel
theorem dX12_transfer_67 : decode cX12_transfer 67 = .ok (.invokevirtual 155, 3) := by decide +kernel
theorem dX12_transfer_70 : decode cX12_transfer 70 = .ok (.invokevirtual 39, 3) := by decide +kernel
theorem dX12_transfer_73 : decode cX12_transfer 73 = .ok (.iinc 2 1, 3) := by decide +kernel
theorem dX12_transfer_76 : decode cX12_transfer 76 = .ok (.goto (-30), 3) := by decide +kernel
theorem dX12_transfer_79 : decode cX12_transfer 79 = .ok (.aload_n 0, 1) := by decide +kernel
theorem dX12_transfer_80 : decode cX12_transfer 80 = .ok (.bipush 12, 2) := by decide +kernel
theorem dX12_transfer_82 : decode cX12_transfer 82 = .ok (.iconst (-1), 1) := by decide +kernel
theorem dX12_transfer_83 : decode cX12_transfer 83 = .ok (.invokevirtual 162, 3) := by decide +kernel
theorem dX12_transfer_86 : decode cX12_transfer 86 = .ok (.iconst 0, 1) := by decide +kernel
theorem dX12_transfer_87 : decode cX12_transfer 87 = .ok (.istore_n 2, 1) := by decide +kernel
theorem dX12_transfer_88 : decode cX12_transfer 88 = .ok (.iload_n 2, 1) := by decide +kernel
theorem dX12_transfer_89 : decode cX12_transfer 89 = .ok (.iconst 4, 1) := by decide +kernel
theorem dX12_transfer_90 : decode cX12_transfer 90 = .ok (.if_icmp .ge 36, 3) := by decide +kernel
theorem dX12_transfer_93 : decode cX12_transfer 93 = .ok (.aload_n 0, 1) := by decide +kernel
theorem dX12_transfer_94 : decode cX12_transfer 94 = .ok (.sipush 216, 3) := by decide +kernel
theorem dX12_transfer_97 : decode cX12_transfer 97 = .ok (.iconst 4, 1) := by decide +kernel
theorem dX12_transfer_98 : decode cX12_transfer 98 = .ok (.aload_n 0, 1) := by decide +kernel
theorem dX12_transfer_99 : decode cX12_transfer 99 = .ok (.bipush 12, 2) := by decide +kernel
theorem dX12_transfer_101 : decode cX12_transfer 101 = .ok (.invokevirtual 155, 3) := by decide +kernel
theorem dX12_transfer_104 : decode cX12_transfer 104 = .ok (.imul, 1) := by decide +kernel
theorem dX12_transfer_105 : decode cX12_transfer 105 = .ok (.iadd, 1) := by decide +kernel
theorem dX12_transfer_106 : decode cX12_transfer 106 = .ok (.iload_n 2, 1) := by decide +kernel
theorem dX12_transfer_107 : decode cX12_transfer 107 = .ok (.iadd, 1) := by decide +kernel
theorem dX12_transfer_108 : decode cX12_transfer 108 = .ok (.aload_n 0, 1) := by decide +kernel
theorem dX12_transfer_109 : decode cX12_transfer 109 = .ok (.sipush 152, 3) := by decide +kernel
theorem dX12_transfer_112 : decode cX12_transfer 112 = .ok (.iload_n 2, 1) := by decide +kernel
theorem dX12_transfer_113 : decode cX12_transfer 113 = .ok (.iadd, 1) := by decide +kernel
theorem dX12_transfer_114 : decode cX12_transfer 114 = .ok (.invokevirtual 155, 3) := by decide +kernel
theorem dX12_transfer_117 : decode cX12_transfer 117 = .ok (.invokevirtual 39, 3) := by decide +kernel
theorem dX12_transfer_120 : decode cX12_transfer 120 = .ok (.iinc 2 1, 3) := by decide +kernel
theorem dX12_transfer_123 : decode cX12_transfer 123 = .ok (.goto (-35), 3) := by decide +kernel
theorem dX12_transfer_126 : decode cX12_transfer 126 = .ok (.aload_n 0, 1) := by decide +kernel
theorem dX12_transfer_127 : decode cX12_transfer 127 = .ok (.bipush 12, 2) := by decide +kernel
theorem dX12_transfer_129 : decode cX12_transfer 129 = .ok (.iconst 1, 1) := by decide +kernel
theorem dX12_transfer_130 : decode cX12_transfer 130 = .ok (.invokevirtual 162, 3) := by decide +kernel
theorem dX12_transfer_133 : decode cX12_transfer 133 = .ok (.aload_n 0, 1) := by decide +kernel
theorem dX12_transfer_134 : decode cX12_transfer 134 = .ok (.bipush 9, 2) := by decide +kernel
theorem dX12_transfer_136 : decode cX12_transfer 136 = .ok (.iconst 1, 1) := by decide +kernel
theorem dX12_transfer_137 : decode cX12_transfer 137 = .ok (.invokevirtual 162, 3) := by decide +kernel
theorem dX12_transfer_140 : decode cX12_transfer 140 = .ok (.aload_n 0, 1) := by decide +kernel
theorem dX12_transfer_141 : decode cX12_transfer 141 = .ok (.invokevirtual 190, 3) := by decide +kernel
theorem dX12_transfer_144 : decode cX12_transfer 144 = .ok (.return_, 1) := by decide +kernel
theorem dX12_countChannel_0 : decode cX12_countChannel 0 = .ok (.aload_n 0, 1) := by decide +kernel
theorem dX12_countChannel_1 : decode cX12_countChannel 1 = .ok (.iload_n 1, 1) := by decide +kernel
theorem dX12_countChannel_2 : decode cX12_countChannel 2 = .ok (.iconst 4, 1) := by decide +kernel
theorem dX12_countChannel_3 : decode cX12_countChannel 3 = .ok (.invokestatic 47, 3) := by decide +kernel
theorem dX12_countChannel_6 : decode cX12_countChannel 6 = .ok (.invokevirtual 155, 3) := by decide +kernel
theorem dX12_countChannel_9 : decode cX12_countChannel 9 = .ok (.ifCond .ne 7, 3) := by decide +kernel
theorem dX12_countChannel_12 : decode cX12_countChannel 12 = .ok (.iconst 1, 1) := by decide +kernel
theorem dX12_countChannel_13 : decode cX12_countChannel 13 = .ok (.goto 4, 3) := by decide +kernel
theorem dX12_countChannel_16 : decode cX12_countChannel 16 = .ok (.iconst 0, 1) := by decide +kernel
theorem dX12_countChannel_17 : decode cX12_countChannel 17 = .ok (.istore_n 3, 1) := by decide +kernel
theorem dX12_countChannel_18 : decode cX12_countChannel 18 = .ok (.aload_n 0, 1) := by decide +kernel
theorem dX12_countChannel_19 : decode cX12_countChannel 19 = .ok (.iload_n 1, 1) := by decide +kernel
theorem dX12_countChannel_20 : decode cX12_countChannel 20 = .ok (.iconst 4, 1) := by decide +kernel
theorem dX12_countChannel_21 : decode cX12_countChannel 21 = .ok (.invokestatic 47, 3) := by decide +kernel
theorem dX12_countChannel_24 : decode cX12_countChannel 24 = .ok (.iconst 1, 1) := by decide +kernel
theorem dX12_countChannel_25 : decode cX12_countChannel 25 = .ok (.invokevirtual 162, 3) := by decide +kernel
theorem dX12_countChannel_28 : decode cX12_countChannel 28 = .ok (.aload_n 0, 1) := by decide +kernel
theorem dX12_countChannel_29 : decode cX12_countChannel 29 = .ok (.getfield 35, 3) := by decide +kernel
theorem dX12_countChannel_32 : decode cX12_countChannel 32 = .ok (.bipush 10, 2) := by decide +kernel
theorem dX12_countChannel_34 : decode cX12_countChannel 34 = .ok (.aload_n 0, 1) := by decide +kernel
theorem dX12_countChannel_35 : decode cX12_countChannel 35 = .ok (.getfield 32, 3) := by decide +kernel
theorem dX12_countChannel_38 : decode cX12_countChannel 38 = .ok (.imul, 1) := by decide +kernel
theorem dX12_countChannel_39 : decode cX12_countChannel 39 = .ok (.iconst 2, 1) := by decide +kernel
theorem dX12_countChannel_40 : decode cX12_countChannel 40 = .ok (.iadd, 1) := by decide +kernel
theorem dX12_countChannel_41 : decode cX12_countChannel 41 = .ok (.iload_n 1, 1) := by decide +kernel
theorem dX12_countChannel_42 : decode cX12_countChannel 42 = .ok (.iadd, 1) := by decide +kernel
theorem dX12_countChannel_43 : decode cX12_countChannel 43 = .ok (.dup2, 1) := by decide +kernel
theorem dX12_countChannel_44 : decode cX12_countChannel 44 = .ok (.laload, 1) := by decide +kernel
theorem dX12_countChannel_45 : decode cX12_countChannel 45 = .ok (.iload_n 2, 1) := by decide +kernel
theorem dX12_countChannel_46 : decode cX12_countChannel 46 = .ok (.i2l, 1) := by decide +kernel
theorem dX12_countChannel_47 : decode cX12_countChannel 47 = .ok (.ladd, 1) := by decide +kernel
theorem dX12_countChannel_48 : decode cX12_countChannel 48 = .ok (.lastore, 1) := by decide +kernel
theorem dX12_countChannel_49 : decode cX12_countChannel 49 = .ok (.iload_n 3, 1) := by decide +kernel
theorem dX12_countChannel_50 : decode cX12_countChannel 50 = .ok (.ifCond .ne 16, 3) := by decide +kernel
theorem dX12_countChannel_53 : decode cX12_countChannel 53 = .ok (.iload_n 2, 1) := by decide +kernel
theorem dX12_countChannel_54 : decode cX12_countChannel 54 = .ok (.aload_n 0, 1) := by decide +kernel
theorem dX12_countChannel_55 : decode cX12_countChannel 55 = .ok (.iload_n 1, 1) := by decide +kernel
theorem dX12_countChannel_56 : decode cX12_countChannel 56 = .ok (.iconst 5, 1) := by decide +kernel
theorem dX12_countChannel_57 : decode cX12_countChannel 57 = .ok (.invokestatic 47, 3) := by decide +kernel
theorem dX12_countChannel_60 : decode cX12_countChannel 60 = .ok (.invokevirtual 155, 3) := by decide +kernel
theorem dX12_countChannel_63 : decode cX12_countChannel 63 = .ok (.if_icmp .ge 13, 3) := by decide +kernel
theorem dX12_countChannel_66 : decode cX12_countChannel 66 = .ok (.aload_n 0, 1) := by decide +kernel
theorem dX12_countChannel_67 : decode cX12_countChannel 67 = .ok (.iload_n 1, 1) := by decide +kernel
theorem dX12_countChannel_68 : decode cX12_countChannel 68 = .ok (.iconst 5, 1) := by decide +kernel
theorem dX12_countChannel_69 : decode cX12_countChannel 69 = .ok (.invokestatic 47, 3) := by decide +kernel
theorem dX12_countChannel_72 : decode cX12_countChannel 72 = .ok (.iload_n 2, 1) := by decide +kernel
theorem dX12_countChannel_73 : decode cX12_countChannel 73 = .ok (.invokevirtual 39, 3) := by decide +kernel
theorem dX12_countChannel_76 : decode cX12_countChannel 76 = .ok (.iload_n 3, 1) := by decide +kernel
theorem dX12_countChannel_77 : decode cX12_countChannel 77 = .ok (.ifCond .ne 17, 3) := by decide +kernel
theorem dX12_countChannel_80 : decode cX12_countChannel 80 = .ok (.iload_n 2, 1) := by decide +kernel
theorem dX12_countChannel_81 : decode cX12_countChannel 81 = .ok (.aload_n 0, 1) := by decide +kernel
theorem dX12_countChannel_82 : decode cX12_countChannel 82 = .ok (.iload_n 1, 1) := by decide +kernel
theorem dX12_countChannel_83 : decode cX12_countChannel 83 = .ok (.bipush 6, 2) := by decide +kernel
theorem dX12_countChannel_85 : decode cX12_countChannel 85 = .ok (.invokestatic 47, 3) := by decide +kernel
theorem dX12_countChannel_88 : decode cX12_countChannel 88 = .ok (.invokevirtual 155, 3) := by decide +kernel
theorem dX12_countChannel_91 : decode cX12_countChannel 91 = .ok (.if_icmp .le 14, 3) := by decide +kernel
theorem dX12_countChannel_94 : decode cX12_countChannel 94 = .ok (.aload_n 0, 1) := by decide +kernel
theorem dX12_countChannel_95 : decode cX12_countChannel 95 = .ok (.iload_n 1, 1) := by decide +kernel
theorem dX12_countChannel_96 : decode cX12_countChannel 96 = .ok (.bipush 6, 2) := by decide +kernel
theorem dX12_countChannel_98 : decode cX12_countChannel 98 = .ok (.invokestatic 47, 3) := by decide +kernel
theorem dX12_countChannel_101 : decode cX12_countChannel 101 = .ok (.iload_n 2, 1) := by decide +kernel
theorem dX12_countChannel_102 : decode cX12_countChannel 102 = .ok (.invokevirtual 39, 3) := by decide +kernel
theorem dX12_countChannel_105 : decode cX12_countChannel 105 = .ok (.return_, 1) := by decide +kernel
theorem dX12_idle_0 : decode cX12_idle 0 = .ok (.aload_n 0, 1) := by decide +kernel
theorem dX12_idle_1 : decode cX12_idle 1 = .ok (.iload_n 1, 1) := by decide +kernel
theorem dX12_idle_2 : decode cX12_idle 2 = .ok (.iconst 0, 1) := by decide +kernel
theorem dX12_idle_3 : decode cX12_idle 3 = .ok (.invokestatic 43, 3) := by decide +kernel
theorem dX12_idle_6 : decode cX12_idle 6 = .ok (.iconst 0, 1) := by decide +kernel
theorem dX12_idle_7 : decode cX12_idle 7 = .ok (.invokevirtual 39, 3) := by decide +kernel
theorem dX12_idle_10 : decode cX12_idle 10 = .ok (.aload_n 0, 1) := by decide +kernel
theorem dX12_idle_11 : decode cX12_idle 11 = .ok (.iload_n 1, 1) := by decide +kernel
theorem dX12_idle_12 : decode cX12_idle 12 = .ok (.iconst 2, 1) := by decide +kernel
theorem dX12_idle_13 : decode cX12_idle 13 = .ok (.invokestatic 43, 3) := by decide +kernel
theorem dX12_idle_16 : decode cX12_idle 16 = .ok (.iconst (-1), 1) := by decide +kernel
theorem dX12_idle_17 : decode cX12_idle 17 = .ok (.invokevirtual 39, 3) := by decide +kernel
theorem dX12_idle_20 : decode cX12_idle 20 = .ok (.aload_n 0, 1) := by decide +kernel
theorem dX12_idle_21 : decode cX12_idle 21 = .ok (.iload_n 1, 1) := by decide +kernel
theorem dX12_idle_22 : decode cX12_idle 22 = .ok (.iconst 3, 1) := by decide +kernel
theorem dX12_idle_23 : decode cX12_idle 23 = .ok (.invokestatic 43, 3) := by decide +kernel
theorem dX12_idle_26 : decode cX12_idle 26 = .ok (.iconst (-1), 1) := by decide +kernel
theorem dX12_idle_27 : decode cX12_idle 27 = .ok (.invokevirtual 39, 3) := by decide +kernel
theorem dX12_idle_30 : decode cX12_idle 30 = .ok (.return_, 1) := by decide +kernel
theorem dX12_endPass_0 : decode cX12_endPass 0 = .ok (.aload_n 0, 1) := by decide +kernel
theorem dX12_endPass_1 : decode cX12_endPass 1 = .ok (.iload_n 1, 1) := by decide +kernel
theorem dX12_endPass_2 : decode cX12_endPass 2 = .ok (.iconst 5, 1) := by decide +kernel
theorem dX12_endPass_3 : decode cX12_endPass 3 = .ok (.invokestatic 43, 3) := by decide +kernel
theorem dX12_endPass_6 : decode cX12_endPass 6 = .ok (.iconst 1, 1) := by decide +kernel
theorem dX12_endPass_7 : decode cX12_endPass 7 = .ok (.invokevirtual 162, 3) := by decide +kernel
theorem dX12_endPass_10 : decode cX12_endPass 10 = .ok (.iload_n 1, 1) := by decide +kernel
theorem dX12_endPass_11 : decode cX12_endPass 11 = .ok (.iconst 1, 1) := by decide +kernel
theorem dX12_endPass_12 : decode cX12_endPass 12 = .ok (.if_icmp .ne 19, 3) := by decide +kernel
theorem dX12_endPass_15 : decode cX12_endPass 15 = .ok (.aload_n 0, 1) := by decide +kernel
theorem dX12_endPass_16 : decode cX12_endPass 16 = .ok (.iconst 1, 1) := by decide +kernel
theorem dX12_endPass_17 : decode cX12_endPass 17 = .ok (.invokevirtual 197, 3) := by decide +kernel
theorem dX12_endPass_20 : decode cX12_endPass 20 = .ok (.aload_n 0, 1) := by decide +kernel
theorem dX12_endPass_21 : decode cX12_endPass 21 = .ok (.iconst 1, 1) := by decide +kernel
theorem dX12_endPass_22 : decode cX12_endPass 22 = .ok (.iconst 1, 1) := by decide +kernel
theorem dX12_endPass_23 : decode cX12_endPass 23 = .ok (.invokestatic 43, 3) := by decide +kernel
theorem dX12_endPass_26 : decode cX12_endPass 26 = .ok (.iconst 0, 1) := by decide +kernel
theorem dX12_endPass_27 : decode cX12_endPass 27 = .ok (.invokevirtual 39, 3) := by decide +kernel
theorem dX12_endPass_30 : decode cX12_endPass 30 = .ok (.return_, 1) := by decide +kernel
theorem dX12_endPass_31 : decode cX12_endPass 31 = .ok (.aload_n 0, 1) := by decide +kernel
theorem dX12_endPass_32 : decode cX12_endPass 32 = .ok (.iconst 0, 1) := by decide +kernel
theorem dX12_endPass_33 : decode cX12_endPass 33 = .ok (.iconst 1, 1) := by decide +kernel
theorem dX12_endPass_34 : decode cX12_endPass 34 = .ok (.invokestatic 43, 3) := by decide +kernel
theorem dX12_endPass_37 : decode cX12_endPass 37 = .ok (.invokevirtual 155, 3) := by decide +kernel
theorem dX12_endPass_40 : decode cX12_endPass 40 = .ok (.aload_n 0, 1) := by decide +kernel
theorem dX12_endPass_41 : decode cX12_endPass 41 = .ok (.iconst 0, 1) := by decide +kernel
theorem dX12_endPass_42 : decode cX12_endPass 42 = .ok (.invokevirtual 165, 3) := by decide +kernel
theorem dX12_endPass_45 : decode cX12_endPass 45 = .ok (.if_icmp .ne 13, 3) := by decide +kernel
theorem dX12_endPass_48 : decode cX12_endPass 48 = .ok (.aload_n 0, 1) := by decide +kernel
