theorem dX6_init_15 : decode cX6_init 15 = .ok (.aload_n 0, 1) := by decide +kernel
theorem dX6_init_16 : decode cX6_init 16 = .ok (.new 7, 3) := by decide +kernel
theorem dX6_init_19 : decode cX6_init 19 = .ok (.dup, 1) := by decide +kernel
theorem dX6_init_20 : decode cX6_init 20 = .ok (.invokespecial 9, 3) := by decide +kernel
theorem dX6_init_23 : decode cX6_init 23 = .ok (.putfield 16, 3) := by decide +kernel
theorem dX6_init_26 : decode cX6_init 26 = .ok (.aload_n 0, 1) := by decide +kernel
theorem dX6_init_27 : decode cX6_init 27 = .ok (.iconst 0, 1) := by decide +kernel
theorem dX6_init_28 : decode cX6_init 28 = .ok (.putfield 19, 3) := by decide +kernel
theorem dX6_init_31 : decode cX6_init 31 = .ok (.aload_n 0, 1) := by decide +kernel
theorem dX6_init_32 : decode cX6_init 32 = .ok (.new 23, 3) := by decide +kernel
theorem dX6_init_35 : decode cX6_init 35 = .ok (.dup, 1) := by decide +kernel
theorem dX6_init_36 : decode cX6_init 36 = .ok (.invokespecial 25, 3) := by decide +kernel
theorem dX6_init_39 : decode cX6_init 39 = .ok (.putfield 26, 3) := by decide +kernel
theorem dX6_init_42 : decode cX6_init 42 = .ok (.aload_n 0, 1) := by decide +kernel
theorem dX6_init_43 : decode cX6_init 43 = .ok (.new 30, 3) := by decide +kernel
theorem dX6_init_46 : decode cX6_init 46 = .ok (.dup, 1) := by decide +kernel
theorem dX6_init_47 : decode cX6_init 47 = .ok (.invokespecial 32, 3) := by decide +kernel
theorem dX6_init_50 : decode cX6_init 50 = .ok (.putfield 33, 3) := by decide +kernel
theorem dX6_init_53 : decode cX6_init 53 = .ok (.aload_n 0, 1) := by decide +kernel
theorem dX6_init_54 : decode cX6_init 54 = .ok (.new 37, 3) := by decide +kernel
theorem dX6_init_57 : decode cX6_init 57 = .ok (.dup, 1) := by decide +kernel
theorem dX6_init_58 : decode cX6_init 58 = .ok (.invokespecial 39, 3) := by decide +kernel
theorem dX6_init_61 : decode cX6_init 61 = .ok (.putfield 40, 3) := by decide +kernel
theorem dX6_init_64 : decode cX6_init 64 = .ok (.aload_n 0, 1) := by decide +kernel
theorem dX6_init_65 : decode cX6_init 65 = .ok (.new 44, 3) := by decide +kernel
theorem dX6_init_68 : decode cX6_init 68 = .ok (.dup, 1) := by decide +kernel
theorem dX6_init_69 : decode cX6_init 69 = .ok (.invokespecial 46, 3) := by decide +kernel
theorem dX6_init_72 : decode cX6_init 72 = .ok (.putfield 47, 3) := by decide +kernel
theorem dX6_init_75 : decode cX6_init 75 = .ok (.return_, 1) := by decide +kernel
theorem dX6_event_0 : decode cX6_event 0 = .ok (.aload_n 0, 1) := by decide +kernel
theorem dX6_event_1 : decode cX6_event 1 = .ok (.iload_n 1, 1) := by decide +kernel
theorem dX6_event_2 : decode cX6_event 2 = .ok (.iload_n 2, 1) := by decide +kernel
theorem dX6_event_3 : decode cX6_event 3 = .ok (.iload_n 3, 1) := by decide +kernel
theorem dX6_event_4 : decode cX6_event 4 = .ok (.invokevirtual 51, 3) := by decide +kernel
theorem dX6_event_7 : decode cX6_event 7 = .ok (.istore 4, 2) := by decide +kernel
theorem dX6_event_9 : decode cX6_event 9 = .ok (.iload 4, 2) := by decide +kernel
theorem dX6_event_11 : decode cX6_event 11 = .ok (.ifCond .eq 6, 3) := by decide +kernel
theorem dX6_event_14 : decode cX6_event 14 = .ok (.iload 4, 2) := by decide +kernel
theorem dX6_event_16 : decode cX6_event 16 = .ok (.ireturn, 1) := by decide +kernel
theorem dX6_event_17 : decode cX6_event 17 = .ok (.aload_n 0, 1) := by decide +kernel
theorem dX6_event_18 : decode cX6_event 18 = .ok (.getfield 10, 3) := by decide +kernel
theorem dX6_event_21 : decode cX6_event 21 = .ok (.getfield 55, 3) := by decide +kernel
theorem dX6_event_24 : decode cX6_event 24 = .ok (.bipush 24, 2) := by decide +kernel
theorem dX6_event_26 : decode cX6_event 26 = .ok (.if_icmp .lt 6, 3) := by decide +kernel
theorem dX6_event_29 : decode cX6_event 29 = .ok (.bipush (-3), 2) := by decide +kernel
theorem dX6_event_31 : decode cX6_event 31 = .ok (.ireturn, 1) := by decide +kernel
theorem dX6_event_32 : decode cX6_event 32 = .ok (.aload_n 0, 1) := by decide +kernel
theorem dX6_event_33 : decode cX6_event 33 = .ok (.getfield 26, 3) := by decide +kernel
theorem dX6_event_36 : decode cX6_event 36 = .ok (.aload_n 0, 1) := by decide +kernel
theorem dX6_event_37 : decode cX6_event 37 = .ok (.getfield 10, 3) := by decide +kernel
theorem dX6_event_40 : decode cX6_event 40 = .ok (.invokevirtual 59, 3) := by decide +kernel
theorem dX6_event_43 : decode cX6_event 43 = .ok (.aload_n 0, 1) := by decide +kernel
theorem dX6_event_44 : decode cX6_event 44 = .ok (.getfield 10, 3) := by decide +kernel
theorem dX6_event_47 : decode cX6_event 47 = .ok (.iload_n 1, 1) := by decide +kernel
theorem dX6_event_48 : decode cX6_event 48 = .ok (.iload_n 2, 1) := by decide +kernel
theorem dX6_event_49 : decode cX6_event 49 = .ok (.iload_n 3, 1) := by decide +kernel
theorem dX6_event_50 : decode cX6_event 50 = .ok (.invokevirtual 63, 3) := by decide +kernel
theorem dX6_event_53 : decode cX6_event 53 = .ok (.ireturn, 1) := by decide +kernel
theorem dX6_forget_0 : decode cX6_forget 0 = .ok (.iload_n 1, 1) := by decide +kernel
theorem dX6_forget_1 : decode cX6_forget 1 = .ok (.iconst 0, 1) := by decide +kernel
theorem dX6_forget_2 : decode cX6_forget 2 = .ok (.sipush 9999, 3) := by decide +kernel
theorem dX6_forget_5 : decode cX6_forget 5 = .ok (.invokestatic 66, 3) := by decide +kernel
theorem dX6_forget_8 : decode cX6_forget 8 = .ok (.ifCond .ne 6, 3) := by decide +kernel
theorem dX6_forget_11 : decode cX6_forget 11 = .ok (.bipush (-2), 2) := by decide +kernel
theorem dX6_forget_13 : decode cX6_forget 13 = .ok (.ireturn, 1) := by decide +kernel
theorem dX6_forget_14 : decode cX6_forget 14 = .ok (.aload_n 0, 1) := by decide +kernel
theorem dX6_forget_15 : decode cX6_forget 15 = .ok (.getfield 10, 3) := by decide +kernel
theorem dX6_forget_18 : decode cX6_forget 18 = .ok (.iload_n 1, 1) := by decide +kernel
theorem dX6_forget_19 : decode cX6_forget 19 = .ok (.invokevirtual 70, 3) := by decide +kernel
theorem dX6_forget_22 : decode cX6_forget 22 = .ok (.istore_n 2, 1) := by decide +kernel
theorem dX6_forget_23 : decode cX6_forget 23 = .ok (.iload_n 2, 1) := by decide +kernel
theorem dX6_forget_24 : decode cX6_forget 24 = .ok (.ifCond .ne 6, 3) := by decide +kernel
theorem dX6_forget_27 : decode cX6_forget 27 = .ok (.bipush (-5), 2) := by decide +kernel
theorem dX6_forget_29 : decode cX6_forget 29 = .ok (.ireturn, 1) := by decide +kernel
theorem dX6_forget_30 : decode cX6_forget 30 = .ok (.aload_n 0, 1) := by decide +kernel
theorem dX6_forget_31 : decode cX6_forget 31 = .ok (.getfield 26, 3) := by decide +kernel
theorem dX6_forget_34 : decode cX6_forget 34 = .ok (.aload_n 0, 1) := by decide +kernel
theorem dX6_forget_35 : decode cX6_forget 35 = .ok (.getfield 10, 3) := by decide +kernel
theorem dX6_forget_38 : decode cX6_forget 38 = .ok (.invokevirtual 59, 3) := by decide +kernel
theorem dX6_forget_41 : decode cX6_forget 41 = .ok (.aload_n 0, 1) := by decide +kernel
theorem dX6_forget_42 : decode cX6_forget 42 = .ok (.getfield 10, 3) := by decide +kernel
theorem dX6_forget_45 : decode cX6_forget 45 = .ok (.iload_n 1, 1) := by decide +kernel
theorem dX6_forget_46 : decode cX6_forget 46 = .ok (.invokevirtual 74, 3) := by decide +kernel
theorem dX6_forget_49 : decode cX6_forget 49 = .ok (.iload_n 2, 1) := by decide +kernel
theorem dX6_forget_50 : decode cX6_forget 50 = .ok (.ireturn, 1) := by decide +kernel
theorem dX6_setLateness_0 : decode cX6_setLateness 0 = .ok (.iload_n 1, 1) := by decide +kernel
theorem dX6_setLateness_1 : decode cX6_setLateness 1 = .ok (.iconst 0, 1) := by decide +kernel
theorem dX6_setLateness_2 : decode cX6_setLateness 2 = .ok (.sipush 500, 3) := by decide +kernel
theorem dX6_setLateness_5 : decode cX6_setLateness 5 = .ok (.invokestatic 66, 3) := by decide +kernel
theorem dX6_setLateness_8 : decode cX6_setLateness 8 = .ok (.ifCond .ne 6, 3) := by decide +kernel
theorem dX6_setLateness_11 : decode cX6_setLateness 11 = .ok (.bipush (-2), 2) := by decide +kernel
theorem dX6_setLateness_13 : decode cX6_setLateness 13 = .ok (.ireturn, 1) := by decide +kernel
theorem dX6_setLateness_14 : decode cX6_setLateness 14 = .ok (.aload_n 0, 1) := by decide +kernel
theorem dX6_setLateness_15 : decode cX6_setLateness 15 = .ok (.getfield 10, 3) := by decide +kernel
theorem dX6_setLateness_18 : decode cX6_setLateness 18 = .ok (.getfield 78, 3) := by decide +kernel
theorem dX6_setLateness_21 : decode cX6_setLateness 21 = .ok (.istore_n 2, 1) := by decide +kernel
theorem dX6_setLateness_22 : decode cX6_setLateness 22 = .ok (.iload_n 2, 1) := by decide +kernel
theorem dX6_setLateness_23 : decode cX6_setLateness 23 = .ok (.iload_n 1, 1) := by decide +kernel
theorem dX6_setLateness_24 : decode cX6_setLateness 24 = .ok (.if_icmp .ne 6, 3) := by decide +kernel
theorem dX6_setLateness_27 : decode cX6_setLateness 27 = .ok (.bipush (-5), 2) := by decide +kernel
theorem dX6_setLateness_29 : decode cX6_setLateness 29 = .ok (.ireturn, 1) := by decide +kernel
theorem dX6_setLateness_30 : decode cX6_setLateness 30 = .ok (.aload_n 0, 1) := by decide +kernel
theorem dX6_setLateness_31 : decode cX6_setLateness 31 = .ok (.getfield 26, 3) := by decide +kernel
theorem dX6_setLateness_34 : decode cX6_setLateness 34 = .ok (.aload_n 0, 1) := by decide +kernel
theorem dX6_setLateness_35 : decode cX6_setLateness 35 = .ok (.getfield 10, 3) := by decide +kernel
theorem dX6_setLateness_38 : decode cX6_setLateness 38 = .ok (.invokevirtual 59, 3) := by decide +kernel
theorem dX6_setLateness_41 : decode cX6_setLateness 41 = .ok (.aload_n 0, 1) := by decide +kernel
theorem dX6_setLateness_42 : decode cX6_setLateness 42 = .ok (.getfield 10, 3) := by decide +kernel
theorem dX6_setLateness_45 : decode cX6_setLateness 45 = .ok (.iload_n 1, 1) := by decide +kernel
theorem dX6_setLateness_46 : decode cX6_setLateness 46 = .ok (.putfield 78, 3) := by decide +kernel
theorem dX6_setLateness_49 : decode cX6_setLateness 49 = .ok (.iload_n 2, 1) := by decide +kernel
theorem dX6_setLateness_50 : decode cX6_setLateness 50 = .ok (.ireturn, 1) := by decide +kernel
theorem dX6_addPattern_0 : decode cX6_addPattern 0 = .ok (.aload_n 0, 1) := by decide +kernel
theorem dX6_addPattern_1 : decode cX6_addPattern 1 = .ok (.getfield 33, 3) := by decide +kernel
theorem dX6_addPattern_4 : decode cX6_addPattern 4 = .ok (.aload_n 0, 1) := by decide +kernel
theorem dX6_addPattern_5 : decode cX6_addPattern 5 = .ok (.getfield 40, 3) := by decide +kernel
theorem dX6_addPattern_8 : decode cX6_addPattern 8 = .ok (.invokevirtual 81, 3) := by decide +kernel
theorem dX6_addPattern_11 : decode cX6_addPattern 11 = .ok (.istore_n 1, 1) := by decide +kernel
theorem dX6_addPattern_12 : decode cX6_addPattern 12 = .ok (.iload_n 1, 1) := by decide +kernel
theorem dX6_addPattern_13 : decode cX6_addPattern 13 = .ok (.iconst (-1), 1) := by decide +kernel
theorem dX6_addPattern_14 : decode cX6_addPattern 14 = .ok (.if_icmp .eq 8, 3) := by decide +kernel
theorem dX6_addPattern_17 : decode cX6_addPattern 17 = .ok (.bipush (-100), 2) := by decide +kernel
theorem dX6_addPattern_19 : decode cX6_addPattern 19 = .ok (.iload_n 1, 1) := by decide +kernel
theorem dX6_addPattern_20 : decode cX6_addPattern 20 = .ok (.isub, 1) := by decide +kernel
theorem dX6_addPattern_21 : decode cX6_addPattern 21 = .ok (.ireturn, 1) := by decide +kernel
theorem dX6_addPattern_22 : decode cX6_addPattern 22 = .ok (.aload_n 0, 1) := by decide +kernel
theorem dX6_addPattern_23 : decode cX6_addPattern 23 = .ok (.getfield 10, 3) := by decide +kernel
theorem dX6_addPattern_26 : decode cX6_addPattern 26 = .ok (.getfield 85, 3) := by decide +kernel
theorem dX6_addPattern_29 : decode cX6_addPattern 29 = .ok (.iconst 4, 1) := by decide +kernel
theorem dX6_addPattern_30 : decode cX6_addPattern 30 = .ok (.if_icmp .lt 6, 3) := by decide +kernel
theorem dX6_addPattern_33 : decode cX6_addPattern 33 = .ok (.bipush (-3), 2) := by decide +kernel
theorem dX6_addPattern_35 : decode cX6_addPattern 35 = .ok (.ireturn, 1) := by decide +kernel
theorem dX6_addPattern_36 : decode cX6_addPattern 36 = .ok (.aload_n 0, 1) := by decide +kernel
theorem dX6_addPattern_37 : decode cX6_addPattern 37 = .ok (.getfield 26, 3) := by decide +kernel
theorem dX6_addPattern_40 : decode cX6_addPattern 40 = .ok (.aload_n 0, 1) := by decide +kernel
theorem dX6_addPattern_41 : decode cX6_addPattern 41 = .ok (.getfield 10, 3) := by decide +kernel
theorem dX6_addPattern_44 : decode cX6_addPattern 44 = .ok (.invokevirtual 59, 3) := by decide +kernel
theorem dX6_addPattern_47 : decode cX6_addPattern 47 = .ok (.aload_n 0, 1) := by decide +kernel
theorem dX6_addPattern_48 : decode cX6_addPattern 48 = .ok (.getfield 10, 3) := by decide +kernel
theorem dX6_addPattern_51 : decode cX6_addPattern 51 = .ok (.aload_n 0, 1) := by decide +kernel
theorem dX6_addPattern_52 : decode cX6_addPattern 52 = .ok (.getfield 40, 3) := by decide +kernel
theorem dX6_addPattern_55 : decode cX6_addPattern 55 = .ok (.invokevirtual 88, 3) := by decide +kernel
theorem dX6_addPattern_58 : decode cX6_addPattern 58 = .ok (.ireturn, 1) := by decide +kernel
theorem dX6_dropPattern_0 : decode cX6_dropPattern 0 = .ok (.aload_n 0, 1) := by decide +kernel
theorem dX6_dropPattern_1 : decode cX6_dropPattern 1 = .ok (.iload_n 1, 1) := by decide +kernel
theorem dX6_dropPattern_2 : decode cX6_dropPattern 2 = .ok (.invokevirtual 91, 3) := by decide +kernel
theorem dX6_dropPattern_5 : decode cX6_dropPattern 5 = .ok (.ifCond .ne 5, 3) := by decide +kernel
theorem dX6_dropPattern_8 : decode cX6_dropPattern 8 = .ok (.iconst (-1), 1) := by decide +kernel
theorem dX6_dropPattern_9 : decode cX6_dropPattern 9 = .ok (.ireturn, 1) := by decide +kernel
theorem dX6_dropPattern_10 : decode cX6_dropPattern 10 = .ok (.aload_n 0, 1) := by decide +kernel
theorem dX6_dropPattern_11 : decode cX6_dropPattern 11 = .ok (.getfield 26, 3) := by decide +kernel
theorem dX6_dropPattern_14 : decode cX6_dropPattern 14 = .ok (.aload_n 0, 1) := by decide +kernel
theorem dX6_dropPattern_15 : decode cX6_dropPattern 15 = .ok (.getfield 10, 3) := by decide +kernel
theorem dX6_dropPattern_18 : decode cX6_dropPattern 18 = .ok (.invokevirtual 59, 3) := by decide +kernel
theorem dX6_dropPattern_21 : decode cX6_dropPattern 21 = .ok (.aload_n 0, 1) := by decide +kernel
theorem dX6_dropPattern_22 : decode cX6_dropPattern 22 = .ok (.getfield 10, 3) := by decide +kernel
theorem dX6_dropPattern_25 : decode cX6_dropPattern 25 = .ok (.iload_n 1, 1) := by decide +kernel
theorem dX6_dropPattern_26 : decode cX6_dropPattern 26 = .ok (.invokevirtual 95, 3) := by decide +kernel
theorem dX6_dropPattern_29 : decode cX6_dropPattern 29 = .ok (.ireturn, 1) := by decide +kernel
theorem dX6_setWindow_0 : decode cX6_setWindow 0 = .ok (.aload_n 0, 1) := by decide +kernel
theorem dX6_setWindow_1 : decode cX6_setWindow 1 = .ok (.iload_n 1, 1) := by decide +kernel
theorem dX6_setWindow_2 : decode cX6_setWindow 2 = .ok (.invokevirtual 91, 3) := by decide +kernel
theorem dX6_setWindow_5 : decode cX6_setWindow 5 = .ok (.ifCond .ne 5, 3) := by decide +kernel
theorem dX6_setWindow_8 : decode cX6_setWindow 8 = .ok (.iconst (-1), 1) := by decide +kernel
theorem dX6_setWindow_9 : decode cX6_setWindow 9 = .ok (.ireturn, 1) := by decide +kernel
theorem dX6_setWindow_10 : decode cX6_setWindow 10 = .ok (.iload_n 2, 1) := by decide +kernel
theorem dX6_setWindow_11 : decode cX6_setWindow 11 = .ok (.iconst 1, 1) := by decide +kernel
theorem dX6_setWindow_12 : decode cX6_setWindow 12 = .ok (.sipush 1000, 3) := by decide +kernel
theorem dX6_setWindow_15 : decode cX6_setWindow 15 = .ok (.invokestatic 66, 3) := by decide +kernel
theorem dX6_setWindow_18 : decode cX6_setWindow 18 = .ok (.ifCond .ne 6, 3) := by decide +kernel
theorem dX6_setWindow_21 : decode cX6_setWindow 21 = .ok (.bipush (-2), 2) := by decide +kernel
theorem dX6_setWindow_23 : decode cX6_setWindow 23 = .ok (.ireturn, 1) := by decide +kernel
theorem dX6_setWindow_24 : decode cX6_setWindow 24 = .ok (.aload_n 0, 1) := by decide +kernel
theorem dX6_setWindow_25 : decode cX6_setWindow 25 = .ok (.getfield 10, 3) := by decide +kernel
theorem dX6_setWindow_28 : decode cX6_setWindow 28 = .ok (.getfield 98, 3) := by decide +kernel
theorem dX6_setWindow_31 : decode cX6_setWindow 31 = .ok (.iload_n 1, 1) := by decide +kernel
theorem dX6_setWindow_32 : decode cX6_setWindow 32 = .ok (.aaload, 1) := by decide +kernel
theorem dX6_setWindow_33 : decode cX6_setWindow 33 = .ok (.getfield 102, 3) := by decide +kernel
theorem dX6_setWindow_36 : decode cX6_setWindow 36 = .ok (.istore_n 3, 1) := by decide +kernel
theorem dX6_setWindow_37 : decode cX6_setWindow 37 = .ok (.iload_n 3, 1) := by decide +kernel
theorem dX6_setWindow_38 : decode cX6_setWindow 38 = .ok (.iload_n 2, 1) := by decide +kernel
theorem dX6_setWindow_39 : decode cX6_setWindow 39 = .ok (.if_icmp .ne 6, 3) := by decide +kernel
theorem dX6_setWindow_42 : decode cX6_setWindow 42 = .ok (.bipush (-5), 2) := by decide +kernel
theorem dX6_setWindow_44 : decode cX6_setWindow 44 = .ok (.ireturn, 1) := by decide +kernel
theorem dX6_setWindow_45 : decode cX6_setWindow 45 = .ok (.aload_n 0, 1) := by decide +kernel
theorem dX6_setWindow_46 : decode cX6_setWindow 46 = .ok (.getfield 26, 3) := by decide +kernel
theorem dX6_setWindow_49 : decode cX6_setWindow 49 = .ok (.aload_n 0, 1) := by decide +kernel
theorem dX6_setWindow_50 : decode cX6_setWindow 50 = .ok (.getfield 10, 3) := by decide +kernel
theorem dX6_setWindow_53 : decode cX6_setWindow 53 = .ok (.invokevirtual 59, 3) := by decide +kernel
theorem dX6_setWindow_56 : decode cX6_setWindow 56 = .ok (.aload_n 0, 1) := by decide +kernel
theorem dX6_setWindow_57 : decode cX6_setWindow 57 = .ok (.getfield 10, 3) := by decide +kernel
theorem dX6_setWindow_60 : decode cX6_setWindow 60 = .ok (.getfield 98, 3) := by decide +kernel
theorem dX6_setWindow_63 : decode cX6_setWindow 63 = .ok (.iload_n 1, 1) := by decide +kernel
theorem dX6_setWindow_64 : decode cX6_setWindow 64 = .ok (.aaload, 1) := by decide +kernel
theorem dX6_setWindow_65 : decode cX6_setWindow 65 = .ok (.iload_n 2, 1) := by decide +kernel
theorem dX6_setWindow_66 : decode cX6_setWindow 66 = .ok (.putfield 102, 3) := by decide +kernel
theorem dX6_setWindow_69 : decode cX6_setWindow 69 = .ok (.iload_n 3, 1) := by decide +kernel
theorem dX6_setWindow_70 : decode cX6_setWindow 70 = .ok (.ireturn, 1) := by decide +kernel
theorem dX6_type_0 : decode cX6_type 0 = .ok (.aload_n 0, 1) := by decide +kernel
theorem dX6_type_1 : decode cX6_type 1 = .ok (.getfield 33, 3) := by decide +kernel
theorem dX6_type_4 : decode cX6_type 4 = .ok (.iload_n 1, 1) := by decide +kernel
theorem dX6_type_5 : decode cX6_type 5 = .ok (.invokevirtual 105, 3) := by decide +kernel
theorem dX6_type_8 : decode cX6_type 8 = .ok (.ireturn, 1) := by decide +kernel
theorem dX6_clearText_0 : decode cX6_clearText 0 = .ok (.aload_n 0, 1) := by decide +kernel
theorem dX6_clearText_1 : decode cX6_clearText 1 = .ok (.getfield 33, 3) := by decide +kernel
theorem dX6_clearText_4 : decode cX6_clearText 4 = .ok (.getfield 109, 3) := by decide +kernel
theorem dX6_clearText_7 : decode cX6_clearText 7 = .ok (.istore_n 1, 1) := by decide +kernel
theorem dX6_clearText_8 : decode cX6_clearText 8 = .ok (.aload_n 0, 1) := by decide +kernel
theorem dX6_clearText_9 : decode cX6_clearText 9 = .ok (.getfield 33, 3) := by decide +kernel
theorem dX6_clearText_12 : decode cX6_clearText 12 = .ok (.iconst 0, 1) := by decide +kernel
theorem dX6_clearText_13 : decode cX6_clearText 13 = .ok (.putfield 109, 3) := by decide +kernel
theorem dX6_clearText_16 : decode cX6_clearText 16 = .ok (.iload_n 1, 1) := by decide +kernel
theorem dX6_clearText_17 : decode cX6_clearText 17 = .ok (.ireturn, 1) := by decide +kernel
theorem dX6_undo_0 : decode cX6_undo 0 = .ok (.aload_n 0, 1) := by decide +kernel
theorem dX6_undo_1 : decode cX6_undo 1 = .ok (.getfield 26, 3) := by decide +kernel
theorem dX6_undo_4 : decode cX6_undo 4 = .ok (.getfield 112, 3) := by decide +kernel
theorem dX6_undo_7 : decode cX6_undo 7 = .ok (.ifCond .ne 6, 3) := by decide +kernel
theorem dX6_undo_10 : decode cX6_undo 10 = .ok (.bipush (-5), 2) := by decide +kernel
theorem dX6_undo_12 : decode cX6_undo 12 = .ok (.ireturn, 1) := by decide +kernel
theorem dX6_undo_13 : decode cX6_undo 13 = .ok (.aload_n 0, 1) := by decide +kernel
theorem dX6_undo_14 : decode cX6_undo 14 = .ok (.getfield 26, 3) := by decide +kernel
theorem dX6_undo_17 : decode cX6_undo 17 = .ok (.aload_n 0, 1) := by decide +kernel
theorem dX6_undo_18 : decode cX6_undo 18 = .ok (.getfield 10, 3) := by decide +kernel
theorem dX6_undo_21 : decode cX6_undo 21 = .ok (.invokevirtual 115, 3) := by decide +kernel
theorem dX6_undo_24 : decode cX6_undo 24 = .ok (.aload_n 0, 1) := by decide +kernel
theorem dX6_undo_25 : decode cX6_undo 25 = .ok (.getfield 26, 3) := by decide +kernel
theorem dX6_undo_28 : decode cX6_undo 28 = .ok (.getfield 112, 3) := by decide +kernel
theorem dX6_undo_31 : decode cX6_undo 31 = .ok (.ireturn, 1) := by decide +kernel
theorem dX6_eventOf_0 : decode cX6_eventOf 0 = .ok (.iload_n 1, 1) := by decide +kernel
theorem dX6_eventOf_1 : decode cX6_eventOf 1 = .ok (.ifCond .lt 14, 3) := by decide +kernel
theorem dX6_eventOf_4 : decode cX6_eventOf 4 = .ok (.iload_n 1, 1) := by decide +kernel
theorem dX6_eventOf_5 : decode cX6_eventOf 5 = .ok (.aload_n 0, 1) := by decide +kernel
theorem dX6_eventOf_6 : decode cX6_eventOf 6 = .ok (.getfield 10, 3) := by decide +kernel
theorem dX6_eventOf_9 : decode cX6_eventOf 9 = .ok (.getfield 55, 3) := by decide +kernel
theorem dX6_eventOf_12 : decode cX6_eventOf 12 = .ok (.if_icmp .lt 5, 3) := by decide +kernel
theorem dX6_eventOf_15 : decode cX6_eventOf 15 = .ok (.iconst (-1), 1) := by decide +kernel
theorem dX6_eventOf_16 : decode cX6_eventOf 16 = .ok (.ireturn, 1) := by decide +kernel
theorem dX6_eventOf_17 : decode cX6_eventOf 17 = .ok (.iload_n 2, 1) := by decide +kernel
theorem dX6_eventOf_18 : decode cX6_eventOf 18 = .ok (.tableswitch 119 0 4 #[34, 44, 54, 64, 87], 34) := by decide +kernel
theorem dX6_eventOf_52 : decode cX6_eventOf 52 = .ok (.aload_n 0, 1) := by decide +kernel
theorem dX6_eventOf_53 : decode cX6_eventOf 53 = .ok (.getfield 10, 3) := by decide +kernel
theorem dX6_eventOf_56 : decode cX6_eventOf 56 = .ok (.getfield 121, 3) := by decide +kernel
theorem dX6_eventOf_59 : decode cX6_eventOf 59 = .ok (.iload_n 1, 1) := by decide +kernel
theorem dX6_eventOf_60 : decode cX6_eventOf 60 = .ok (.caload, 1) := by decide +kernel
theorem dX6_eventOf_61 : decode cX6_eventOf 61 = .ok (.ireturn, 1) := by decide +kernel
theorem dX6_eventOf_62 : decode cX6_eventOf 62 = .ok (.aload_n 0, 1) := by decide +kernel
theorem dX6_eventOf_63 : decode cX6_eventOf 63 = .ok (.getfield 10, 3) := by decide +kernel
theorem dX6_eventOf_66 : decode cX6_eventOf 66 = .ok (.getfield 125, 3) := by decide +kernel
theorem dX6_eventOf_69 : decode cX6_eventOf 69 = .ok (.iload_n 1, 1) := by decide +kernel
theorem dX6_eventOf_70 : decode cX6_eventOf 70 = .ok (.iaload, 1) := by decide +kernel
theorem dX6_eventOf_71 : decode cX6_eventOf 71 = .ok (.ireturn, 1) := by decide +kernel
theorem dX6_eventOf_72 : decode cX6_eventOf 72 = .ok (.aload_n 0, 1) := by decide +kernel
theorem dX6_eventOf_73 : decode cX6_eventOf 73 = .ok (.getfield 10, 3) := by decide +kernel
theorem dX6_eventOf_76 : decode cX6_eventOf 76 = .ok (.getfield 129, 3) := by decide +kernel
theorem dX6_eventOf_79 : decode cX6_eventOf 79 = .ok (.iload_n 1, 1) := by decide +kernel
theorem dX6_eventOf_80 : decode cX6_eventOf 80 = .ok (.iaload, 1) := by decide +kernel
theorem dX6_eventOf_81 : decode cX6_eventOf 81 = .ok (.ireturn, 1) := by decide +kernel
theorem dX6_eventOf_82 : decode cX6_eventOf 82 = .ok (.aload_n 0, 1) := by decide +kernel
theorem dX6_eventOf_83 : decode cX6_eventOf 83 = .ok (.getfield 47, 3) := by decide +kernel
theorem dX6_eventOf_86 : decode cX6_eventOf 86 = .ok (.aload_n 0, 1) := by decide +kernel
theorem dX6_eventOf_87 : decode cX6_eventOf 87 = .ok (.getfield 10, 3) := by decide +kernel
theorem dX6_eventOf_90 : decode cX6_eventOf 90 = .ok (.invokevirtual 132, 3) := by decide +kernel
theorem dX6_eventOf_93 : decode cX6_eventOf 93 = .ok (.aload_n 0, 1) := by decide +kernel
theorem dX6_eventOf_94 : decode cX6_eventOf 94 = .ok (.getfield 47, 3) := by decide +kernel
theorem dX6_eventOf_97 : decode cX6_eventOf 97 = .ok (.getfield 135, 3) := by decide +kernel
theorem dX6_eventOf_100 : decode cX6_eventOf 100 = .ok (.iload_n 1, 1) := by decide +kernel
theorem dX6_eventOf_101 : decode cX6_eventOf 101 = .ok (.invokevirtual 139, 3) := by decide +kernel
theorem dX6_eventOf_104 : decode cX6_eventOf 104 = .ok (.ireturn, 1) := by decide +kernel
theorem dX6_eventOf_105 : decode cX6_eventOf 105 = .ok (.aload_n 0, 1) := by decide +kernel
theorem dX6_eventOf_106 : decode cX6_eventOf 106 = .ok (.getfield 47, 3) := by decide +kernel
theorem dX6_eventOf_109 : decode cX6_eventOf 109 = .ok (.aload_n 0, 1) := by decide +kernel
theorem dX6_eventOf_110 : decode cX6_eventOf 110 = .ok (.getfield 10, 3) := by decide +kernel
theorem dX6_eventOf_113 : decode cX6_eventOf 113 = .ok (.invokevirtual 132, 3) := by decide +kernel
theorem dX6_eventOf_116 : decode cX6_eventOf 116 = .ok (.aload_n 0, 1) := by decide +kernel
theorem dX6_eventOf_117 : decode cX6_eventOf 117 = .ok (.getfield 47, 3) := by decide +kernel
theorem dX6_eventOf_120 : decode cX6_eventOf 120 = .ok (.aload_n 0, 1) := by decide +kernel
theorem dX6_eventOf_121 : decode cX6_eventOf 121 = .ok (.getfield 10, 3) := by decide +kernel
theorem dX6_eventOf_124 : decode cX6_eventOf 124 = .ok (.invokevirtual 144, 3) := by decide +kernel
theorem dX6_eventOf_127 : decode cX6_eventOf 127 = .ok (.pop, 1) := by decide +kernel
theorem dX6_eventOf_128 : decode cX6_eventOf 128 = .ok (.aload_n 0, 1) := by decide +kernel
theorem dX6_eventOf_129 : decode cX6_eventOf 129 = .ok (.getfield 47, 3) := by decide +kernel
theorem dX6_eventOf_132 : decode cX6_eventOf 132 = .ok (.iload_n 1, 1) := by decide +kernel
theorem dX6_eventOf_133 : decode cX6_eventOf 133 = .ok (.invokevirtual 148, 3) := by decide +kernel
theorem dX6_eventOf_136 : decode cX6_eventOf 136 = .ok (.ireturn, 1) := by decide +kernel
theorem dX6_eventOf_137 : decode cX6_eventOf 137 = .ok (.bipush (-2), 2) := by decide +kernel
theorem dX6_eventOf_139 : decode cX6_eventOf 139 = .ok (.ireturn, 1) := by decide +kernel
theorem dX6_pattern_0 : decode cX6_pattern 0 = .ok (.aload_n 0, 1) := by decide +kernel
theorem dX6_pattern_1 : decode cX6_pattern 1 = .ok (.iload_n 1, 1) := by decide +kernel
theorem dX6_pattern_2 : decode cX6_pattern 2 = .ok (.invokevirtual 91, 3) := by decide +kernel
theorem dX6_pattern_5 : decode cX6_pattern 5 = .ok (.ifCond .ne 5, 3) := by decide +kernel
theorem dX6_pattern_8 : decode cX6_pattern 8 = .ok (.iconst (-1), 1) := by decide +kernel
theorem dX6_pattern_9 : decode cX6_pattern 9 = .ok (.ireturn, 1) := by decide +kernel
theorem dX6_pattern_10 : decode cX6_pattern 10 = .ok (.aload_n 0, 1) := by decide +kernel
theorem dX6_pattern_11 : decode cX6_pattern 11 = .ok (.getfield 10, 3) := by decide +kernel
theorem dX6_pattern_14 : decode cX6_pattern 14 = .ok (.getfield 98, 3) := by decide +kernel
theorem dX6_pattern_17 : decode cX6_pattern 17 = .ok (.iload_n 1, 1) := by decide +kernel
theorem dX6_pattern_18 : decode cX6_pattern 18 = .ok (.aaload, 1) := by decide +kernel
theorem dX6_pattern_19 : decode cX6_pattern 19 = .ok (.astore_n 3, 1) := by decide +kernel
theorem dX6_pattern_20 : decode cX6_pattern 20 = .ok (.iload_n 2, 1) := by decide +kernel
theorem dX6_pattern_21 : decode cX6_pattern 21 = .ok (.tableswitch 102 0 6 #[43, 48, 53, 58, 63, 76, 89], 43) := by decide +kernel
theorem dX6_pattern_64 : decode cX6_pattern 64 = .ok (.aload_n 3, 1) := by decide +kernel
theorem dX6_pattern_65 : decode cX6_pattern 65 = .ok (.getfield 102, 3) := by decide +kernel
theorem dX6_pattern_68 : decode cX6_pattern 68 = .ok (.ireturn, 1) := by decide +kernel
theorem dX6_pattern_69 : decode cX6_pattern 69 = .ok (.aload_n 3, 1) := by decide +kernel
theorem dX6_pattern_70 : decode cX6_pattern 70 = .ok (.getfield 151, 3) := by decide +kernel
theorem dX6_pattern_73 : decode cX6_pattern 73 = .ok (.ireturn, 1) := by decide +kernel
theorem dX6_pattern_74 : decode cX6_pattern 74 = .ok (.aload_n 3, 1) := by decide +kernel
theorem dX6_pattern_75 : decode cX6_pattern 75 = .ok (.getfield 154, 3) := by decide +kernel
theorem dX6_pattern_78 : decode cX6_pattern 78 = .ok (.ireturn, 1) := by decide +kernel
theorem dX6_pattern_79 : decode cX6_pattern 79 = .ok (.aload_n 3, 1) := by decide +kernel
theorem dX6_pattern_80 : decode cX6_pattern 80 = .ok (.getfield 157, 3) := by decide +kernel
theorem dX6_pattern_83 : decode cX6_pattern 83 = .ok (.ireturn, 1) := by decide +kernel
theorem dX6_pattern_84 : decode cX6_pattern 84 = .ok (.aload_n 0, 1) := by decide +kernel
theorem dX6_pattern_85 : decode cX6_pattern 85 = .ok (.aload_n 3, 1) := by decide +kernel
theorem dX6_pattern_86 : decode cX6_pattern 86 = .ok (.invokevirtual 160, 3) := by decide +kernel
theorem dX6_pattern_89 : decode cX6_pattern 89 = .ok (.aload_n 0, 1) := by decide +kernel
theorem dX6_pattern_90 : decode cX6_pattern 90 = .ok (.getfield 47, 3) := by decide +kernel
theorem dX6_pattern_93 : decode cX6_pattern 93 = .ok (.getfield 164, 3) := by decide +kernel
theorem dX6_pattern_96 : decode cX6_pattern 96 = .ok (.ireturn, 1) := by decide +kernel
theorem dX6_pattern_97 : decode cX6_pattern 97 = .ok (.aload_n 0, 1) := by decide +kernel
theorem dX6_pattern_98 : decode cX6_pattern 98 = .ok (.aload_n 3, 1) := by decide +kernel
theorem dX6_pattern_99 : decode cX6_pattern 99 = .ok (.invokevirtual 160, 3) := by decide +kernel
theorem dX6_pattern_102 : decode cX6_pattern 102 = .ok (.aload_n 0, 1) := by decide +kernel
theorem dX6_pattern_103 : decode cX6_pattern 103 = .ok (.getfield 47, 3) := by decide +kernel
theorem dX6_pattern_106 : decode cX6_pattern 106 = .ok (.getfield 167, 3) := by decide +kernel
theorem dX6_pattern_109 : decode cX6_pattern 109 = .ok (.ireturn, 1) := by decide +kernel
theorem dX6_pattern_110 : decode cX6_pattern 110 = .ok (.aload_n 0, 1) := by decide +kernel
theorem dX6_pattern_111 : decode cX6_pattern 111 = .ok (.aload_n 3, 1) := by decide +kernel
theorem dX6_pattern_112 : decode cX6_pattern 112 = .ok (.invokevirtual 160, 3) := by decide +kernel
theorem dX6_pattern_115 : decode cX6_pattern 115 = .ok (.aload_n 0, 1) := by decide +kernel
theorem dX6_pattern_116 : decode cX6_pattern 116 = .ok (.getfield 47, 3) := by decide +kernel
theorem dX6_pattern_119 : decode cX6_pattern 119 = .ok (.getfield 170, 3) := by decide +kernel
theorem dX6_pattern_122 : decode cX6_pattern 122 = .ok (.ireturn, 1) := by decide +kernel
theorem dX6_pattern_123 : decode cX6_pattern 123 = .ok (.bipush (-2), 2) := by decide +kernel
theorem dX6_pattern_125 : decode cX6_pattern 125 = .ok (.ireturn, 1) := by decide +kernel
theorem dX6_step_0 : decode cX6_step 0 = .ok (.aload_n 0, 1) := by decide +kernel
theorem dX6_step_1 : decode cX6_step 1 = .ok (.iload_n 1, 1) := by decide +kernel
theorem dX6_step_2 : decode cX6_step 2 = .ok (.invokevirtual 91, 3) := by decide +kernel
theorem dX6_step_5 : decode cX6_step 5 = .ok (.ifCond .ne 5, 3) := by decide +kernel
theorem dX6_step_8 : decode cX6_step 8 = .ok (.iconst (-1), 1) := by decide +kernel
theorem dX6_step_9 : decode cX6_step 9 = .ok (.ireturn, 1) := by decide +kernel
theorem dX6_step_10 : decode cX6_step 10 = .ok (.aload_n 0, 1) := by decide +kernel
theorem dX6_step_11 : decode cX6_step 11 = .ok (.getfield 10, 3) := by decide +kernel
theorem dX6_step_14 : decode cX6_step 14 = .ok (.getfield 98, 3) := by decide +kernel
theorem dX6_step_17 : decode cX6_step 17 = .ok (.iload_n 1, 1) := by decide +kernel
theorem dX6_step_18 : decode cX6_step 18 = .ok (.aaload, 1) := by decide +kernel
theorem dX6_step_19 : decode cX6_step 19 = .ok (.astore 4, 2) := by decide +kernel
theorem dX6_step_21 : decode cX6_step 21 = .ok (.iload_n 2, 1) := by decide +kernel
theorem dX6_step_22 : decode cX6_step 22 = .ok (.ifCond .lt 12, 3) := by decide +kernel
theorem dX6_step_25 : decode cX6_step 25 = .ok (.iload_n 2, 1) := by decide +kernel
theorem dX6_step_26 : decode cX6_step 26 = .ok (.aload 4, 2) := by decide +kernel
theorem dX6_step_28 : decode cX6_step 28 = .ok (.getfield 154, 3) := by decide +kernel
theorem dX6_step_31 : decode cX6_step 31 = .ok (.if_icmp .lt 6, 3) := by decide +kernel
theorem dX6_step_34 : decode cX6_step 34 = .ok (.bipush (-2), 2) := by decide +kernel
theorem dX6_step_36 : decode cX6_step 36 = .ok (.ireturn, 1) := by decide +kernel
theorem dX6_step_37 : decode cX6_step 37 = .ok (.iload_n 3, 1) := by decide +kernel
theorem dX6_step_38 : decode cX6_step 38 = .ok (.lookupswitch 50 #[(0, 26), (1, 34)], 26) := by decide +kernel
theorem dX6_step_64 : decode cX6_step 64 = .ok (.aload 4, 2) := by decide +kernel
theorem dX6_step_66 : decode cX6_step 66 = .ok (.getfield 173, 3) := by decide +kernel
theorem dX6_step_69 : decode cX6_step 69 = .ok (.iload_n 2, 1) := by decide +kernel
theorem dX6_step_70 : decode cX6_step 70 = .ok (.caload, 1) := by decide +kernel
theorem dX6_step_71 : decode cX6_step 71 = .ok (.ireturn, 1) := by decide +kernel
theorem dX6_step_72 : decode cX6_step 72 = .ok (.aload 4, 2) := by decide +kernel
theorem dX6_step_74 : decode cX6_step 74 = .ok (.getfield 174, 3) := by decide +kernel
theorem dX6_step_77 : decode cX6_step 77 = .ok (.iload_n 2, 1) := by decide +kernel
theorem dX6_step_78 : decode cX6_step 78 = .ok (.baload, 1) := by decide +kernel
theorem dX6_step_79 : decode cX6_step 79 = .ok (.ifCond .eq 7, 3) := by decide +kernel
theorem dX6_step_82 : decode cX6_step 82 = .ok (.iconst 1, 1) := by decide +kernel
theorem dX6_step_83 : decode cX6_step 83 = .ok (.goto 4, 3) := by decide +kernel
theorem dX6_step_86 : decode cX6_step 86 = .ok (.iconst 0, 1) := by decide +kernel
theorem dX6_step_87 : decode cX6_step 87 = .ok (.ireturn, 1) := by decide +kernel
theorem dX6_step_88 : decode cX6_step 88 = .ok (.bipush (-2), 2) := by decide +kernel
theorem dX6_step_90 : decode cX6_step 90 = .ok (.ireturn, 1) := by decide +kernel
theorem dX6_match_0 : decode cX6_match 0 = .ok (.aload_n 0, 1) := by decide +kernel
theorem dX6_match_1 : decode cX6_match 1 = .ok (.iload_n 1, 1) := by decide +kernel
theorem dX6_match_2 : decode cX6_match 2 = .ok (.invokevirtual 91, 3) := by decide +kernel
theorem dX6_match_5 : decode cX6_match 5 = .ok (.ifCond .ne 5, 3) := by decide +kernel
theorem dX6_match_8 : decode cX6_match 8 = .ok (.iconst (-1), 1) := by decide +kernel
theorem dX6_match_9 : decode cX6_match 9 = .ok (.ireturn, 1) := by decide +kernel
theorem dX6_match_10 : decode cX6_match 10 = .ok (.aload_n 0, 1) := by decide +kernel
theorem dX6_match_11 : decode cX6_match 11 = .ok (.getfield 10, 3) := by decide +kernel
theorem dX6_match_14 : decode cX6_match 14 = .ok (.getfield 98, 3) := by decide +kernel
theorem dX6_match_17 : decode cX6_match 17 = .ok (.iload_n 1, 1) := by decide +kernel
theorem dX6_match_18 : decode cX6_match 18 = .ok (.aaload, 1) := by decide +kernel
theorem dX6_match_19 : decode cX6_match 19 = .ok (.astore 4, 2) := by decide +kernel
theorem dX6_match_21 : decode cX6_match 21 = .ok (.iload_n 2, 1) := by decide +kernel
theorem dX6_match_22 : decode cX6_match 22 = .ok (.ifCond .lt 16, 3) := by decide +kernel
theorem dX6_match_25 : decode cX6_match 25 = .ok (.iload_n 3, 1) := by decide +kernel
theorem dX6_match_26 : decode cX6_match 26 = .ok (.ifCond .lt 12, 3) := by decide +kernel
theorem dX6_match_29 : decode cX6_match 29 = .ok (.iload_n 3, 1) := by decide +kernel
theorem dX6_match_30 : decode cX6_match 30 = .ok (.aload 4, 2) := by decide +kernel
theorem dX6_match_32 : decode cX6_match 32 = .ok (.getfield 157, 3) := by decide +kernel
theorem dX6_match_35 : decode cX6_match 35 = .ok (.if_icmp .lt 6, 3) := by decide +kernel
theorem dX6_match_38 : decode cX6_match 38 = .ok (.bipush (-2), 2) := by decide +kernel
theorem dX6_match_40 : decode cX6_match 40 = .ok (.ireturn, 1) := by decide +kernel
theorem dX6_match_41 : decode cX6_match 41 = .ok (.aload_n 0, 1) := by decide +kernel
theorem dX6_match_42 : decode cX6_match 42 = .ok (.getfield 47, 3) := by decide +kernel
theorem dX6_match_45 : decode cX6_match 45 = .ok (.aload_n 0, 1) := by decide +kernel
theorem dX6_match_46 : decode cX6_match 46 = .ok (.getfield 10, 3) := by decide +kernel
theorem dX6_match_49 : decode cX6_match 49 = .ok (.invokevirtual 132, 3) := by decide +kernel
theorem dX6_match_52 : decode cX6_match 52 = .ok (.aload_n 0, 1) := by decide +kernel
theorem dX6_match_53 : decode cX6_match 53 = .ok (.getfield 47, 3) := by decide +kernel
theorem dX6_match_56 : decode cX6_match 56 = .ok (.iload_n 2, 1) := by decide +kernel
theorem dX6_match_57 : decode cX6_match 57 = .ok (.iload_n 3, 1) := by decide +kernel
theorem dX6_match_58 : decode cX6_match 58 = .ok (.invokevirtual 178, 3) := by decide +kernel
theorem dX6_match_61 : decode cX6_match 61 = .ok (.aload_n 0, 1) := by decide +kernel
theorem dX6_match_62 : decode cX6_match 62 = .ok (.getfield 47, 3) := by decide +kernel
theorem dX6_match_65 : decode cX6_match 65 = .ok (.aload 4, 2) := by decide +kernel
theorem dX6_match_67 : decode cX6_match 67 = .ok (.invokevirtual 182, 3) := by decide +kernel
theorem dX6_match_70 : decode cX6_match 70 = .ok (.aload_n 0, 1) := by decide +kernel
theorem dX6_match_71 : decode cX6_match 71 = .ok (.getfield 47, 3) := by decide +kernel
theorem dX6_match_74 : decode cX6_match 74 = .ok (.getfield 185, 3) := by decide +kernel
theorem dX6_match_77 : decode cX6_match 77 = .ok (.ireturn, 1) := by decide +kernel
theorem dX6_ifEvent_0 : decode cX6_ifEvent 0 = .ok (.aload_n 0, 1) := by decide +kernel
theorem dX6_ifEvent_1 : decode cX6_ifEvent 1 = .ok (.iload_n 1, 1) := by decide +kernel
theorem dX6_ifEvent_2 : decode cX6_ifEvent 2 = .ok (.iload_n 2, 1) := by decide +kernel
theorem dX6_ifEvent_3 : decode cX6_ifEvent 3 = .ok (.iload_n 3, 1) := by decide +kernel
theorem dX6_ifEvent_4 : decode cX6_ifEvent 4 = .ok (.invokevirtual 51, 3) := by decide +kernel
theorem dX6_ifEvent_7 : decode cX6_ifEvent 7 = .ok (.istore 4, 2) := by decide +kernel
theorem dX6_ifEvent_9 : decode cX6_ifEvent 9 = .ok (.iload 4, 2) := by decide +kernel
theorem dX6_ifEvent_11 : decode cX6_ifEvent 11 = .ok (.ifCond .eq 6, 3) := by decide +kernel
theorem dX6_ifEvent_14 : decode cX6_ifEvent 14 = .ok (.iload 4, 2) := by decide +kernel
theorem dX6_ifEvent_16 : decode cX6_ifEvent 16 = .ok (.ireturn, 1) := by decide +kernel
theorem dX6_ifEvent_17 : decode cX6_ifEvent 17 = .ok (.aload_n 0, 1) := by decide +kernel
theorem dX6_ifEvent_18 : decode cX6_ifEvent 18 = .ok (.getfield 47, 3) := by decide +kernel
theorem dX6_ifEvent_21 : decode cX6_ifEvent 21 = .ok (.aload_n 0, 1) := by decide +kernel
theorem dX6_ifEvent_22 : decode cX6_ifEvent 22 = .ok (.getfield 10, 3) := by decide +kernel
theorem dX6_ifEvent_25 : decode cX6_ifEvent 25 = .ok (.invokevirtual 132, 3) := by decide +kernel
theorem dX6_ifEvent_28 : decode cX6_ifEvent 28 = .ok (.aload_n 0, 1) := by decide +kernel
theorem dX6_ifEvent_29 : decode cX6_ifEvent 29 = .ok (.getfield 47, 3) := by decide +kernel
theorem dX6_ifEvent_32 : decode cX6_ifEvent 32 = .ok (.getfield 135, 3) := by decide +kernel
theorem dX6_ifEvent_35 : decode cX6_ifEvent 35 = .ok (.aload_n 0, 1) := by decide +kernel
theorem dX6_ifEvent_36 : decode cX6_ifEvent 36 = .ok (.getfield 10, 3) := by decide +kernel
theorem dX6_ifEvent_39 : decode cX6_ifEvent 39 = .ok (.getfield 55, 3) := by decide +kernel
theorem dX6_ifEvent_42 : decode cX6_ifEvent 42 = .ok (.iload_n 1, 1) := by decide +kernel
theorem dX6_ifEvent_43 : decode cX6_ifEvent 43 = .ok (.iload_n 2, 1) := by decide +kernel
theorem dX6_ifEvent_44 : decode cX6_ifEvent 44 = .ok (.iload_n 3, 1) := by decide +kernel
theorem dX6_ifEvent_45 : decode cX6_ifEvent 45 = .ok (.invokevirtual 188, 3) := by decide +kernel
theorem dX6_ifEvent_48 : decode cX6_ifEvent 48 = .ok (.aload_n 0, 1) := by decide +kernel
theorem dX6_ifEvent_49 : decode cX6_ifEvent 49 = .ok (.getfield 47, 3) := by decide +kernel
theorem dX6_ifEvent_52 : decode cX6_ifEvent 52 = .ok (.aload_n 0, 1) := by decide +kernel
theorem dX6_ifEvent_53 : decode cX6_ifEvent 53 = .ok (.getfield 10, 3) := by decide +kernel
theorem dX6_ifEvent_56 : decode cX6_ifEvent 56 = .ok (.invokevirtual 144, 3) := by decide +kernel
theorem dX6_ifEvent_59 : decode cX6_ifEvent 59 = .ok (.ireturn, 1) := by decide +kernel
theorem dX6_count_0 : decode cX6_count 0 = .ok (.iload_n 1, 1) := by decide +kernel
theorem dX6_count_1 : decode cX6_count 1 = .ok (.tableswitch 161 0 8 #[51, 59, 67, 90, 98, 106, 114, 145, 153], 51) := by decide +kernel
theorem dX6_count_52 : decode cX6_count 52 = .ok (.aload_n 0, 1) := by decide +kernel
theorem dX6_count_53 : decode cX6_count 53 = .ok (.getfield 10, 3) := by decide +kernel
theorem dX6_count_56 : decode cX6_count 56 = .ok (.getfield 55, 3) := by decide +kernel
theorem dX6_count_59 : decode cX6_count 59 = .ok (.ireturn, 1) := by decide +kernel
theorem dX6_count_60 : decode cX6_count 60 = .ok (.aload_n 0, 1) := by decide +kernel
theorem dX6_count_61 : decode cX6_count 61 = .ok (.getfield 10, 3) := by decide +kernel
theorem dX6_count_64 : decode cX6_count 64 = .ok (.getfield 85, 3) := by decide +kernel
theorem dX6_count_67 : decode cX6_count 67 = .ok (.ireturn, 1) := by decide +kernel
theorem dX6_count_68 : decode cX6_count 68 = .ok (.aload_n 0, 1) := by decide +kernel
theorem dX6_count_69 : decode cX6_count 69 = .ok (.getfield 47, 3) := by decide +kernel
theorem dX6_count_72 : decode cX6_count 72 = .ok (.aload_n 0, 1) := by decide +kernel
theorem dX6_count_73 : decode cX6_count 73 = .ok (.getfield 10, 3) := by decide +kernel
theorem dX6_count_76 : decode cX6_count 76 = .ok (.invokevirtual 132, 3) := by decide +kernel
theorem dX6_count_79 : decode cX6_count 79 = .ok (.aload_n 0, 1) := by decide +kernel
theorem dX6_count_80 : decode cX6_count 80 = .ok (.getfield 47, 3) := by decide +kernel
theorem dX6_count_83 : decode cX6_count 83 = .ok (.aload_n 0, 1) := by decide +kernel
theorem dX6_count_84 : decode cX6_count 84 = .ok (.getfield 10, 3) := by decide +kernel
theorem dX6_count_87 : decode cX6_count 87 = .ok (.invokevirtual 144, 3) := by decide +kernel
theorem dX6_count_90 : decode cX6_count 90 = .ok (.ireturn, 1) := by decide +kernel
theorem dX6_count_91 : decode cX6_count 91 = .ok (.aload_n 0, 1) := by decide +kernel
theorem dX6_count_92 : decode cX6_count 92 = .ok (.getfield 10, 3) := by decide +kernel
theorem dX6_count_95 : decode cX6_count 95 = .ok (.getfield 192, 3) := by decide +kernel
theorem dX6_count_98 : decode cX6_count 98 = .ok (.ireturn, 1) := by decide +kernel
theorem dX6_count_99 : decode cX6_count 99 = .ok (.aload_n 0, 1) := by decide +kernel
theorem dX6_count_100 : decode cX6_count 100 = .ok (.getfield 10, 3) := by decide +kernel
theorem dX6_count_103 : decode cX6_count 103 = .ok (.invokevirtual 195, 3) := by decide +kernel
theorem dX6_count_106 : decode cX6_count 106 = .ok (.ireturn, 1) := by decide +kernel
theorem dX6_count_107 : decode cX6_count 107 = .ok (.aload_n 0, 1) := by decide +kernel
theorem dX6_count_108 : decode cX6_count 108 = .ok (.getfield 10, 3) := by decide +kernel
theorem dX6_count_111 : decode cX6_count 111 = .ok (.getfield 78, 3) := by decide +kernel
theorem dX6_count_114 : decode cX6_count 114 = .ok (.ireturn, 1) := by decide +kernel
theorem dX6_count_115 : decode cX6_count 115 = .ok (.aload_n 0, 1) := by decide +kernel
theorem dX6_count_116 : decode cX6_count 116 = .ok (.getfield 47, 3) := by decide +kernel
theorem dX6_count_119 : decode cX6_count 119 = .ok (.aload_n 0, 1) := by decide +kernel
theorem dX6_count_120 : decode cX6_count 120 = .ok (.getfield 10, 3) := by decide +kernel
theorem dX6_count_123 : decode cX6_count 123 = .ok (.invokevirtual 132, 3) := by decide +kernel
theorem dX6_count_126 : decode cX6_count 126 = .ok (.aload_n 0, 1) := by decide +kernel
theorem dX6_count_127 : decode cX6_count 127 = .ok (.getfield 47, 3) := by decide +kernel
theorem dX6_count_130 : decode cX6_count 130 = .ok (.aload_n 0, 1) := by decide +kernel
theorem dX6_count_131 : decode cX6_count 131 = .ok (.getfield 10, 3) := by decide +kernel
theorem dX6_count_134 : decode cX6_count 134 = .ok (.invokevirtual 144, 3) := by decide +kernel
theorem dX6_count_137 : decode cX6_count 137 = .ok (.pop, 1) := by decide +kernel
theorem dX6_count_138 : decode cX6_count 138 = .ok (.aload_n 0, 1) := by decide +kernel
theorem dX6_count_139 : decode cX6_count 139 = .ok (.getfield 47, 3) := by decide +kernel
theorem dX6_count_142 : decode cX6_count 142 = .ok (.invokevirtual 199, 3) := by decide +kernel
theorem dX6_count_145 : decode cX6_count 145 = .ok (.ireturn, 1) := by decide +kernel
theorem dX6_count_146 : decode cX6_count 146 = .ok (.aload_n 0, 1) := by decide +kernel
theorem dX6_count_147 : decode cX6_count 147 = .ok (.getfield 26, 3) := by decide +kernel
theorem dX6_count_150 : decode cX6_count 150 = .ok (.getfield 112, 3) := by decide +kernel
theorem dX6_count_153 : decode cX6_count 153 = .ok (.ireturn, 1) := by decide +kernel
theorem dX6_count_154 : decode cX6_count 154 = .ok (.aload_n 0, 1) := by decide +kernel
theorem dX6_count_155 : decode cX6_count 155 = .ok (.getfield 33, 3) := by decide +kernel
theorem dX6_count_158 : decode cX6_count 158 = .ok (.getfield 109, 3) := by decide +kernel
theorem dX6_count_161 : decode cX6_count 161 = .ok (.ireturn, 1) := by decide +kernel
theorem dX6_count_162 : decode cX6_count 162 = .ok (.bipush (-2), 2) := by decide +kernel
theorem dX6_count_164 : decode cX6_count 164 = .ok (.ireturn, 1) := by decide +kernel
theorem dX6_isWithin_0 : decode cX6_isWithin 0 = .ok (.iload_n 0, 1) := by decide +kernel
theorem dX6_isWithin_1 : decode cX6_isWithin 1 = .ok (.iload_n 1, 1) := by decide +kernel
theorem dX6_isWithin_2 : decode cX6_isWithin 2 = .ok (.if_icmp .lt 12, 3) := by decide +kernel
theorem dX6_isWithin_5 : decode cX6_isWithin 5 = .ok (.iload_n 0, 1) := by decide +kernel
theorem dX6_isWithin_6 : decode cX6_isWithin 6 = .ok (.iload_n 2, 1) := by decide +kernel
theorem dX6_isWithin_7 : decode cX6_isWithin 7 = .ok (.if_icmp .gt 7, 3) := by decide +kernel
theorem dX6_isWithin_10 : decode cX6_isWithin 10 = .ok (.iconst 1, 1) := by decide +kernel
theorem dX6_isWithin_11 : decode cX6_isWithin 11 = .ok (.goto 4, 3) := by decide +kernel
theorem dX6_isWithin_14 : decode cX6_isWithin 14 = .ok (.iconst 0, 1) := by decide +kernel
theorem dX6_isWithin_15 : decode cX6_isWithin 15 = .ok (.ireturn, 1) := by decide +kernel
theorem dX6_isKind_0 : decode cX6_isKind 0 = .ok (.iload_n 0, 1) := by decide +kernel
theorem dX6_isKind_1 : decode cX6_isKind 1 = .ok (.bipush 97, 2) := by decide +kernel
theorem dX6_isKind_3 : decode cX6_isKind 3 = .ok (.if_icmp .lt 13, 3) := by decide +kernel
theorem dX6_isKind_6 : decode cX6_isKind 6 = .ok (.iload_n 0, 1) := by decide +kernel
theorem dX6_isKind_7 : decode cX6_isKind 7 = .ok (.bipush 104, 2) := by decide +kernel
theorem dX6_isKind_9 : decode cX6_isKind 9 = .ok (.if_icmp .gt 7, 3) := by decide +kernel
theorem dX6_isKind_12 : decode cX6_isKind 12 = .ok (.iconst 1, 1) := by decide +kernel
theorem dX6_isKind_13 : decode cX6_isKind 13 = .ok (.goto 4, 3) := by decide +kernel
theorem dX6_isKind_16 : decode cX6_isKind 16 = .ok (.iconst 0, 1) := by decide +kernel
theorem dX6_isKind_17 : decode cX6_isKind 17 = .ok (.ireturn, 1) := by decide +kernel
theorem dX6_isPattern_0 : decode cX6_isPattern 0 = .ok (.iload_n 1, 1) := by decide +kernel
theorem dX6_isPattern_1 : decode cX6_isPattern 1 = .ok (.ifCond .lt 18, 3) := by decide +kernel
theorem dX6_isPattern_4 : decode cX6_isPattern 4 = .ok (.iload_n 1, 1) := by decide +kernel
theorem dX6_isPattern_5 : decode cX6_isPattern 5 = .ok (.aload_n 0, 1) := by decide +kernel
theorem dX6_isPattern_6 : decode cX6_isPattern 6 = .ok (.getfield 10, 3) := by decide +kernel
theorem dX6_isPattern_9 : decode cX6_isPattern 9 = .ok (.getfield 85, 3) := by decide +kernel
theorem dX6_isPattern_12 : decode cX6_isPattern 12 = .ok (.if_icmp .ge 7, 3) := by decide +kernel
theorem dX6_isPattern_15 : decode cX6_isPattern 15 = .ok (.iconst 1, 1) := by decide +kernel
theorem dX6_isPattern_16 : decode cX6_isPattern 16 = .ok (.goto 4, 3) := by decide +kernel
theorem dX6_isPattern_19 : decode cX6_isPattern 19 = .ok (.iconst 0, 1) := by decide +kernel
theorem dX6_isPattern_20 : decode cX6_isPattern 20 = .ok (.ireturn, 1) := by decide +kernel
theorem dX6_errorOfEvent_0 : decode cX6_errorOfEvent 0 = .ok (.iload_n 1, 1) := by decide +kernel
theorem dX6_errorOfEvent_1 : decode cX6_errorOfEvent 1 = .ok (.invokestatic 202, 3) := by decide +kernel
theorem dX6_errorOfEvent_4 : decode cX6_errorOfEvent 4 = .ok (.ifCond .eq 24, 3) := by decide +kernel
theorem dX6_errorOfEvent_7 : decode cX6_errorOfEvent 7 = .ok (.iload_n 2, 1) := by decide +kernel
theorem dX6_errorOfEvent_8 : decode cX6_errorOfEvent 8 = .ok (.iconst 0, 1) := by decide +kernel
theorem dX6_errorOfEvent_9 : decode cX6_errorOfEvent 9 = .ok (.bipush 99, 2) := by decide +kernel
theorem dX6_errorOfEvent_11 : decode cX6_errorOfEvent 11 = .ok (.invokestatic 66, 3) := by decide +kernel
theorem dX6_errorOfEvent_14 : decode cX6_errorOfEvent 14 = .ok (.ifCond .eq 14, 3) := by decide +kernel
theorem dX6_errorOfEvent_17 : decode cX6_errorOfEvent 17 = .ok (.iload_n 3, 1) := by decide +kernel
theorem dX6_errorOfEvent_18 : decode cX6_errorOfEvent 18 = .ok (.iconst 0, 1) := by decide +kernel
theorem dX6_errorOfEvent_19 : decode cX6_errorOfEvent 19 = .ok (.sipush 9999, 3) := by decide +kernel
theorem dX6_errorOfEvent_22 : decode cX6_errorOfEvent 22 = .ok (.invokestatic 66, 3) := by decide +kernel
theorem dX6_errorOfEvent_25 : decode cX6_errorOfEvent 25 = .ok (.ifCond .ne 6, 3) := by decide +kernel
theorem dX6_errorOfEvent_28 : decode cX6_errorOfEvent 28 = .ok (.bipush (-2), 2) := by decide +kernel
theorem dX6_errorOfEvent_30 : decode cX6_errorOfEvent 30 = .ok (.ireturn, 1) := by decide +kernel
theorem dX6_errorOfEvent_31 : decode cX6_errorOfEvent 31 = .ok (.iload_n 3, 1) := by decide +kernel
theorem dX6_errorOfEvent_32 : decode cX6_errorOfEvent 32 = .ok (.aload_n 0, 1) := by decide +kernel
theorem dX6_errorOfEvent_33 : decode cX6_errorOfEvent 33 = .ok (.getfield 10, 3) := by decide +kernel
theorem dX6_errorOfEvent_36 : decode cX6_errorOfEvent 36 = .ok (.getfield 192, 3) := by decide +kernel
theorem dX6_errorOfEvent_39 : decode cX6_errorOfEvent 39 = .ok (.aload_n 0, 1) := by decide +kernel
theorem dX6_errorOfEvent_40 : decode cX6_errorOfEvent 40 = .ok (.getfield 10, 3) := by decide +kernel
theorem dX6_errorOfEvent_43 : decode cX6_errorOfEvent 43 = .ok (.getfield 78, 3) := by decide +kernel
theorem dX6_errorOfEvent_46 : decode cX6_errorOfEvent 46 = .ok (.isub, 1) := by decide +kernel
theorem dX6_errorOfEvent_47 : decode cX6_errorOfEvent 47 = .ok (.if_icmp .ge 8, 3) := by decide +kernel
theorem dX6_errorOfEvent_50 : decode cX6_errorOfEvent 50 = .ok (.bipush (-4), 2) := by decide +kernel
theorem dX6_errorOfEvent_52 : decode cX6_errorOfEvent 52 = .ok (.goto 4, 3) := by decide +kernel
theorem dX6_errorOfEvent_55 : decode cX6_errorOfEvent 55 = .ok (.iconst 0, 1) := by decide +kernel
theorem dX6_errorOfEvent_56 : decode cX6_errorOfEvent 56 = .ok (.ireturn, 1) := by decide +kernel
theorem dX6_searchFor_0 : decode cX6_searchFor 0 = .ok (.aload_n 0, 1) := by decide +kernel
theorem dX6_searchFor_1 : decode cX6_searchFor 1 = .ok (.getfield 47, 3) := by decide +kernel
theorem dX6_searchFor_4 : decode cX6_searchFor 4 = .ok (.aload_n 0, 1) := by decide +kernel
theorem dX6_searchFor_5 : decode cX6_searchFor 5 = .ok (.getfield 10, 3) := by decide +kernel
theorem dX6_searchFor_8 : decode cX6_searchFor 8 = .ok (.invokevirtual 132, 3) := by decide +kernel
theorem dX6_searchFor_11 : decode cX6_searchFor 11 = .ok (.aload_n 0, 1) := by decide +kernel
theorem dX6_searchFor_12 : decode cX6_searchFor 12 = .ok (.getfield 47, 3) := by decide +kernel
theorem dX6_searchFor_15 : decode cX6_searchFor 15 = .ok (.aload_n 1, 1) := by decide +kernel
theorem dX6_searchFor_16 : decode cX6_searchFor 16 = .ok (.invokevirtual 182, 3) := by decide +kernel
theorem dX6_searchFor_19 : decode cX6_searchFor 19 = .ok (.return_, 1) := by decide +kernel
theorem dJ9_max_7cf53_0 : decode cJ9_max_7cf53 0 = .ok (.iload_n 0, 1) := by decide +kernel
theorem dJ9_max_7cf53_1 : decode cJ9_max_7cf53 1 = .ok (.iload_n 1, 1) := by decide +kernel
theorem dJ9_max_7cf53_2 : decode cJ9_max_7cf53 2 = .ok (.if_icmp .lt 7, 3) := by decide +kernel
theorem dJ9_max_7cf53_5 : decode cJ9_max_7cf53 5 = .ok (.iload_n 0, 1) := by decide +kernel
theorem dJ9_max_7cf53_6 : decode cJ9_max_7cf53 6 = .ok (.goto 4, 3) := by decide +kernel
theorem dJ9_max_7cf53_9 : decode cJ9_max_7cf53 9 = .ok (.iload_n 1, 1) := by decide +kernel
theorem dJ9_max_7cf53_10 : decode cJ9_max_7cf53 10 = .ok (.ireturn, 1) := by decide +kernel
theorem dJ0_length_8abf5_0 : decode cJ0_length_8abf5 0 = .ok (.aload_n 0, 1) := by decide +kernel
theorem dJ0_length_8abf5_1 : decode cJ0_length_8abf5 1 = .ok (.getfield 9, 3) := by decide +kernel
theorem dJ0_length_8abf5_4 : decode cJ0_length_8abf5 4 = .ok (.arraylength, 1) := by decide +kernel
theorem dJ0_length_8abf5_5 : decode cJ0_length_8abf5 5 = .ok (.aload_n 0, 1) := by decide +kernel
theorem dJ0_length_8abf5_6 : decode cJ0_length_8abf5 6 = .ok (.invokevirtual 335, 3) := by decide +kernel
theorem dJ0_length_8abf5_9 : decode cJ0_length_8abf5 9 = .ok (.ishr, 1) := by decide +kernel
theorem dJ0_length_8abf5_10 : decode cJ0_length_8abf5 10 = .ok (.ireturn, 1) := by decide +kernel
theorem dJ0_charAt_5068e_0 : decode cJ0_charAt_5068e 0 = .ok (.aload_n 0, 1) := by decide +kernel
theorem dJ0_charAt_5068e_1 : decode cJ0_charAt_5068e 1 = .ok (.invokevirtual 492, 3) := by decide +kernel
theorem dJ0_charAt_5068e_4 : decode cJ0_charAt_5068e 4 = .ok (.ifCond .eq 12, 3) := by decide +kernel
theorem dJ0_charAt_5068e_7 : decode cJ0_charAt_5068e 7 = .ok (.aload_n 0, 1) := by decide +kernel
theorem dJ0_charAt_5068e_8 : decode cJ0_charAt_5068e 8 = .ok (.getfield 9, 3) := by decide +kernel
theorem dJ0_charAt_5068e_11 : decode cJ0_charAt_5068e 11 = .ok (.iload_n 1, 1) := by decide +kernel
theorem dJ0_charAt_5068e_12 : decode cJ0_charAt_5068e 12 = .ok (.invokestatic 495, 3) := by decide +kernel
theorem dJ0_charAt_5068e_15 : decode cJ0_charAt_5068e 15 = .ok (.ireturn, 1) := by decide +kernel
theorem dJ0_charAt_5068e_16 : decode cJ0_charAt_5068e 16 = .ok (.aload_n 0, 1) := by decide +kernel
theorem dJ0_charAt_5068e_17 : decode cJ0_charAt_5068e 17 = .ok (.getfield 9, 3) := by decide +kernel
theorem dJ0_charAt_5068e_20 : decode cJ0_charAt_5068e 20 = .ok (.iload_n 1, 1) := by decide +kernel
theorem dJ0_charAt_5068e_21 : decode cJ0_charAt_5068e 21 = .ok (.invokestatic 498, 3) := by decide +kernel
theorem dJ0_charAt_5068e_24 : decode cJ0_charAt_5068e 24 = .ok (.ireturn, 1) := by decide +kernel
theorem dJ0_coder_7d493_0 : decode cJ0_coder_7d493 0 = .ok (.getstatic 38, 3) := by decide +kernel
theorem dJ0_coder_7d493_3 : decode cJ0_coder_7d493 3 = .ok (.ifCond .eq 10, 3) := by decide +kernel
theorem dJ0_coder_7d493_6 : decode cJ0_coder_7d493 6 = .ok (.aload_n 0, 1) := by decide +kernel
theorem dJ0_coder_7d493_7 : decode cJ0_coder_7d493 7 = .ok (.getfield 15, 3) := by decide +kernel
theorem dJ0_coder_7d493_10 : decode cJ0_coder_7d493 10 = .ok (.goto 4, 3) := by decide +kernel
theorem dJ0_coder_7d493_13 : decode cJ0_coder_7d493 13 = .ok (.iconst 1, 1) := by decide +kernel
theorem dJ0_coder_7d493_14 : decode cJ0_coder_7d493 14 = .ok (.ireturn, 1) := by decide +kernel
theorem dJ0_isLatin1_aae02_0 : decode cJ0_isLatin1_aae02 0 = .ok (.getstatic 38, 3) := by decide +kernel
theorem dJ0_isLatin1_aae02_3 : decode cJ0_isLatin1_aae02 3 = .ok (.ifCond .eq 14, 3) := by decide +kernel
theorem dJ0_isLatin1_aae02_6 : decode cJ0_isLatin1_aae02 6 = .ok (.aload_n 0, 1) := by decide +kernel
theorem dJ0_isLatin1_aae02_7 : decode cJ0_isLatin1_aae02 7 = .ok (.getfield 15, 3) := by decide +kernel
theorem dJ0_isLatin1_aae02_10 : decode cJ0_isLatin1_aae02 10 = .ok (.ifCond .ne 7, 3) := by decide +kernel
theorem dJ0_isLatin1_aae02_13 : decode cJ0_isLatin1_aae02 13 = .ok (.iconst 1, 1) := by decide +kernel
theorem dJ0_isLatin1_aae02_14 : decode cJ0_isLatin1_aae02 14 = .ok (.goto 4, 3) := by decide +kernel
theorem dJ0_isLatin1_aae02_17 : decode cJ0_isLatin1_aae02 17 = .ok (.iconst 0, 1) := by decide +kernel
theorem dJ0_isLatin1_aae02_18 : decode cJ0_isLatin1_aae02 18 = .ok (.ireturn, 1) := by decide +kernel
theorem dJ0_checkIndex_df160_0 : decode cJ0_checkIndex_df160 0 = .ok (.iload_n 0, 1) := by decide +kernel
theorem dJ0_checkIndex_df160_1 : decode cJ0_checkIndex_df160 1 = .ok (.iload_n 1, 1) := by decide +kernel
theorem dJ0_checkIndex_df160_2 : decode cJ0_checkIndex_df160 2 = .ok (.getstatic 1053, 3) := by decide +kernel
theorem dJ0_checkIndex_df160_5 : decode cJ0_checkIndex_df160 5 = .ok (.invokestatic 1059, 3) := by decide +kernel
theorem dJ0_checkIndex_df160_8 : decode cJ0_checkIndex_df160 8 = .ok (.pop, 1) := by decide +kernel
theorem dJ0_checkIndex_df160_9 : decode cJ0_checkIndex_df160 9 = .ok (.return_, 1) := by decide +kernel
theorem dJ1_charAt_3b067_0 : decode cJ1_charAt_3b067 0 = .ok (.iload_n 1, 1) := by decide +kernel
theorem dJ1_charAt_3b067_1 : decode cJ1_charAt_3b067 1 = .ok (.aload_n 0, 1) := by decide +kernel
theorem dJ1_charAt_3b067_2 : decode cJ1_charAt_3b067 2 = .ok (.arraylength, 1) := by decide +kernel
theorem dJ1_charAt_3b067_3 : decode cJ1_charAt_3b067 3 = .ok (.invokestatic 9, 3) := by decide +kernel
theorem dJ1_charAt_3b067_6 : decode cJ1_charAt_3b067 6 = .ok (.aload_n 0, 1) := by decide +kernel
theorem dJ1_charAt_3b067_7 : decode cJ1_charAt_3b067 7 = .ok (.iload_n 1, 1) := by decide +kernel
theorem dJ1_charAt_3b067_8 : decode cJ1_charAt_3b067 8 = .ok (.baload, 1) := by decide +kernel
theorem dJ1_charAt_3b067_9 : decode cJ1_charAt_3b067 9 = .ok (.sipush 255, 3) := by decide +kernel
theorem dJ1_charAt_3b067_12 : decode cJ1_charAt_3b067 12 = .ok (.iand, 1) := by decide +kernel
theorem dJ1_charAt_3b067_13 : decode cJ1_charAt_3b067 13 = .ok (.i2c, 1) := by decide +kernel
theorem dJ1_charAt_3b067_14 : decode cJ1_charAt_3b067 14 = .ok (.ireturn, 1) := by decide +kernel
theorem dJ2_getChar_3b067_0 : decode cJ2_getChar_3b067 0 = .ok (.getstatic 44, 3) := by decide +kernel
theorem dJ2_getChar_3b067_3 : decode cJ2_getChar_3b067 3 = .ok (.ifCond .ne 25, 3) := by decide +kernel
theorem dJ2_getChar_3b067_6 : decode cJ2_getChar_3b067 6 = .ok (.iload_n 1, 1) := by decide +kernel
theorem dJ2_getChar_3b067_7 : decode cJ2_getChar_3b067 7 = .ok (.ifCond .lt 11, 3) := by decide +kernel
theorem dJ2_getChar_3b067_10 : decode cJ2_getChar_3b067 10 = .ok (.iload_n 1, 1) := by decide +kernel
theorem dJ2_getChar_3b067_11 : decode cJ2_getChar_3b067 11 = .ok (.aload_n 0, 1) := by decide +kernel
theorem dJ2_getChar_3b067_12 : decode cJ2_getChar_3b067 12 = .ok (.invokestatic 48, 3) := by decide +kernel
theorem dJ2_getChar_3b067_15 : decode cJ2_getChar_3b067 15 = .ok (.if_icmp .lt 13, 3) := by decide +kernel
theorem dJ2_getChar_3b067_18 : decode cJ2_getChar_3b067 18 = .ok (.new 52, 3) := by decide +kernel
theorem dJ2_getChar_3b067_21 : decode cJ2_getChar_3b067 21 = .ok (.dup, 1) := by decide +kernel
theorem dJ2_getChar_3b067_22 : decode cJ2_getChar_3b067 22 = .ok (.ldc 54, 2) := by decide +kernel
theorem dJ2_getChar_3b067_24 : decode cJ2_getChar_3b067 24 = .ok (.invokespecial 56, 3) := by decide +kernel
theorem dJ2_getChar_3b067_27 : decode cJ2_getChar_3b067 27 = .ok (.athrow, 1) := by decide +kernel
theorem dJ2_getChar_3b067_28 : decode cJ2_getChar_3b067 28 = .ok (.iload_n 1, 1) := by decide +kernel
theorem dJ2_getChar_3b067_29 : decode cJ2_getChar_3b067 29 = .ok (.iconst 1, 1) := by decide +kernel
theorem dJ2_getChar_3b067_30 : decode cJ2_getChar_3b067 30 = .ok (.ishl, 1) := by decide +kernel
theorem dJ2_getChar_3b067_31 : decode cJ2_getChar_3b067 31 = .ok (.istore_n 1, 1) := by decide +kernel
theorem dJ2_getChar_3b067_32 : decode cJ2_getChar_3b067 32 = .ok (.aload_n 0, 1) := by decide +kernel
theorem dJ2_getChar_3b067_33 : decode cJ2_getChar_3b067 33 = .ok (.iload_n 1, 1) := by decide +kernel
theorem dJ2_getChar_3b067_34 : decode cJ2_getChar_3b067 34 = .ok (.iinc 1 1, 3) := by decide +kernel
theorem dJ2_getChar_3b067_37 : decode cJ2_getChar_3b067 37 = .ok (.baload, 1) := by decide +kernel
theorem dJ2_getChar_3b067_38 : decode cJ2_getChar_3b067 38 = .ok (.sipush 255, 3) := by decide +kernel
theorem dJ2_getChar_3b067_41 : decode cJ2_getChar_3b067 41 = .ok (.iand, 1) := by decide +kernel
theorem dJ2_getChar_3b067_42 : decode cJ2_getChar_3b067 42 = .ok (.getstatic 59, 3) := by decide +kernel
theorem dJ2_getChar_3b067_45 : decode cJ2_getChar_3b067 45 = .ok (.ishl, 1) := by decide +kernel
theorem dJ2_getChar_3b067_46 : decode cJ2_getChar_3b067 46 = .ok (.aload_n 0, 1) := by decide +kernel
theorem dJ2_getChar_3b067_47 : decode cJ2_getChar_3b067 47 = .ok (.iload_n 1, 1) := by decide +kernel
theorem dJ2_getChar_3b067_48 : decode cJ2_getChar_3b067 48 = .ok (.baload, 1) := by decide +kernel
theorem dJ2_getChar_3b067_49 : decode cJ2_getChar_3b067 49 = .ok (.sipush 255, 3) := by decide +kernel
theorem dJ2_getChar_3b067_52 : decode cJ2_getChar_3b067 52 = .ok (.iand, 1) := by decide +kernel
theorem dJ2_getChar_3b067_53 : decode cJ2_getChar_3b067 53 = .ok (.getstatic 63, 3) := by decide +kernel
theorem dJ2_getChar_3b067_56 : decode cJ2_getChar_3b067 56 = .ok (.ishl, 1) := by decide +kernel
theorem dJ2_getChar_3b067_57 : decode cJ2_getChar_3b067 57 = .ok (.ior, 1) := by decide +kernel
theorem dJ2_getChar_3b067_58 : decode cJ2_getChar_3b067 58 = .ok (.i2c, 1) := by decide +kernel
theorem dJ2_getChar_3b067_59 : decode cJ2_getChar_3b067 59 = .ok (.ireturn, 1) := by decide +kernel
theorem dJ2_length_9d52b_0 : decode cJ2_length_9d52b 0 = .ok (.aload_n 0, 1) := by decide +kernel
theorem dJ2_length_9d52b_1 : decode cJ2_length_9d52b 1 = .ok (.arraylength, 1) := by decide +kernel
theorem dJ2_length_9d52b_2 : decode cJ2_length_9d52b 2 = .ok (.iconst 1, 1) := by decide +kernel
theorem dJ2_length_9d52b_3 : decode cJ2_length_9d52b 3 = .ok (.ishr, 1) := by decide +kernel
theorem dJ2_length_9d52b_4 : decode cJ2_length_9d52b 4 = .ok (.ireturn, 1) := by decide +kernel
theorem dJ2_charAt_3b067_0 : decode cJ2_charAt_3b067 0 = .ok (.iload_n 1, 1) := by decide +kernel
theorem dJ2_charAt_3b067_1 : decode cJ2_charAt_3b067 1 = .ok (.aload_n 0, 1) := by decide +kernel
theorem dJ2_charAt_3b067_2 : decode cJ2_charAt_3b067 2 = .ok (.invokestatic 67, 3) := by decide +kernel
theorem dJ2_charAt_3b067_5 : decode cJ2_charAt_3b067 5 = .ok (.aload_n 0, 1) := by decide +kernel
theorem dJ2_charAt_3b067_6 : decode cJ2_charAt_3b067 6 = .ok (.iload_n 1, 1) := by decide +kernel
theorem dJ2_charAt_3b067_7 : decode cJ2_charAt_3b067 7 = .ok (.invokestatic 71, 3) := by decide +kernel
theorem dJ2_charAt_3b067_10 : decode cJ2_charAt_3b067 10 = .ok (.ireturn, 1) := by decide +kernel
theorem dJ2_checkIndex_2214a_0 : decode cJ2_checkIndex_2214a 0 = .ok (.iload_n 0, 1) := by decide +kernel
theorem dJ2_checkIndex_2214a_1 : decode cJ2_checkIndex_2214a 1 = .ok (.aload_n 1, 1) := by decide +kernel
theorem dJ2_checkIndex_2214a_2 : decode cJ2_checkIndex_2214a 2 = .ok (.invokestatic 48, 3) := by decide +kernel
theorem dJ2_checkIndex_2214a_5 : decode cJ2_checkIndex_2214a 5 = .ok (.invokestatic 414, 3) := by decide +kernel
theorem dJ2_checkIndex_2214a_8 : decode cJ2_checkIndex_2214a 8 = .ok (.return_, 1) := by decide +kernel
theorem dJ3_checkIndex_8e157_0 : decode cJ3_checkIndex_8e157 0 = .ok (.iload_n 0, 1) := by decide +kernel
theorem dJ3_checkIndex_8e157_1 : decode cJ3_checkIndex_8e157 1 = .ok (.ifCond .lt 8, 3) := by decide +kernel
theorem dJ3_checkIndex_8e157_4 : decode cJ3_checkIndex_8e157 4 = .ok (.iload_n 0, 1) := by decide +kernel
theorem dJ3_checkIndex_8e157_5 : decode cJ3_checkIndex_8e157 5 = .ok (.iload_n 1, 1) := by decide +kernel
theorem dJ3_checkIndex_8e157_6 : decode cJ3_checkIndex_8e157 6 = .ok (.if_icmp .lt 10, 3) := by decide +kernel
theorem dJ3_checkIndex_8e157_9 : decode cJ3_checkIndex_8e157 9 = .ok (.aload_n 2, 1) := by decide +kernel
theorem dJ3_checkIndex_8e157_10 : decode cJ3_checkIndex_8e157 10 = .ok (.iload_n 0, 1) := by decide +kernel
theorem dJ3_checkIndex_8e157_11 : decode cJ3_checkIndex_8e157 11 = .ok (.iload_n 1, 1) := by decide +kernel
theorem dJ3_checkIndex_8e157_12 : decode cJ3_checkIndex_8e157 12 = .ok (.invokestatic 95, 3) := by decide +kernel
theorem dJ3_checkIndex_8e157_15 : decode cJ3_checkIndex_8e157 15 = .ok (.athrow, 1) := by decide +kernel
theorem dJ3_checkIndex_8e157_16 : decode cJ3_checkIndex_8e157 16 = .ok (.iload_n 0, 1) := by decide +kernel
theorem dJ3_checkIndex_8e157_17 : decode cJ3_checkIndex_8e157 17 = .ok (.ireturn, 1) := by decide +kernel
theorem dL_cell_0 : decode cL_cell 0 = .ok (.iload_n 1, 1) := by decide +kernel
theorem dL_cell_1 : decode cL_cell 1 = .ok (.aload_n 0, 1) := by decide +kernel
theorem dL_cell_2 : decode cL_cell 2 = .ok (.arraylength, 1) := by decide +kernel
theorem dL_cell_3 : decode cL_cell 3 = .ok (.if_icmp .ge 9, 3) := by decide +kernel
theorem dL_cell_6 : decode cL_cell 6 = .ok (.aload_n 0, 1) := by decide +kernel
theorem dL_cell_7 : decode cL_cell 7 = .ok (.iload_n 1, 1) := by decide +kernel
theorem dL_cell_8 : decode cL_cell 8 = .ok (.iaload, 1) := by decide +kernel
theorem dL_cell_9 : decode cL_cell 9 = .ok (.goto 11, 3) := by decide +kernel
theorem dL_cell_12 : decode cL_cell 12 = .ok (.ldc 7, 2) := by decide +kernel
theorem dL_cell_14 : decode cL_cell 14 = .ok (.iload_n 1, 1) := by decide +kernel
theorem dL_cell_15 : decode cL_cell 15 = .ok (.sipush 1087, 3) := by decide +kernel
theorem dL_cell_18 : decode cL_cell 18 = .ok (.iadd, 1) := by decide +kernel
theorem dL_cell_19 : decode cL_cell 19 = .ok (.imul, 1) := by decide +kernel
theorem dL_cell_20 : decode cL_cell 20 = .ok (.ireturn, 1) := by decide +kernel
theorem dL_up_0 : decode cL_up 0 = .ok (.iload_n 0, 1) := by decide +kernel
theorem dL_up_1 : decode cL_up 1 = .ok (.ldc 8, 2) := by decide +kernel
theorem dL_up_3 : decode cL_up 3 = .ok (.iand, 1) := by decide +kernel
theorem dL_up_4 : decode cL_up 4 = .ok (.iload_n 1, 1) := by decide +kernel
theorem dL_up_5 : decode cL_up 5 = .ok (.irem, 1) := by decide +kernel
theorem dL_up_6 : decode cL_up 6 = .ok (.ireturn, 1) := by decide +kernel
theorem dL_there_0 : decode cL_there 0 = .ok (.sipush 201, 3) := by decide +kernel
theorem dL_there_3 : decode cL_there 3 = .ok (.iload_n 0, 1) := by decide +kernel
theorem dL_there_4 : decode cL_there 4 = .ok (.isub, 1) := by decide +kernel
theorem dL_there_5 : decode cL_there 5 = .ok (.i2c, 1) := by decide +kernel
theorem dL_there_6 : decode cL_there 6 = .ok (.ireturn, 1) := by decide +kernel
theorem dL_types_0 : decode cL_types 0 = .ok (.iconst 1, 1) := by decide +kernel
theorem dL_types_1 : decode cL_types 1 = .ok (.istore 4, 2) := by decide +kernel
theorem dL_types_3 : decode cL_types 3 = .ok (.bipush 56, 2) := by decide +kernel
theorem dL_types_5 : decode cL_types 5 = .ok (.istore 5, 2) := by decide +kernel
theorem dL_types_7 : decode cL_types 7 = .ok (.iload 5, 2) := by decide +kernel
theorem dL_types_9 : decode cL_types 9 = .ok (.ifCond .lt 54, 3) := by decide +kernel
theorem dL_types_12 : decode cL_types 12 = .ok (.lload_n 2, 1) := by decide +kernel
theorem dL_types_13 : decode cL_types 13 = .ok (.iload 5, 2) := by decide +kernel
theorem dL_types_15 : decode cL_types 15 = .ok (.lshr, 1) := by decide +kernel
theorem dL_types_16 : decode cL_types 16 = .ok (.ldc2_w 9, 3) := by decide +kernel
theorem dL_types_19 : decode cL_types 19 = .ok (.land, 1) := by decide +kernel
theorem dL_types_20 : decode cL_types 20 = .ok (.l2i, 1) := by decide +kernel
theorem dL_types_21 : decode cL_types 21 = .ok (.istore 6, 2) := by decide +kernel
theorem dL_types_23 : decode cL_types 23 = .ok (.iload 4, 2) := by decide +kernel
theorem dL_types_25 : decode cL_types 25 = .ok (.ifCond .eq 29, 3) := by decide +kernel
theorem dL_types_28 : decode cL_types 28 = .ok (.iload 6, 2) := by decide +kernel
theorem dL_types_30 : decode cL_types 30 = .ok (.ifCond .eq 20, 3) := by decide +kernel
theorem dL_types_33 : decode cL_types 33 = .ok (.aload_n 0, 1) := by decide +kernel
theorem dL_types_34 : decode cL_types 34 = .ok (.iload 6, 2) := by decide +kernel
theorem dL_types_36 : decode cL_types 36 = .ok (.i2c, 1) := by decide +kernel
theorem dL_types_37 : decode cL_types 37 = .ok (.invokevirtual 11, 3) := by decide +kernel
theorem dL_types_40 : decode cL_types 40 = .ok (.aload_n 1, 1) := by decide +kernel
theorem dL_types_41 : decode cL_types 41 = .ok (.iload 6, 2) := by decide +kernel
theorem dL_types_43 : decode cL_types 43 = .ok (.i2c, 1) := by decide +kernel
theorem dL_types_44 : decode cL_types 44 = .ok (.invokevirtual 11, 3) := by decide +kernel
theorem dL_types_47 : decode cL_types 47 = .ok (.if_icmp .ne 7, 3) := by decide +kernel
theorem dL_types_50 : decode cL_types 50 = .ok (.iconst 1, 1) := by decide +kernel
theorem dL_types_51 : decode cL_types 51 = .ok (.goto 4, 3) := by decide +kernel
theorem dL_types_54 : decode cL_types 54 = .ok (.iconst 0, 1) := by decide +kernel
theorem dL_types_55 : decode cL_types 55 = .ok (.istore 4, 2) := by decide +kernel
theorem dL_types_57 : decode cL_types 57 = .ok (.iinc 5 (-8), 3) := by decide +kernel
theorem dL_types_60 : decode cL_types 60 = .ok (.goto (-53), 3) := by decide +kernel
theorem dL_types_63 : decode cL_types 63 = .ok (.iload 4, 2) := by decide +kernel
theorem dL_types_65 : decode cL_types 65 = .ok (.ireturn, 1) := by decide +kernel
theorem dL_isPattern_0 : decode cL_isPattern 0 = .ok (.iconst 2, 1) := by decide +kernel
theorem dL_isPattern_1 : decode cL_isPattern 1 = .ok (.iload_n 2, 1) := by decide +kernel
theorem dL_isPattern_2 : decode cL_isPattern 2 = .ok (.iconst 3, 1) := by decide +kernel
theorem dL_isPattern_3 : decode cL_isPattern 3 = .ok (.invokestatic 17, 3) := by decide +kernel
theorem dL_isPattern_6 : decode cL_isPattern 6 = .ok (.iadd, 1) := by decide +kernel
theorem dL_isPattern_7 : decode cL_isPattern 7 = .ok (.istore 4, 2) := by decide +kernel
theorem dL_isPattern_9 : decode cL_isPattern 9 = .ok (.iload_n 2, 1) := by decide +kernel
theorem dL_isPattern_10 : decode cL_isPattern 10 = .ok (.iconst 2, 1) := by decide +kernel
theorem dL_isPattern_11 : decode cL_isPattern 11 = .ok (.ishr, 1) := by decide +kernel
theorem dL_isPattern_12 : decode cL_isPattern 12 = .ok (.iconst 5, 1) := by decide +kernel
theorem dL_isPattern_13 : decode cL_isPattern 13 = .ok (.invokestatic 17, 3) := by decide +kernel
theorem dL_isPattern_16 : decode cL_isPattern 16 = .ok (.istore 5, 2) := by decide +kernel
theorem dL_isPattern_18 : decode cL_isPattern 18 = .ok (.aload_n 0, 1) := by decide +kernel
theorem dL_isPattern_19 : decode cL_isPattern 19 = .ok (.invokevirtual 23, 3) := by decide +kernel
theorem dL_isPattern_22 : decode cL_isPattern 22 = .ok (.aload_n 1, 1) := by decide +kernel
theorem dL_isPattern_23 : decode cL_isPattern 23 = .ok (.invokevirtual 23, 3) := by decide +kernel
theorem dL_isPattern_26 : decode cL_isPattern 26 = .ok (.if_icmp .ne 104, 3) := by decide +kernel
theorem dL_isPattern_29 : decode cL_isPattern 29 = .ok (.aload_n 0, 1) := by decide +kernel
theorem dL_isPattern_30 : decode cL_isPattern 30 = .ok (.aload_n 1, 1) := by decide +kernel
theorem dL_isPattern_31 : decode cL_isPattern 31 = .ok (.ldc2_w 27, 3) := by decide +kernel
theorem dL_isPattern_34 : decode cL_isPattern 34 = .ok (.invokestatic 29, 3) := by decide +kernel
theorem dL_isPattern_37 : decode cL_isPattern 37 = .ok (.ifCond .eq 93, 3) := by decide +kernel
theorem dL_isPattern_40 : decode cL_isPattern 40 = .ok (.aload_n 0, 1) := by decide +kernel
theorem dL_isPattern_41 : decode cL_isPattern 41 = .ok (.aload_n 1, 1) := by decide +kernel
theorem dL_isPattern_42 : decode cL_isPattern 42 = .ok (.bipush 49, 2) := by decide +kernel
theorem dL_isPattern_44 : decode cL_isPattern 44 = .ok (.iload_n 2, 1) := by decide +kernel
theorem dL_isPattern_45 : decode cL_isPattern 45 = .ok (.iconst 4, 1) := by decide +kernel
theorem dL_isPattern_46 : decode cL_isPattern 46 = .ok (.ishr, 1) := by decide +kernel
theorem dL_isPattern_47 : decode cL_isPattern 47 = .ok (.bipush 9, 2) := by decide +kernel
theorem dL_isPattern_49 : decode cL_isPattern 49 = .ok (.invokestatic 17, 3) := by decide +kernel
theorem dL_isPattern_52 : decode cL_isPattern 52 = .ok (.iadd, 1) := by decide +kernel
theorem dL_isPattern_53 : decode cL_isPattern 53 = .ok (.i2l, 1) := by decide +kernel
theorem dL_isPattern_54 : decode cL_isPattern 54 = .ok (.invokestatic 29, 3) := by decide +kernel
theorem dL_isPattern_57 : decode cL_isPattern 57 = .ok (.ifCond .eq 73, 3) := by decide +kernel
theorem dL_isPattern_60 : decode cL_isPattern 60 = .ok (.aload_n 0, 1) := by decide +kernel
theorem dL_isPattern_61 : decode cL_isPattern 61 = .ok (.aload_n 1, 1) := by decide +kernel
theorem dL_isPattern_62 : decode cL_isPattern 62 = .ok (.bipush 48, 2) := by decide +kernel
theorem dL_isPattern_64 : decode cL_isPattern 64 = .ok (.iload_n 2, 1) := by decide +kernel
theorem dL_isPattern_65 : decode cL_isPattern 65 = .ok (.bipush 6, 2) := by decide +kernel
theorem dL_isPattern_67 : decode cL_isPattern 67 = .ok (.ishr, 1) := by decide +kernel
theorem dL_isPattern_68 : decode cL_isPattern 68 = .ok (.bipush 10, 2) := by decide +kernel
theorem dL_isPattern_70 : decode cL_isPattern 70 = .ok (.invokestatic 17, 3) := by decide +kernel
theorem dL_isPattern_73 : decode cL_isPattern 73 = .ok (.iadd, 1) := by decide +kernel
theorem dL_isPattern_74 : decode cL_isPattern 74 = .ok (.i2l, 1) := by decide +kernel
theorem dL_isPattern_75 : decode cL_isPattern 75 = .ok (.invokestatic 29, 3) := by decide +kernel
theorem dL_isPattern_78 : decode cL_isPattern 78 = .ok (.ifCond .eq 52, 3) := by decide +kernel
theorem dL_isPattern_81 : decode cL_isPattern 81 = .ok (.aload_n 0, 1) := by decide +kernel
theorem dL_isPattern_82 : decode cL_isPattern 82 = .ok (.aload_n 1, 1) := by decide +kernel
theorem dL_isPattern_83 : decode cL_isPattern 83 = .ok (.ldc2_w 33, 3) := by decide +kernel
theorem dL_isPattern_86 : decode cL_isPattern 86 = .ok (.invokestatic 29, 3) := by decide +kernel
theorem dL_isPattern_89 : decode cL_isPattern 89 = .ok (.ifCond .eq 41, 3) := by decide +kernel
theorem dL_isPattern_92 : decode cL_isPattern 92 = .ok (.iload 5, 2) := by decide +kernel
theorem dL_isPattern_94 : decode cL_isPattern 94 = .ok (.iconst 2, 1) := by decide +kernel
theorem dL_isPattern_95 : decode cL_isPattern 95 = .ok (.if_icmp .gt 31, 3) := by decide +kernel
theorem dL_isPattern_98 : decode cL_isPattern 98 = .ok (.iload 5, 2) := by decide +kernel
theorem dL_isPattern_100 : decode cL_isPattern 100 = .ok (.ifCond .eq 26, 3) := by decide +kernel
theorem dL_isPattern_103 : decode cL_isPattern 103 = .ok (.aload_n 0, 1) := by decide +kernel
theorem dL_isPattern_104 : decode cL_isPattern 104 = .ok (.aload_n 1, 1) := by decide +kernel
theorem dL_isPattern_105 : decode cL_isPattern 105 = .ok (.iload 5, 2) := by decide +kernel
theorem dL_isPattern_107 : decode cL_isPattern 107 = .ok (.iconst 1, 1) := by decide +kernel
theorem dL_isPattern_108 : decode cL_isPattern 108 = .ok (.if_icmp .ne 9, 3) := by decide +kernel
theorem dL_isPattern_111 : decode cL_isPattern 111 = .ok (.ldc2_w 35, 3) := by decide +kernel
theorem dL_isPattern_114 : decode cL_isPattern 114 = .ok (.goto 6, 3) := by decide +kernel
theorem dL_isPattern_117 : decode cL_isPattern 117 = .ok (.ldc2_w 37, 3) := by decide +kernel
theorem dL_isPattern_120 : decode cL_isPattern 120 = .ok (.invokestatic 29, 3) := by decide +kernel
theorem dL_isPattern_123 : decode cL_isPattern 123 = .ok (.ifCond .eq 7, 3) := by decide +kernel
theorem dL_isPattern_126 : decode cL_isPattern 126 = .ok (.iconst 1, 1) := by decide +kernel
theorem dL_isPattern_127 : decode cL_isPattern 127 = .ok (.goto 4, 3) := by decide +kernel
theorem dL_isPattern_130 : decode cL_isPattern 130 = .ok (.iconst 0, 1) := by decide +kernel
theorem dL_isPattern_131 : decode cL_isPattern 131 = .ok (.istore 6, 2) := by decide +kernel
theorem dL_isPattern_133 : decode cL_isPattern 133 = .ok (.iconst 0, 1) := by decide +kernel
theorem dL_isPattern_134 : decode cL_isPattern 134 = .ok (.istore 7, 2) := by decide +kernel
theorem dL_isPattern_136 : decode cL_isPattern 136 = .ok (.iload 7, 2) := by decide +kernel
theorem dL_isPattern_138 : decode cL_isPattern 138 = .ok (.iload 4, 2) := by decide +kernel
theorem dL_isPattern_140 : decode cL_isPattern 140 = .ok (.if_icmp .ge 156, 3) := by decide +kernel
theorem dL_isPattern_143 : decode cL_isPattern 143 = .ok (.bipush 97, 2) := by decide +kernel
theorem dL_isPattern_145 : decode cL_isPattern 145 = .ok (.iload_n 3, 1) := by decide +kernel
theorem dL_isPattern_146 : decode cL_isPattern 146 = .ok (.iconst 3, 1) := by decide +kernel
theorem dL_isPattern_147 : decode cL_isPattern 147 = .ok (.iload 7, 2) := by decide +kernel
theorem dL_isPattern_149 : decode cL_isPattern 149 = .ok (.imul, 1) := by decide +kernel
theorem dL_isPattern_150 : decode cL_isPattern 150 = .ok (.ishr, 1) := by decide +kernel
theorem dL_isPattern_151 : decode cL_isPattern 151 = .ok (.iconst 3, 1) := by decide +kernel
theorem dL_isPattern_152 : decode cL_isPattern 152 = .ok (.invokestatic 17, 3) := by decide +kernel
theorem dL_isPattern_155 : decode cL_isPattern 155 = .ok (.iadd, 1) := by decide +kernel
theorem dL_isPattern_156 : decode cL_isPattern 156 = .ok (.istore 8, 2) := by decide +kernel
theorem dL_isPattern_158 : decode cL_isPattern 158 = .ok (.iload 7, 2) := by decide +kernel
theorem dL_isPattern_160 : decode cL_isPattern 160 = .ok (.ifCond .le 34, 3) := by decide +kernel
theorem dL_isPattern_163 : decode cL_isPattern 163 = .ok (.iload_n 3, 1) := by decide +kernel
theorem dL_isPattern_164 : decode cL_isPattern 164 = .ok (.bipush 7, 2) := by decide +kernel
theorem dL_isPattern_166 : decode cL_isPattern 166 = .ok (.iload 7, 2) := by decide +kernel
theorem dL_isPattern_168 : decode cL_isPattern 168 = .ok (.iadd, 1) := by decide +kernel
theorem dL_isPattern_169 : decode cL_isPattern 169 = .ok (.ishr, 1) := by decide +kernel
theorem dL_isPattern_170 : decode cL_isPattern 170 = .ok (.iconst 3, 1) := by decide +kernel
theorem dL_isPattern_171 : decode cL_isPattern 171 = .ok (.invokestatic 17, 3) := by decide +kernel
theorem dL_isPattern_174 : decode cL_isPattern 174 = .ok (.ifCond .ne 20, 3) := by decide +kernel
theorem dL_isPattern_177 : decode cL_isPattern 177 = .ok (.bipush 97, 2) := by decide +kernel
theorem dL_isPattern_179 : decode cL_isPattern 179 = .ok (.iload_n 3, 1) := by decide +kernel
theorem dL_isPattern_180 : decode cL_isPattern 180 = .ok (.bipush 9, 2) := by decide +kernel
theorem dL_isPattern_182 : decode cL_isPattern 182 = .ok (.iload 7, 2) := by decide +kernel
theorem dL_isPattern_184 : decode cL_isPattern 184 = .ok (.iadd, 1) := by decide +kernel
theorem dL_isPattern_185 : decode cL_isPattern 185 = .ok (.ishr, 1) := by decide +kernel
theorem dL_isPattern_186 : decode cL_isPattern 186 = .ok (.iconst 5, 1) := by decide +kernel
theorem dL_isPattern_187 : decode cL_isPattern 187 = .ok (.invokestatic 17, 3) := by decide +kernel
theorem dL_isPattern_190 : decode cL_isPattern 190 = .ok (.iadd, 1) := by decide +kernel
theorem dL_isPattern_191 : decode cL_isPattern 191 = .ok (.goto 4, 3) := by decide +kernel
theorem dL_isPattern_194 : decode cL_isPattern 194 = .ok (.iconst 0, 1) := by decide +kernel
theorem dL_isPattern_195 : decode cL_isPattern 195 = .ok (.istore 9, 2) := by decide +kernel
theorem dL_isPattern_197 : decode cL_isPattern 197 = .ok (.iload 6, 2) := by decide +kernel
theorem dL_isPattern_199 : decode cL_isPattern 199 = .ok (.ifCond .eq 88, 3) := by decide +kernel
theorem dL_isPattern_202 : decode cL_isPattern 202 = .ok (.iload 7, 2) := by decide +kernel
theorem dL_isPattern_204 : decode cL_isPattern 204 = .ok (.ifCond .eq 14, 3) := by decide +kernel
theorem dL_isPattern_207 : decode cL_isPattern 207 = .ok (.aload_n 0, 1) := by decide +kernel
theorem dL_isPattern_208 : decode cL_isPattern 208 = .ok (.aload_n 1, 1) := by decide +kernel
theorem dL_isPattern_209 : decode cL_isPattern 209 = .ok (.ldc2_w 39, 3) := by decide +kernel
theorem dL_isPattern_212 : decode cL_isPattern 212 = .ok (.invokestatic 29, 3) := by decide +kernel
theorem dL_isPattern_215 : decode cL_isPattern 215 = .ok (.ifCond .eq 72, 3) := by decide +kernel
theorem dL_isPattern_218 : decode cL_isPattern 218 = .ok (.iload 9, 2) := by decide +kernel
theorem dL_isPattern_220 : decode cL_isPattern 220 = .ok (.ifCond .eq 44, 3) := by decide +kernel
theorem dL_isPattern_223 : decode cL_isPattern 223 = .ok (.aload_n 0, 1) := by decide +kernel
theorem dL_isPattern_224 : decode cL_isPattern 224 = .ok (.aload_n 1, 1) := by decide +kernel
theorem dL_isPattern_225 : decode cL_isPattern 225 = .ok (.ldc2_w 41, 3) := by decide +kernel
theorem dL_isPattern_228 : decode cL_isPattern 228 = .ok (.invokestatic 29, 3) := by decide +kernel
theorem dL_isPattern_231 : decode cL_isPattern 231 = .ok (.ifCond .eq 56, 3) := by decide +kernel
theorem dL_isPattern_234 : decode cL_isPattern 234 = .ok (.aload_n 0, 1) := by decide +kernel
theorem dL_isPattern_235 : decode cL_isPattern 235 = .ok (.iload 9, 2) := by decide +kernel
theorem dL_isPattern_237 : decode cL_isPattern 237 = .ok (.i2c, 1) := by decide +kernel
theorem dL_isPattern_238 : decode cL_isPattern 238 = .ok (.invokevirtual 11, 3) := by decide +kernel
theorem dL_isPattern_241 : decode cL_isPattern 241 = .ok (.aload_n 1, 1) := by decide +kernel
theorem dL_isPattern_242 : decode cL_isPattern 242 = .ok (.iload 9, 2) := by decide +kernel
theorem dL_isPattern_244 : decode cL_isPattern 244 = .ok (.invokestatic 43, 3) := by decide +kernel
theorem dL_isPattern_247 : decode cL_isPattern 247 = .ok (.invokevirtual 11, 3) := by decide +kernel
theorem dL_isPattern_250 : decode cL_isPattern 250 = .ok (.if_icmp .ne 37, 3) := by decide +kernel
theorem dL_isPattern_253 : decode cL_isPattern 253 = .ok (.aload_n 0, 1) := by decide +kernel
theorem dL_isPattern_254 : decode cL_isPattern 254 = .ok (.aload_n 1, 1) := by decide +kernel
theorem dL_isPattern_255 : decode cL_isPattern 255 = .ok (.ldc2_w 39, 3) := by decide +kernel
theorem dL_isPattern_258 : decode cL_isPattern 258 = .ok (.invokestatic 29, 3) := by decide +kernel
theorem dL_isPattern_261 : decode cL_isPattern 261 = .ok (.ifCond .eq 26, 3) := by decide +kernel
theorem dL_isPattern_264 : decode cL_isPattern 264 = .ok (.aload_n 0, 1) := by decide +kernel
theorem dL_isPattern_265 : decode cL_isPattern 265 = .ok (.iload 8, 2) := by decide +kernel
theorem dL_isPattern_267 : decode cL_isPattern 267 = .ok (.i2c, 1) := by decide +kernel
theorem dL_isPattern_268 : decode cL_isPattern 268 = .ok (.invokevirtual 11, 3) := by decide +kernel
theorem dL_isPattern_271 : decode cL_isPattern 271 = .ok (.aload_n 1, 1) := by decide +kernel
theorem dL_isPattern_272 : decode cL_isPattern 272 = .ok (.iload 8, 2) := by decide +kernel
theorem dL_isPattern_274 : decode cL_isPattern 274 = .ok (.invokestatic 43, 3) := by decide +kernel
theorem dL_isPattern_277 : decode cL_isPattern 277 = .ok (.invokevirtual 11, 3) := by decide +kernel
theorem dL_isPattern_280 : decode cL_isPattern 280 = .ok (.if_icmp .ne 7, 3) := by decide +kernel
theorem dL_isPattern_283 : decode cL_isPattern 283 = .ok (.iconst 1, 1) := by decide +kernel
theorem dL_isPattern_284 : decode cL_isPattern 284 = .ok (.goto 4, 3) := by decide +kernel
theorem dL_isPattern_287 : decode cL_isPattern 287 = .ok (.iconst 0, 1) := by decide +kernel
theorem dL_isPattern_288 : decode cL_isPattern 288 = .ok (.istore 6, 2) := by decide +kernel
theorem dL_isPattern_290 : decode cL_isPattern 290 = .ok (.iinc 7 1, 3) := by decide +kernel
theorem dL_isPattern_293 : decode cL_isPattern 293 = .ok (.goto (-157), 3) := by decide +kernel
theorem dL_isPattern_296 : decode cL_isPattern 296 = .ok (.aload_n 0, 1) := by decide +kernel
theorem dL_isPattern_297 : decode cL_isPattern 297 = .ok (.iconst 1, 1) := by decide +kernel
theorem dL_isPattern_298 : decode cL_isPattern 298 = .ok (.invokevirtual 47, 3) := by decide +kernel
theorem dL_isPattern_301 : decode cL_isPattern 301 = .ok (.istore 7, 2) := by decide +kernel
theorem dL_isPattern_303 : decode cL_isPattern 303 = .ok (.aload_n 0, 1) := by decide +kernel
theorem dL_isPattern_304 : decode cL_isPattern 304 = .ok (.invokevirtual 51, 3) := by decide +kernel
theorem dL_isPattern_307 : decode cL_isPattern 307 = .ok (.istore 8, 2) := by decide +kernel
theorem dL_isPattern_309 : decode cL_isPattern 309 = .ok (.iload 6, 2) := by decide +kernel
theorem dL_isPattern_311 : decode cL_isPattern 311 = .ok (.ifCond .eq 52, 3) := by decide +kernel
theorem dL_isPattern_314 : decode cL_isPattern 314 = .ok (.iload 8, 2) := by decide +kernel
theorem dL_isPattern_316 : decode cL_isPattern 316 = .ok (.aload_n 1, 1) := by decide +kernel
theorem dL_isPattern_317 : decode cL_isPattern 317 = .ok (.invokevirtual 51, 3) := by decide +kernel
theorem dL_isPattern_320 : decode cL_isPattern 320 = .ok (.if_icmp .ne 43, 3) := by decide +kernel
theorem dL_isPattern_323 : decode cL_isPattern 323 = .ok (.iload 8, 2) := by decide +kernel
theorem dL_isPattern_325 : decode cL_isPattern 325 = .ok (.iload 7, 2) := by decide +kernel
theorem dL_isPattern_327 : decode cL_isPattern 327 = .ok (.iconst 4, 1) := by decide +kernel
theorem dL_isPattern_328 : decode cL_isPattern 328 = .ok (.if_icmp .ne 8, 3) := by decide +kernel
theorem dL_isPattern_331 : decode cL_isPattern 331 = .ok (.bipush (-3), 2) := by decide +kernel
theorem dL_isPattern_333 : decode cL_isPattern 333 = .ok (.goto 5, 3) := by decide +kernel
theorem dL_isPattern_336 : decode cL_isPattern 336 = .ok (.iload 7, 2) := by decide +kernel
theorem dL_isPattern_338 : decode cL_isPattern 338 = .ok (.if_icmp .ne 25, 3) := by decide +kernel
theorem dL_isPattern_341 : decode cL_isPattern 341 = .ok (.iload 7, 2) := by decide +kernel
theorem dL_isPattern_343 : decode cL_isPattern 343 = .ok (.iconst 4, 1) := by decide +kernel
theorem dL_isPattern_344 : decode cL_isPattern 344 = .ok (.if_icmp .eq 15, 3) := by decide +kernel
theorem dL_isPattern_347 : decode cL_isPattern 347 = .ok (.aload_n 0, 1) := by decide +kernel
theorem dL_isPattern_348 : decode cL_isPattern 348 = .ok (.iload 7, 2) := by decide +kernel
theorem dL_isPattern_350 : decode cL_isPattern 350 = .ok (.iconst 3, 1) := by decide +kernel
theorem dL_isPattern_351 : decode cL_isPattern 351 = .ok (.invokevirtual 54, 3) := by decide +kernel
theorem dL_isPattern_354 : decode cL_isPattern 354 = .ok (.iload 4, 2) := by decide +kernel
theorem dL_isPattern_356 : decode cL_isPattern 356 = .ok (.if_icmp .ne 7, 3) := by decide +kernel
theorem dL_isPattern_359 : decode cL_isPattern 359 = .ok (.iconst 1, 1) := by decide +kernel
theorem dL_isPattern_360 : decode cL_isPattern 360 = .ok (.goto 4, 3) := by decide +kernel
theorem dL_isPattern_363 : decode cL_isPattern 363 = .ok (.iconst 0, 1) := by decide +kernel
theorem dL_isPattern_364 : decode cL_isPattern 364 = .ok (.ireturn, 1) := by decide +kernel
theorem dL_isStep_0 : decode cL_isStep 0 = .ok (.iload_n 2, 1) := by decide +kernel
theorem dL_isStep_1 : decode cL_isStep 1 = .ok (.iconst 4, 1) := by decide +kernel
theorem dL_isStep_2 : decode cL_isStep 2 = .ok (.ishr, 1) := by decide +kernel
theorem dL_isStep_3 : decode cL_isStep 3 = .ok (.istore 4, 2) := by decide +kernel
theorem dL_isStep_5 : decode cL_isStep 5 = .ok (.aload_n 0, 1) := by decide +kernel
theorem dL_isStep_6 : decode cL_isStep 6 = .ok (.iconst 0, 1) := by decide +kernel
theorem dL_isStep_7 : decode cL_isStep 7 = .ok (.invokevirtual 47, 3) := by decide +kernel
theorem dL_isStep_10 : decode cL_isStep 10 = .ok (.istore 5, 2) := by decide +kernel
theorem dL_isStep_12 : decode cL_isStep 12 = .ok (.aload_n 0, 1) := by decide +kernel
theorem dL_isStep_13 : decode cL_isStep 13 = .ok (.iconst 3, 1) := by decide +kernel
theorem dL_isStep_14 : decode cL_isStep 14 = .ok (.invokevirtual 47, 3) := by decide +kernel
theorem dL_isStep_17 : decode cL_isStep 17 = .ok (.istore 6, 2) := by decide +kernel
theorem dL_isStep_19 : decode cL_isStep 19 = .ok (.aload_n 0, 1) := by decide +kernel
theorem dL_isStep_20 : decode cL_isStep 20 = .ok (.iconst 5, 1) := by decide +kernel
theorem dL_isStep_21 : decode cL_isStep 21 = .ok (.invokevirtual 47, 3) := by decide +kernel
theorem dL_isStep_24 : decode cL_isStep 24 = .ok (.istore 7, 2) := by decide +kernel
theorem dL_isStep_26 : decode cL_isStep 26 = .ok (.iload_n 2, 1) := by decide +kernel
theorem dL_isStep_27 : decode cL_isStep 27 = .ok (.bipush 15, 2) := by decide +kernel
theorem dL_isStep_29 : decode cL_isStep 29 = .ok (.invokestatic 17, 3) := by decide +kernel
theorem dL_isStep_32 : decode cL_isStep 32 = .ok (.tableswitch 654 0 13 #[72, 72, 72, 72, 72, 72, 72, 289, 289, 289, 298, 364, 506, 591], 72) := by decide +kernel
theorem dL_isStep_104 : decode cL_isStep 104 = .ok (.bipush 97, 2) := by decide +kernel
theorem dL_isStep_106 : decode cL_isStep 106 = .ok (.iload 4, 2) := by decide +kernel
theorem dL_isStep_108 : decode cL_isStep 108 = .ok (.iconst 4, 1) := by decide +kernel
theorem dL_isStep_109 : decode cL_isStep 109 = .ok (.invokestatic 17, 3) := by decide +kernel
theorem dL_isStep_112 : decode cL_isStep 112 = .ok (.iadd, 1) := by decide +kernel
theorem dL_isStep_113 : decode cL_isStep 113 = .ok (.istore 8, 2) := by decide +kernel
theorem dL_isStep_115 : decode cL_isStep 115 = .ok (.iload 4, 2) := by decide +kernel
theorem dL_isStep_117 : decode cL_isStep 117 = .ok (.iconst 3, 1) := by decide +kernel
theorem dL_isStep_118 : decode cL_isStep 118 = .ok (.ishr, 1) := by decide +kernel
theorem dL_isStep_119 : decode cL_isStep 119 = .ok (.iload 4, 2) := by decide +kernel
theorem dL_isStep_121 : decode cL_isStep 121 = .ok (.bipush 6, 2) := by decide +kernel
theorem dL_isStep_123 : decode cL_isStep 123 = .ok (.ishr, 1) := by decide +kernel
theorem dL_isStep_124 : decode cL_isStep 124 = .ok (.iconst 4, 1) := by decide +kernel
theorem dL_isStep_125 : decode cL_isStep 125 = .ok (.invokestatic 17, 3) := by decide +kernel
theorem dL_isStep_128 : decode cL_isStep 128 = .ok (.ifCond .ne 8, 3) := by decide +kernel
theorem dL_isStep_131 : decode cL_isStep 131 = .ok (.bipush 50, 2) := by decide +kernel
theorem dL_isStep_133 : decode cL_isStep 133 = .ok (.goto 5, 3) := by decide +kernel
theorem dL_isStep_136 : decode cL_isStep 136 = .ok (.bipush 6, 2) := by decide +kernel
theorem dL_isStep_138 : decode cL_isStep 138 = .ok (.invokestatic 17, 3) := by decide +kernel
theorem dL_isStep_141 : decode cL_isStep 141 = .ok (.istore 9, 2) := by decide +kernel
theorem dL_isStep_143 : decode cL_isStep 143 = .ok (.iload 6, 2) := by decide +kernel
theorem dL_isStep_145 : decode cL_isStep 145 = .ok (.bipush 25, 2) := by decide +kernel
theorem dL_isStep_147 : decode cL_isStep 147 = .ok (.isub, 1) := by decide +kernel
theorem dL_isStep_148 : decode cL_isStep 148 = .ok (.iload_n 3, 1) := by decide +kernel
theorem dL_isStep_149 : decode cL_isStep 149 = .ok (.bipush 42, 2) := by decide +kernel
theorem dL_isStep_151 : decode cL_isStep 151 = .ok (.invokestatic 17, 3) := by decide +kernel
theorem dL_isStep_154 : decode cL_isStep 154 = .ok (.iadd, 1) := by decide +kernel
theorem dL_isStep_155 : decode cL_isStep 155 = .ok (.istore 10, 2) := by decide +kernel
theorem dL_isStep_157 : decode cL_isStep 157 = .ok (.iload 10, 2) := by decide +kernel
theorem dL_isStep_159 : decode cL_isStep 159 = .ok (.ifCond .ge 9, 3) := by decide +kernel
theorem dL_isStep_162 : decode cL_isStep 162 = .ok (.iload 10, 2) := by decide +kernel
theorem dL_isStep_164 : decode cL_isStep 164 = .ok (.ineg, 1) := by decide +kernel
theorem dL_isStep_165 : decode cL_isStep 165 = .ok (.goto 5, 3) := by decide +kernel
theorem dL_isStep_168 : decode cL_isStep 168 = .ok (.iload 10, 2) := by decide +kernel
theorem dL_isStep_170 : decode cL_isStep 170 = .ok (.istore 10, 2) := by decide +kernel
theorem dL_isStep_172 : decode cL_isStep 172 = .ok (.aload_n 0, 1) := by decide +kernel
theorem dL_isStep_173 : decode cL_isStep 173 = .ok (.iload 8, 2) := by decide +kernel
theorem dL_isStep_175 : decode cL_isStep 175 = .ok (.i2c, 1) := by decide +kernel
theorem dL_isStep_176 : decode cL_isStep 176 = .ok (.iload 9, 2) := by decide +kernel
theorem dL_isStep_178 : decode cL_isStep 178 = .ok (.iload 10, 2) := by decide +kernel
theorem dL_isStep_180 : decode cL_isStep 180 = .ok (.invokevirtual 57, 3) := by decide +kernel
theorem dL_isStep_183 : decode cL_isStep 183 = .ok (.istore 11, 2) := by decide +kernel
theorem dL_isStep_185 : decode cL_isStep 185 = .ok (.aload_n 0, 1) := by decide +kernel
theorem dL_isStep_186 : decode cL_isStep 186 = .ok (.iload 8, 2) := by decide +kernel
theorem dL_isStep_188 : decode cL_isStep 188 = .ok (.i2c, 1) := by decide +kernel
theorem dL_isStep_189 : decode cL_isStep 189 = .ok (.iload 9, 2) := by decide +kernel
theorem dL_isStep_191 : decode cL_isStep 191 = .ok (.iload 10, 2) := by decide +kernel
theorem dL_isStep_193 : decode cL_isStep 193 = .ok (.invokevirtual 61, 3) := by decide +kernel
theorem dL_isStep_196 : decode cL_isStep 196 = .ok (.istore 12, 2) := by decide +kernel
theorem dL_isStep_198 : decode cL_isStep 198 = .ok (.iload 10, 2) := by decide +kernel
theorem dL_isStep_200 : decode cL_isStep 200 = .ok (.iload 6, 2) := by decide +kernel
theorem dL_isStep_202 : decode cL_isStep 202 = .ok (.iload 7, 2) := by decide +kernel
theorem dL_isStep_204 : decode cL_isStep 204 = .ok (.isub, 1) := by decide +kernel
theorem dL_isStep_205 : decode cL_isStep 205 = .ok (.if_icmp .ge 7, 3) := by decide +kernel
theorem dL_isStep_208 : decode cL_isStep 208 = .ok (.iconst 1, 1) := by decide +kernel
theorem dL_isStep_209 : decode cL_isStep 209 = .ok (.goto 4, 3) := by decide +kernel
theorem dL_isStep_212 : decode cL_isStep 212 = .ok (.iconst 0, 1) := by decide +kernel
theorem dL_isStep_213 : decode cL_isStep 213 = .ok (.istore 13, 2) := by decide +kernel
theorem dL_isStep_215 : decode cL_isStep 215 = .ok (.iload 12, 2) := by decide +kernel
theorem dL_isStep_217 : decode cL_isStep 217 = .ok (.aload_n 1, 1) := by decide +kernel
theorem dL_isStep_218 : decode cL_isStep 218 = .ok (.iload 8, 2) := by decide +kernel
theorem dL_isStep_220 : decode cL_isStep 220 = .ok (.invokestatic 43, 3) := by decide +kernel
theorem dL_isStep_223 : decode cL_isStep 223 = .ok (.iconst 2, 1) := by decide +kernel
theorem dL_isStep_224 : decode cL_isStep 224 = .ok (.iload 9, 2) := by decide +kernel
theorem dL_isStep_226 : decode cL_isStep 226 = .ok (.imul, 1) := by decide +kernel
theorem dL_isStep_227 : decode cL_isStep 227 = .ok (.iconst 1, 1) := by decide +kernel
theorem dL_isStep_228 : decode cL_isStep 228 = .ok (.iadd, 1) := by decide +kernel
theorem dL_isStep_229 : decode cL_isStep 229 = .ok (.iload 10, 2) := by decide +kernel
theorem dL_isStep_231 : decode cL_isStep 231 = .ok (.invokevirtual 61, 3) := by decide +kernel
theorem dL_isStep_234 : decode cL_isStep 234 = .ok (.if_icmp .ne 85, 3) := by decide +kernel
theorem dL_isStep_237 : decode cL_isStep 237 = .ok (.iload 13, 2) := by decide +kernel
theorem dL_isStep_239 : decode cL_isStep 239 = .ok (.ifCond .eq 20, 3) := by decide +kernel
theorem dL_isStep_242 : decode cL_isStep 242 = .ok (.iload 12, 2) := by decide +kernel
theorem dL_isStep_244 : decode cL_isStep 244 = .ok (.bipush (-4), 2) := by decide +kernel
theorem dL_isStep_246 : decode cL_isStep 246 = .ok (.if_icmp .ne 73, 3) := by decide +kernel
theorem dL_isStep_249 : decode cL_isStep 249 = .ok (.iload 11, 2) := by decide +kernel
theorem dL_isStep_251 : decode cL_isStep 251 = .ok (.iload 12, 2) := by decide +kernel
theorem dL_isStep_253 : decode cL_isStep 253 = .ok (.if_icmp .ne 66, 3) := by decide +kernel
theorem dL_isStep_256 : decode cL_isStep 256 = .ok (.goto 59, 3) := by decide +kernel
theorem dL_isStep_259 : decode cL_isStep 259 = .ok (.iload 5, 2) := by decide +kernel
theorem dL_isStep_261 : decode cL_isStep 261 = .ok (.bipush 24, 2) := by decide +kernel
theorem dL_isStep_263 : decode cL_isStep 263 = .ok (.if_icmp .ne 13, 3) := by decide +kernel
theorem dL_isStep_266 : decode cL_isStep 266 = .ok (.iload 12, 2) := by decide +kernel
theorem dL_isStep_268 : decode cL_isStep 268 = .ok (.bipush (-3), 2) := by decide +kernel
theorem dL_isStep_270 : decode cL_isStep 270 = .ok (.if_icmp .ne 49, 3) := by decide +kernel
theorem dL_isStep_273 : decode cL_isStep 273 = .ok (.goto 42, 3) := by decide +kernel
theorem dL_isStep_276 : decode cL_isStep 276 = .ok (.iload 12, 2) := by decide +kernel
theorem dL_isStep_278 : decode cL_isStep 278 = .ok (.iload 5, 2) := by decide +kernel
theorem dL_isStep_280 : decode cL_isStep 280 = .ok (.if_icmp .ne 39, 3) := by decide +kernel
theorem dL_isStep_283 : decode cL_isStep 283 = .ok (.aload_n 0, 1) := by decide +kernel
theorem dL_isStep_284 : decode cL_isStep 284 = .ok (.iconst 2, 1) := by decide +kernel
theorem dL_isStep_285 : decode cL_isStep 285 = .ok (.invokevirtual 47, 3) := by decide +kernel
theorem dL_isStep_288 : decode cL_isStep 288 = .ok (.iload 11, 2) := by decide +kernel
theorem dL_isStep_290 : decode cL_isStep 290 = .ok (.if_icmp .ne 29, 3) := by decide +kernel
theorem dL_isStep_293 : decode cL_isStep 293 = .ok (.aload_n 0, 1) := by decide +kernel
theorem dL_isStep_294 : decode cL_isStep 294 = .ok (.iconst 3, 1) := by decide +kernel
theorem dL_isStep_295 : decode cL_isStep 295 = .ok (.invokevirtual 47, 3) := by decide +kernel
theorem dL_isStep_298 : decode cL_isStep 298 = .ok (.iload 10, 2) := by decide +kernel
theorem dL_isStep_300 : decode cL_isStep 300 = .ok (.iload 6, 2) := by decide +kernel
theorem dL_isStep_302 : decode cL_isStep 302 = .ok (.if_icmp .le 8, 3) := by decide +kernel
theorem dL_isStep_305 : decode cL_isStep 305 = .ok (.iload 10, 2) := by decide +kernel
theorem dL_isStep_307 : decode cL_isStep 307 = .ok (.goto 5, 3) := by decide +kernel
theorem dL_isStep_310 : decode cL_isStep 310 = .ok (.iload 6, 2) := by decide +kernel
theorem dL_isStep_312 : decode cL_isStep 312 = .ok (.if_icmp .ne 7, 3) := by decide +kernel
theorem dL_isStep_315 : decode cL_isStep 315 = .ok (.iconst 1, 1) := by decide +kernel
theorem dL_isStep_316 : decode cL_isStep 316 = .ok (.goto 4, 3) := by decide +kernel
theorem dL_isStep_319 : decode cL_isStep 319 = .ok (.iconst 0, 1) := by decide +kernel
theorem dL_isStep_320 : decode cL_isStep 320 = .ok (.ireturn, 1) := by decide +kernel
theorem dL_isStep_321 : decode cL_isStep 321 = .ok (.aload_n 0, 1) := by decide +kernel
theorem dL_isStep_322 : decode cL_isStep 322 = .ok (.aload_n 1, 1) := by decide +kernel
theorem dL_isStep_323 : decode cL_isStep 323 = .ok (.iload 4, 2) := by decide +kernel
theorem dL_isStep_325 : decode cL_isStep 325 = .ok (.iload_n 3, 1) := by decide +kernel
theorem dL_isStep_326 : decode cL_isStep 326 = .ok (.invokestatic 64, 3) := by decide +kernel
theorem dL_isStep_329 : decode cL_isStep 329 = .ok (.ireturn, 1) := by decide +kernel
theorem dL_isStep_330 : decode cL_isStep 330 = .ok (.iload 4, 2) := by decide +kernel
theorem dL_isStep_332 : decode cL_isStep 332 = .ok (.aload_n 0, 1) := by decide +kernel
theorem dL_isStep_333 : decode cL_isStep 333 = .ok (.iconst 1, 1) := by decide +kernel
theorem dL_isStep_334 : decode cL_isStep 334 = .ok (.invokevirtual 47, 3) := by decide +kernel
theorem dL_isStep_337 : decode cL_isStep 337 = .ok (.iconst 1, 1) := by decide +kernel
theorem dL_isStep_338 : decode cL_isStep 338 = .ok (.iadd, 1) := by decide +kernel
theorem dL_isStep_339 : decode cL_isStep 339 = .ok (.invokestatic 17, 3) := by decide +kernel
theorem dL_isStep_342 : decode cL_isStep 342 = .ok (.istore 8, 2) := by decide +kernel
theorem dL_isStep_344 : decode cL_isStep 344 = .ok (.aload_n 0, 1) := by decide +kernel
theorem dL_isStep_345 : decode cL_isStep 345 = .ok (.iconst 1, 1) := by decide +kernel
theorem dL_isStep_346 : decode cL_isStep 346 = .ok (.invokevirtual 47, 3) := by decide +kernel
theorem dL_isStep_349 : decode cL_isStep 349 = .ok (.istore 9, 2) := by decide +kernel
theorem dL_isStep_351 : decode cL_isStep 351 = .ok (.aload_n 0, 1) := by decide +kernel
theorem dL_isStep_352 : decode cL_isStep 352 = .ok (.iload 8, 2) := by decide +kernel
theorem dL_isStep_354 : decode cL_isStep 354 = .ok (.invokevirtual 68, 3) := by decide +kernel
theorem dL_isStep_357 : decode cL_isStep 357 = .ok (.istore 10, 2) := by decide +kernel
theorem dL_isStep_359 : decode cL_isStep 359 = .ok (.iload 10, 2) := by decide +kernel
theorem dL_isStep_361 : decode cL_isStep 361 = .ok (.aload_n 1, 1) := by decide +kernel
theorem dL_isStep_362 : decode cL_isStep 362 = .ok (.iload 8, 2) := by decide +kernel
theorem dL_isStep_364 : decode cL_isStep 364 = .ok (.invokevirtual 68, 3) := by decide +kernel
theorem dL_isStep_367 : decode cL_isStep 367 = .ok (.if_icmp .ne 27, 3) := by decide +kernel
theorem dL_isStep_370 : decode cL_isStep 370 = .ok (.iload 10, 2) := by decide +kernel
theorem dL_isStep_372 : decode cL_isStep 372 = .ok (.iload 8, 2) := by decide +kernel
theorem dL_isStep_374 : decode cL_isStep 374 = .ok (.iload 9, 2) := by decide +kernel
theorem dL_isStep_376 : decode cL_isStep 376 = .ok (.if_icmp .ne 7, 3) := by decide +kernel
theorem dL_isStep_379 : decode cL_isStep 379 = .ok (.iconst (-1), 1) := by decide +kernel
theorem dL_isStep_380 : decode cL_isStep 380 = .ok (.goto 7, 3) := by decide +kernel
theorem dL_isStep_383 : decode cL_isStep 383 = .ok (.iload 9, 2) := by decide +kernel
theorem dL_isStep_385 : decode cL_isStep 385 = .ok (.iconst 1, 1) := by decide +kernel
theorem dL_isStep_386 : decode cL_isStep 386 = .ok (.isub, 1) := by decide +kernel
theorem dL_isStep_387 : decode cL_isStep 387 = .ok (.if_icmp .ne 7, 3) := by decide +kernel
theorem dL_isStep_390 : decode cL_isStep 390 = .ok (.iconst 1, 1) := by decide +kernel
theorem dL_isStep_391 : decode cL_isStep 391 = .ok (.goto 4, 3) := by decide +kernel
theorem dL_isStep_394 : decode cL_isStep 394 = .ok (.iconst 0, 1) := by decide +kernel
theorem dL_isStep_395 : decode cL_isStep 395 = .ok (.ireturn, 1) := by decide +kernel
theorem dL_isStep_396 : decode cL_isStep 396 = .ok (.iload 4, 2) := by decide +kernel
theorem dL_isStep_398 : decode cL_isStep 398 = .ok (.aload_n 0, 1) := by decide +kernel
theorem dL_isStep_399 : decode cL_isStep 399 = .ok (.iconst 1, 1) := by decide +kernel
theorem dL_isStep_400 : decode cL_isStep 400 = .ok (.invokevirtual 47, 3) := by decide +kernel
theorem dL_isStep_403 : decode cL_isStep 403 = .ok (.iconst 1, 1) := by decide +kernel
theorem dL_isStep_404 : decode cL_isStep 404 = .ok (.iadd, 1) := by decide +kernel
theorem dL_isStep_405 : decode cL_isStep 405 = .ok (.invokestatic 17, 3) := by decide +kernel
theorem dL_isStep_408 : decode cL_isStep 408 = .ok (.istore 8, 2) := by decide +kernel
theorem dL_isStep_410 : decode cL_isStep 410 = .ok (.iconst 1, 1) := by decide +kernel
theorem dL_isStep_411 : decode cL_isStep 411 = .ok (.iload_n 3, 1) := by decide +kernel
theorem dL_isStep_412 : decode cL_isStep 412 = .ok (.bipush 100, 2) := by decide +kernel
theorem dL_isStep_414 : decode cL_isStep 414 = .ok (.invokestatic 17, 3) := by decide +kernel
theorem dL_isStep_417 : decode cL_isStep 417 = .ok (.iadd, 1) := by decide +kernel
theorem dL_isStep_418 : decode cL_isStep 418 = .ok (.istore 9, 2) := by decide +kernel
theorem dL_isStep_420 : decode cL_isStep 420 = .ok (.aload_n 0, 1) := by decide +kernel
theorem dL_isStep_421 : decode cL_isStep 421 = .ok (.iload 8, 2) := by decide +kernel
theorem dL_isStep_423 : decode cL_isStep 423 = .ok (.iconst 0, 1) := by decide +kernel
theorem dL_isStep_424 : decode cL_isStep 424 = .ok (.invokevirtual 54, 3) := by decide +kernel
theorem dL_isStep_427 : decode cL_isStep 427 = .ok (.istore 10, 2) := by decide +kernel
theorem dL_isStep_429 : decode cL_isStep 429 = .ok (.aload_n 0, 1) := by decide +kernel
theorem dL_isStep_430 : decode cL_isStep 430 = .ok (.iload 8, 2) := by decide +kernel
theorem dL_isStep_432 : decode cL_isStep 432 = .ok (.iconst 4, 1) := by decide +kernel
theorem dL_isStep_433 : decode cL_isStep 433 = .ok (.invokevirtual 54, 3) := by decide +kernel
theorem dL_isStep_436 : decode cL_isStep 436 = .ok (.istore 11, 2) := by decide +kernel
theorem dL_isStep_438 : decode cL_isStep 438 = .ok (.aload_n 0, 1) := by decide +kernel
theorem dL_isStep_439 : decode cL_isStep 439 = .ok (.iload 8, 2) := by decide +kernel
theorem dL_isStep_441 : decode cL_isStep 441 = .ok (.iload 9, 2) := by decide +kernel
theorem dL_isStep_443 : decode cL_isStep 443 = .ok (.invokevirtual 71, 3) := by decide +kernel
theorem dL_isStep_446 : decode cL_isStep 446 = .ok (.istore 12, 2) := by decide +kernel
theorem dL_isStep_448 : decode cL_isStep 448 = .ok (.iload 12, 2) := by decide +kernel
theorem dL_isStep_450 : decode cL_isStep 450 = .ok (.aload_n 1, 1) := by decide +kernel
theorem dL_isStep_451 : decode cL_isStep 451 = .ok (.iload 8, 2) := by decide +kernel
theorem dL_isStep_453 : decode cL_isStep 453 = .ok (.iload 9, 2) := by decide +kernel
theorem dL_isStep_455 : decode cL_isStep 455 = .ok (.invokevirtual 71, 3) := by decide +kernel
theorem dL_isStep_458 : decode cL_isStep 458 = .ok (.if_icmp .ne 78, 3) := by decide +kernel
theorem dL_isStep_461 : decode cL_isStep 461 = .ok (.iload 10, 2) := by decide +kernel
theorem dL_isStep_463 : decode cL_isStep 463 = .ok (.ifCond .ge 12, 3) := by decide +kernel
theorem dL_isStep_466 : decode cL_isStep 466 = .ok (.iload 12, 2) := by decide +kernel
theorem dL_isStep_468 : decode cL_isStep 468 = .ok (.iconst (-1), 1) := by decide +kernel
theorem dL_isStep_469 : decode cL_isStep 469 = .ok (.if_icmp .ne 67, 3) := by decide +kernel
theorem dL_isStep_472 : decode cL_isStep 472 = .ok (.goto 60, 3) := by decide +kernel
theorem dL_isStep_475 : decode cL_isStep 475 = .ok (.iload 12, 2) := by decide +kernel
theorem dL_isStep_477 : decode cL_isStep 477 = .ok (.iload 10, 2) := by decide +kernel
theorem dL_isStep_479 : decode cL_isStep 479 = .ok (.iload 9, 2) := by decide +kernel
theorem dL_isStep_481 : decode cL_isStep 481 = .ok (.if_icmp .ne 8, 3) := by decide +kernel
theorem dL_isStep_484 : decode cL_isStep 484 = .ok (.bipush (-5), 2) := by decide +kernel
theorem dL_isStep_486 : decode cL_isStep 486 = .ok (.goto 5, 3) := by decide +kernel
theorem dL_isStep_489 : decode cL_isStep 489 = .ok (.iload 10, 2) := by decide +kernel
theorem dL_isStep_491 : decode cL_isStep 491 = .ok (.if_icmp .ne 45, 3) := by decide +kernel
theorem dL_isStep_494 : decode cL_isStep 494 = .ok (.iload 9, 2) := by decide +kernel
theorem dL_isStep_496 : decode cL_isStep 496 = .ok (.iload 10, 2) := by decide +kernel
theorem dL_isStep_498 : decode cL_isStep 498 = .ok (.if_icmp .lt 15, 3) := by decide +kernel
theorem dL_isStep_501 : decode cL_isStep 501 = .ok (.aload_n 0, 1) := by decide +kernel
theorem dL_isStep_502 : decode cL_isStep 502 = .ok (.iload 8, 2) := by decide +kernel
theorem dL_isStep_504 : decode cL_isStep 504 = .ok (.iconst 4, 1) := by decide +kernel
theorem dL_isStep_505 : decode cL_isStep 505 = .ok (.invokevirtual 54, 3) := by decide +kernel
theorem dL_isStep_508 : decode cL_isStep 508 = .ok (.iload 11, 2) := by decide +kernel
theorem dL_isStep_510 : decode cL_isStep 510 = .ok (.if_icmp .lt 26, 3) := by decide +kernel
theorem dL_isStep_513 : decode cL_isStep 513 = .ok (.iload 9, 2) := by decide +kernel
theorem dL_isStep_515 : decode cL_isStep 515 = .ok (.iload 10, 2) := by decide +kernel
theorem dL_isStep_517 : decode cL_isStep 517 = .ok (.if_icmp .gt 15, 3) := by decide +kernel
theorem dL_isStep_520 : decode cL_isStep 520 = .ok (.aload_n 0, 1) := by decide +kernel
theorem dL_isStep_521 : decode cL_isStep 521 = .ok (.iload 8, 2) := by decide +kernel
theorem dL_isStep_523 : decode cL_isStep 523 = .ok (.iconst 4, 1) := by decide +kernel
theorem dL_isStep_524 : decode cL_isStep 524 = .ok (.invokevirtual 54, 3) := by decide +kernel
theorem dL_isStep_527 : decode cL_isStep 527 = .ok (.iload 11, 2) := by decide +kernel
theorem dL_isStep_529 : decode cL_isStep 529 = .ok (.if_icmp .gt 7, 3) := by decide +kernel
theorem dL_isStep_532 : decode cL_isStep 532 = .ok (.iconst 1, 1) := by decide +kernel
theorem dL_isStep_533 : decode cL_isStep 533 = .ok (.goto 4, 3) := by decide +kernel
theorem dL_isStep_536 : decode cL_isStep 536 = .ok (.iconst 0, 1) := by decide +kernel
theorem dL_isStep_537 : decode cL_isStep 537 = .ok (.ireturn, 1) := by decide +kernel
theorem dL_isStep_538 : decode cL_isStep 538 = .ok (.iload 6, 2) := by decide +kernel
theorem dL_isStep_540 : decode cL_isStep 540 = .ok (.bipush 30, 2) := by decide +kernel
theorem dL_isStep_542 : decode cL_isStep 542 = .ok (.if_icmp .ge 12, 3) := by decide +kernel
theorem dL_isStep_545 : decode cL_isStep 545 = .ok (.iload_n 3, 1) := by decide +kernel
theorem dL_isStep_546 : decode cL_isStep 546 = .ok (.bipush 30, 2) := by decide +kernel
theorem dL_isStep_548 : decode cL_isStep 548 = .ok (.invokestatic 17, 3) := by decide +kernel
theorem dL_isStep_551 : decode cL_isStep 551 = .ok (.goto 12, 3) := by decide +kernel
theorem dL_isStep_554 : decode cL_isStep 554 = .ok (.iload 6, 2) := by decide +kernel
theorem dL_isStep_556 : decode cL_isStep 556 = .ok (.iload_n 3, 1) := by decide +kernel
theorem dL_isStep_557 : decode cL_isStep 557 = .ok (.bipush 30, 2) := by decide +kernel
theorem dL_isStep_559 : decode cL_isStep 559 = .ok (.invokestatic 17, 3) := by decide +kernel
theorem dL_isStep_562 : decode cL_isStep 562 = .ok (.isub, 1) := by decide +kernel
theorem dL_isStep_563 : decode cL_isStep 563 = .ok (.istore 8, 2) := by decide +kernel
theorem dL_isStep_565 : decode cL_isStep 565 = .ok (.aload_n 0, 1) := by decide +kernel
theorem dL_isStep_566 : decode cL_isStep 566 = .ok (.iload 8, 2) := by decide +kernel
theorem dL_isStep_568 : decode cL_isStep 568 = .ok (.invokevirtual 74, 3) := by decide +kernel
theorem dL_isStep_571 : decode cL_isStep 571 = .ok (.istore 9, 2) := by decide +kernel
theorem dL_isStep_573 : decode cL_isStep 573 = .ok (.iload 9, 2) := by decide +kernel
theorem dL_isStep_575 : decode cL_isStep 575 = .ok (.aload_n 1, 1) := by decide +kernel
theorem dL_isStep_576 : decode cL_isStep 576 = .ok (.iload 8, 2) := by decide +kernel
theorem dL_isStep_578 : decode cL_isStep 578 = .ok (.invokevirtual 74, 3) := by decide +kernel
theorem dL_isStep_581 : decode cL_isStep 581 = .ok (.if_icmp .ne 40, 3) := by decide +kernel
theorem dL_isStep_584 : decode cL_isStep 584 = .ok (.aload_n 0, 1) := by decide +kernel
theorem dL_isStep_585 : decode cL_isStep 585 = .ok (.iconst 0, 1) := by decide +kernel
theorem dL_isStep_586 : decode cL_isStep 586 = .ok (.invokevirtual 47, 3) := by decide +kernel
theorem dL_isStep_589 : decode cL_isStep 589 = .ok (.iload 9, 2) := by decide +kernel
theorem dL_isStep_591 : decode cL_isStep 591 = .ok (.ifCond .ge 8, 3) := by decide +kernel
theorem dL_isStep_594 : decode cL_isStep 594 = .ok (.iload 5, 2) := by decide +kernel
theorem dL_isStep_596 : decode cL_isStep 596 = .ok (.goto 8, 3) := by decide +kernel
theorem dL_isStep_599 : decode cL_isStep 599 = .ok (.iload 5, 2) := by decide +kernel
theorem dL_isStep_601 : decode cL_isStep 601 = .ok (.iload 9, 2) := by decide +kernel
theorem dL_isStep_603 : decode cL_isStep 603 = .ok (.isub, 1) := by decide +kernel
theorem dL_isStep_604 : decode cL_isStep 604 = .ok (.if_icmp .ne 17, 3) := by decide +kernel
theorem dL_isStep_607 : decode cL_isStep 607 = .ok (.aload_n 0, 1) := by decide +kernel
theorem dL_isStep_608 : decode cL_isStep 608 = .ok (.iconst 3, 1) := by decide +kernel
theorem dL_isStep_609 : decode cL_isStep 609 = .ok (.invokevirtual 47, 3) := by decide +kernel
theorem dL_isStep_612 : decode cL_isStep 612 = .ok (.iload 6, 2) := by decide +kernel
theorem dL_isStep_614 : decode cL_isStep 614 = .ok (.if_icmp .ne 7, 3) := by decide +kernel
theorem dL_isStep_617 : decode cL_isStep 617 = .ok (.iconst 1, 1) := by decide +kernel
theorem dL_isStep_618 : decode cL_isStep 618 = .ok (.goto 4, 3) := by decide +kernel
theorem dL_isStep_621 : decode cL_isStep 621 = .ok (.iconst 0, 1) := by decide +kernel
theorem dL_isStep_622 : decode cL_isStep 622 = .ok (.ireturn, 1) := by decide +kernel
theorem dL_isStep_623 : decode cL_isStep 623 = .ok (.iload_n 3, 1) := by decide +kernel
theorem dL_isStep_624 : decode cL_isStep 624 = .ok (.bipush 50, 2) := by decide +kernel
theorem dL_isStep_626 : decode cL_isStep 626 = .ok (.invokestatic 17, 3) := by decide +kernel
theorem dL_isStep_629 : decode cL_isStep 629 = .ok (.istore 8, 2) := by decide +kernel
theorem dL_isStep_631 : decode cL_isStep 631 = .ok (.aload_n 0, 1) := by decide +kernel
theorem dL_isStep_632 : decode cL_isStep 632 = .ok (.iload 8, 2) := by decide +kernel
theorem dL_isStep_634 : decode cL_isStep 634 = .ok (.invokevirtual 77, 3) := by decide +kernel
theorem dL_isStep_637 : decode cL_isStep 637 = .ok (.aload_n 1, 1) := by decide +kernel
theorem dL_isStep_638 : decode cL_isStep 638 = .ok (.iload 8, 2) := by decide +kernel
theorem dL_isStep_640 : decode cL_isStep 640 = .ok (.invokevirtual 77, 3) := by decide +kernel
theorem dL_isStep_643 : decode cL_isStep 643 = .ok (.if_icmp .ne 41, 3) := by decide +kernel
theorem dL_isStep_646 : decode cL_isStep 646 = .ok (.aload_n 0, 1) := by decide +kernel
theorem dL_isStep_647 : decode cL_isStep 647 = .ok (.iconst 5, 1) := by decide +kernel
theorem dL_isStep_648 : decode cL_isStep 648 = .ok (.invokevirtual 47, 3) := by decide +kernel
theorem dL_isStep_651 : decode cL_isStep 651 = .ok (.iload 8, 2) := by decide +kernel
theorem dL_isStep_653 : decode cL_isStep 653 = .ok (.if_icmp .ne 31, 3) := by decide +kernel
theorem dL_isStep_656 : decode cL_isStep 656 = .ok (.aload_n 0, 1) := by decide +kernel
theorem dL_isStep_657 : decode cL_isStep 657 = .ok (.iconst 4, 1) := by decide +kernel
theorem dL_isStep_658 : decode cL_isStep 658 = .ok (.invokevirtual 47, 3) := by decide +kernel
theorem dL_isStep_661 : decode cL_isStep 661 = .ok (.iload 6, 2) := by decide +kernel
theorem dL_isStep_663 : decode cL_isStep 663 = .ok (.iload 8, 2) := by decide +kernel
theorem dL_isStep_665 : decode cL_isStep 665 = .ok (.if_icmp .le 11, 3) := by decide +kernel
theorem dL_isStep_668 : decode cL_isStep 668 = .ok (.iload 6, 2) := by decide +kernel
theorem dL_isStep_670 : decode cL_isStep 670 = .ok (.iload 8, 2) := by decide +kernel
theorem dL_isStep_672 : decode cL_isStep 672 = .ok (.isub, 1) := by decide +kernel
theorem dL_isStep_673 : decode cL_isStep 673 = .ok (.goto 4, 3) := by decide +kernel
theorem dL_isStep_676 : decode cL_isStep 676 = .ok (.iconst 0, 1) := by decide +kernel
theorem dL_isStep_677 : decode cL_isStep 677 = .ok (.if_icmp .ne 7, 3) := by decide +kernel
theorem dL_isStep_680 : decode cL_isStep 680 = .ok (.iconst 1, 1) := by decide +kernel
theorem dL_isStep_681 : decode cL_isStep 681 = .ok (.goto 4, 3) := by decide +kernel
theorem dL_isStep_684 : decode cL_isStep 684 = .ok (.iconst 0, 1) := by decide +kernel
theorem dL_isStep_685 : decode cL_isStep 685 = .ok (.ireturn, 1) := by decide +kernel
theorem dL_isStep_686 : decode cL_isStep 686 = .ok (.aload_n 0, 1) := by decide +kernel
theorem dL_isStep_687 : decode cL_isStep 687 = .ok (.bipush 7, 2) := by decide +kernel
theorem dL_isStep_689 : decode cL_isStep 689 = .ok (.invokevirtual 47, 3) := by decide +kernel
theorem dL_isStep_692 : decode cL_isStep 692 = .ok (.ifCond .eq 14, 3) := by decide +kernel
theorem dL_isStep_695 : decode cL_isStep 695 = .ok (.aload_n 0, 1) := by decide +kernel
theorem dL_isStep_696 : decode cL_isStep 696 = .ok (.invokevirtual 80, 3) := by decide +kernel
theorem dL_isStep_699 : decode cL_isStep 699 = .ok (.aload_n 1, 1) := by decide +kernel
theorem dL_isStep_700 : decode cL_isStep 700 = .ok (.invokevirtual 80, 3) := by decide +kernel
theorem dL_isStep_703 : decode cL_isStep 703 = .ok (.if_icmp .ne 7, 3) := by decide +kernel
theorem dL_isStep_706 : decode cL_isStep 706 = .ok (.iconst 1, 1) := by decide +kernel
theorem dL_isStep_707 : decode cL_isStep 707 = .ok (.goto 4, 3) := by decide +kernel
theorem dL_isStep_710 : decode cL_isStep 710 = .ok (.iconst 0, 1) := by decide +kernel
theorem dL_isStep_711 : decode cL_isStep 711 = .ok (.ireturn, 1) := by decide +kernel
theorem dL_areAlike_0 : decode cL_areAlike 0 = .ok (.iconst 1, 1) := by decide +kernel
theorem dL_areAlike_1 : decode cL_areAlike 1 = .ok (.istore_n 2, 1) := by decide +kernel
theorem dL_areAlike_2 : decode cL_areAlike 2 = .ok (.iconst 0, 1) := by decide +kernel
theorem dL_areAlike_3 : decode cL_areAlike 3 = .ok (.istore_n 3, 1) := by decide +kernel
theorem dL_areAlike_4 : decode cL_areAlike 4 = .ok (.iload_n 3, 1) := by decide +kernel
theorem dL_areAlike_5 : decode cL_areAlike 5 = .ok (.bipush 8, 2) := by decide +kernel
theorem dL_areAlike_7 : decode cL_areAlike 7 = .ok (.if_icmp .ge 32, 3) := by decide +kernel
theorem dL_areAlike_10 : decode cL_areAlike 10 = .ok (.iload_n 2, 1) := by decide +kernel
theorem dL_areAlike_11 : decode cL_areAlike 11 = .ok (.ifCond .eq 20, 3) := by decide +kernel
theorem dL_areAlike_14 : decode cL_areAlike 14 = .ok (.aload_n 0, 1) := by decide +kernel
theorem dL_areAlike_15 : decode cL_areAlike 15 = .ok (.iload_n 3, 1) := by decide +kernel
theorem dL_areAlike_16 : decode cL_areAlike 16 = .ok (.invokevirtual 47, 3) := by decide +kernel
theorem dL_areAlike_19 : decode cL_areAlike 19 = .ok (.aload_n 1, 1) := by decide +kernel
theorem dL_areAlike_20 : decode cL_areAlike 20 = .ok (.iload_n 3, 1) := by decide +kernel
theorem dL_areAlike_21 : decode cL_areAlike 21 = .ok (.invokevirtual 47, 3) := by decide +kernel
theorem dL_areAlike_24 : decode cL_areAlike 24 = .ok (.if_icmp .ne 7, 3) := by decide +kernel
theorem dL_areAlike_27 : decode cL_areAlike 27 = .ok (.iconst 1, 1) := by decide +kernel
theorem dL_areAlike_28 : decode cL_areAlike 28 = .ok (.goto 4, 3) := by decide +kernel
theorem dL_areAlike_31 : decode cL_areAlike 31 = .ok (.iconst 0, 1) := by decide +kernel
theorem dL_areAlike_32 : decode cL_areAlike 32 = .ok (.istore_n 2, 1) := by decide +kernel
theorem dL_areAlike_33 : decode cL_areAlike 33 = .ok (.iinc 3 1, 3) := by decide +kernel
theorem dL_areAlike_36 : decode cL_areAlike 36 = .ok (.goto (-32), 3) := by decide +kernel
theorem dL_areAlike_39 : decode cL_areAlike 39 = .ok (.iconst 0, 1) := by decide +kernel
theorem dL_areAlike_40 : decode cL_areAlike 40 = .ok (.istore_n 3, 1) := by decide +kernel
theorem dL_areAlike_41 : decode cL_areAlike 41 = .ok (.iload_n 3, 1) := by decide +kernel
theorem dL_areAlike_42 : decode cL_areAlike 42 = .ok (.aload_n 0, 1) := by decide +kernel
theorem dL_areAlike_43 : decode cL_areAlike 43 = .ok (.iconst 1, 1) := by decide +kernel
theorem dL_areAlike_44 : decode cL_areAlike 44 = .ok (.invokevirtual 47, 3) := by decide +kernel
theorem dL_areAlike_47 : decode cL_areAlike 47 = .ok (.if_icmp .ge 191, 3) := by decide +kernel
theorem dL_areAlike_50 : decode cL_areAlike 50 = .ok (.iload_n 2, 1) := by decide +kernel
theorem dL_areAlike_51 : decode cL_areAlike 51 = .ok (.ifCond .eq 187, 3) := by decide +kernel
theorem dL_areAlike_54 : decode cL_areAlike 54 = .ok (.iconst 0, 1) := by decide +kernel
theorem dL_areAlike_55 : decode cL_areAlike 55 = .ok (.istore 4, 2) := by decide +kernel
theorem dL_areAlike_57 : decode cL_areAlike 57 = .ok (.iload 4, 2) := by decide +kernel
theorem dL_areAlike_59 : decode cL_areAlike 59 = .ok (.bipush 7, 2) := by decide +kernel
theorem dL_areAlike_61 : decode cL_areAlike 61 = .ok (.if_icmp .ge 36, 3) := by decide +kernel
theorem dL_areAlike_64 : decode cL_areAlike 64 = .ok (.iload_n 2, 1) := by decide +kernel
theorem dL_areAlike_65 : decode cL_areAlike 65 = .ok (.ifCond .eq 24, 3) := by decide +kernel
theorem dL_areAlike_68 : decode cL_areAlike 68 = .ok (.aload_n 0, 1) := by decide +kernel
theorem dL_areAlike_69 : decode cL_areAlike 69 = .ok (.iload_n 3, 1) := by decide +kernel
theorem dL_areAlike_70 : decode cL_areAlike 70 = .ok (.iload 4, 2) := by decide +kernel
theorem dL_areAlike_72 : decode cL_areAlike 72 = .ok (.invokevirtual 54, 3) := by decide +kernel
theorem dL_areAlike_75 : decode cL_areAlike 75 = .ok (.aload_n 1, 1) := by decide +kernel
theorem dL_areAlike_76 : decode cL_areAlike 76 = .ok (.iload_n 3, 1) := by decide +kernel
theorem dL_areAlike_77 : decode cL_areAlike 77 = .ok (.iload 4, 2) := by decide +kernel
theorem dL_areAlike_79 : decode cL_areAlike 79 = .ok (.invokevirtual 54, 3) := by decide +kernel
theorem dL_areAlike_82 : decode cL_areAlike 82 = .ok (.if_icmp .ne 7, 3) := by decide +kernel
theorem dL_areAlike_85 : decode cL_areAlike 85 = .ok (.iconst 1, 1) := by decide +kernel
theorem dL_areAlike_86 : decode cL_areAlike 86 = .ok (.goto 4, 3) := by decide +kernel
theorem dL_areAlike_89 : decode cL_areAlike 89 = .ok (.iconst 0, 1) := by decide +kernel
theorem dL_areAlike_90 : decode cL_areAlike 90 = .ok (.istore_n 2, 1) := by decide +kernel
theorem dL_areAlike_91 : decode cL_areAlike 91 = .ok (.iinc 4 1, 3) := by decide +kernel
theorem dL_areAlike_94 : decode cL_areAlike 94 = .ok (.goto (-37), 3) := by decide +kernel
theorem dL_areAlike_97 : decode cL_areAlike 97 = .ok (.iconst 0, 1) := by decide +kernel
theorem dL_areAlike_98 : decode cL_areAlike 98 = .ok (.istore 4, 2) := by decide +kernel
theorem dL_areAlike_100 : decode cL_areAlike 100 = .ok (.iload 4, 2) := by decide +kernel
theorem dL_areAlike_102 : decode cL_areAlike 102 = .ok (.aload_n 0, 1) := by decide +kernel
theorem dL_areAlike_103 : decode cL_areAlike 103 = .ok (.iload_n 3, 1) := by decide +kernel
theorem dL_areAlike_104 : decode cL_areAlike 104 = .ok (.iconst 2, 1) := by decide +kernel
theorem dL_areAlike_105 : decode cL_areAlike 105 = .ok (.invokevirtual 54, 3) := by decide +kernel
theorem dL_areAlike_108 : decode cL_areAlike 108 = .ok (.if_icmp .ge 60, 3) := by decide +kernel
theorem dL_areAlike_111 : decode cL_areAlike 111 = .ok (.iload_n 2, 1) := by decide +kernel
theorem dL_areAlike_112 : decode cL_areAlike 112 = .ok (.ifCond .eq 48, 3) := by decide +kernel
theorem dL_areAlike_115 : decode cL_areAlike 115 = .ok (.aload_n 0, 1) := by decide +kernel
theorem dL_areAlike_116 : decode cL_areAlike 116 = .ok (.iload_n 3, 1) := by decide +kernel
theorem dL_areAlike_117 : decode cL_areAlike 117 = .ok (.iload 4, 2) := by decide +kernel
theorem dL_areAlike_119 : decode cL_areAlike 119 = .ok (.iconst 0, 1) := by decide +kernel
theorem dL_areAlike_120 : decode cL_areAlike 120 = .ok (.invokevirtual 83, 3) := by decide +kernel
theorem dL_areAlike_123 : decode cL_areAlike 123 = .ok (.invokestatic 43, 3) := by decide +kernel
theorem dL_areAlike_126 : decode cL_areAlike 126 = .ok (.aload_n 1, 1) := by decide +kernel
theorem dL_areAlike_127 : decode cL_areAlike 127 = .ok (.iload_n 3, 1) := by decide +kernel
theorem dL_areAlike_128 : decode cL_areAlike 128 = .ok (.iload 4, 2) := by decide +kernel
theorem dL_areAlike_130 : decode cL_areAlike 130 = .ok (.iconst 0, 1) := by decide +kernel
theorem dL_areAlike_131 : decode cL_areAlike 131 = .ok (.invokevirtual 83, 3) := by decide +kernel
theorem dL_areAlike_134 : decode cL_areAlike 134 = .ok (.if_icmp .ne 26, 3) := by decide +kernel
theorem dL_areAlike_137 : decode cL_areAlike 137 = .ok (.aload_n 0, 1) := by decide +kernel
theorem dL_areAlike_138 : decode cL_areAlike 138 = .ok (.iload_n 3, 1) := by decide +kernel
theorem dL_areAlike_139 : decode cL_areAlike 139 = .ok (.iload 4, 2) := by decide +kernel
theorem dL_areAlike_141 : decode cL_areAlike 141 = .ok (.iconst 1, 1) := by decide +kernel
theorem dL_areAlike_142 : decode cL_areAlike 142 = .ok (.invokevirtual 83, 3) := by decide +kernel
theorem dL_areAlike_145 : decode cL_areAlike 145 = .ok (.aload_n 1, 1) := by decide +kernel
theorem dL_areAlike_146 : decode cL_areAlike 146 = .ok (.iload_n 3, 1) := by decide +kernel
theorem dL_areAlike_147 : decode cL_areAlike 147 = .ok (.iload 4, 2) := by decide +kernel
theorem dL_areAlike_149 : decode cL_areAlike 149 = .ok (.iconst 1, 1) := by decide +kernel
theorem dL_areAlike_150 : decode cL_areAlike 150 = .ok (.invokevirtual 83, 3) := by decide +kernel
theorem dL_areAlike_153 : decode cL_areAlike 153 = .ok (.if_icmp .ne 7, 3) := by decide +kernel
theorem dL_areAlike_156 : decode cL_areAlike 156 = .ok (.iconst 1, 1) := by decide +kernel
theorem dL_areAlike_157 : decode cL_areAlike 157 = .ok (.goto 4, 3) := by decide +kernel
theorem dL_areAlike_160 : decode cL_areAlike 160 = .ok (.iconst 0, 1) := by decide +kernel
theorem dL_areAlike_161 : decode cL_areAlike 161 = .ok (.istore_n 2, 1) := by decide +kernel
theorem dL_areAlike_162 : decode cL_areAlike 162 = .ok (.iinc 4 1, 3) := by decide +kernel
theorem dL_areAlike_165 : decode cL_areAlike 165 = .ok (.goto (-65), 3) := by decide +kernel
theorem dL_areAlike_168 : decode cL_areAlike 168 = .ok (.iconst 0, 1) := by decide +kernel
theorem dL_areAlike_169 : decode cL_areAlike 169 = .ok (.istore 4, 2) := by decide +kernel
theorem dL_areAlike_171 : decode cL_areAlike 171 = .ok (.iload 4, 2) := by decide +kernel
theorem dL_areAlike_173 : decode cL_areAlike 173 = .ok (.bipush 12, 2) := by decide +kernel
theorem dL_areAlike_175 : decode cL_areAlike 175 = .ok (.if_icmp .ge 57, 3) := by decide +kernel
theorem dL_areAlike_178 : decode cL_areAlike 178 = .ok (.iload_n 2, 1) := by decide +kernel
theorem dL_areAlike_179 : decode cL_areAlike 179 = .ok (.ifCond .eq 45, 3) := by decide +kernel
theorem dL_areAlike_182 : decode cL_areAlike 182 = .ok (.aload_n 0, 1) := by decide +kernel
theorem dL_areAlike_183 : decode cL_areAlike 183 = .ok (.iload_n 3, 1) := by decide +kernel
theorem dL_areAlike_184 : decode cL_areAlike 184 = .ok (.iload 4, 2) := by decide +kernel
theorem dL_areAlike_186 : decode cL_areAlike 186 = .ok (.iconst 0, 1) := by decide +kernel
theorem dL_areAlike_187 : decode cL_areAlike 187 = .ok (.invokevirtual 87, 3) := by decide +kernel
theorem dL_areAlike_190 : decode cL_areAlike 190 = .ok (.aload_n 1, 1) := by decide +kernel
theorem dL_areAlike_191 : decode cL_areAlike 191 = .ok (.iload_n 3, 1) := by decide +kernel
theorem dL_areAlike_192 : decode cL_areAlike 192 = .ok (.iload 4, 2) := by decide +kernel
theorem dL_areAlike_194 : decode cL_areAlike 194 = .ok (.iconst 0, 1) := by decide +kernel
theorem dL_areAlike_195 : decode cL_areAlike 195 = .ok (.invokevirtual 87, 3) := by decide +kernel
theorem dL_areAlike_198 : decode cL_areAlike 198 = .ok (.if_icmp .ne 26, 3) := by decide +kernel
theorem dL_areAlike_201 : decode cL_areAlike 201 = .ok (.aload_n 0, 1) := by decide +kernel
theorem dL_areAlike_202 : decode cL_areAlike 202 = .ok (.iload_n 3, 1) := by decide +kernel
theorem dL_areAlike_203 : decode cL_areAlike 203 = .ok (.iload 4, 2) := by decide +kernel
theorem dL_areAlike_205 : decode cL_areAlike 205 = .ok (.iconst 1, 1) := by decide +kernel
theorem dL_areAlike_206 : decode cL_areAlike 206 = .ok (.invokevirtual 87, 3) := by decide +kernel
theorem dL_areAlike_209 : decode cL_areAlike 209 = .ok (.aload_n 1, 1) := by decide +kernel
theorem dL_areAlike_210 : decode cL_areAlike 210 = .ok (.iload_n 3, 1) := by decide +kernel
theorem dL_areAlike_211 : decode cL_areAlike 211 = .ok (.iload 4, 2) := by decide +kernel
theorem dL_areAlike_213 : decode cL_areAlike 213 = .ok (.iconst 1, 1) := by decide +kernel
theorem dL_areAlike_214 : decode cL_areAlike 214 = .ok (.invokevirtual 87, 3) := by decide +kernel
theorem dL_areAlike_217 : decode cL_areAlike 217 = .ok (.if_icmp .ne 7, 3) := by decide +kernel
theorem dL_areAlike_220 : decode cL_areAlike 220 = .ok (.iconst 1, 1) := by decide +kernel
theorem dL_areAlike_221 : decode cL_areAlike 221 = .ok (.goto 4, 3) := by decide +kernel
theorem dL_areAlike_224 : decode cL_areAlike 224 = .ok (.iconst 0, 1) := by decide +kernel
theorem dL_areAlike_225 : decode cL_areAlike 225 = .ok (.istore_n 2, 1) := by decide +kernel
theorem dL_areAlike_226 : decode cL_areAlike 226 = .ok (.iinc 4 1, 3) := by decide +kernel
theorem dL_areAlike_229 : decode cL_areAlike 229 = .ok (.goto (-58), 3) := by decide +kernel
theorem dL_areAlike_232 : decode cL_areAlike 232 = .ok (.iinc 3 1, 3) := by decide +kernel
theorem dL_areAlike_235 : decode cL_areAlike 235 = .ok (.goto (-194), 3) := by decide +kernel
theorem dL_areAlike_238 : decode cL_areAlike 238 = .ok (.iconst 0, 1) := by decide +kernel
theorem dL_areAlike_239 : decode cL_areAlike 239 = .ok (.istore_n 3, 1) := by decide +kernel
theorem dL_areAlike_240 : decode cL_areAlike 240 = .ok (.iload_n 3, 1) := by decide +kernel
theorem dL_areAlike_241 : decode cL_areAlike 241 = .ok (.aload_n 0, 1) := by decide +kernel
