theorem dX6_init_15 : decode cX6_init 15 = .ok (.aload_n 0, 1) := by decide +kernel
theorem dX6_init_16 : decode cX6_init 16 = .ok (.new 7, 3) := by decide +kernel
theorem dX6_init_19 : decode cX6_init 19 = .ok (.dup, 1) := by decide +kernel
theorem dX6_init_20 : decode cX6_init 20 = .ok (.invokespecial 9, 3) := by decide +kernel
theorem dX6_init_23 : decode cX6_init 23 = .ok (.putfield 16, 3) := by decide +kernel
theorem dX6_init_26 : decode cX6_init 26 = .ok (.aload_n 0, 1) := by decide +kernel
theorem dX6_init_27 : decode cX6_init 27 = .ok (.iconst 0, 1) := by decide +kernel
theorem dX6_init_28 : decode cX6_init 28 = .ok (.putfield 19, 3) := by decide +kernel
theorem dX6_init_31 : decode cX6_init 31 = .ok (.aload_n 0, 1) := by decide +kernel
theorem dX6_init_32 : decode cX6_init 32 = .ok (.new 23, 3) := by decide +kernel
theorem dX6_init_35 : decode cX6_init 35 = .ok (.dup, 1) := by decide +kernel
theorem dX6_init_36 : decode cX6_init 36 = .ok (.invokespecial 25, 3) := by decide +kernel
theorem dX6_init_39 : decode cX6_init 39 = .ok (.putfield 26, 3) := by decide +kernel
theorem dX6_init_42 : decode cX6_init 42 = .ok (.aload_n 0, 1) := by decide +kernel
theorem dX6_init_43 : decode cX6_init 43 = .ok (.new 30, 3) := by decide +kernel
theorem dX6_init_46 : decode cX6_init 46 = .ok (.dup, 1) := by decide +kernel
theorem dX6_init_47 : decode cX6_init 47 = .ok (.invokespecial 32, 3) := by decide +kernel
theorem dX6_init_50 : decode cX6_init 50 = .ok (.putfield 33, 3) := by decide +kernel
theorem dX6_init_53 : decode cX6_init 53 = .ok (.aload_n 0, 1) := by decide +kernel
theorem dX6_init_54 : decode cX6_init 54 = .ok (.new 37, 3) := by decide +kernel
theorem dX6_init_57 : decode cX6_init 57 = .ok (.dup, 1) := by decide +kernel
theorem dX6_init_58 : decode cX6_init 58 = .ok (.invokespecial 39, 3) := by decide +kernel
theorem dX6_init_61 : decode cX6_init 61 = .ok (.putfield 40, 3) := by decide +kernel
theorem dX6_init_64 : decode cX6_init 64 = .ok (.aload_n 0, 1) := by decide +kernel
theorem dX6_init_65 : decode cX6_init 65 = .ok (.new 44, 3) := by decide +kernel
theorem dX6_init_68 : decode cX6_init 68 = .ok (.dup, 1) := by decide +kernel
theorem dX6_init_69 : decode cX6_init 69 = .ok (.invokespecial 46, 3) := by decide +kernel
theorem dX6_init_72 : decode cX6_init 72 = .ok (.putfield 47, 3) := by decide +kernel
theorem dX6_init_75 : decode cX6_init 75 = .ok (.return_, 1) := by decide +kernel
theorem dX6_event_0 : decode cX6_event 0 = .ok (.aload_n 0, 1) := by decide +kernel
theorem dX6_event_1 : decode cX6_event 1 = .ok (.iload_n 1, 1) := by decide +kernel
theorem dX6_event_2 : decode cX6_event 2 = .ok (.iload_n 2, 1) := by decide +kernel
theorem dX6_event_3 : decode cX6_event 3 = .ok (.iload_n 3, 1) := by decide +kernel
theorem dX6_event_4 : decode cX6_event 4 = .ok (.invokevirtual 51, 3) := by decide +kernel
theorem dX6_event_7 : decode cX6_event 7 = .ok (.istore 4, 2) := by decide +kernel
theorem dX6_event_9 : decode cX6_event 9 = .ok (.iload 4, 2) := by decide +kernel
theorem dX6_event_11 : decode cX6_event 11 = .ok (.ifCond .eq 6, 3) := by decide +kernel
theorem dX6_event_14 : decode cX6_event 14 = .ok (.iload 4, 2) := by decide +kernel
theorem dX6_event_16 : decode cX6_event 16 = .ok (.ireturn, 1) := by decide +kernel
theorem dX6_event_17 : decode cX6_event 17 = .ok (.aload_n 0, 1) := by decide +kernel
theorem dX6_event_18 : decode cX6_event 18 = .ok (.getfield 10, 3) := by decide +kernel
theorem dX6_event_21 : decode cX6_event 21 = .ok (.getfield 55, 3) := by decide +kernel
theorem dX6_event_24 : decode cX6_event 24 = .ok (.bipush 24, 2) := by decide +kernel
theorem dX6_event_26 : decode cX6_event 26 = .ok (.if_icmp .lt 6, 3) := by decide +kernel
theorem dX6_event_29 : decode cX6_event 29 = .ok (.bipush (-3), 2) := by decide +kernel
theorem dX6_event_31 : decode cX6_event 31 = .ok (.ireturn, 1) := by decide +kernel
theorem dX6_event_32 : decode cX6_event 32 = .ok (.aload_n 0, 1) := by decide +kernel
theorem dX6_event_33 : decode cX6_event 33 = .ok (.getfield 26, 3) := by decide +kernel
theorem dX6_event_36 : decode cX6_event 36 = .ok (.aload_n 0, 1) := by decide +kernel
theorem dX6_event_37 : decode cX6_event 37 = .ok (.getfield 10, 3) := by decide +kernel
theorem dX6_event_40 : decode cX6_event 40 = .ok (.invokevirtual 59, 3) := by decide +kernel
theorem dX6_event_43 : decode cX6_event 43 = .ok (.aload_n 0, 1) := by decide +kernel
theorem dX6_event_44 : decode cX6_event 44 = .ok (.getfield 10, 3) := by decide +kernel
theorem dX6_event_47 : decode cX6_event 47 = .ok (.iload_n 1, 1) := by decide +kernel
theorem dX6_event_48 : decode cX6_event 48 = .ok (.iload_n 2, 1) := by decide +kernel
theorem dX6_event_49 : decode cX6_event 49 = .ok (.iload_n 3, 1) := by decide +kernel
theorem dX6_event_50 : decode cX6_event 50 = .ok (.invokevirtual 63, 3) := by decide +kernel
theorem dX6_event_53 : decode cX6_event 53 = .ok (.ireturn, 1) := by decide +kernel
theorem dX6_forget_0 : decode cX6_forget 0 = .ok (.iload_n 1, 1) := by decide +kernel
theorem dX6_forget_1 : decode cX6_forget 1 = .ok (.iconst 0, 1) := by decide +kernel
theorem dX6_forget_2 : decode cX6_forget 2 = .ok (.sipush 9999, 3) := by decide +kernel
theorem dX6_forget_5 : decode cX6_forget 5 = .ok (.invokestatic 66, 3) := by decide +kernel
theorem dX6_forget_8 : decode cX6_forget 8 = .ok (.ifCond .ne 6, 3) := by decide +kernel
theorem dX6_forget_11 : decode cX6_forget 11 = .ok (.bipush (-2), 2) := by decide +kernel
theorem dX6_forget_13 : decode cX6_forget 13 = .ok (.ireturn, 1) := by decide +kernel
theorem dX6_forget_14 : decode cX6_forget 14 = .ok (.aload_n 0, 1) := by decide +kernel
theorem dX6_forget_15 : decode cX6_forget 15 = .ok (.getfield 10, 3) := by decide +kernel
theorem dX6_forget_18 : decode cX6_forget 18 = .ok (.iload_n 1, 1) := by decide +kernel
theorem dX6_forget_19 : decode cX6_forget 19 = .ok (.invokevirtual 70, 3) := by decide +kernel
theorem dX6_forget_22 : decode cX6_forget 22 = .ok (.istore_n 2, 1) := by decide +kernel
theorem dX6_forget_23 : decode cX6_forget 23 = .ok (.iload_n 2, 1) := by decide +kernel
theorem dX6_forget_24 : decode cX6_forget 24 = .ok (.ifCond .ne 6, 3) := by decide +kernel
theorem dX6_forget_27 : decode cX6_forget 27 = .ok (.bipush (-5), 2) := by decide +kernel
theorem dX6_forget_29 : decode cX6_forget 29 = .ok (.ireturn, 1) := by decide +kernel
theorem dX6_forget_30 : decode cX6_forget 30 = .ok (.aload_n 0, 1) := by decide +kernel
theorem dX6_forget_31 : decode cX6_forget 31 = .ok (.getfield 26, 3) := by decide +kernel
theorem dX6_forget_34 : decode cX6_forget 34 = .ok (.aload_n 0, 1) := by decide +kernel
theorem dX6_forget_35 : decode cX6_forget 35 = .ok (.getfield 10, 3) := by decide +kernel
theorem dX6_forget_38 : decode cX6_forget 38 = .ok (.invokevirtual 59, 3) := by decide +kernel
theorem dX6_forget_41 : decode cX6_forget 41 = .ok (.aload_n 0, 1) := by decide +kernel
theorem dX6_forget_42 : decode cX6_forget 42 = .ok (.getfield 10, 3) := by decide +kernel
theorem dX6_forget_45 : decode cX6_forget 45 = .ok (.iload_n 1, 1) := by decide +kernel
theorem dX6_forget_46 : decode cX6_forget 46 = .ok (.invokevirtual 74, 3) := by decide +kernel
theorem dX6_forget_49 : decode cX6_forget 49 = .ok (.iload_n 2, 1) := by decide +kernel
theorem dX6_forget_50 : decode cX6_forget 50 = .ok (.ireturn, 1) := by decide +kernel
theorem dX6_setLateness_0 : decode cX6_setLateness 0 = .ok (.iload_n 1, 1) := by decide +kernel
theorem dX6_setLateness_1 : decode cX6_setLateness 1 = .ok (.iconst 0, 1) := by decide +kernel
theorem dX6_setLateness_2 : decode cX6_setLateness 2 = .ok (.sipush 500, 3) := by decide +kernel
theorem dX6_setLateness_5 : decode cX6_setLateness 5 = .ok (.invokestatic 66, 3) := by decide +kernel
theorem dX6_setLateness_8 : decode cX6_setLateness 8 = .ok (.ifCond .ne 6, 3) := by decide +kernel
theorem dX6_setLateness_11 : decode cX6_setLateness 11 = .ok (.bipush (-2), 2) := by decide +kernel
theorem dX6_setLateness_13 : decode cX6_setLateness 13 = .ok (.ireturn, 1) := by decide +kernel
theorem dX6_setLateness_14 : decode cX6_setLateness 14 = .ok (.aload_n 0, 1) := by decide +kernel
theorem dX6_setLateness_15 : decode cX6_setLateness 15 = .ok (.getfield 10, 3) := by decide +kernel
theorem dX6_setLateness_18 : decode cX6_setLateness 18 = .ok (.getfield 78, 3) := by decide +kernel
theorem dX6_setLateness_21 : decode cX6_setLateness 21 = .ok (.istore_n 2, 1) := by decide +kernel
theorem dX6_setLateness_22 : decode cX6_setLateness 22 = .ok (.iload_n 2, 1) := by decide +kernel
theorem dX6_setLateness_23 : decode cX6_setLateness 23 = .ok (.iload_n 1, 1) := by decide +kernel
theorem dX6_setLateness_24 : decode cX6_setLateness 24 = .ok (.if_icmp .ne 6, 3) := by decide +kernel
theorem dX6_setLateness_27 : decode cX6_setLateness 27 = .ok (.bipush (-5), 2) := by decide +kernel
theorem dX6_setLateness_29 : decode cX6_setLateness 29 = .ok (.ireturn, 1) := by decide +kernel
theorem dX6_setLateness_30 : decode cX6_setLateness 30 = .ok (.aload_n 0, 1) := by decide +kernel
theorem dX6_setLateness_31 : decode cX6_setLateness 31 = .ok (.getfield 26, 3) := by decide +kernel
theorem dX6_setLateness_34 : decode cX6_setLateness 34 = .ok (.aload_n 0, 1) := by decide +kernel
theorem dX6_setLateness_35 : decode cX6_setLateness 35 = .ok (.getfield 10, 3) := by decide +kernel
theorem dX6_setLateness_38 : decode cX6_setLateness 38 = .ok (.invokevirtual 59, 3) := by decide +kernel
theorem dX6_setLateness_41 : decode cX6_setLateness 41 = .ok (.aload_n 0, 1) := by decide +kernel
theorem dX6_setLateness_42 : decode cX6_setLateness 42 = .ok (.getfield 10, 3) := by decide +kernel
theorem dX6_setLateness_45 : decode cX6_setLateness 45 = .ok (.iload_n 1, 1) := by decide +kernel
theorem dX6_setLateness_46 : decode cX6_setLateness 46 = .ok (.putfield 78, 3) := by decide +kernel
theorem dX6_setLateness_49 : decode cX6_setLateness 49 = .ok (.iload_n 2, 1) := by decide +kernel
theorem dX6_setLateness_50 : decode cX6_setLateness 50 = .ok (.ireturn, 1) := by decide +kernel
theorem dX6_addPattern_0 : decode cX6_addPattern 0 = .ok (.aload_n 0, 1) := by decide +kernel
theorem dX6_addPattern_1 : decode cX6_addPattern 1 = .ok (.getfield 33, 3) := by decide +kernel
theorem dX6_addPattern_4 : decode cX6_addPattern 4 = .ok (.aload_n 0, 1) := by decide +kernel
theorem dX6_addPattern_5 : decode cX6_addPattern 5 = .ok (.getfield 40, 3) := by decide +kernel
theorem dX6_addPattern_8 : decode cX6_addPattern 8 = .ok (.invokevirtual 81, 3) := by decide +kernel
theorem dX6_addPattern_11 : decode cX6_addPattern 11 = .ok (.istore_n 1, 1) := by decide +kernel
theorem dX6_addPattern_12 : decode cX6_addPattern 12 = .ok (.iload_n 1, 1) := by decide +kernel
theorem dX6_addPattern_13 : decode cX6_addPattern 13 = .ok (.iconst (-1), 1) := by decide +kernel
theorem dX6_addPattern_14 : decode cX6_addPattern 14 = .ok (.if_icmp .eq 8, 3) := by decide +kernel
theorem dX6_addPattern_17 : decode cX6_addPattern 17 = .ok (.bipush (-100), 2) := by decide +kernel
theorem dX6_addPattern_19 : decode cX6_addPattern 19 = .ok (.iload_n 1, 1) := by decide +kernel
theorem dX6_addPattern_20 : decode cX6_addPattern 20 = .ok (.isub, 1) := by decide +kernel
theorem dX6_addPattern_21 : decode cX6_addPattern 21 = .ok (.ireturn, 1) := by decide +kernel
theorem dX6_addPattern_22 : decode cX6_addPattern 22 = .ok (.aload_n 0, 1) := by decide +kernel
theorem dX6_addPattern_23 : decode cX6_addPattern 23 = .ok (.getfield 10, 3) := by decide +kernel
theorem dX6_addPattern_26 : decode cX6_addPattern 26 = .ok (.getfield 85, 3) := by decide +kernel
theorem dX6_addPattern_29 : decode cX6_addPattern 29 = .ok (.iconst 4, 1) := by decide +kernel
theorem dX6_addPattern_30 : decode cX6_addPattern 30 = .ok (.if_icmp .lt 6, 3) := by decide +kernel
theorem dX6_addPattern_33 : decode cX6_addPattern 33 = .ok (.bipush (-3), 2) := by decide +kernel
theorem dX6_addPattern_35 : decode cX6_addPattern 35 = .ok (.ireturn, 1) := by decide +kernel
theorem dX6_addPattern_36 : decode cX6_addPattern 36 = .ok (.aload_n 0, 1) := by decide +kernel
theorem dX6_addPattern_37 : decode cX6_addPattern 37 = .ok (.getfield 26, 3) := by decide +kernel
theorem dX6_addPattern_40 : decode cX6_addPattern 40 = .ok (.aload_n 0, 1) := by decide +kernel
theorem dX6_addPattern_41 : decode cX6_addPattern 41 = .ok (.getfield 10, 3) := by decide +kernel
theorem dX6_addPattern_44 : decode cX6_addPattern 44 = .ok (.invokevirtual 59, 3) := by decide +kernel
theorem dX6_addPattern_47 : decode cX6_addPattern 47 = .ok (.aload_n 0, 1) := by decide +kernel
theorem dX6_addPattern_48 : decode cX6_addPattern 48 = .ok (.getfield 10, 3) := by decide +kernel
theorem dX6_addPattern_51 : decode cX6_addPattern 51 = .ok (.aload_n 0, 1) := by decide +kernel
theorem dX6_addPattern_52 : decode cX6_addPattern 52 = .ok (.getfield 40, 3) := by decide +kernel
theorem dX6_addPattern_55 : decode cX6_addPattern 55 = .ok (.invokevirtual 88, 3) := by decide +kernel
theorem dX6_addPattern_58 : decode cX6_addPattern 58 = .ok (.ireturn, 1) := by decide +kernel
theorem dX6_dropPattern_0 : decode cX6_dropPattern 0 = .ok (.aload_n 0, 1) := by decide +kernel
theorem dX6_dropPattern_1 : decode cX6_dropPattern 1 = .ok (.iload_n 1, 1) := by decide +kernel
theorem dX6_dropPattern_2 : decode cX6_dropPattern 2 = .ok (.invokevirtual 91, 3) := by decide +kernel
theorem dX6_dropPattern_5 : decode cX6_dropPattern 5 = .ok (.ifCond .ne 5, 3) := by decide +kernel
theorem dX6_dropPattern_8 : decode cX6_dropPattern 8 = .ok (.iconst (-1), 1) := by decide +kernel
theorem dX6_dropPattern_9 : decode cX6_dropPattern 9 = .ok (.ireturn, 1) := by decide +kernel
theorem dX6_dropPattern_10 : decode cX6_dropPattern 10 = .ok (.aload_n 0, 1) := by decide +kernel
theorem dX6_dropPattern_11 : decode cX6_dropPattern 11 = .ok (.getfield 26, 3) := by decide +kernel
theorem dX6_dropPattern_14 : decode cX6_dropPattern 14 = .ok (.aload_n 0, 1) := by decide +kernel
theorem dX6_dropPattern_15 : decode cX6_dropPattern 15 = .ok (.getfield 10, 3) := by decide +kernel
theorem dX6_dropPattern_18 : decode cX6_dropPattern 18 = .ok (.invokevirtual 59, 3) := by decide +kernel
theorem dX6_dropPattern_21 : decode cX6_dropPattern 21 = .ok (.aload_n 0, 1) := by decide +kernel
theorem dX6_dropPattern_22 : decode cX6_dropPattern 22 = .ok (.getfield 10, 3) := by decide +kernel
theorem dX6_dropPattern_25 : decode cX6_dropPattern 25 = .ok (.iload_n 1, 1) := by decide +kernel
theorem dX6_dropPattern_26 : decode cX6_dropPattern 26 = .ok (.invokevirtual 95, 3) := by decide +kernel
theorem dX6_dropPattern_29 : decode cX6_dropPattern 29 = .ok (.ireturn, 1) := by decide +kernel
theorem dX6_setWindow_0 : decode cX6_setWindow 0 = .ok (.aload_n 0, 1) := by decide +kernel
theorem dX6_setWindow_1 : decode cX6_setWindow 1 = .ok (.iload_n 1, 1) := by decide +kernel
theorem dX6_setWindow_2 : decode cX6_setWindow 2 = .ok (.invokevirtual 91, 3) := by decide +kernel
theorem dX6_setWindow_5 : decode cX6_setWindow 5 = .ok (.ifCond .ne 5, 3) := by decide +kernel
theorem dX6_setWindow_8 : decode cX6_setWindow 8 = .ok (.iconst (-1), 1) := by decide +kernel
theorem dX6_setWindow_9 : decode cX6_setWindow 9 = .ok (.ireturn, 1) := by decide +kernel
theorem dX6_setWindow_10 : decode cX6_setWindow 10 = .ok (.iload_n 2, 1) := by decide +kernel
theorem dX6_setWindow_11 : decode cX6_setWindow 11 = .ok (.iconst 1, 1) := by decide +kernel
theorem dX6_setWindow_12 : decode cX6_setWindow 12 = .ok (.sipush 1000, 3) := by decide +kernel
theorem dX6_setWindow_15 : decode cX6_setWindow 15 = .ok (.invokestatic 66, 3) := by decide +kernel
theorem dX6_setWindow_18 : decode cX6_setWindow 18 = .ok (.ifCond .ne 6, 3) := by decide +kernel
theorem dX6_setWindow_21 : decode cX6_setWindow 21 = .ok (.bipush (-2), 2) := by decide +kernel
theorem dX6_setWindow_23 : decode cX6_setWindow 23 = .ok (.ireturn, 1) := by decide +kernel
theorem dX6_setWindow_24 : decode cX6_setWindow 24 = .ok (.aload_n 0, 1) := by decide +kernel
theorem dX6_setWindow_25 : decode cX6_setWindow 25 = .ok (.getfield 10, 3) := by decide +kernel
theorem dX6_setWindow_28 : decode cX6_setWindow 28 = .ok (.getfield 98, 3) := by decide +kernel
theorem dX6_setWindow_31 : decode cX6_setWindow 31 = .ok (.iload_n 1, 1) := by decide +kernel
theorem dX6_setWindow_32 : decode cX6_setWindow 32 = .ok (.aaload, 1) := by decide +kernel
theorem dX6_setWindow_33 : decode cX6_setWindow 33 = .ok (.getfield 102, 3) := by decide +kernel
theorem dX6_setWindow_36 : decode cX6_setWindow 36 = .ok (.istore_n 3, 1) := by decide +kernel
theorem dX6_setWindow_37 : decode cX6_setWindow 37 = .ok (.iload_n 3, 1) := by decide +kernel
theorem dX6_setWindow_38 : decode cX6_setWindow 38 = .ok (.iload_n 2, 1) := by decide +kernel
theorem dX6_setWindow_39 : decode cX6_setWindow 39 = .ok (.if_icmp .ne 6, 3) := by decide +kernel
theorem dX6_setWindow_42 : decode cX6_setWindow 42 = .ok (.bipush (-5), 2) := by decide +kernel
theorem dX6_setWindow_44 : decode cX6_setWindow 44 = .ok (.ireturn, 1) := by decide +kernel
theorem dX6_setWindow_45 : decode cX6_setWindow 45 = .ok (.aload_n 0, 1) := by decide +kernel
theorem dX6_setWindow_46 : decode cX6_setWindow 46 = .ok (.getfield 26, 3) := by decide +kernel
theorem dX6_setWindow_49 : decode cX6_setWindow 49 = .ok (.aload_n 0, 1) := by decide +kernel
theorem dX6_setWindow_50 : decode cX6_setWindow 50 = .ok (.getfield 10, 3) := by decide +kernel
theorem dX6_setWindow_53 : decode cX6_setWindow 53 = .ok (.invokevirtual 59, 3) := by decide +kernel
theorem dX6_setWindow_56 : decode cX6_setWindow 56 = .ok (.aload_n 0, 1) := by decide +kernel
theorem dX6_setWindow_57 : decode cX6_setWindow 57 = .ok (.getfield 10, 3) := by decide +kernel
theorem dX6_setWindow_60 : decode cX6_setWindow 60 = .ok (.getfield 98, 3) := by decide +kernel
theorem dX6_setWindow_63 : decode cX6_setWindow 63 = .ok (.iload_n 1, 1) := by decide +kernel
theorem dX6_setWindow_64 : decode cX6_setWindow 64 = .ok (.aaload, 1) := by decide +kernel
theorem dX6_setWindow_65 : decode cX6_setWindow 65 = .ok (.iload_n 2, 1) := by decide +kernel
theorem dX6_setWindow_66 : decode cX6_setWindow 66 = .ok (.putfield 102, 3) := by decide +kernel
theorem dX6_setWindow_69 : decode cX6_setWindow 69 = .ok (.iload_n 3, 1) := by decide +kernel
theorem dX6_setWindow_70 : decode cX6_setWindow 70 = .ok (.ireturn, 1) := by decide +kernel
theorem dX6_type_0 : decode cX6_type 0 = .ok (.aload_n 0, 1) := by decide +kernel
theorem dX6_type_1 : decode cX6_type 1 = .ok (.getfield 33, 3) := by decide +kernel
theorem dX6_type_4 : decode cX6_type 4 = .ok (.iload_n 1, 1) := by decide +kernel
theorem dX6_type_5 : decode cX6_type 5 = .ok (.invokevirtual 105, 3) := by decide +kernel
theorem dX6_type_8 : decode cX6_type 8 = .ok (.ireturn, 1) := by decide +kernel
theorem dX6_clearText_0 : decode cX6_clearText 0 = .ok (.aload_n 0, 1) := by decide +kernel
theorem dX6_clearText_1 : decode cX6_clearText 1 = .ok (.getfield 33, 3) := by decide +kernel
theorem dX6_clearText_4 : decode cX6_clearText 4 = .ok (.getfield 109, 3) := by decide +kernel
theorem dX6_clearText_7 : decode cX6_clearText 7 = .ok (.istore_n 1, 1) := by decide +kernel
theorem dX6_clearText_8 : decode cX6_clearText 8 = .ok (.aload_n 0, 1) := by decide +kernel
theorem dX6_clearText_9 : decode cX6_clearText 9 = .ok (.getfield 33, 3) := by decide +kernel
theorem dX6_clearText_12 : decode cX6_clearText 12 = .ok (.iconst 0, 1) := by decide +kernel
theorem dX6_clearText_13 : decode cX6_clearText 13 = .ok (.putfield 109, 3) := by decide +kernel
theorem dX6_clearText_16 : decode cX6_clearText 16 = .ok (.iload_n 1, 1) := by decide +kernel
theorem dX6_clearText_17 : decode cX6_clearText 17 = .ok (.ireturn, 1) := by decide +kernel
theorem dX6_undo_0 : decode cX6_undo 0 = .ok (.aload_n 0, 1) := by decide +kernel
theorem dX6_undo_1 : decode cX6_undo 1 = .ok (.getfield 26, 3) := by decide +kernel
theorem dX6_undo_4 : decode cX6_undo 4 = .ok (.getfield 112, 3) := by decide +kernel
theorem dX6_undo_7 : decode cX6_undo 7 = .ok (.ifCond .ne 6, 3) := by decide +kernel
theorem dX6_undo_10 : decode cX6_undo 10 = .ok (.bipush (-5), 2) := by decide +kernel
theorem dX6_undo_12 : decode cX6_undo 12 = .ok (.ireturn, 1) := by decide +kernel
theorem dX6_undo_13 : decode cX6_undo 13 = .ok (.aload_n 0, 1) := by decide +kernel
theorem dX6_undo_14 : decode cX6_undo 14 = .ok (.getfield 26, 3) := by decide +kernel
theorem dX6_undo_17 : decode cX6_undo 17 = .ok (.aload_n 0, 1) := by decide +kernel
theorem dX6_undo_18 : decode cX6_undo 18 = .ok (.getfield 10, 3) := by decide +kernel
theorem dX6_undo_21 : decode cX6_undo 21 = .ok (.invokevirtual 115, 3) := by decide +kernel
theorem dX6_undo_24 : decode cX6_undo 24 = .ok (.aload_n 0, 1) := by decide +kernel
theorem dX6_undo_25 : decode cX6_undo 25 = .ok (.getfield 26, 3) := by decide +kernel
theorem dX6_undo_28 : decode cX6_undo 28 = .ok (.getfield 112, 3) := by decide +kernel
theorem dX6_undo_31 : decode cX6_undo 31 = .ok (.ireturn, 1) := by decide +kernel
theorem dX6_keep_0 : decode cX6_keep 0 = .ok (.aload_n 0, 1) := by decide +kernel
theorem dX6_keep_1 : decode cX6_keep 1 = .ok (.getfield 16, 3) := by decide +kernel
theorem dX6_keep_4 : decode cX6_keep 4 = .ok (.aload_n 0, 1) := by decide +kernel
theorem dX6_keep_5 : decode cX6_keep 5 = .ok (.getfield 10, 3) := by decide +kernel
theorem dX6_keep_8 : decode cX6_keep 8 = .ok (.invokevirtual 118, 3) := by decide +kernel
theorem dX6_keep_11 : decode cX6_keep 11 = .ok (.aload_n 0, 1) := by decide +kernel
theorem dX6_keep_12 : decode cX6_keep 12 = .ok (.iconst 1, 1) := by decide +kernel
theorem dX6_keep_13 : decode cX6_keep 13 = .ok (.putfield 19, 3) := by decide +kernel
theorem dX6_keep_16 : decode cX6_keep 16 = .ok (.aload_n 0, 1) := by decide +kernel
theorem dX6_keep_17 : decode cX6_keep 17 = .ok (.getfield 10, 3) := by decide +kernel
theorem dX6_keep_20 : decode cX6_keep 20 = .ok (.getfield 55, 3) := by decide +kernel
theorem dX6_keep_23 : decode cX6_keep 23 = .ok (.ireturn, 1) := by decide +kernel
theorem dX6_restore_0 : decode cX6_restore 0 = .ok (.aload_n 0, 1) := by decide +kernel
theorem dX6_restore_1 : decode cX6_restore 1 = .ok (.getfield 19, 3) := by decide +kernel
theorem dX6_restore_4 : decode cX6_restore 4 = .ok (.ifCond .ne 6, 3) := by decide +kernel
theorem dX6_restore_7 : decode cX6_restore 7 = .ok (.bipush (-5), 2) := by decide +kernel
theorem dX6_restore_9 : decode cX6_restore 9 = .ok (.ireturn, 1) := by decide +kernel
theorem dX6_restore_10 : decode cX6_restore 10 = .ok (.aload_n 0, 1) := by decide +kernel
theorem dX6_restore_11 : decode cX6_restore 11 = .ok (.getfield 26, 3) := by decide +kernel
theorem dX6_restore_14 : decode cX6_restore 14 = .ok (.aload_n 0, 1) := by decide +kernel
theorem dX6_restore_15 : decode cX6_restore 15 = .ok (.getfield 10, 3) := by decide +kernel
theorem dX6_restore_18 : decode cX6_restore 18 = .ok (.invokevirtual 59, 3) := by decide +kernel
theorem dX6_restore_21 : decode cX6_restore 21 = .ok (.aload_n 0, 1) := by decide +kernel
theorem dX6_restore_22 : decode cX6_restore 22 = .ok (.getfield 10, 3) := by decide +kernel
theorem dX6_restore_25 : decode cX6_restore 25 = .ok (.aload_n 0, 1) := by decide +kernel
theorem dX6_restore_26 : decode cX6_restore 26 = .ok (.getfield 16, 3) := by decide +kernel
theorem dX6_restore_29 : decode cX6_restore 29 = .ok (.invokevirtual 118, 3) := by decide +kernel
theorem dX6_restore_32 : decode cX6_restore 32 = .ok (.aload_n 0, 1) := by decide +kernel
theorem dX6_restore_33 : decode cX6_restore 33 = .ok (.getfield 10, 3) := by decide +kernel
theorem dX6_restore_36 : decode cX6_restore 36 = .ok (.getfield 55, 3) := by decide +kernel
theorem dX6_restore_39 : decode cX6_restore 39 = .ok (.ireturn, 1) := by decide +kernel
theorem dX6_eventOf_0 : decode cX6_eventOf 0 = .ok (.iload_n 1, 1) := by decide +kernel
theorem dX6_eventOf_1 : decode cX6_eventOf 1 = .ok (.ifCond .lt 14, 3) := by decide +kernel
theorem dX6_eventOf_4 : decode cX6_eventOf 4 = .ok (.iload_n 1, 1) := by decide +kernel
theorem dX6_eventOf_5 : decode cX6_eventOf 5 = .ok (.aload_n 0, 1) := by decide +kernel
theorem dX6_eventOf_6 : decode cX6_eventOf 6 = .ok (.getfield 10, 3) := by decide +kernel
theorem dX6_eventOf_9 : decode cX6_eventOf 9 = .ok (.getfield 55, 3) := by decide +kernel
theorem dX6_eventOf_12 : decode cX6_eventOf 12 = .ok (.if_icmp .lt 5, 3) := by decide +kernel
theorem dX6_eventOf_15 : decode cX6_eventOf 15 = .ok (.iconst (-1), 1) := by decide +kernel
theorem dX6_eventOf_16 : decode cX6_eventOf 16 = .ok (.ireturn, 1) := by decide +kernel
theorem dX6_eventOf_17 : decode cX6_eventOf 17 = .ok (.iload_n 2, 1) := by decide +kernel
theorem dX6_eventOf_18 : decode cX6_eventOf 18 = .ok (.tableswitch 119 0 4 #[34, 44, 54, 64, 87], 34) := by decide +kernel
theorem dX6_eventOf_52 : decode cX6_eventOf 52 = .ok (.aload_n 0, 1) := by decide +kernel
theorem dX6_eventOf_53 : decode cX6_eventOf 53 = .ok (.getfield 10, 3) := by decide +kernel
theorem dX6_eventOf_56 : decode cX6_eventOf 56 = .ok (.getfield 121, 3) := by decide +kernel
theorem dX6_eventOf_59 : decode cX6_eventOf 59 = .ok (.iload_n 1, 1) := by decide +kernel
theorem dX6_eventOf_60 : decode cX6_eventOf 60 = .ok (.caload, 1) := by decide +kernel
theorem dX6_eventOf_61 : decode cX6_eventOf 61 = .ok (.ireturn, 1) := by decide +kernel
theorem dX6_eventOf_62 : decode cX6_eventOf 62 = .ok (.aload_n 0, 1) := by decide +kernel
theorem dX6_eventOf_63 : decode cX6_eventOf 63 = .ok (.getfield 10, 3) := by decide +kernel
theorem dX6_eventOf_66 : decode cX6_eventOf 66 = .ok (.getfield 125, 3) := by decide +kernel
theorem dX6_eventOf_69 : decode cX6_eventOf 69 = .ok (.iload_n 1, 1) := by decide +kernel
theorem dX6_eventOf_70 : decode cX6_eventOf 70 = .ok (.iaload, 1) := by decide +kernel
theorem dX6_eventOf_71 : decode cX6_eventOf 71 = .ok (.ireturn, 1) := by decide +kernel
theorem dX6_eventOf_72 : decode cX6_eventOf 72 = .ok (.aload_n 0, 1) := by decide +kernel
theorem dX6_eventOf_73 : decode cX6_eventOf 73 = .ok (.getfield 10, 3) := by decide +kernel
theorem dX6_eventOf_76 : decode cX6_eventOf 76 = .ok (.getfield 129, 3) := by decide +kernel
theorem dX6_eventOf_79 : decode cX6_eventOf 79 = .ok (.iload_n 1, 1) := by decide +kernel
theorem dX6_eventOf_80 : decode cX6_eventOf 80 = .ok (.iaload, 1) := by decide +kernel
theorem dX6_eventOf_81 : decode cX6_eventOf 81 = .ok (.ireturn, 1) := by decide +kernel
theorem dX6_eventOf_82 : decode cX6_eventOf 82 = .ok (.aload_n 0, 1) := by decide +kernel
theorem dX6_eventOf_83 : decode cX6_eventOf 83 = .ok (.getfield 47, 3) := by decide +kernel
theorem dX6_eventOf_86 : decode cX6_eventOf 86 = .ok (.aload_n 0, 1) := by decide +kernel
theorem dX6_eventOf_87 : decode cX6_eventOf 87 = .ok (.getfield 10, 3) := by decide +kernel
theorem dX6_eventOf_90 : decode cX6_eventOf 90 = .ok (.invokevirtual 132, 3) := by decide +kernel
theorem dX6_eventOf_93 : decode cX6_eventOf 93 = .ok (.aload_n 0, 1) := by decide +kernel
theorem dX6_eventOf_94 : decode cX6_eventOf 94 = .ok (.getfield 47, 3) := by decide +kernel
theorem dX6_eventOf_97 : decode cX6_eventOf 97 = .ok (.getfield 135, 3) := by decide +kernel
theorem dX6_eventOf_100 : decode cX6_eventOf 100 = .ok (.iload_n 1, 1) := by decide +kernel
theorem dX6_eventOf_101 : decode cX6_eventOf 101 = .ok (.invokevirtual 139, 3) := by decide +kernel
theorem dX6_eventOf_104 : decode cX6_eventOf 104 = .ok (.ireturn, 1) := by decide +kernel
theorem dX6_eventOf_105 : decode cX6_eventOf 105 = .ok (.aload_n 0, 1) := by decide +kernel
theorem dX6_eventOf_106 : decode cX6_eventOf 106 = .ok (.getfield 47, 3) := by decide +kernel
theorem dX6_eventOf_109 : decode cX6_eventOf 109 = .ok (.aload_n 0, 1) := by decide +kernel
theorem dX6_eventOf_110 : decode cX6_eventOf 110 = .ok (.getfield 10, 3) := by decide +kernel
theorem dX6_eventOf_113 : decode cX6_eventOf 113 = .ok (.invokevirtual 132, 3) := by decide +kernel
theorem dX6_eventOf_116 : decode cX6_eventOf 116 = .ok (.aload_n 0, 1) := by decide +kernel
theorem dX6_eventOf_117 : decode cX6_eventOf 117 = .ok (.getfield 47, 3) := by decide +kernel
theorem dX6_eventOf_120 : decode cX6_eventOf 120 = .ok (.aload_n 0, 1) := by decide +kernel
theorem dX6_eventOf_121 : decode cX6_eventOf 121 = .ok (.getfield 10, 3) := by decide +kernel
theorem dX6_eventOf_124 : decode cX6_eventOf 124 = .ok (.invokevirtual 144, 3) := by decide +kernel
theorem dX6_eventOf_127 : decode cX6_eventOf 127 = .ok (.pop, 1) := by decide +kernel
theorem dX6_eventOf_128 : decode cX6_eventOf 128 = .ok (.aload_n 0, 1) := by decide +kernel
theorem dX6_eventOf_129 : decode cX6_eventOf 129 = .ok (.getfield 47, 3) := by decide +kernel
theorem dX6_eventOf_132 : decode cX6_eventOf 132 = .ok (.iload_n 1, 1) := by decide +kernel
theorem dX6_eventOf_133 : decode cX6_eventOf 133 = .ok (.invokevirtual 148, 3) := by decide +kernel
theorem dX6_eventOf_136 : decode cX6_eventOf 136 = .ok (.ireturn, 1) := by decide +kernel
theorem dX6_eventOf_137 : decode cX6_eventOf 137 = .ok (.bipush (-2), 2) := by decide +kernel
theorem dX6_eventOf_139 : decode cX6_eventOf 139 = .ok (.ireturn, 1) := by decide +kernel
theorem dX6_pattern_0 : decode cX6_pattern 0 = .ok (.aload_n 0, 1) := by decide +kernel
theorem dX6_pattern_1 : decode cX6_pattern 1 = .ok (.iload_n 1, 1) := by decide +kernel
theorem dX6_pattern_2 : decode cX6_pattern 2 = .ok (.invokevirtual 91, 3) := by decide +kernel
theorem dX6_pattern_5 : decode cX6_pattern 5 = .ok (.ifCond .ne 5, 3) := by decide +kernel
theorem dX6_pattern_8 : decode cX6_pattern 8 = .ok (.iconst (-1), 1) := by decide +kernel
theorem dX6_pattern_9 : decode cX6_pattern 9 = .ok (.ireturn, 1) := by decide +kernel
theorem dX6_pattern_10 : decode cX6_pattern 10 = .ok (.aload_n 0, 1) := by decide +kernel
theorem dX6_pattern_11 : decode cX6_pattern 11 = .ok (.getfield 10, 3) := by decide +kernel
theorem dX6_pattern_14 : decode cX6_pattern 14 = .ok (.getfield 98, 3) := by decide +kernel
theorem dX6_pattern_17 : decode cX6_pattern 17 = .ok (.iload_n 1, 1) := by decide +kernel
theorem dX6_pattern_18 : decode cX6_pattern 18 = .ok (.aaload, 1) := by decide +kernel
theorem dX6_pattern_19 : decode cX6_pattern 19 = .ok (.astore_n 3, 1) := by decide +kernel
theorem dX6_pattern_20 : decode cX6_pattern 20 = .ok (.iload_n 2, 1) := by decide +kernel
theorem dX6_pattern_21 : decode cX6_pattern 21 = .ok (.tableswitch 102 0 6 #[43, 48, 53, 58, 63, 76, 89], 43) := by decide +kernel
theorem dX6_pattern_64 : decode cX6_pattern 64 = .ok (.aload_n 3, 1) := by decide +kernel
theorem dX6_pattern_65 : decode cX6_pattern 65 = .ok (.getfield 102, 3) := by decide +kernel
theorem dX6_pattern_68 : decode cX6_pattern 68 = .ok (.ireturn, 1) := by decide +kernel
theorem dX6_pattern_69 : decode cX6_pattern 69 = .ok (.aload_n 3, 1) := by decide +kernel
theorem dX6_pattern_70 : decode cX6_pattern 70 = .ok (.getfield 151, 3) := by decide +kernel
theorem dX6_pattern_73 : decode cX6_pattern 73 = .ok (.ireturn, 1) := by decide +kernel
theorem dX6_pattern_74 : decode cX6_pattern 74 = .ok (.aload_n 3, 1) := by decide +kernel
theorem dX6_pattern_75 : decode cX6_pattern 75 = .ok (.getfield 154, 3) := by decide +kernel
theorem dX6_pattern_78 : decode cX6_pattern 78 = .ok (.ireturn, 1) := by decide +kernel
theorem dX6_pattern_79 : decode cX6_pattern 79 = .ok (.aload_n 3, 1) := by decide +kernel
theorem dX6_pattern_80 : decode cX6_pattern 80 = .ok (.getfield 157, 3) := by decide +kernel
theorem dX6_pattern_83 : decode cX6_pattern 83 = .ok (.ireturn, 1) := by decide +kernel
theorem dX6_pattern_84 : decode cX6_pattern 84 = .ok (.aload_n 0, 1) := by decide +kernel
theorem dX6_pattern_85 : decode cX6_pattern 85 = .ok (.aload_n 3, 1) := by decide +kernel
theorem dX6_pattern_86 : decode cX6_pattern 86 = .ok (.invokevirtual 160, 3) := by decide +kernel
theorem dX6_pattern_89 : decode cX6_pattern 89 = .ok (.aload_n 0, 1) := by decide +kernel
theorem dX6_pattern_90 : decode cX6_pattern 90 = .ok (.getfield 47, 3) := by decide +kernel
theorem dX6_pattern_93 : decode cX6_pattern 93 = .ok (.getfield 164, 3) := by decide +kernel
theorem dX6_pattern_96 : decode cX6_pattern 96 = .ok (.ireturn, 1) := by decide +kernel
theorem dX6_pattern_97 : decode cX6_pattern 97 = .ok (.aload_n 0, 1) := by decide +kernel
theorem dX6_pattern_98 : decode cX6_pattern 98 = .ok (.aload_n 3, 1) := by decide +kernel
theorem dX6_pattern_99 : decode cX6_pattern 99 = .ok (.invokevirtual 160, 3) := by decide +kernel
theorem dX6_pattern_102 : decode cX6_pattern 102 = .ok (.aload_n 0, 1) := by decide +kernel
theorem dX6_pattern_103 : decode cX6_pattern 103 = .ok (.getfield 47, 3) := by decide +kernel
theorem dX6_pattern_106 : decode cX6_pattern 106 = .ok (.getfield 167, 3) := by decide +kernel
theorem dX6_pattern_109 : decode cX6_pattern 109 = .ok (.ireturn, 1) := by decide +kernel
theorem dX6_pattern_110 : decode cX6_pattern 110 = .ok (.aload_n 0, 1) := by decide +kernel
theorem dX6_pattern_111 : decode cX6_pattern 111 = .ok (.aload_n 3, 1) := by decide +kernel
theorem dX6_pattern_112 : decode cX6_pattern 112 = .ok (.invokevirtual 160, 3) := by decide +kernel
theorem dX6_pattern_115 : decode cX6_pattern 115 = .ok (.aload_n 0, 1) := by decide +kernel
theorem dX6_pattern_116 : decode cX6_pattern 116 = .ok (.getfield 47, 3) := by decide +kernel
theorem dX6_pattern_119 : decode cX6_pattern 119 = .ok (.getfield 170, 3) := by decide +kernel
theorem dX6_pattern_122 : decode cX6_pattern 122 = .ok (.ireturn, 1) := by decide +kernel
theorem dX6_pattern_123 : decode cX6_pattern 123 = .ok (.bipush (-2), 2) := by decide +kernel
theorem dX6_pattern_125 : decode cX6_pattern 125 = .ok (.ireturn, 1) := by decide +kernel
theorem dX6_step_0 : decode cX6_step 0 = .ok (.aload_n 0, 1) := by decide +kernel
theorem dX6_step_1 : decode cX6_step 1 = .ok (.iload_n 1, 1) := by decide +kernel
theorem dX6_step_2 : decode cX6_step 2 = .ok (.invokevirtual 91, 3) := by decide +kernel
theorem dX6_step_5 : decode cX6_step 5 = .ok (.ifCond .ne 5, 3) := by decide +kernel
theorem dX6_step_8 : decode cX6_step 8 = .ok (.iconst (-1), 1) := by decide +kernel
theorem dX6_step_9 : decode cX6_step 9 = .ok (.ireturn, 1) := by decide +kernel
theorem dX6_step_10 : decode cX6_step 10 = .ok (.aload_n 0, 1) := by decide +kernel
theorem dX6_step_11 : decode cX6_step 11 = .ok (.getfield 10, 3) := by decide +kernel
theorem dX6_step_14 : decode cX6_step 14 = .ok (.getfield 98, 3) := by decide +kernel
theorem dX6_step_17 : decode cX6_step 17 = .ok (.iload_n 1, 1) := by decide +kernel
theorem dX6_step_18 : decode cX6_step 18 = .ok (.aaload, 1) := by decide +kernel
theorem dX6_step_19 : decode cX6_step 19 = .ok (.astore 4, 2) := by decide +kernel
theorem dX6_step_21 : decode cX6_step 21 = .ok (.iload_n 2, 1) := by decide +kernel
theorem dX6_step_22 : decode cX6_step 22 = .ok (.ifCond .lt 12, 3) := by decide +kernel
theorem dX6_step_25 : decode cX6_step 25 = .ok (.iload_n 2, 1) := by decide +kernel
theorem dX6_step_26 : decode cX6_step 26 = .ok (.aload 4, 2) := by decide +kernel
theorem dX6_step_28 : decode cX6_step 28 = .ok (.getfield 154, 3) := by decide +kernel
theorem dX6_step_31 : decode cX6_step 31 = .ok (.if_icmp .lt 6, 3) := by decide +kernel
theorem dX6_step_34 : decode cX6_step 34 = .ok (.bipush (-2), 2) := by decide +kernel
theorem dX6_step_36 : decode cX6_step 36 = .ok (.ireturn, 1) := by decide +kernel
theorem dX6_step_37 : decode cX6_step 37 = .ok (.iload_n 3, 1) := by decide +kernel
theorem dX6_step_38 : decode cX6_step 38 = .ok (.lookupswitch 50 #[(0, 26), (1, 34)], 26) := by decide +kernel
theorem dX6_step_64 : decode cX6_step 64 = .ok (.aload 4, 2) := by decide +kernel
theorem dX6_step_66 : decode cX6_step 66 = .ok (.getfield 173, 3) := by decide +kernel
theorem dX6_step_69 : decode cX6_step 69 = .ok (.iload_n 2, 1) := by decide +kernel
theorem dX6_step_70 : decode cX6_step 70 = .ok (.caload, 1) := by decide +kernel
theorem dX6_step_71 : decode cX6_step 71 = .ok (.ireturn, 1) := by decide +kernel
theorem dX6_step_72 : decode cX6_step 72 = .ok (.aload 4, 2) := by decide +kernel
theorem dX6_step_74 : decode cX6_step 74 = .ok (.getfield 174, 3) := by decide +kernel
theorem dX6_step_77 : decode cX6_step 77 = .ok (.iload_n 2, 1) := by decide +kernel
theorem dX6_step_78 : decode cX6_step 78 = .ok (.baload, 1) := by decide +kernel
theorem dX6_step_79 : decode cX6_step 79 = .ok (.ifCond .eq 7, 3) := by decide +kernel
theorem dX6_step_82 : decode cX6_step 82 = .ok (.iconst 1, 1) := by decide +kernel
theorem dX6_step_83 : decode cX6_step 83 = .ok (.goto 4, 3) := by decide +kernel
theorem dX6_step_86 : decode cX6_step 86 = .ok (.iconst 0, 1) := by decide +kernel
theorem dX6_step_87 : decode cX6_step 87 = .ok (.ireturn, 1) := by decide +kernel
theorem dX6_step_88 : decode cX6_step 88 = .ok (.bipush (-2), 2) := by decide +kernel
theorem dX6_step_90 : decode cX6_step 90 = .ok (.ireturn, 1) := by decide +kernel
theorem dX6_match_0 : decode cX6_match 0 = .ok (.aload_n 0, 1) := by decide +kernel
theorem dX6_match_1 : decode cX6_match 1 = .ok (.iload_n 1, 1) := by decide +kernel
theorem dX6_match_2 : decode cX6_match 2 = .ok (.invokevirtual 91, 3) := by decide +kernel
theorem dX6_match_5 : decode cX6_match 5 = .ok (.ifCond .ne 5, 3) := by decide +kernel
theorem dX6_match_8 : decode cX6_match 8 = .ok (.iconst (-1), 1) := by decide +kernel
theorem dX6_match_9 : decode cX6_match 9 = .ok (.ireturn, 1) := by decide +kernel
theorem dX6_match_10 : decode cX6_match 10 = .ok (.aload_n 0, 1) := by decide +kernel
theorem dX6_match_11 : decode cX6_match 11 = .ok (.getfield 10, 3) := by decide +kernel
theorem dX6_match_14 : decode cX6_match 14 = .ok (.getfield 98, 3) := by decide +kernel
theorem dX6_match_17 : decode cX6_match 17 = .ok (.iload_n 1, 1) := by decide +kernel
theorem dX6_match_18 : decode cX6_match 18 = .ok (.aaload, 1) := by decide +kernel
theorem dX6_match_19 : decode cX6_match 19 = .ok (.astore 4, 2) := by decide +kernel
theorem dX6_match_21 : decode cX6_match 21 = .ok (.iload_n 2, 1) := by decide +kernel
theorem dX6_match_22 : decode cX6_match 22 = .ok (.ifCond .lt 16, 3) := by decide +kernel
theorem dX6_match_25 : decode cX6_match 25 = .ok (.iload_n 3, 1) := by decide +kernel
theorem dX6_match_26 : decode cX6_match 26 = .ok (.ifCond .lt 12, 3) := by decide +kernel
theorem dX6_match_29 : decode cX6_match 29 = .ok (.iload_n 3, 1) := by decide +kernel
theorem dX6_match_30 : decode cX6_match 30 = .ok (.aload 4, 2) := by decide +kernel
theorem dX6_match_32 : decode cX6_match 32 = .ok (.getfield 157, 3) := by decide +kernel
theorem dX6_match_35 : decode cX6_match 35 = .ok (.if_icmp .lt 6, 3) := by decide +kernel
theorem dX6_match_38 : decode cX6_match 38 = .ok (.bipush (-2), 2) := by decide +kernel
theorem dX6_match_40 : decode cX6_match 40 = .ok (.ireturn, 1) := by decide +kernel
theorem dX6_match_41 : decode cX6_match 41 = .ok (.aload_n 0, 1) := by decide +kernel
theorem dX6_match_42 : decode cX6_match 42 = .ok (.getfield 47, 3) := by decide +kernel
theorem dX6_match_45 : decode cX6_match 45 = .ok (.aload_n 0, 1) := by decide +kernel
theorem dX6_match_46 : decode cX6_match 46 = .ok (.getfield 10, 3) := by decide +kernel
theorem dX6_match_49 : decode cX6_match 49 = .ok (.invokevirtual 132, 3) := by decide +kernel
theorem dX6_match_52 : decode cX6_match 52 = .ok (.aload_n 0, 1) := by decide +kernel
theorem dX6_match_53 : decode cX6_match 53 = .ok (.getfield 47, 3) := by decide +kernel
theorem dX6_match_56 : decode cX6_match 56 = .ok (.iload_n 2, 1) := by decide +kernel
theorem dX6_match_57 : decode cX6_match 57 = .ok (.iload_n 3, 1) := by decide +kernel
theorem dX6_match_58 : decode cX6_match 58 = .ok (.invokevirtual 178, 3) := by decide +kernel
theorem dX6_match_61 : decode cX6_match 61 = .ok (.aload_n 0, 1) := by decide +kernel
theorem dX6_match_62 : decode cX6_match 62 = .ok (.getfield 47, 3) := by decide +kernel
theorem dX6_match_65 : decode cX6_match 65 = .ok (.aload 4, 2) := by decide +kernel
theorem dX6_match_67 : decode cX6_match 67 = .ok (.invokevirtual 182, 3) := by decide +kernel
theorem dX6_match_70 : decode cX6_match 70 = .ok (.aload_n 0, 1) := by decide +kernel
theorem dX6_match_71 : decode cX6_match 71 = .ok (.getfield 47, 3) := by decide +kernel
theorem dX6_match_74 : decode cX6_match 74 = .ok (.getfield 185, 3) := by decide +kernel
theorem dX6_match_77 : decode cX6_match 77 = .ok (.ireturn, 1) := by decide +kernel
theorem dX6_ifEvent_0 : decode cX6_ifEvent 0 = .ok (.aload_n 0, 1) := by decide +kernel
theorem dX6_ifEvent_1 : decode cX6_ifEvent 1 = .ok (.iload_n 1, 1) := by decide +kernel
theorem dX6_ifEvent_2 : decode cX6_ifEvent 2 = .ok (.iload_n 2, 1) := by decide +kernel
theorem dX6_ifEvent_3 : decode cX6_ifEvent 3 = .ok (.iload_n 3, 1) := by decide +kernel
theorem dX6_ifEvent_4 : decode cX6_ifEvent 4 = .ok (.invokevirtual 51, 3) := by decide +kernel
theorem dX6_ifEvent_7 : decode cX6_ifEvent 7 = .ok (.istore 4, 2) := by decide +kernel
theorem dX6_ifEvent_9 : decode cX6_ifEvent 9 = .ok (.iload 4, 2) := by decide +kernel
theorem dX6_ifEvent_11 : decode cX6_ifEvent 11 = .ok (.ifCond .eq 6, 3) := by decide +kernel
theorem dX6_ifEvent_14 : decode cX6_ifEvent 14 = .ok (.iload 4, 2) := by decide +kernel
theorem dX6_ifEvent_16 : decode cX6_ifEvent 16 = .ok (.ireturn, 1) := by decide +kernel
theorem dX6_ifEvent_17 : decode cX6_ifEvent 17 = .ok (.aload_n 0, 1) := by decide +kernel
theorem dX6_ifEvent_18 : decode cX6_ifEvent 18 = .ok (.getfield 47, 3) := by decide +kernel
theorem dX6_ifEvent_21 : decode cX6_ifEvent 21 = .ok (.aload_n 0, 1) := by decide +kernel
theorem dX6_ifEvent_22 : decode cX6_ifEvent 22 = .ok (.getfield 10, 3) := by decide +kernel
theorem dX6_ifEvent_25 : decode cX6_ifEvent 25 = .ok (.invokevirtual 132, 3) := by decide +kernel
theorem dX6_ifEvent_28 : decode cX6_ifEvent 28 = .ok (.aload_n 0, 1) := by decide +kernel
theorem dX6_ifEvent_29 : decode cX6_ifEvent 29 = .ok (.getfield 47, 3) := by decide +kernel
theorem dX6_ifEvent_32 : decode cX6_ifEvent 32 = .ok (.getfield 135, 3) := by decide +kernel
theorem dX6_ifEvent_35 : decode cX6_ifEvent 35 = .ok (.aload_n 0, 1) := by decide +kernel
theorem dX6_ifEvent_36 : decode cX6_ifEvent 36 = .ok (.getfield 10, 3) := by decide +kernel
theorem dX6_ifEvent_39 : decode cX6_ifEvent 39 = .ok (.getfield 55, 3) := by decide +kernel
theorem dX6_ifEvent_42 : decode cX6_ifEvent 42 = .ok (.iload_n 1, 1) := by decide +kernel
theorem dX6_ifEvent_43 : decode cX6_ifEvent 43 = .ok (.iload_n 2, 1) := by decide +kernel
theorem dX6_ifEvent_44 : decode cX6_ifEvent 44 = .ok (.iload_n 3, 1) := by decide +kernel
theorem dX6_ifEvent_45 : decode cX6_ifEvent 45 = .ok (.invokevirtual 188, 3) := by decide +kernel
theorem dX6_ifEvent_48 : decode cX6_ifEvent 48 = .ok (.aload_n 0, 1) := by decide +kernel
theorem dX6_ifEvent_49 : decode cX6_ifEvent 49 = .ok (.getfield 47, 3) := by decide +kernel
theorem dX6_ifEvent_52 : decode cX6_ifEvent 52 = .ok (.aload_n 0, 1) := by decide +kernel
theorem dX6_ifEvent_53 : decode cX6_ifEvent 53 = .ok (.getfield 10, 3) := by decide +kernel
theorem dX6_ifEvent_56 : decode cX6_ifEvent 56 = .ok (.invokevirtual 144, 3) := by decide +kernel
theorem dX6_ifEvent_59 : decode cX6_ifEvent 59 = .ok (.ireturn, 1) := by decide +kernel
theorem dX6_count_0 : decode cX6_count 0 = .ok (.iload_n 1, 1) := by decide +kernel
theorem dX6_count_1 : decode cX6_count 1 = .ok (.tableswitch 161 0 8 #[51, 59, 67, 90, 98, 106, 114, 145, 153], 51) := by decide +kernel
theorem dX6_count_52 : decode cX6_count 52 = .ok (.aload_n 0, 1) := by decide +kernel
theorem dX6_count_53 : decode cX6_count 53 = .ok (.getfield 10, 3) := by decide +kernel
theorem dX6_count_56 : decode cX6_count 56 = .ok (.getfield 55, 3) := by decide +kernel
theorem dX6_count_59 : decode cX6_count 59 = .ok (.ireturn, 1) := by decide +kernel
theorem dX6_count_60 : decode cX6_count 60 = .ok (.aload_n 0, 1) := by decide +kernel
theorem dX6_count_61 : decode cX6_count 61 = .ok (.getfield 10, 3) := by decide +kernel
theorem dX6_count_64 : decode cX6_count 64 = .ok (.getfield 85, 3) := by decide +kernel
theorem dX6_count_67 : decode cX6_count 67 = .ok (.ireturn, 1) := by decide +kernel
theorem dX6_count_68 : decode cX6_count 68 = .ok (.aload_n 0, 1) := by decide +kernel
theorem dX6_count_69 : decode cX6_count 69 = .ok (.getfield 47, 3) := by decide +kernel
theorem dX6_count_72 : decode cX6_count 72 = .ok (.aload_n 0, 1) := by decide +kernel
theorem dX6_count_73 : decode cX6_count 73 = .ok (.getfield 10, 3) := by decide +kernel
theorem dX6_count_76 : decode cX6_count 76 = .ok (.invokevirtual 132, 3) := by decide +kernel
theorem dX6_count_79 : decode cX6_count 79 = .ok (.aload_n 0, 1) := by decide +kernel
theorem dX6_count_80 : decode cX6_count 80 = .ok (.getfield 47, 3) := by decide +kernel
theorem dX6_count_83 : decode cX6_count 83 = .ok (.aload_n 0, 1) := by decide +kernel
theorem dX6_count_84 : decode cX6_count 84 = .ok (.getfield 10, 3) := by decide +kernel
theorem dX6_count_87 : decode cX6_count 87 = .ok (.invokevirtual 144, 3) := by decide +kernel
theorem dX6_count_90 : decode cX6_count 90 = .ok (.ireturn, 1) := by decide +kernel
theorem dX6_count_91 : decode cX6_count 91 = .ok (.aload_n 0, 1) := by decide +kernel
theorem dX6_count_92 : decode cX6_count 92 = .ok (.getfield 10, 3) := by decide +kernel
theorem dX6_count_95 : decode cX6_count 95 = .ok (.getfield 192, 3) := by decide +kernel
theorem dX6_count_98 : decode cX6_count 98 = .ok (.ireturn, 1) := by decide +kernel
theorem dX6_count_99 : decode cX6_count 99 = .ok (.aload_n 0, 1) := by decide +kernel
theorem dX6_count_100 : decode cX6_count 100 = .ok (.getfield 10, 3) := by decide +kernel
theorem dX6_count_103 : decode cX6_count 103 = .ok (.invokevirtual 195, 3) := by decide +kernel
theorem dX6_count_106 : decode cX6_count 106 = .ok (.ireturn, 1) := by decide +kernel
theorem dX6_count_107 : decode cX6_count 107 = .ok (.aload_n 0, 1) := by decide +kernel
theorem dX6_count_108 : decode cX6_count 108 = .ok (.getfield 10, 3) := by decide +kernel
theorem dX6_count_111 : decode cX6_count 111 = .ok (.getfield 78, 3) := by decide +kernel
theorem dX6_count_114 : decode cX6_count 114 = .ok (.ireturn, 1) := by decide +kernel
theorem dX6_count_115 : decode cX6_count 115 = .ok (.aload_n 0, 1) := by decide +kernel
theorem dX6_count_116 : decode cX6_count 116 = .ok (.getfield 47, 3) := by decide +kernel
theorem dX6_count_119 : decode cX6_count 119 = .ok (.aload_n 0, 1) := by decide +kernel
theorem dX6_count_120 : decode cX6_count 120 = .ok (.getfield 10, 3) := by decide +kernel
theorem dX6_count_123 : decode cX6_count 123 = .ok (.invokevirtual 132, 3) := by decide +kernel
theorem dX6_count_126 : decode cX6_count 126 = .ok (.aload_n 0, 1) := by decide +kernel
theorem dX6_count_127 : decode cX6_count 127 = .ok (.getfield 47, 3) := by decide +kernel
theorem dX6_count_130 : decode cX6_count 130 = .ok (.aload_n 0, 1) := by decide +kernel
theorem dX6_count_131 : decode cX6_count 131 = .ok (.getfield 10, 3) := by decide +kernel
theorem dX6_count_134 : decode cX6_count 134 = .ok (.invokevirtual 144, 3) := by decide +kernel
theorem dX6_count_137 : decode cX6_count 137 = .ok (.pop, 1) := by decide +kernel
theorem dX6_count_138 : decode cX6_count 138 = .ok (.aload_n 0, 1) := by decide +kernel
theorem dX6_count_139 : decode cX6_count 139 = .ok (.getfield 47, 3) := by decide +kernel
theorem dX6_count_142 : decode cX6_count 142 = .ok (.invokevirtual 199, 3) := by decide +kernel
theorem dX6_count_145 : decode cX6_count 145 = .ok (.ireturn, 1) := by decide +kernel
theorem dX6_count_146 : decode cX6_count 146 = .ok (.aload_n 0, 1) := by decide +kernel
theorem dX6_count_147 : decode cX6_count 147 = .ok (.getfield 26, 3) := by decide +kernel
theorem dX6_count_150 : decode cX6_count 150 = .ok (.getfield 112, 3) := by decide +kernel
theorem dX6_count_153 : decode cX6_count 153 = .ok (.ireturn, 1) := by decide +kernel
theorem dX6_count_154 : decode cX6_count 154 = .ok (.aload_n 0, 1) := by decide +kernel
theorem dX6_count_155 : decode cX6_count 155 = .ok (.getfield 33, 3) := by decide +kernel
theorem dX6_count_158 : decode cX6_count 158 = .ok (.getfield 109, 3) := by decide +kernel
theorem dX6_count_161 : decode cX6_count 161 = .ok (.ireturn, 1) := by decide +kernel
theorem dX6_count_162 : decode cX6_count 162 = .ok (.bipush (-2), 2) := by decide +kernel
theorem dX6_count_164 : decode cX6_count 164 = .ok (.ireturn, 1) := by decide +kernel
theorem dX6_isWithin_0 : decode cX6_isWithin 0 = .ok (.iload_n 0, 1) := by decide +kernel
theorem dX6_isWithin_1 : decode cX6_isWithin 1 = .ok (.iload_n 1, 1) := by decide +kernel
theorem dX6_isWithin_2 : decode cX6_isWithin 2 = .ok (.if_icmp .lt 12, 3) := by decide +kernel
theorem dX6_isWithin_5 : decode cX6_isWithin 5 = .ok (.iload_n 0, 1) := by decide +kernel
theorem dX6_isWithin_6 : decode cX6_isWithin 6 = .ok (.iload_n 2, 1) := by decide +kernel
theorem dX6_isWithin_7 : decode cX6_isWithin 7 = .ok (.if_icmp .gt 7, 3) := by decide +kernel
theorem dX6_isWithin_10 : decode cX6_isWithin 10 = .ok (.iconst 1, 1) := by decide +kernel
theorem dX6_isWithin_11 : decode cX6_isWithin 11 = .ok (.goto 4, 3) := by decide +kernel
theorem dX6_isWithin_14 : decode cX6_isWithin 14 = .ok (.iconst 0, 1) := by decide +kernel
theorem dX6_isWithin_15 : decode cX6_isWithin 15 = .ok (.ireturn, 1) := by decide +kernel
theorem dX6_isKind_0 : decode cX6_isKind 0 = .ok (.iload_n 0, 1) := by decide +kernel
theorem dX6_isKind_1 : decode cX6_isKind 1 = .ok (.bipush 97, 2) := by decide +kernel
theorem dX6_isKind_3 : decode cX6_isKind 3 = .ok (.if_icmp .lt 13, 3) := by decide +kernel
theorem dX6_isKind_6 : decode cX6_isKind 6 = .ok (.iload_n 0, 1) := by decide +kernel
theorem dX6_isKind_7 : decode cX6_isKind 7 = .ok (.bipush 104, 2) := by decide +kernel
theorem dX6_isKind_9 : decode cX6_isKind 9 = .ok (.if_icmp .gt 7, 3) := by decide +kernel
theorem dX6_isKind_12 : decode cX6_isKind 12 = .ok (.iconst 1, 1) := by decide +kernel
theorem dX6_isKind_13 : decode cX6_isKind 13 = .ok (.goto 4, 3) := by decide +kernel
theorem dX6_isKind_16 : decode cX6_isKind 16 = .ok (.iconst 0, 1) := by decide +kernel
theorem dX6_isKind_17 : decode cX6_isKind 17 = .ok (.ireturn, 1) := by decide +kernel
theorem dX6_isPattern_0 : decode cX6_isPattern 0 = .ok (.iload_n 1, 1) := by decide +kernel
theorem dX6_isPattern_1 : decode cX6_isPattern 1 = .ok (.ifCond .lt 18, 3) := by decide +kernel
theorem dX6_isPattern_4 : decode cX6_isPattern 4 = .ok (.iload_n 1, 1) := by decide +kernel
theorem dX6_isPattern_5 : decode cX6_isPattern 5 = .ok (.aload_n 0, 1) := by decide +kernel
theorem dX6_isPattern_6 : decode cX6_isPattern 6 = .ok (.getfield 10, 3) := by decide +kernel
theorem dX6_isPattern_9 : decode cX6_isPattern 9 = .ok (.getfield 85, 3) := by decide +kernel
theorem dX6_isPattern_12 : decode cX6_isPattern 12 = .ok (.if_icmp .ge 7, 3) := by decide +kernel
theorem dX6_isPattern_15 : decode cX6_isPattern 15 = .ok (.iconst 1, 1) := by decide +kernel
theorem dX6_isPattern_16 : decode cX6_isPattern 16 = .ok (.goto 4, 3) := by decide +kernel
theorem dX6_isPattern_19 : decode cX6_isPattern 19 = .ok (.iconst 0, 1) := by decide +kernel
theorem dX6_isPattern_20 : decode cX6_isPattern 20 = .ok (.ireturn, 1) := by decide +kernel
theorem dX6_errorOfEvent_0 : decode cX6_errorOfEvent 0 = .ok (.iload_n 1, 1) := by decide +kernel
theorem dX6_errorOfEvent_1 : decode cX6_errorOfEvent 1 = .ok (.invokestatic 202, 3) := by decide +kernel
theorem dX6_errorOfEvent_4 : decode cX6_errorOfEvent 4 = .ok (.ifCond .eq 24, 3) := by decide +kernel
theorem dX6_errorOfEvent_7 : decode cX6_errorOfEvent 7 = .ok (.iload_n 2, 1) := by decide +kernel
theorem dX6_errorOfEvent_8 : decode cX6_errorOfEvent 8 = .ok (.iconst 0, 1) := by decide +kernel
theorem dX6_errorOfEvent_9 : decode cX6_errorOfEvent 9 = .ok (.bipush 99, 2) := by decide +kernel
theorem dX6_errorOfEvent_11 : decode cX6_errorOfEvent 11 = .ok (.invokestatic 66, 3) := by decide +kernel
theorem dX6_errorOfEvent_14 : decode cX6_errorOfEvent 14 = .ok (.ifCond .eq 14, 3) := by decide +kernel
theorem dX6_errorOfEvent_17 : decode cX6_errorOfEvent 17 = .ok (.iload_n 3, 1) := by decide +kernel
theorem dX6_errorOfEvent_18 : decode cX6_errorOfEvent 18 = .ok (.iconst 0, 1) := by decide +kernel
theorem dX6_errorOfEvent_19 : decode cX6_errorOfEvent 19 = .ok (.sipush 9999, 3) := by decide +kernel
theorem dX6_errorOfEvent_22 : decode cX6_errorOfEvent 22 = .ok (.invokestatic 66, 3) := by decide +kernel
theorem dX6_errorOfEvent_25 : decode cX6_errorOfEvent 25 = .ok (.ifCond .ne 6, 3) := by decide +kernel
theorem dX6_errorOfEvent_28 : decode cX6_errorOfEvent 28 = .ok (.bipush (-2), 2) := by decide +kernel
theorem dX6_errorOfEvent_30 : decode cX6_errorOfEvent 30 = .ok (.ireturn, 1) := by decide +kernel
theorem dX6_errorOfEvent_31 : decode cX6_errorOfEvent 31 = .ok (.iload_n 3, 1) := by decide +kernel
theorem dX6_errorOfEvent_32 : decode cX6_errorOfEvent 32 = .ok (.aload_n 0, 1) := by decide +kernel
theorem dX6_errorOfEvent_33 : decode cX6_errorOfEvent 33 = .ok (.getfield 10, 3) := by decide +kernel
theorem dX6_errorOfEvent_36 : decode cX6_errorOfEvent 36 = .ok (.getfield 192, 3) := by decide +kernel
theorem dX6_errorOfEvent_39 : decode cX6_errorOfEvent 39 = .ok (.aload_n 0, 1) := by decide +kernel
theorem dX6_errorOfEvent_40 : decode cX6_errorOfEvent 40 = .ok (.getfield 10, 3) := by decide +kernel
theorem dX6_errorOfEvent_43 : decode cX6_errorOfEvent 43 = .ok (.getfield 78, 3) := by decide +kernel
theorem dX6_errorOfEvent_46 : decode cX6_errorOfEvent 46 = .ok (.isub, 1) := by decide +kernel
theorem dX6_errorOfEvent_47 : decode cX6_errorOfEvent 47 = .ok (.if_icmp .ge 8, 3) := by decide +kernel
theorem dX6_errorOfEvent_50 : decode cX6_errorOfEvent 50 = .ok (.bipush (-4), 2) := by decide +kernel
theorem dX6_errorOfEvent_52 : decode cX6_errorOfEvent 52 = .ok (.goto 4, 3) := by decide +kernel
theorem dX6_errorOfEvent_55 : decode cX6_errorOfEvent 55 = .ok (.iconst 0, 1) := by decide +kernel
theorem dX6_errorOfEvent_56 : decode cX6_errorOfEvent 56 = .ok (.ireturn, 1) := by decide +kernel
theorem dX6_searchFor_0 : decode cX6_searchFor 0 = .ok (.aload_n 0, 1) := by decide +kernel
theorem dX6_searchFor_1 : decode cX6_searchFor 1 = .ok (.getfield 47, 3) := by decide +kernel
theorem dX6_searchFor_4 : decode cX6_searchFor 4 = .ok (.aload_n 0, 1) := by decide +kernel
theorem dX6_searchFor_5 : decode cX6_searchFor 5 = .ok (.getfield 10, 3) := by decide +kernel
theorem dX6_searchFor_8 : decode cX6_searchFor 8 = .ok (.invokevirtual 132, 3) := by decide +kernel
theorem dX6_searchFor_11 : decode cX6_searchFor 11 = .ok (.aload_n 0, 1) := by decide +kernel
theorem dX6_searchFor_12 : decode cX6_searchFor 12 = .ok (.getfield 47, 3) := by decide +kernel
theorem dX6_searchFor_15 : decode cX6_searchFor 15 = .ok (.aload_n 1, 1) := by decide +kernel
theorem dX6_searchFor_16 : decode cX6_searchFor 16 = .ok (.invokevirtual 182, 3) := by decide +kernel
theorem dX6_searchFor_19 : decode cX6_searchFor 19 = .ok (.return_, 1) := by decide +kernel
theorem dX7_init_0 : decode cX7_init 0 = .ok (.aload_n 0, 1) := by decide +kernel
theorem dX7_init_1 : decode cX7_init 1 = .ok (.invokespecial 1, 3) := by decide +kernel
theorem dX7_init_4 : decode cX7_init 4 = .ok (.aload_n 0, 1) := by decide +kernel
theorem dX7_init_5 : decode cX7_init 5 = .ok (.bipush 119, 2) := by decide +kernel
theorem dX7_init_7 : decode cX7_init 7 = .ok (.newarray .int, 2) := by decide +kernel
theorem dX7_init_9 : decode cX7_init 9 = .ok (.putfield 7, 3) := by decide +kernel
theorem dX7_init_12 : decode cX7_init 12 = .ok (.aload_n 0, 1) := by decide +kernel
theorem dX7_init_13 : decode cX7_init 13 = .ok (.bipush 119, 2) := by decide +kernel
theorem dX7_init_15 : decode cX7_init 15 = .ok (.newarray .int, 2) := by decide +kernel
theorem dX7_init_17 : decode cX7_init 17 = .ok (.putfield 13, 3) := by decide +kernel
theorem dX7_init_20 : decode cX7_init 20 = .ok (.aload_n 0, 1) := by decide +kernel
theorem dX7_init_21 : decode cX7_init 21 = .ok (.sipush 476, 3) := by decide +kernel
theorem dX7_init_24 : decode cX7_init 24 = .ok (.newarray .int, 2) := by decide +kernel
theorem dX7_init_26 : decode cX7_init 26 = .ok (.putfield 16, 3) := by decide +kernel
theorem dX7_init_29 : decode cX7_init 29 = .ok (.aload_n 0, 1) := by decide +kernel
theorem dX7_init_30 : decode cX7_init 30 = .ok (.bipush 119, 2) := by decide +kernel
theorem dX7_init_32 : decode cX7_init 32 = .ok (.newarray .int, 2) := by decide +kernel
theorem dX7_init_34 : decode cX7_init 34 = .ok (.putfield 19, 3) := by decide +kernel
theorem dX7_init_37 : decode cX7_init 37 = .ok (.aload_n 0, 1) := by decide +kernel
theorem dX7_init_38 : decode cX7_init 38 = .ok (.bipush 25, 2) := by decide +kernel
theorem dX7_init_40 : decode cX7_init 40 = .ok (.newarray .int, 2) := by decide +kernel
theorem dX7_init_42 : decode cX7_init 42 = .ok (.putfield 22, 3) := by decide +kernel
theorem dX7_init_45 : decode cX7_init 45 = .ok (.aload_n 0, 1) := by decide +kernel
theorem dX7_init_46 : decode cX7_init 46 = .ok (.iconst 4, 1) := by decide +kernel
theorem dX7_init_47 : decode cX7_init 47 = .ok (.newarray .int, 2) := by decide +kernel
theorem dX7_init_49 : decode cX7_init 49 = .ok (.putfield 25, 3) := by decide +kernel
theorem dX7_init_52 : decode cX7_init 52 = .ok (.aload_n 0, 1) := by decide +kernel
theorem dX7_init_53 : decode cX7_init 53 = .ok (.iconst 4, 1) := by decide +kernel
theorem dX7_init_54 : decode cX7_init 54 = .ok (.newarray .int, 2) := by decide +kernel
theorem dX7_init_56 : decode cX7_init 56 = .ok (.putfield 28, 3) := by decide +kernel
theorem dX7_init_59 : decode cX7_init 59 = .ok (.aload_n 0, 1) := by decide +kernel
theorem dX7_init_60 : decode cX7_init 60 = .ok (.iconst 4, 1) := by decide +kernel
theorem dX7_init_61 : decode cX7_init 61 = .ok (.newarray .int, 2) := by decide +kernel
theorem dX7_init_63 : decode cX7_init 63 = .ok (.putfield 31, 3) := by decide +kernel
theorem dX7_init_66 : decode cX7_init 66 = .ok (.aload_n 0, 1) := by decide +kernel
theorem dX7_init_67 : decode cX7_init 67 = .ok (.bipush 25, 2) := by decide +kernel
theorem dX7_init_69 : decode cX7_init 69 = .ok (.newarray .int, 2) := by decide +kernel
theorem dX7_init_71 : decode cX7_init 71 = .ok (.putfield 34, 3) := by decide +kernel
theorem dX7_init_74 : decode cX7_init 74 = .ok (.aload_n 0, 1) := by decide +kernel
theorem dX7_init_75 : decode cX7_init 75 = .ok (.iconst 4, 1) := by decide +kernel
theorem dX7_init_76 : decode cX7_init 76 = .ok (.newarray .int, 2) := by decide +kernel
theorem dX7_init_78 : decode cX7_init 78 = .ok (.putfield 37, 3) := by decide +kernel
theorem dX7_init_81 : decode cX7_init 81 = .ok (.aload_n 0, 1) := by decide +kernel
theorem dX7_init_82 : decode cX7_init 82 = .ok (.bipush 80, 2) := by decide +kernel
theorem dX7_init_84 : decode cX7_init 84 = .ok (.newarray .int, 2) := by decide +kernel
theorem dX7_init_86 : decode cX7_init 86 = .ok (.putfield 40, 3) := by decide +kernel
theorem dX7_init_89 : decode cX7_init 89 = .ok (.aload_n 0, 1) := by decide +kernel
theorem dX7_init_90 : decode cX7_init 90 = .ok (.bipush 11, 2) := by decide +kernel
theorem dX7_init_92 : decode cX7_init 92 = .ok (.newarray .int, 2) := by decide +kernel
theorem dX7_init_94 : decode cX7_init 94 = .ok (.putfield 43, 3) := by decide +kernel
theorem dX7_init_97 : decode cX7_init 97 = .ok (.aload_n 0, 1) := by decide +kernel
theorem dX7_init_98 : decode cX7_init 98 = .ok (.getfield 7, 3) := by decide +kernel
theorem dX7_init_101 : decode cX7_init 101 = .ok (.iconst 2, 1) := by decide +kernel
theorem dX7_init_102 : decode cX7_init 102 = .ok (.bipush 20, 2) := by decide +kernel
theorem dX7_init_104 : decode cX7_init 104 = .ok (.iastore, 1) := by decide +kernel
theorem dX7_init_105 : decode cX7_init 105 = .ok (.return_, 1) := by decide +kernel
theorem dX7_in_0 : decode cX7_in 0 = .ok (.lload_n 0, 1) := by decide +kernel
theorem dX7_in_1 : decode cX7_in 1 = .ok (.lload_n 2, 1) := by decide +kernel
theorem dX7_in_2 : decode cX7_in 2 = .ok (.lcmp, 1) := by decide +kernel
theorem dX7_in_3 : decode cX7_in 3 = .ok (.ifCond .lt 14, 3) := by decide +kernel
theorem dX7_in_6 : decode cX7_in 6 = .ok (.lload_n 0, 1) := by decide +kernel
theorem dX7_in_7 : decode cX7_in 7 = .ok (.lload 4, 2) := by decide +kernel
theorem dX7_in_9 : decode cX7_in 9 = .ok (.lcmp, 1) := by decide +kernel
theorem dX7_in_10 : decode cX7_in 10 = .ok (.ifCond .gt 7, 3) := by decide +kernel
theorem dX7_in_13 : decode cX7_in 13 = .ok (.iconst 1, 1) := by decide +kernel
theorem dX7_in_14 : decode cX7_in 14 = .ok (.goto 4, 3) := by decide +kernel
theorem dX7_in_17 : decode cX7_in 17 = .ok (.iconst 0, 1) := by decide +kernel
theorem dX7_in_18 : decode cX7_in 18 = .ok (.ireturn, 1) := by decide +kernel
theorem dX7_remember_0 : decode cX7_remember 0 = .ok (.iconst 0, 1) := by decide +kernel
theorem dX7_remember_1 : decode cX7_remember 1 = .ok (.istore_n 1, 1) := by decide +kernel
theorem dX7_remember_2 : decode cX7_remember 2 = .ok (.iload_n 1, 1) := by decide +kernel
theorem dX7_remember_3 : decode cX7_remember 3 = .ok (.bipush 119, 2) := by decide +kernel
theorem dX7_remember_5 : decode cX7_remember 5 = .ok (.if_icmp .ge 21, 3) := by decide +kernel
theorem dX7_remember_8 : decode cX7_remember 8 = .ok (.aload_n 0, 1) := by decide +kernel
theorem dX7_remember_9 : decode cX7_remember 9 = .ok (.getfield 13, 3) := by decide +kernel
theorem dX7_remember_12 : decode cX7_remember 12 = .ok (.iload_n 1, 1) := by decide +kernel
theorem dX7_remember_13 : decode cX7_remember 13 = .ok (.aload_n 0, 1) := by decide +kernel
theorem dX7_remember_14 : decode cX7_remember 14 = .ok (.getfield 7, 3) := by decide +kernel
theorem dX7_remember_17 : decode cX7_remember 17 = .ok (.iload_n 1, 1) := by decide +kernel
theorem dX7_remember_18 : decode cX7_remember 18 = .ok (.iaload, 1) := by decide +kernel
theorem dX7_remember_19 : decode cX7_remember 19 = .ok (.iastore, 1) := by decide +kernel
theorem dX7_remember_20 : decode cX7_remember 20 = .ok (.iinc 1 1, 3) := by decide +kernel
theorem dX7_remember_23 : decode cX7_remember 23 = .ok (.goto (-21), 3) := by decide +kernel
theorem dX7_remember_26 : decode cX7_remember 26 = .ok (.return_, 1) := by decide +kernel
theorem dX7_acted_0 : decode cX7_acted 0 = .ok (.aload_n 0, 1) := by decide +kernel
theorem dX7_acted_1 : decode cX7_acted 1 = .ok (.getfield 46, 3) := by decide +kernel
theorem dX7_acted_4 : decode cX7_acted 4 = .ok (.iconst 4, 1) := by decide +kernel
theorem dX7_acted_5 : decode cX7_acted 5 = .ok (.if_icmp .ne 43, 3) := by decide +kernel
theorem dX7_acted_8 : decode cX7_acted 8 = .ok (.iconst 0, 1) := by decide +kernel
theorem dX7_acted_9 : decode cX7_acted 9 = .ok (.istore_n 2, 1) := by decide +kernel
theorem dX7_acted_10 : decode cX7_acted 10 = .ok (.iload_n 2, 1) := by decide +kernel
theorem dX7_acted_11 : decode cX7_acted 11 = .ok (.sipush 357, 3) := by decide +kernel
theorem dX7_acted_14 : decode cX7_acted 14 = .ok (.if_icmp .ge 24, 3) := by decide +kernel
theorem dX7_acted_17 : decode cX7_acted 17 = .ok (.aload_n 0, 1) := by decide +kernel
theorem dX7_acted_18 : decode cX7_acted 18 = .ok (.getfield 16, 3) := by decide +kernel
theorem dX7_acted_21 : decode cX7_acted 21 = .ok (.iload_n 2, 1) := by decide +kernel
theorem dX7_acted_22 : decode cX7_acted 22 = .ok (.aload_n 0, 1) := by decide +kernel
theorem dX7_acted_23 : decode cX7_acted 23 = .ok (.getfield 16, 3) := by decide +kernel
theorem dX7_acted_26 : decode cX7_acted 26 = .ok (.iload_n 2, 1) := by decide +kernel
theorem dX7_acted_27 : decode cX7_acted 27 = .ok (.bipush 119, 2) := by decide +kernel
theorem dX7_acted_29 : decode cX7_acted 29 = .ok (.iadd, 1) := by decide +kernel
theorem dX7_acted_30 : decode cX7_acted 30 = .ok (.iaload, 1) := by decide +kernel
theorem dX7_acted_31 : decode cX7_acted 31 = .ok (.iastore, 1) := by decide +kernel
theorem dX7_acted_32 : decode cX7_acted 32 = .ok (.iinc 2 1, 3) := by decide +kernel
theorem dX7_acted_35 : decode cX7_acted 35 = .ok (.goto (-25), 3) := by decide +kernel
theorem dX7_acted_38 : decode cX7_acted 38 = .ok (.aload_n 0, 1) := by decide +kernel
theorem dX7_acted_39 : decode cX7_acted 39 = .ok (.dup, 1) := by decide +kernel
theorem dX7_acted_40 : decode cX7_acted 40 = .ok (.getfield 46, 3) := by decide +kernel
theorem dX7_acted_43 : decode cX7_acted 43 = .ok (.iconst 1, 1) := by decide +kernel
theorem dX7_acted_44 : decode cX7_acted 44 = .ok (.isub, 1) := by decide +kernel
theorem dX7_acted_45 : decode cX7_acted 45 = .ok (.putfield 46, 3) := by decide +kernel
theorem dX7_acted_48 : decode cX7_acted 48 = .ok (.iconst 0, 1) := by decide +kernel
theorem dX7_acted_49 : decode cX7_acted 49 = .ok (.istore_n 2, 1) := by decide +kernel
theorem dX7_acted_50 : decode cX7_acted 50 = .ok (.iload_n 2, 1) := by decide +kernel
theorem dX7_acted_51 : decode cX7_acted 51 = .ok (.bipush 119, 2) := by decide +kernel
theorem dX7_acted_53 : decode cX7_acted 53 = .ok (.if_icmp .ge 29, 3) := by decide +kernel
theorem dX7_acted_56 : decode cX7_acted 56 = .ok (.aload_n 0, 1) := by decide +kernel
theorem dX7_acted_57 : decode cX7_acted 57 = .ok (.getfield 16, 3) := by decide +kernel
theorem dX7_acted_60 : decode cX7_acted 60 = .ok (.bipush 119, 2) := by decide +kernel
theorem dX7_acted_62 : decode cX7_acted 62 = .ok (.aload_n 0, 1) := by decide +kernel
theorem dX7_acted_63 : decode cX7_acted 63 = .ok (.getfield 46, 3) := by decide +kernel
theorem dX7_acted_66 : decode cX7_acted 66 = .ok (.imul, 1) := by decide +kernel
theorem dX7_acted_67 : decode cX7_acted 67 = .ok (.iload_n 2, 1) := by decide +kernel
theorem dX7_acted_68 : decode cX7_acted 68 = .ok (.iadd, 1) := by decide +kernel
theorem dX7_acted_69 : decode cX7_acted 69 = .ok (.aload_n 0, 1) := by decide +kernel
theorem dX7_acted_70 : decode cX7_acted 70 = .ok (.getfield 13, 3) := by decide +kernel
theorem dX7_acted_73 : decode cX7_acted 73 = .ok (.iload_n 2, 1) := by decide +kernel
theorem dX7_acted_74 : decode cX7_acted 74 = .ok (.iaload, 1) := by decide +kernel
theorem dX7_acted_75 : decode cX7_acted 75 = .ok (.iastore, 1) := by decide +kernel
theorem dX7_acted_76 : decode cX7_acted 76 = .ok (.iinc 2 1, 3) := by decide +kernel
theorem dX7_acted_79 : decode cX7_acted 79 = .ok (.goto (-29), 3) := by decide +kernel
theorem dX7_acted_82 : decode cX7_acted 82 = .ok (.aload_n 0, 1) := by decide +kernel
theorem dX7_acted_83 : decode cX7_acted 83 = .ok (.dup, 1) := by decide +kernel
theorem dX7_acted_84 : decode cX7_acted 84 = .ok (.getfield 46, 3) := by decide +kernel
theorem dX7_acted_87 : decode cX7_acted 87 = .ok (.iconst 1, 1) := by decide +kernel
theorem dX7_acted_88 : decode cX7_acted 88 = .ok (.iadd, 1) := by decide +kernel
theorem dX7_acted_89 : decode cX7_acted 89 = .ok (.putfield 46, 3) := by decide +kernel
theorem dX7_acted_92 : decode cX7_acted 92 = .ok (.iload_n 1, 1) := by decide +kernel
theorem dX7_acted_93 : decode cX7_acted 93 = .ok (.ireturn, 1) := by decide +kernel
theorem dX7_of_0 : decode cX7_of 0 = .ok (.aload_n 0, 1) := by decide +kernel
theorem dX7_of_1 : decode cX7_of 1 = .ok (.getfield 7, 3) := by decide +kernel
theorem dX7_of_4 : decode cX7_of 4 = .ok (.iconst 4, 1) := by decide +kernel
theorem dX7_of_5 : decode cX7_of 5 = .ok (.iconst 3, 1) := by decide +kernel
theorem dX7_of_6 : decode cX7_of 6 = .ok (.iload_n 1, 1) := by decide +kernel
theorem dX7_of_7 : decode cX7_of 7 = .ok (.imul, 1) := by decide +kernel
theorem dX7_of_8 : decode cX7_of 8 = .ok (.iadd, 1) := by decide +kernel
theorem dX7_of_9 : decode cX7_of 9 = .ok (.iload_n 2, 1) := by decide +kernel
theorem dX7_of_10 : decode cX7_of 10 = .ok (.iadd, 1) := by decide +kernel
theorem dX7_of_11 : decode cX7_of 11 = .ok (.iaload, 1) := by decide +kernel
theorem dX7_of_12 : decode cX7_of 12 = .ok (.ireturn, 1) := by decide +kernel
theorem dX7_isEvent_0 : decode cX7_isEvent 0 = .ok (.iload_n 1, 1) := by decide +kernel
theorem dX7_isEvent_1 : decode cX7_isEvent 1 = .ok (.i2l, 1) := by decide +kernel
theorem dX7_isEvent_2 : decode cX7_isEvent 2 = .ok (.lconst 0, 1) := by decide +kernel
theorem dX7_isEvent_3 : decode cX7_isEvent 3 = .ok (.aload_n 0, 1) := by decide +kernel
theorem dX7_isEvent_4 : decode cX7_isEvent 4 = .ok (.getfield 7, 3) := by decide +kernel
theorem dX7_isEvent_7 : decode cX7_isEvent 7 = .ok (.iconst 0, 1) := by decide +kernel
theorem dX7_isEvent_8 : decode cX7_isEvent 8 = .ok (.iaload, 1) := by decide +kernel
theorem dX7_isEvent_9 : decode cX7_isEvent 9 = .ok (.i2l, 1) := by decide +kernel
theorem dX7_isEvent_10 : decode cX7_isEvent 10 = .ok (.lconst 1, 1) := by decide +kernel
theorem dX7_isEvent_11 : decode cX7_isEvent 11 = .ok (.lsub, 1) := by decide +kernel
theorem dX7_isEvent_12 : decode cX7_isEvent 12 = .ok (.invokestatic 50, 3) := by decide +kernel
theorem dX7_isEvent_15 : decode cX7_isEvent 15 = .ok (.ireturn, 1) := by decide +kernel
theorem dX7_isWell_0 : decode cX7_isWell 0 = .ok (.iload_n 0, 1) := by decide +kernel
theorem dX7_isWell_1 : decode cX7_isWell 1 = .ok (.i2l, 1) := by decide +kernel
theorem dX7_isWell_2 : decode cX7_isWell 2 = .ok (.ldc2_w 54, 3) := by decide +kernel
theorem dX7_isWell_5 : decode cX7_isWell 5 = .ok (.ldc2_w 56, 3) := by decide +kernel
theorem dX7_isWell_8 : decode cX7_isWell 8 = .ok (.invokestatic 50, 3) := by decide +kernel
theorem dX7_isWell_11 : decode cX7_isWell 11 = .ok (.ifCond .eq 31, 3) := by decide +kernel
theorem dX7_isWell_14 : decode cX7_isWell 14 = .ok (.iload_n 1, 1) := by decide +kernel
theorem dX7_isWell_15 : decode cX7_isWell 15 = .ok (.i2l, 1) := by decide +kernel
theorem dX7_isWell_16 : decode cX7_isWell 16 = .ok (.lconst 0, 1) := by decide +kernel
theorem dX7_isWell_17 : decode cX7_isWell 17 = .ok (.ldc2_w 58, 3) := by decide +kernel
theorem dX7_isWell_20 : decode cX7_isWell 20 = .ok (.invokestatic 50, 3) := by decide +kernel
theorem dX7_isWell_23 : decode cX7_isWell 23 = .ok (.ifCond .eq 19, 3) := by decide +kernel
theorem dX7_isWell_26 : decode cX7_isWell 26 = .ok (.iload_n 2, 1) := by decide +kernel
theorem dX7_isWell_27 : decode cX7_isWell 27 = .ok (.i2l, 1) := by decide +kernel
theorem dX7_isWell_28 : decode cX7_isWell 28 = .ok (.lconst 0, 1) := by decide +kernel
theorem dX7_isWell_29 : decode cX7_isWell 29 = .ok (.ldc2_w 60, 3) := by decide +kernel
theorem dX7_isWell_32 : decode cX7_isWell 32 = .ok (.invokestatic 50, 3) := by decide +kernel
theorem dX7_isWell_35 : decode cX7_isWell 35 = .ok (.ifCond .eq 7, 3) := by decide +kernel
theorem dX7_isWell_38 : decode cX7_isWell 38 = .ok (.iconst 1, 1) := by decide +kernel
theorem dX7_isWell_39 : decode cX7_isWell 39 = .ok (.goto 4, 3) := by decide +kernel
theorem dX7_isWell_42 : decode cX7_isWell 42 = .ok (.iconst 0, 1) := by decide +kernel
theorem dX7_isWell_43 : decode cX7_isWell 43 = .ok (.ireturn, 1) := by decide +kernel
theorem dX7_isLate_0 : decode cX7_isLate 0 = .ok (.iload_n 1, 1) := by decide +kernel
theorem dX7_isLate_1 : decode cX7_isLate 1 = .ok (.aload_n 0, 1) := by decide +kernel
theorem dX7_isLate_2 : decode cX7_isLate 2 = .ok (.getfield 7, 3) := by decide +kernel
theorem dX7_isLate_5 : decode cX7_isLate 5 = .ok (.iconst 1, 1) := by decide +kernel
theorem dX7_isLate_6 : decode cX7_isLate 6 = .ok (.iaload, 1) := by decide +kernel
theorem dX7_isLate_7 : decode cX7_isLate 7 = .ok (.aload_n 0, 1) := by decide +kernel
theorem dX7_isLate_8 : decode cX7_isLate 8 = .ok (.getfield 7, 3) := by decide +kernel
theorem dX7_isLate_11 : decode cX7_isLate 11 = .ok (.iconst 2, 1) := by decide +kernel
theorem dX7_isLate_12 : decode cX7_isLate 12 = .ok (.iaload, 1) := by decide +kernel
theorem dX7_isLate_13 : decode cX7_isLate 13 = .ok (.isub, 1) := by decide +kernel
theorem dX7_isLate_14 : decode cX7_isLate 14 = .ok (.if_icmp .ge 7, 3) := by decide +kernel
theorem dX7_isLate_17 : decode cX7_isLate 17 = .ok (.iconst 1, 1) := by decide +kernel
theorem dX7_isLate_18 : decode cX7_isLate 18 = .ok (.goto 4, 3) := by decide +kernel
theorem dX7_isLate_21 : decode cX7_isLate 21 = .ok (.iconst 0, 1) := by decide +kernel
theorem dX7_isLate_22 : decode cX7_isLate 22 = .ok (.ireturn, 1) := by decide +kernel
theorem dX7_watermark_0 : decode cX7_watermark 0 = .ok (.aload_n 0, 1) := by decide +kernel
theorem dX7_watermark_1 : decode cX7_watermark 1 = .ok (.getfield 7, 3) := by decide +kernel
theorem dX7_watermark_4 : decode cX7_watermark 4 = .ok (.iconst 1, 1) := by decide +kernel
theorem dX7_watermark_5 : decode cX7_watermark 5 = .ok (.iaload, 1) := by decide +kernel
theorem dX7_watermark_6 : decode cX7_watermark 6 = .ok (.aload_n 0, 1) := by decide +kernel
theorem dX7_watermark_7 : decode cX7_watermark 7 = .ok (.getfield 7, 3) := by decide +kernel
theorem dX7_watermark_10 : decode cX7_watermark 10 = .ok (.iconst 2, 1) := by decide +kernel
theorem dX7_watermark_11 : decode cX7_watermark 11 = .ok (.iaload, 1) := by decide +kernel
theorem dX7_watermark_12 : decode cX7_watermark 12 = .ok (.isub, 1) := by decide +kernel
theorem dX7_watermark_13 : decode cX7_watermark 13 = .ok (.istore_n 1, 1) := by decide +kernel
theorem dX7_watermark_14 : decode cX7_watermark 14 = .ok (.iload_n 1, 1) := by decide +kernel
theorem dX7_watermark_15 : decode cX7_watermark 15 = .ok (.ifCond .ge 7, 3) := by decide +kernel
theorem dX7_watermark_18 : decode cX7_watermark 18 = .ok (.iconst 0, 1) := by decide +kernel
theorem dX7_watermark_19 : decode cX7_watermark 19 = .ok (.goto 4, 3) := by decide +kernel
theorem dX7_watermark_22 : decode cX7_watermark 22 = .ok (.iload_n 1, 1) := by decide +kernel
theorem dX7_watermark_23 : decode cX7_watermark 23 = .ok (.ireturn, 1) := by decide +kernel
theorem dX7_comes_0 : decode cX7_comes 0 = .ok (.iconst 4, 1) := by decide +kernel
theorem dX7_comes_1 : decode cX7_comes 1 = .ok (.iconst 3, 1) := by decide +kernel
theorem dX7_comes_2 : decode cX7_comes 2 = .ok (.aload_n 0, 1) := by decide +kernel
theorem dX7_comes_3 : decode cX7_comes 3 = .ok (.getfield 7, 3) := by decide +kernel
theorem dX7_comes_6 : decode cX7_comes 6 = .ok (.iconst 0, 1) := by decide +kernel
theorem dX7_comes_7 : decode cX7_comes 7 = .ok (.iaload, 1) := by decide +kernel
theorem dX7_comes_8 : decode cX7_comes 8 = .ok (.imul, 1) := by decide +kernel
theorem dX7_comes_9 : decode cX7_comes 9 = .ok (.iadd, 1) := by decide +kernel
theorem dX7_comes_10 : decode cX7_comes 10 = .ok (.istore 4, 2) := by decide +kernel
theorem dX7_comes_12 : decode cX7_comes 12 = .ok (.aload_n 0, 1) := by decide +kernel
theorem dX7_comes_13 : decode cX7_comes 13 = .ok (.getfield 7, 3) := by decide +kernel
theorem dX7_comes_16 : decode cX7_comes 16 = .ok (.iload 4, 2) := by decide +kernel
theorem dX7_comes_18 : decode cX7_comes 18 = .ok (.iconst 0, 1) := by decide +kernel
theorem dX7_comes_19 : decode cX7_comes 19 = .ok (.iadd, 1) := by decide +kernel
theorem dX7_comes_20 : decode cX7_comes 20 = .ok (.iload_n 1, 1) := by decide +kernel
theorem dX7_comes_21 : decode cX7_comes 21 = .ok (.bipush 97, 2) := by decide +kernel
theorem dX7_comes_23 : decode cX7_comes 23 = .ok (.isub, 1) := by decide +kernel
theorem dX7_comes_24 : decode cX7_comes 24 = .ok (.iastore, 1) := by decide +kernel
theorem dX7_comes_25 : decode cX7_comes 25 = .ok (.aload_n 0, 1) := by decide +kernel
theorem dX7_comes_26 : decode cX7_comes 26 = .ok (.getfield 7, 3) := by decide +kernel
theorem dX7_comes_29 : decode cX7_comes 29 = .ok (.iload 4, 2) := by decide +kernel
theorem dX7_comes_31 : decode cX7_comes 31 = .ok (.iconst 1, 1) := by decide +kernel
theorem dX7_comes_32 : decode cX7_comes 32 = .ok (.iadd, 1) := by decide +kernel
theorem dX7_comes_33 : decode cX7_comes 33 = .ok (.iload_n 2, 1) := by decide +kernel
theorem dX7_comes_34 : decode cX7_comes 34 = .ok (.iastore, 1) := by decide +kernel
theorem dX7_comes_35 : decode cX7_comes 35 = .ok (.aload_n 0, 1) := by decide +kernel
theorem dX7_comes_36 : decode cX7_comes 36 = .ok (.getfield 7, 3) := by decide +kernel
theorem dX7_comes_39 : decode cX7_comes 39 = .ok (.iload 4, 2) := by decide +kernel
theorem dX7_comes_41 : decode cX7_comes 41 = .ok (.iconst 2, 1) := by decide +kernel
theorem dX7_comes_42 : decode cX7_comes 42 = .ok (.iadd, 1) := by decide +kernel
theorem dX7_comes_43 : decode cX7_comes 43 = .ok (.iload_n 3, 1) := by decide +kernel
theorem dX7_comes_44 : decode cX7_comes 44 = .ok (.iastore, 1) := by decide +kernel
theorem dX7_comes_45 : decode cX7_comes 45 = .ok (.aload_n 0, 1) := by decide +kernel
theorem dX7_comes_46 : decode cX7_comes 46 = .ok (.getfield 7, 3) := by decide +kernel
theorem dX7_comes_49 : decode cX7_comes 49 = .ok (.iconst 0, 1) := by decide +kernel
theorem dX7_comes_50 : decode cX7_comes 50 = .ok (.dup2, 1) := by decide +kernel
theorem dX7_comes_51 : decode cX7_comes 51 = .ok (.iaload, 1) := by decide +kernel
theorem dX7_comes_52 : decode cX7_comes 52 = .ok (.iconst 1, 1) := by decide +kernel
theorem dX7_comes_53 : decode cX7_comes 53 = .ok (.iadd, 1) := by decide +kernel
theorem dX7_comes_54 : decode cX7_comes 54 = .ok (.iastore, 1) := by decide +kernel
theorem dX7_comes_55 : decode cX7_comes 55 = .ok (.aload_n 0, 1) := by decide +kernel
theorem dX7_comes_56 : decode cX7_comes 56 = .ok (.getfield 7, 3) := by decide +kernel
theorem dX7_comes_59 : decode cX7_comes 59 = .ok (.iconst 1, 1) := by decide +kernel
theorem dX7_comes_60 : decode cX7_comes 60 = .ok (.iload_n 3, 1) := by decide +kernel
theorem dX7_comes_61 : decode cX7_comes 61 = .ok (.aload_n 0, 1) := by decide +kernel
theorem dX7_comes_62 : decode cX7_comes 62 = .ok (.getfield 7, 3) := by decide +kernel
theorem dX7_comes_65 : decode cX7_comes 65 = .ok (.iconst 1, 1) := by decide +kernel
theorem dX7_comes_66 : decode cX7_comes 66 = .ok (.iaload, 1) := by decide +kernel
theorem dX7_comes_67 : decode cX7_comes 67 = .ok (.if_icmp .le 7, 3) := by decide +kernel
theorem dX7_comes_70 : decode cX7_comes 70 = .ok (.iload_n 3, 1) := by decide +kernel
theorem dX7_comes_71 : decode cX7_comes 71 = .ok (.goto 9, 3) := by decide +kernel
theorem dX7_comes_74 : decode cX7_comes 74 = .ok (.aload_n 0, 1) := by decide +kernel
theorem dX7_comes_75 : decode cX7_comes 75 = .ok (.getfield 7, 3) := by decide +kernel
theorem dX7_comes_78 : decode cX7_comes 78 = .ok (.iconst 1, 1) := by decide +kernel
theorem dX7_comes_79 : decode cX7_comes 79 = .ok (.iaload, 1) := by decide +kernel
theorem dX7_comes_80 : decode cX7_comes 80 = .ok (.iastore, 1) := by decide +kernel
theorem dX7_comes_81 : decode cX7_comes 81 = .ok (.return_, 1) := by decide +kernel
theorem dX7_findsOrder_0 : decode cX7_findsOrder 0 = .ok (.iconst 0, 1) := by decide +kernel
theorem dX7_findsOrder_1 : decode cX7_findsOrder 1 = .ok (.istore_n 1, 1) := by decide +kernel
theorem dX7_findsOrder_2 : decode cX7_findsOrder 2 = .ok (.iload_n 1, 1) := by decide +kernel
theorem dX7_findsOrder_3 : decode cX7_findsOrder 3 = .ok (.aload_n 0, 1) := by decide +kernel
theorem dX7_findsOrder_4 : decode cX7_findsOrder 4 = .ok (.getfield 7, 3) := by decide +kernel
theorem dX7_findsOrder_7 : decode cX7_findsOrder 7 = .ok (.iconst 0, 1) := by decide +kernel
theorem dX7_findsOrder_8 : decode cX7_findsOrder 8 = .ok (.iaload, 1) := by decide +kernel
theorem dX7_findsOrder_9 : decode cX7_findsOrder 9 = .ok (.if_icmp .ge 64, 3) := by decide +kernel
theorem dX7_findsOrder_12 : decode cX7_findsOrder 12 = .ok (.iload_n 1, 1) := by decide +kernel
theorem dX7_findsOrder_13 : decode cX7_findsOrder 13 = .ok (.istore_n 2, 1) := by decide +kernel
theorem dX7_findsOrder_14 : decode cX7_findsOrder 14 = .ok (.iload_n 2, 1) := by decide +kernel
theorem dX7_findsOrder_15 : decode cX7_findsOrder 15 = .ok (.ifCond .le 45, 3) := by decide +kernel
theorem dX7_findsOrder_18 : decode cX7_findsOrder 18 = .ok (.aload_n 0, 1) := by decide +kernel
theorem dX7_findsOrder_19 : decode cX7_findsOrder 19 = .ok (.aload_n 0, 1) := by decide +kernel
theorem dX7_findsOrder_20 : decode cX7_findsOrder 20 = .ok (.getfield 22, 3) := by decide +kernel
theorem dX7_findsOrder_23 : decode cX7_findsOrder 23 = .ok (.iload_n 2, 1) := by decide +kernel
theorem dX7_findsOrder_24 : decode cX7_findsOrder 24 = .ok (.iconst 1, 1) := by decide +kernel
theorem dX7_findsOrder_25 : decode cX7_findsOrder 25 = .ok (.isub, 1) := by decide +kernel
theorem dX7_findsOrder_26 : decode cX7_findsOrder 26 = .ok (.iaload, 1) := by decide +kernel
theorem dX7_findsOrder_27 : decode cX7_findsOrder 27 = .ok (.iconst 2, 1) := by decide +kernel
theorem dX7_findsOrder_28 : decode cX7_findsOrder 28 = .ok (.invokevirtual 62, 3) := by decide +kernel
theorem dX7_findsOrder_31 : decode cX7_findsOrder 31 = .ok (.aload_n 0, 1) := by decide +kernel
theorem dX7_findsOrder_32 : decode cX7_findsOrder 32 = .ok (.iload_n 1, 1) := by decide +kernel
theorem dX7_findsOrder_33 : decode cX7_findsOrder 33 = .ok (.iconst 2, 1) := by decide +kernel
theorem dX7_findsOrder_34 : decode cX7_findsOrder 34 = .ok (.invokevirtual 62, 3) := by decide +kernel
theorem dX7_findsOrder_37 : decode cX7_findsOrder 37 = .ok (.if_icmp .le 23, 3) := by decide +kernel
theorem dX7_findsOrder_40 : decode cX7_findsOrder 40 = .ok (.aload_n 0, 1) := by decide +kernel
theorem dX7_findsOrder_41 : decode cX7_findsOrder 41 = .ok (.getfield 22, 3) := by decide +kernel
theorem dX7_findsOrder_44 : decode cX7_findsOrder 44 = .ok (.iload_n 2, 1) := by decide +kernel
theorem dX7_findsOrder_45 : decode cX7_findsOrder 45 = .ok (.aload_n 0, 1) := by decide +kernel
theorem dX7_findsOrder_46 : decode cX7_findsOrder 46 = .ok (.getfield 22, 3) := by decide +kernel
theorem dX7_findsOrder_49 : decode cX7_findsOrder 49 = .ok (.iload_n 2, 1) := by decide +kernel
theorem dX7_findsOrder_50 : decode cX7_findsOrder 50 = .ok (.iconst 1, 1) := by decide +kernel
theorem dX7_findsOrder_51 : decode cX7_findsOrder 51 = .ok (.isub, 1) := by decide +kernel
theorem dX7_findsOrder_52 : decode cX7_findsOrder 52 = .ok (.iaload, 1) := by decide +kernel
theorem dX7_findsOrder_53 : decode cX7_findsOrder 53 = .ok (.iastore, 1) := by decide +kernel
theorem dX7_findsOrder_54 : decode cX7_findsOrder 54 = .ok (.iinc 2 (-1), 3) := by decide +kernel
theorem dX7_findsOrder_57 : decode cX7_findsOrder 57 = .ok (.goto (-43), 3) := by decide +kernel
theorem dX7_findsOrder_60 : decode cX7_findsOrder 60 = .ok (.aload_n 0, 1) := by decide +kernel
theorem dX7_findsOrder_61 : decode cX7_findsOrder 61 = .ok (.getfield 22, 3) := by decide +kernel
theorem dX7_findsOrder_64 : decode cX7_findsOrder 64 = .ok (.iload_n 2, 1) := by decide +kernel
theorem dX7_findsOrder_65 : decode cX7_findsOrder 65 = .ok (.iload_n 1, 1) := by decide +kernel
theorem dX7_findsOrder_66 : decode cX7_findsOrder 66 = .ok (.iastore, 1) := by decide +kernel
theorem dX7_findsOrder_67 : decode cX7_findsOrder 67 = .ok (.iinc 1 1, 3) := by decide +kernel
theorem dX7_findsOrder_70 : decode cX7_findsOrder 70 = .ok (.goto (-68), 3) := by decide +kernel
theorem dX7_findsOrder_73 : decode cX7_findsOrder 73 = .ok (.return_, 1) := by decide +kernel
theorem dX7_isPattern_0 : decode cX7_isPattern 0 = .ok (.iload_n 1, 1) := by decide +kernel
theorem dX7_isPattern_1 : decode cX7_isPattern 1 = .ok (.i2l, 1) := by decide +kernel
theorem dX7_isPattern_2 : decode cX7_isPattern 2 = .ok (.lconst 0, 1) := by decide +kernel
theorem dX7_isPattern_3 : decode cX7_isPattern 3 = .ok (.aload_n 0, 1) := by decide +kernel
theorem dX7_isPattern_4 : decode cX7_isPattern 4 = .ok (.getfield 7, 3) := by decide +kernel
theorem dX7_isPattern_7 : decode cX7_isPattern 7 = .ok (.iconst 3, 1) := by decide +kernel
theorem dX7_isPattern_8 : decode cX7_isPattern 8 = .ok (.iaload, 1) := by decide +kernel
theorem dX7_isPattern_9 : decode cX7_isPattern 9 = .ok (.i2l, 1) := by decide +kernel
theorem dX7_isPattern_10 : decode cX7_isPattern 10 = .ok (.lconst 1, 1) := by decide +kernel
theorem dX7_isPattern_11 : decode cX7_isPattern 11 = .ok (.lsub, 1) := by decide +kernel
theorem dX7_isPattern_12 : decode cX7_isPattern 12 = .ok (.invokestatic 50, 3) := by decide +kernel
theorem dX7_isPattern_15 : decode cX7_isPattern 15 = .ok (.ireturn, 1) := by decide +kernel
theorem dX7_ofPattern_0 : decode cX7_ofPattern 0 = .ok (.aload_n 0, 1) := by decide +kernel
theorem dX7_ofPattern_1 : decode cX7_ofPattern 1 = .ok (.getfield 7, 3) := by decide +kernel
theorem dX7_ofPattern_4 : decode cX7_ofPattern 4 = .ok (.bipush 79, 2) := by decide +kernel
theorem dX7_ofPattern_6 : decode cX7_ofPattern 6 = .ok (.bipush 10, 2) := by decide +kernel
theorem dX7_ofPattern_8 : decode cX7_ofPattern 8 = .ok (.iload_n 1, 1) := by decide +kernel
theorem dX7_ofPattern_9 : decode cX7_ofPattern 9 = .ok (.imul, 1) := by decide +kernel
theorem dX7_ofPattern_10 : decode cX7_ofPattern 10 = .ok (.iadd, 1) := by decide +kernel
theorem dX7_ofPattern_11 : decode cX7_ofPattern 11 = .ok (.iload_n 2, 1) := by decide +kernel
theorem dX7_ofPattern_12 : decode cX7_ofPattern 12 = .ok (.iadd, 1) := by decide +kernel
theorem dX7_ofPattern_13 : decode cX7_ofPattern 13 = .ok (.iaload, 1) := by decide +kernel
theorem dX7_ofPattern_14 : decode cX7_ofPattern 14 = .ok (.ireturn, 1) := by decide +kernel
theorem dX7_plainSteps_0 : decode cX7_plainSteps 0 = .ok (.iconst 0, 1) := by decide +kernel
theorem dX7_plainSteps_1 : decode cX7_plainSteps 1 = .ok (.istore_n 2, 1) := by decide +kernel
theorem dX7_plainSteps_2 : decode cX7_plainSteps 2 = .ok (.iconst 0, 1) := by decide +kernel
theorem dX7_plainSteps_3 : decode cX7_plainSteps 3 = .ok (.istore_n 3, 1) := by decide +kernel
theorem dX7_plainSteps_4 : decode cX7_plainSteps 4 = .ok (.iload_n 3, 1) := by decide +kernel
theorem dX7_plainSteps_5 : decode cX7_plainSteps 5 = .ok (.aload_n 0, 1) := by decide +kernel
theorem dX7_plainSteps_6 : decode cX7_plainSteps 6 = .ok (.iload_n 1, 1) := by decide +kernel
theorem dX7_plainSteps_7 : decode cX7_plainSteps 7 = .ok (.iconst 2, 1) := by decide +kernel
theorem dX7_plainSteps_8 : decode cX7_plainSteps 8 = .ok (.invokevirtual 66, 3) := by decide +kernel
theorem dX7_plainSteps_11 : decode cX7_plainSteps 11 = .ok (.if_icmp .ge 30, 3) := by decide +kernel
theorem dX7_plainSteps_14 : decode cX7_plainSteps 14 = .ok (.iload_n 2, 1) := by decide +kernel
theorem dX7_plainSteps_15 : decode cX7_plainSteps 15 = .ok (.aload_n 0, 1) := by decide +kernel
theorem dX7_plainSteps_16 : decode cX7_plainSteps 16 = .ok (.iload_n 1, 1) := by decide +kernel
theorem dX7_plainSteps_17 : decode cX7_plainSteps 17 = .ok (.iconst 3, 1) := by decide +kernel
theorem dX7_plainSteps_18 : decode cX7_plainSteps 18 = .ok (.iload_n 3, 1) := by decide +kernel
theorem dX7_plainSteps_19 : decode cX7_plainSteps 19 = .ok (.iadd, 1) := by decide +kernel
theorem dX7_plainSteps_20 : decode cX7_plainSteps 20 = .ok (.invokevirtual 66, 3) := by decide +kernel
theorem dX7_plainSteps_23 : decode cX7_plainSteps 23 = .ok (.bipush 8, 2) := by decide +kernel
theorem dX7_plainSteps_25 : decode cX7_plainSteps 25 = .ok (.if_icmp .ge 7, 3) := by decide +kernel
theorem dX7_plainSteps_28 : decode cX7_plainSteps 28 = .ok (.iconst 1, 1) := by decide +kernel
theorem dX7_plainSteps_29 : decode cX7_plainSteps 29 = .ok (.goto 4, 3) := by decide +kernel
theorem dX7_plainSteps_32 : decode cX7_plainSteps 32 = .ok (.iconst 0, 1) := by decide +kernel
theorem dX7_plainSteps_33 : decode cX7_plainSteps 33 = .ok (.iadd, 1) := by decide +kernel
theorem dX7_plainSteps_34 : decode cX7_plainSteps 34 = .ok (.istore_n 2, 1) := by decide +kernel
theorem dX7_plainSteps_35 : decode cX7_plainSteps 35 = .ok (.iinc 3 1, 3) := by decide +kernel
theorem dX7_plainSteps_38 : decode cX7_plainSteps 38 = .ok (.goto (-34), 3) := by decide +kernel
theorem dX7_plainSteps_41 : decode cX7_plainSteps 41 = .ok (.iload_n 2, 1) := by decide +kernel
theorem dX7_plainSteps_42 : decode cX7_plainSteps 42 = .ok (.ireturn, 1) := by decide +kernel
theorem dX7_takesSteps_0 : decode cX7_takesSteps 0 = .ok (.iconst 0, 1) := by decide +kernel
theorem dX7_takesSteps_1 : decode cX7_takesSteps 1 = .ok (.istore_n 2, 1) := by decide +kernel
theorem dX7_takesSteps_2 : decode cX7_takesSteps 2 = .ok (.bipush (-5), 2) := by decide +kernel
theorem dX7_takesSteps_4 : decode cX7_takesSteps 4 = .ok (.istore_n 3, 1) := by decide +kernel
theorem dX7_takesSteps_5 : decode cX7_takesSteps 5 = .ok (.iconst 0, 1) := by decide +kernel
theorem dX7_takesSteps_6 : decode cX7_takesSteps 6 = .ok (.istore 4, 2) := by decide +kernel
theorem dX7_takesSteps_8 : decode cX7_takesSteps 8 = .ok (.iload 4, 2) := by decide +kernel
theorem dX7_takesSteps_10 : decode cX7_takesSteps 10 = .ok (.aload_n 0, 1) := by decide +kernel
theorem dX7_takesSteps_11 : decode cX7_takesSteps 11 = .ok (.iload_n 1, 1) := by decide +kernel
theorem dX7_takesSteps_12 : decode cX7_takesSteps 12 = .ok (.iconst 2, 1) := by decide +kernel
theorem dX7_takesSteps_13 : decode cX7_takesSteps 13 = .ok (.invokevirtual 66, 3) := by decide +kernel
theorem dX7_takesSteps_16 : decode cX7_takesSteps 16 = .ok (.if_icmp .ge 57, 3) := by decide +kernel
theorem dX7_takesSteps_19 : decode cX7_takesSteps 19 = .ok (.aload_n 0, 1) := by decide +kernel
theorem dX7_takesSteps_20 : decode cX7_takesSteps 20 = .ok (.iload_n 1, 1) := by decide +kernel
theorem dX7_takesSteps_21 : decode cX7_takesSteps 21 = .ok (.iconst 3, 1) := by decide +kernel
theorem dX7_takesSteps_22 : decode cX7_takesSteps 22 = .ok (.iload 4, 2) := by decide +kernel
theorem dX7_takesSteps_24 : decode cX7_takesSteps 24 = .ok (.iadd, 1) := by decide +kernel
theorem dX7_takesSteps_25 : decode cX7_takesSteps 25 = .ok (.invokevirtual 66, 3) := by decide +kernel
theorem dX7_takesSteps_28 : decode cX7_takesSteps 28 = .ok (.istore 5, 2) := by decide +kernel
theorem dX7_takesSteps_30 : decode cX7_takesSteps 30 = .ok (.iload 5, 2) := by decide +kernel
theorem dX7_takesSteps_32 : decode cX7_takesSteps 32 = .ok (.bipush 8, 2) := by decide +kernel
theorem dX7_takesSteps_34 : decode cX7_takesSteps 34 = .ok (.if_icmp .ge 27, 3) := by decide +kernel
theorem dX7_takesSteps_37 : decode cX7_takesSteps 37 = .ok (.aload_n 0, 1) := by decide +kernel
theorem dX7_takesSteps_38 : decode cX7_takesSteps 38 = .ok (.getfield 25, 3) := by decide +kernel
theorem dX7_takesSteps_41 : decode cX7_takesSteps 41 = .ok (.iload_n 2, 1) := by decide +kernel
theorem dX7_takesSteps_42 : decode cX7_takesSteps 42 = .ok (.iload 5, 2) := by decide +kernel
theorem dX7_takesSteps_44 : decode cX7_takesSteps 44 = .ok (.iastore, 1) := by decide +kernel
theorem dX7_takesSteps_45 : decode cX7_takesSteps 45 = .ok (.aload_n 0, 1) := by decide +kernel
theorem dX7_takesSteps_46 : decode cX7_takesSteps 46 = .ok (.getfield 28, 3) := by decide +kernel
theorem dX7_takesSteps_49 : decode cX7_takesSteps 49 = .ok (.iload_n 2, 1) := by decide +kernel
theorem dX7_takesSteps_50 : decode cX7_takesSteps 50 = .ok (.iload_n 3, 1) := by decide +kernel
theorem dX7_takesSteps_51 : decode cX7_takesSteps 51 = .ok (.iastore, 1) := by decide +kernel
theorem dX7_takesSteps_52 : decode cX7_takesSteps 52 = .ok (.bipush (-5), 2) := by decide +kernel
theorem dX7_takesSteps_54 : decode cX7_takesSteps 54 = .ok (.istore_n 3, 1) := by decide +kernel
theorem dX7_takesSteps_55 : decode cX7_takesSteps 55 = .ok (.iinc 2 1, 3) := by decide +kernel
theorem dX7_takesSteps_58 : decode cX7_takesSteps 58 = .ok (.goto 9, 3) := by decide +kernel
theorem dX7_takesSteps_61 : decode cX7_takesSteps 61 = .ok (.iload 5, 2) := by decide +kernel
theorem dX7_takesSteps_63 : decode cX7_takesSteps 63 = .ok (.bipush 8, 2) := by decide +kernel
theorem dX7_takesSteps_65 : decode cX7_takesSteps 65 = .ok (.isub, 1) := by decide +kernel
theorem dX7_takesSteps_66 : decode cX7_takesSteps 66 = .ok (.istore_n 3, 1) := by decide +kernel
theorem dX7_takesSteps_67 : decode cX7_takesSteps 67 = .ok (.iinc 4 1, 3) := by decide +kernel
theorem dX7_takesSteps_70 : decode cX7_takesSteps 70 = .ok (.goto (-62), 3) := by decide +kernel
theorem dX7_takesSteps_73 : decode cX7_takesSteps 73 = .ok (.return_, 1) := by decide +kernel
theorem dX7_chosen_0 : decode cX7_chosen 0 = .ok (.aload_n 0, 1) := by decide +kernel
theorem dX7_chosen_1 : decode cX7_chosen 1 = .ok (.aload_n 0, 1) := by decide +kernel
theorem dX7_chosen_2 : decode cX7_chosen 2 = .ok (.getfield 22, 3) := by decide +kernel
theorem dX7_chosen_5 : decode cX7_chosen 5 = .ok (.aload_n 0, 1) := by decide +kernel
theorem dX7_chosen_6 : decode cX7_chosen 6 = .ok (.getfield 31, 3) := by decide +kernel
theorem dX7_chosen_9 : decode cX7_chosen 9 = .ok (.iload_n 1, 1) := by decide +kernel
theorem dX7_chosen_10 : decode cX7_chosen 10 = .ok (.iaload, 1) := by decide +kernel
theorem dX7_chosen_11 : decode cX7_chosen 11 = .ok (.iaload, 1) := by decide +kernel
theorem dX7_chosen_12 : decode cX7_chosen 12 = .ok (.iload_n 2, 1) := by decide +kernel
theorem dX7_chosen_13 : decode cX7_chosen 13 = .ok (.invokevirtual 62, 3) := by decide +kernel
theorem dX7_chosen_16 : decode cX7_chosen 16 = .ok (.ireturn, 1) := by decide +kernel
theorem dX7_liesBetween_0 : decode cX7_liesBetween 0 = .ok (.iconst 0, 1) := by decide +kernel
theorem dX7_liesBetween_1 : decode cX7_liesBetween 1 = .ok (.istore_n 3, 1) := by decide +kernel
theorem dX7_liesBetween_2 : decode cX7_liesBetween 2 = .ok (.aload_n 0, 1) := by decide +kernel
theorem dX7_liesBetween_3 : decode cX7_liesBetween 3 = .ok (.getfield 31, 3) := by decide +kernel
theorem dX7_liesBetween_6 : decode cX7_liesBetween 6 = .ok (.iload_n 1, 1) := by decide +kernel
theorem dX7_liesBetween_7 : decode cX7_liesBetween 7 = .ok (.iconst 1, 1) := by decide +kernel
theorem dX7_liesBetween_8 : decode cX7_liesBetween 8 = .ok (.isub, 1) := by decide +kernel
theorem dX7_liesBetween_9 : decode cX7_liesBetween 9 = .ok (.iaload, 1) := by decide +kernel
theorem dX7_liesBetween_10 : decode cX7_liesBetween 10 = .ok (.iconst 1, 1) := by decide +kernel
theorem dX7_liesBetween_11 : decode cX7_liesBetween 11 = .ok (.iadd, 1) := by decide +kernel
theorem dX7_liesBetween_12 : decode cX7_liesBetween 12 = .ok (.istore 4, 2) := by decide +kernel
theorem dX7_liesBetween_14 : decode cX7_liesBetween 14 = .ok (.iload 4, 2) := by decide +kernel
theorem dX7_liesBetween_16 : decode cX7_liesBetween 16 = .ok (.aload_n 0, 1) := by decide +kernel
theorem dX7_liesBetween_17 : decode cX7_liesBetween 17 = .ok (.getfield 31, 3) := by decide +kernel
theorem dX7_liesBetween_20 : decode cX7_liesBetween 20 = .ok (.iload_n 1, 1) := by decide +kernel
theorem dX7_liesBetween_21 : decode cX7_liesBetween 21 = .ok (.iaload, 1) := by decide +kernel
theorem dX7_liesBetween_22 : decode cX7_liesBetween 22 = .ok (.if_icmp .ge 35, 3) := by decide +kernel
theorem dX7_liesBetween_25 : decode cX7_liesBetween 25 = .ok (.iload_n 3, 1) := by decide +kernel
theorem dX7_liesBetween_26 : decode cX7_liesBetween 26 = .ok (.ifCond .ne 19, 3) := by decide +kernel
theorem dX7_liesBetween_29 : decode cX7_liesBetween 29 = .ok (.aload_n 0, 1) := by decide +kernel
theorem dX7_liesBetween_30 : decode cX7_liesBetween 30 = .ok (.aload_n 0, 1) := by decide +kernel
theorem dX7_liesBetween_31 : decode cX7_liesBetween 31 = .ok (.getfield 22, 3) := by decide +kernel
theorem dX7_liesBetween_34 : decode cX7_liesBetween 34 = .ok (.iload 4, 2) := by decide +kernel
theorem dX7_liesBetween_36 : decode cX7_liesBetween 36 = .ok (.iaload, 1) := by decide +kernel
theorem dX7_liesBetween_37 : decode cX7_liesBetween 37 = .ok (.iconst 0, 1) := by decide +kernel
theorem dX7_liesBetween_38 : decode cX7_liesBetween 38 = .ok (.invokevirtual 62, 3) := by decide +kernel
theorem dX7_liesBetween_41 : decode cX7_liesBetween 41 = .ok (.iload_n 2, 1) := by decide +kernel
theorem dX7_liesBetween_42 : decode cX7_liesBetween 42 = .ok (.if_icmp .ne 7, 3) := by decide +kernel
theorem dX7_liesBetween_45 : decode cX7_liesBetween 45 = .ok (.iconst 1, 1) := by decide +kernel
theorem dX7_liesBetween_46 : decode cX7_liesBetween 46 = .ok (.goto 4, 3) := by decide +kernel
theorem dX7_liesBetween_49 : decode cX7_liesBetween 49 = .ok (.iconst 0, 1) := by decide +kernel
theorem dX7_liesBetween_50 : decode cX7_liesBetween 50 = .ok (.istore_n 3, 1) := by decide +kernel
theorem dX7_liesBetween_51 : decode cX7_liesBetween 51 = .ok (.iinc 4 1, 3) := by decide +kernel
theorem dX7_liesBetween_54 : decode cX7_liesBetween 54 = .ok (.goto (-40), 3) := by decide +kernel
theorem dX7_liesBetween_57 : decode cX7_liesBetween 57 = .ok (.iload_n 3, 1) := by decide +kernel
theorem dX7_liesBetween_58 : decode cX7_liesBetween 58 = .ok (.ireturn, 1) := by decide +kernel
theorem dX7_fits_0 : decode cX7_fits 0 = .ok (.aload_n 0, 1) := by decide +kernel
theorem dX7_fits_1 : decode cX7_fits 1 = .ok (.iload_n 2, 1) := by decide +kernel
theorem dX7_fits_2 : decode cX7_fits 2 = .ok (.iconst 0, 1) := by decide +kernel
theorem dX7_fits_3 : decode cX7_fits 3 = .ok (.invokevirtual 69, 3) := by decide +kernel
theorem dX7_fits_6 : decode cX7_fits 6 = .ok (.aload_n 0, 1) := by decide +kernel
theorem dX7_fits_7 : decode cX7_fits 7 = .ok (.getfield 25, 3) := by decide +kernel
theorem dX7_fits_10 : decode cX7_fits 10 = .ok (.iload_n 2, 1) := by decide +kernel
theorem dX7_fits_11 : decode cX7_fits 11 = .ok (.iaload, 1) := by decide +kernel
theorem dX7_fits_12 : decode cX7_fits 12 = .ok (.if_icmp .ne 25, 3) := by decide +kernel
theorem dX7_fits_15 : decode cX7_fits 15 = .ok (.aload_n 0, 1) := by decide +kernel
theorem dX7_fits_16 : decode cX7_fits 16 = .ok (.iload_n 2, 1) := by decide +kernel
theorem dX7_fits_17 : decode cX7_fits 17 = .ok (.iconst 2, 1) := by decide +kernel
theorem dX7_fits_18 : decode cX7_fits 18 = .ok (.invokevirtual 69, 3) := by decide +kernel
theorem dX7_fits_21 : decode cX7_fits 21 = .ok (.aload_n 0, 1) := by decide +kernel
theorem dX7_fits_22 : decode cX7_fits 22 = .ok (.iconst 0, 1) := by decide +kernel
theorem dX7_fits_23 : decode cX7_fits 23 = .ok (.iconst 2, 1) := by decide +kernel
theorem dX7_fits_24 : decode cX7_fits 24 = .ok (.invokevirtual 69, 3) := by decide +kernel
theorem dX7_fits_27 : decode cX7_fits 27 = .ok (.isub, 1) := by decide +kernel
theorem dX7_fits_28 : decode cX7_fits 28 = .ok (.aload_n 0, 1) := by decide +kernel
theorem dX7_fits_29 : decode cX7_fits 29 = .ok (.iload_n 1, 1) := by decide +kernel
theorem dX7_fits_30 : decode cX7_fits 30 = .ok (.iconst 0, 1) := by decide +kernel
theorem dX7_fits_31 : decode cX7_fits 31 = .ok (.invokevirtual 66, 3) := by decide +kernel
theorem dX7_fits_34 : decode cX7_fits 34 = .ok (.if_icmp .le 5, 3) := by decide +kernel
theorem dX7_fits_37 : decode cX7_fits 37 = .ok (.iconst 0, 1) := by decide +kernel
theorem dX7_fits_38 : decode cX7_fits 38 = .ok (.ireturn, 1) := by decide +kernel
theorem dX7_fits_39 : decode cX7_fits 39 = .ok (.iload_n 2, 1) := by decide +kernel
theorem dX7_fits_40 : decode cX7_fits 40 = .ok (.ifCond .ne 5, 3) := by decide +kernel
theorem dX7_fits_43 : decode cX7_fits 43 = .ok (.iconst 1, 1) := by decide +kernel
theorem dX7_fits_44 : decode cX7_fits 44 = .ok (.ireturn, 1) := by decide +kernel
theorem dX7_fits_45 : decode cX7_fits 45 = .ok (.aload_n 0, 1) := by decide +kernel
theorem dX7_fits_46 : decode cX7_fits 46 = .ok (.iload_n 1, 1) := by decide +kernel
theorem dX7_fits_47 : decode cX7_fits 47 = .ok (.iconst 1, 1) := by decide +kernel
theorem dX7_fits_48 : decode cX7_fits 48 = .ok (.invokevirtual 66, 3) := by decide +kernel
theorem dX7_fits_51 : decode cX7_fits 51 = .ok (.istore_n 3, 1) := by decide +kernel
theorem dX7_fits_52 : decode cX7_fits 52 = .ok (.aload_n 0, 1) := by decide +kernel
theorem dX7_fits_53 : decode cX7_fits 53 = .ok (.iload_n 2, 1) := by decide +kernel
theorem dX7_fits_54 : decode cX7_fits 54 = .ok (.iconst 1, 1) := by decide +kernel
theorem dX7_fits_55 : decode cX7_fits 55 = .ok (.invokevirtual 69, 3) := by decide +kernel
theorem dX7_fits_58 : decode cX7_fits 58 = .ok (.aload_n 0, 1) := by decide +kernel
theorem dX7_fits_59 : decode cX7_fits 59 = .ok (.iload_n 2, 1) := by decide +kernel
theorem dX7_fits_60 : decode cX7_fits 60 = .ok (.iconst 1, 1) := by decide +kernel
theorem dX7_fits_61 : decode cX7_fits 61 = .ok (.isub, 1) := by decide +kernel
theorem dX7_fits_62 : decode cX7_fits 62 = .ok (.iconst 1, 1) := by decide +kernel
theorem dX7_fits_63 : decode cX7_fits 63 = .ok (.invokevirtual 69, 3) := by decide +kernel
theorem dX7_fits_66 : decode cX7_fits 66 = .ok (.isub, 1) := by decide +kernel
theorem dX7_fits_67 : decode cX7_fits 67 = .ok (.istore 4, 2) := by decide +kernel
theorem dX7_fits_69 : decode cX7_fits 69 = .ok (.iload_n 3, 1) := by decide +kernel
theorem dX7_fits_70 : decode cX7_fits 70 = .ok (.ifCond .eq 21, 3) := by decide +kernel
theorem dX7_fits_73 : decode cX7_fits 73 = .ok (.iload_n 3, 1) := by decide +kernel
theorem dX7_fits_74 : decode cX7_fits 74 = .ok (.iconst 1, 1) := by decide +kernel
theorem dX7_fits_75 : decode cX7_fits 75 = .ok (.if_icmp .ne 11, 3) := by decide +kernel
theorem dX7_fits_78 : decode cX7_fits 78 = .ok (.iload 4, 2) := by decide +kernel
theorem dX7_fits_80 : decode cX7_fits 80 = .ok (.ifCond .le 40, 3) := by decide +kernel
theorem dX7_fits_83 : decode cX7_fits 83 = .ok (.goto 8, 3) := by decide +kernel
theorem dX7_fits_86 : decode cX7_fits 86 = .ok (.iload 4, 2) := by decide +kernel
theorem dX7_fits_88 : decode cX7_fits 88 = .ok (.ifCond .ne 32, 3) := by decide +kernel
theorem dX7_fits_91 : decode cX7_fits 91 = .ok (.aload_n 0, 1) := by decide +kernel
theorem dX7_fits_92 : decode cX7_fits 92 = .ok (.getfield 28, 3) := by decide +kernel
theorem dX7_fits_95 : decode cX7_fits 95 = .ok (.iload_n 2, 1) := by decide +kernel
theorem dX7_fits_96 : decode cX7_fits 96 = .ok (.iaload, 1) := by decide +kernel
theorem dX7_fits_97 : decode cX7_fits 97 = .ok (.bipush (-5), 2) := by decide +kernel
theorem dX7_fits_99 : decode cX7_fits 99 = .ok (.if_icmp .eq 17, 3) := by decide +kernel
theorem dX7_fits_102 : decode cX7_fits 102 = .ok (.aload_n 0, 1) := by decide +kernel
theorem dX7_fits_103 : decode cX7_fits 103 = .ok (.iload_n 2, 1) := by decide +kernel
theorem dX7_fits_104 : decode cX7_fits 104 = .ok (.aload_n 0, 1) := by decide +kernel
theorem dX7_fits_105 : decode cX7_fits 105 = .ok (.getfield 28, 3) := by decide +kernel
theorem dX7_fits_108 : decode cX7_fits 108 = .ok (.iload_n 2, 1) := by decide +kernel
theorem dX7_fits_109 : decode cX7_fits 109 = .ok (.iaload, 1) := by decide +kernel
theorem dX7_fits_110 : decode cX7_fits 110 = .ok (.invokevirtual 72, 3) := by decide +kernel
theorem dX7_fits_113 : decode cX7_fits 113 = .ok (.ifCond .ne 7, 3) := by decide +kernel
theorem dX7_fits_116 : decode cX7_fits 116 = .ok (.iconst 1, 1) := by decide +kernel
theorem dX7_fits_117 : decode cX7_fits 117 = .ok (.goto 4, 3) := by decide +kernel
theorem dX7_fits_120 : decode cX7_fits 120 = .ok (.iconst 0, 1) := by decide +kernel
theorem dX7_fits_121 : decode cX7_fits 121 = .ok (.ireturn, 1) := by decide +kernel
theorem dX7_isMatch_0 : decode cX7_isMatch 0 = .ok (.aload_n 0, 1) := by decide +kernel
theorem dX7_isMatch_1 : decode cX7_isMatch 1 = .ok (.getfield 76, 3) := by decide +kernel
theorem dX7_isMatch_4 : decode cX7_isMatch 4 = .ok (.aload_n 0, 1) := by decide +kernel
theorem dX7_isMatch_5 : decode cX7_isMatch 5 = .ok (.getfield 79, 3) := by decide +kernel
theorem dX7_isMatch_8 : decode cX7_isMatch 8 = .ok (.if_icmp .ne 33, 3) := by decide +kernel
theorem dX7_isMatch_11 : decode cX7_isMatch 11 = .ok (.iconst 0, 1) := by decide +kernel
theorem dX7_isMatch_12 : decode cX7_isMatch 12 = .ok (.istore_n 2, 1) := by decide +kernel
theorem dX7_isMatch_13 : decode cX7_isMatch 13 = .ok (.iload_n 2, 1) := by decide +kernel
theorem dX7_isMatch_14 : decode cX7_isMatch 14 = .ok (.iload_n 1, 1) := by decide +kernel
theorem dX7_isMatch_15 : decode cX7_isMatch 15 = .ok (.if_icmp .ge 26, 3) := by decide +kernel
theorem dX7_isMatch_18 : decode cX7_isMatch 18 = .ok (.aload_n 0, 1) := by decide +kernel
theorem dX7_isMatch_19 : decode cX7_isMatch 19 = .ok (.getfield 37, 3) := by decide +kernel
theorem dX7_isMatch_22 : decode cX7_isMatch 22 = .ok (.iload_n 2, 1) := by decide +kernel
theorem dX7_isMatch_23 : decode cX7_isMatch 23 = .ok (.aload_n 0, 1) := by decide +kernel
theorem dX7_isMatch_24 : decode cX7_isMatch 24 = .ok (.getfield 22, 3) := by decide +kernel
theorem dX7_isMatch_27 : decode cX7_isMatch 27 = .ok (.aload_n 0, 1) := by decide +kernel
theorem dX7_isMatch_28 : decode cX7_isMatch 28 = .ok (.getfield 31, 3) := by decide +kernel
theorem dX7_isMatch_31 : decode cX7_isMatch 31 = .ok (.iload_n 2, 1) := by decide +kernel
theorem dX7_isMatch_32 : decode cX7_isMatch 32 = .ok (.iaload, 1) := by decide +kernel
theorem dX7_isMatch_33 : decode cX7_isMatch 33 = .ok (.iaload, 1) := by decide +kernel
theorem dX7_isMatch_34 : decode cX7_isMatch 34 = .ok (.iastore, 1) := by decide +kernel
theorem dX7_isMatch_35 : decode cX7_isMatch 35 = .ok (.iinc 2 1, 3) := by decide +kernel
theorem dX7_isMatch_38 : decode cX7_isMatch 38 = .ok (.goto (-25), 3) := by decide +kernel
theorem dX7_isMatch_41 : decode cX7_isMatch 41 = .ok (.iconst 0, 1) := by decide +kernel
theorem dX7_isMatch_42 : decode cX7_isMatch 42 = .ok (.istore_n 2, 1) := by decide +kernel
theorem dX7_isMatch_43 : decode cX7_isMatch 43 = .ok (.iload_n 2, 1) := by decide +kernel
theorem dX7_isMatch_44 : decode cX7_isMatch 44 = .ok (.iload_n 1, 1) := by decide +kernel
theorem dX7_isMatch_45 : decode cX7_isMatch 45 = .ok (.if_icmp .ge 29, 3) := by decide +kernel
theorem dX7_isMatch_48 : decode cX7_isMatch 48 = .ok (.aload_n 0, 1) := by decide +kernel
theorem dX7_isMatch_49 : decode cX7_isMatch 49 = .ok (.getfield 34, 3) := by decide +kernel
theorem dX7_isMatch_52 : decode cX7_isMatch 52 = .ok (.aload_n 0, 1) := by decide +kernel
theorem dX7_isMatch_53 : decode cX7_isMatch 53 = .ok (.getfield 22, 3) := by decide +kernel
theorem dX7_isMatch_56 : decode cX7_isMatch 56 = .ok (.aload_n 0, 1) := by decide +kernel
theorem dX7_isMatch_57 : decode cX7_isMatch 57 = .ok (.getfield 31, 3) := by decide +kernel
theorem dX7_isMatch_60 : decode cX7_isMatch 60 = .ok (.iload_n 2, 1) := by decide +kernel
theorem dX7_isMatch_61 : decode cX7_isMatch 61 = .ok (.iaload, 1) := by decide +kernel
theorem dX7_isMatch_62 : decode cX7_isMatch 62 = .ok (.iaload, 1) := by decide +kernel
theorem dX7_isMatch_63 : decode cX7_isMatch 63 = .ok (.dup2, 1) := by decide +kernel
theorem dX7_isMatch_64 : decode cX7_isMatch 64 = .ok (.iaload, 1) := by decide +kernel
theorem dX7_isMatch_65 : decode cX7_isMatch 65 = .ok (.iconst 1, 1) := by decide +kernel
theorem dX7_isMatch_66 : decode cX7_isMatch 66 = .ok (.iadd, 1) := by decide +kernel
theorem dX7_isMatch_67 : decode cX7_isMatch 67 = .ok (.iastore, 1) := by decide +kernel
theorem dX7_isMatch_68 : decode cX7_isMatch 68 = .ok (.iinc 2 1, 3) := by decide +kernel
theorem dX7_isMatch_71 : decode cX7_isMatch 71 = .ok (.goto (-28), 3) := by decide +kernel
theorem dX7_isMatch_74 : decode cX7_isMatch 74 = .ok (.aload_n 0, 1) := by decide +kernel
theorem dX7_isMatch_75 : decode cX7_isMatch 75 = .ok (.dup, 1) := by decide +kernel
theorem dX7_isMatch_76 : decode cX7_isMatch 76 = .ok (.getfield 76, 3) := by decide +kernel
theorem dX7_isMatch_79 : decode cX7_isMatch 79 = .ok (.iconst 1, 1) := by decide +kernel
theorem dX7_isMatch_80 : decode cX7_isMatch 80 = .ok (.iadd, 1) := by decide +kernel
theorem dX7_isMatch_81 : decode cX7_isMatch 81 = .ok (.putfield 76, 3) := by decide +kernel
theorem dX7_isMatch_84 : decode cX7_isMatch 84 = .ok (.aload_n 0, 1) := by decide +kernel
theorem dX7_isMatch_85 : decode cX7_isMatch 85 = .ok (.dup, 1) := by decide +kernel
theorem dX7_isMatch_86 : decode cX7_isMatch 86 = .ok (.getfield 82, 3) := by decide +kernel
theorem dX7_isMatch_89 : decode cX7_isMatch 89 = .ok (.aload_n 0, 1) := by decide +kernel
theorem dX7_isMatch_90 : decode cX7_isMatch 90 = .ok (.iload_n 1, 1) := by decide +kernel
theorem dX7_isMatch_91 : decode cX7_isMatch 91 = .ok (.iconst 1, 1) := by decide +kernel
theorem dX7_isMatch_92 : decode cX7_isMatch 92 = .ok (.isub, 1) := by decide +kernel
theorem dX7_isMatch_93 : decode cX7_isMatch 93 = .ok (.iconst 2, 1) := by decide +kernel
theorem dX7_isMatch_94 : decode cX7_isMatch 94 = .ok (.invokevirtual 69, 3) := by decide +kernel
theorem dX7_isMatch_97 : decode cX7_isMatch 97 = .ok (.aload_n 0, 1) := by decide +kernel
theorem dX7_isMatch_98 : decode cX7_isMatch 98 = .ok (.invokevirtual 85, 3) := by decide +kernel
theorem dX7_isMatch_101 : decode cX7_isMatch 101 = .ok (.if_icmp .gt 7, 3) := by decide +kernel
theorem dX7_isMatch_104 : decode cX7_isMatch 104 = .ok (.iconst 1, 1) := by decide +kernel
theorem dX7_isMatch_105 : decode cX7_isMatch 105 = .ok (.goto 4, 3) := by decide +kernel
theorem dX7_isMatch_108 : decode cX7_isMatch 108 = .ok (.iconst 0, 1) := by decide +kernel
theorem dX7_isMatch_109 : decode cX7_isMatch 109 = .ok (.iadd, 1) := by decide +kernel
theorem dX7_isMatch_110 : decode cX7_isMatch 110 = .ok (.putfield 82, 3) := by decide +kernel
theorem dX7_isMatch_113 : decode cX7_isMatch 113 = .ok (.return_, 1) := by decide +kernel
theorem dX7_finds_0 : decode cX7_finds 0 = .ok (.aload_n 0, 1) := by decide +kernel
theorem dX7_finds_1 : decode cX7_finds 1 = .ok (.iload_n 1, 1) := by decide +kernel
theorem dX7_finds_2 : decode cX7_finds 2 = .ok (.invokevirtual 89, 3) := by decide +kernel
theorem dX7_finds_5 : decode cX7_finds 5 = .ok (.istore_n 2, 1) := by decide +kernel
theorem dX7_finds_6 : decode cX7_finds 6 = .ok (.iconst 0, 1) := by decide +kernel
theorem dX7_finds_7 : decode cX7_finds 7 = .ok (.istore_n 3, 1) := by decide +kernel
theorem dX7_finds_8 : decode cX7_finds 8 = .ok (.aload_n 0, 1) := by decide +kernel
theorem dX7_finds_9 : decode cX7_finds 9 = .ok (.iconst 0, 1) := by decide +kernel
theorem dX7_finds_10 : decode cX7_finds 10 = .ok (.putfield 76, 3) := by decide +kernel
theorem dX7_finds_13 : decode cX7_finds 13 = .ok (.aload_n 0, 1) := by decide +kernel
theorem dX7_finds_14 : decode cX7_finds 14 = .ok (.iconst 0, 1) := by decide +kernel
theorem dX7_finds_15 : decode cX7_finds 15 = .ok (.putfield 82, 3) := by decide +kernel
theorem dX7_finds_18 : decode cX7_finds 18 = .ok (.aload_n 0, 1) := by decide +kernel
theorem dX7_finds_19 : decode cX7_finds 19 = .ok (.iconst 0, 1) := by decide +kernel
theorem dX7_finds_20 : decode cX7_finds 20 = .ok (.putfield 93, 3) := by decide +kernel
theorem dX7_finds_23 : decode cX7_finds 23 = .ok (.aload_n 0, 1) := by decide +kernel
theorem dX7_finds_24 : decode cX7_finds 24 = .ok (.invokevirtual 96, 3) := by decide +kernel
theorem dX7_finds_27 : decode cX7_finds 27 = .ok (.aload_n 0, 1) := by decide +kernel
theorem dX7_finds_28 : decode cX7_finds 28 = .ok (.iload_n 1, 1) := by decide +kernel
theorem dX7_finds_29 : decode cX7_finds 29 = .ok (.invokevirtual 99, 3) := by decide +kernel
theorem dX7_finds_32 : decode cX7_finds 32 = .ok (.aload_n 0, 1) := by decide +kernel
theorem dX7_finds_33 : decode cX7_finds 33 = .ok (.getfield 31, 3) := by decide +kernel
theorem dX7_finds_36 : decode cX7_finds 36 = .ok (.iconst 0, 1) := by decide +kernel
theorem dX7_finds_37 : decode cX7_finds 37 = .ok (.iconst (-1), 1) := by decide +kernel
theorem dX7_finds_38 : decode cX7_finds 38 = .ok (.iastore, 1) := by decide +kernel
theorem dX7_finds_39 : decode cX7_finds 39 = .ok (.iload_n 3, 1) := by decide +kernel
theorem dX7_finds_40 : decode cX7_finds 40 = .ok (.ifCond .lt 114, 3) := by decide +kernel
theorem dX7_finds_43 : decode cX7_finds 43 = .ok (.aload_n 0, 1) := by decide +kernel
theorem dX7_finds_44 : decode cX7_finds 44 = .ok (.getfield 31, 3) := by decide +kernel
theorem dX7_finds_47 : decode cX7_finds 47 = .ok (.iload_n 3, 1) := by decide +kernel
theorem dX7_finds_48 : decode cX7_finds 48 = .ok (.dup2, 1) := by decide +kernel
theorem dX7_finds_49 : decode cX7_finds 49 = .ok (.iaload, 1) := by decide +kernel
theorem dX7_finds_50 : decode cX7_finds 50 = .ok (.iconst 1, 1) := by decide +kernel
theorem dX7_finds_51 : decode cX7_finds 51 = .ok (.iadd, 1) := by decide +kernel
theorem dX7_finds_52 : decode cX7_finds 52 = .ok (.iastore, 1) := by decide +kernel
theorem dX7_finds_53 : decode cX7_finds 53 = .ok (.aload_n 0, 1) := by decide +kernel
theorem dX7_finds_54 : decode cX7_finds 54 = .ok (.getfield 31, 3) := by decide +kernel
theorem dX7_finds_57 : decode cX7_finds 57 = .ok (.iload_n 3, 1) := by decide +kernel
theorem dX7_finds_58 : decode cX7_finds 58 = .ok (.iaload, 1) := by decide +kernel
theorem dX7_finds_59 : decode cX7_finds 59 = .ok (.aload_n 0, 1) := by decide +kernel
theorem dX7_finds_60 : decode cX7_finds 60 = .ok (.getfield 7, 3) := by decide +kernel
theorem dX7_finds_63 : decode cX7_finds 63 = .ok (.iconst 0, 1) := by decide +kernel
theorem dX7_finds_64 : decode cX7_finds 64 = .ok (.iaload, 1) := by decide +kernel
theorem dX7_finds_65 : decode cX7_finds 65 = .ok (.if_icmp .lt 9, 3) := by decide +kernel
theorem dX7_finds_68 : decode cX7_finds 68 = .ok (.iinc 3 (-1), 3) := by decide +kernel
theorem dX7_finds_71 : decode cX7_finds 71 = .ok (.goto (-32), 3) := by decide +kernel
theorem dX7_finds_74 : decode cX7_finds 74 = .ok (.aload_n 0, 1) := by decide +kernel
theorem dX7_finds_75 : decode cX7_finds 75 = .ok (.iload_n 1, 1) := by decide +kernel
theorem dX7_finds_76 : decode cX7_finds 76 = .ok (.iload_n 3, 1) := by decide +kernel
theorem dX7_finds_77 : decode cX7_finds 77 = .ok (.invokevirtual 103, 3) := by decide +kernel
theorem dX7_finds_80 : decode cX7_finds 80 = .ok (.ifCond .eq (-41), 3) := by decide +kernel
theorem dX7_finds_83 : decode cX7_finds 83 = .ok (.iload_n 3, 1) := by decide +kernel
theorem dX7_finds_84 : decode cX7_finds 84 = .ok (.iload_n 2, 1) := by decide +kernel
theorem dX7_finds_85 : decode cX7_finds 85 = .ok (.iconst 1, 1) := by decide +kernel
theorem dX7_finds_86 : decode cX7_finds 86 = .ok (.isub, 1) := by decide +kernel
theorem dX7_finds_87 : decode cX7_finds 87 = .ok (.if_icmp .ne 11, 3) := by decide +kernel
theorem dX7_finds_90 : decode cX7_finds 90 = .ok (.aload_n 0, 1) := by decide +kernel
theorem dX7_finds_91 : decode cX7_finds 91 = .ok (.iload_n 2, 1) := by decide +kernel
theorem dX7_finds_92 : decode cX7_finds 92 = .ok (.invokevirtual 106, 3) := by decide +kernel
theorem dX7_finds_95 : decode cX7_finds 95 = .ok (.goto (-56), 3) := by decide +kernel
theorem dX7_finds_98 : decode cX7_finds 98 = .ok (.aload_n 0, 1) := by decide +kernel
theorem dX7_finds_99 : decode cX7_finds 99 = .ok (.dup, 1) := by decide +kernel
theorem dX7_finds_100 : decode cX7_finds 100 = .ok (.getfield 93, 3) := by decide +kernel
theorem dX7_finds_103 : decode cX7_finds 103 = .ok (.aload_n 0, 1) := by decide +kernel
theorem dX7_finds_104 : decode cX7_finds 104 = .ok (.iconst 0, 1) := by decide +kernel
theorem dX7_finds_105 : decode cX7_finds 105 = .ok (.iconst 2, 1) := by decide +kernel
theorem dX7_finds_106 : decode cX7_finds 106 = .ok (.invokevirtual 69, 3) := by decide +kernel
theorem dX7_finds_109 : decode cX7_finds 109 = .ok (.aload_n 0, 1) := by decide +kernel
theorem dX7_finds_110 : decode cX7_finds 110 = .ok (.iload_n 1, 1) := by decide +kernel
theorem dX7_finds_111 : decode cX7_finds 111 = .ok (.iconst 0, 1) := by decide +kernel
theorem dX7_finds_112 : decode cX7_finds 112 = .ok (.invokevirtual 66, 3) := by decide +kernel
theorem dX7_finds_115 : decode cX7_finds 115 = .ok (.iadd, 1) := by decide +kernel
theorem dX7_finds_116 : decode cX7_finds 116 = .ok (.aload_n 0, 1) := by decide +kernel
theorem dX7_finds_117 : decode cX7_finds 117 = .ok (.getfield 7, 3) := by decide +kernel
theorem dX7_finds_120 : decode cX7_finds 120 = .ok (.iconst 1, 1) := by decide +kernel
theorem dX7_finds_121 : decode cX7_finds 121 = .ok (.iaload, 1) := by decide +kernel
theorem dX7_finds_122 : decode cX7_finds 122 = .ok (.if_icmp .lt 7, 3) := by decide +kernel
theorem dX7_finds_125 : decode cX7_finds 125 = .ok (.iconst 1, 1) := by decide +kernel
theorem dX7_finds_126 : decode cX7_finds 126 = .ok (.goto 4, 3) := by decide +kernel
theorem dX7_finds_129 : decode cX7_finds 129 = .ok (.iconst 0, 1) := by decide +kernel
theorem dX7_finds_130 : decode cX7_finds 130 = .ok (.iadd, 1) := by decide +kernel
theorem dX7_finds_131 : decode cX7_finds 131 = .ok (.putfield 93, 3) := by decide +kernel
theorem dX7_finds_134 : decode cX7_finds 134 = .ok (.aload_n 0, 1) := by decide +kernel
theorem dX7_finds_135 : decode cX7_finds 135 = .ok (.getfield 31, 3) := by decide +kernel
theorem dX7_finds_138 : decode cX7_finds 138 = .ok (.iload_n 3, 1) := by decide +kernel
theorem dX7_finds_139 : decode cX7_finds 139 = .ok (.iconst 1, 1) := by decide +kernel
theorem dX7_finds_140 : decode cX7_finds 140 = .ok (.iadd, 1) := by decide +kernel
theorem dX7_finds_141 : decode cX7_finds 141 = .ok (.aload_n 0, 1) := by decide +kernel
theorem dX7_finds_142 : decode cX7_finds 142 = .ok (.getfield 31, 3) := by decide +kernel
theorem dX7_finds_145 : decode cX7_finds 145 = .ok (.iload_n 3, 1) := by decide +kernel
theorem dX7_finds_146 : decode cX7_finds 146 = .ok (.iaload, 1) := by decide +kernel
theorem dX7_finds_147 : decode cX7_finds 147 = .ok (.iastore, 1) := by decide +kernel
theorem dX7_finds_148 : decode cX7_finds 148 = .ok (.iinc 3 1, 3) := by decide +kernel
theorem dX7_finds_151 : decode cX7_finds 151 = .ok (.goto (-112), 3) := by decide +kernel
theorem dX7_finds_154 : decode cX7_finds 154 = .ok (.return_, 1) := by decide +kernel
theorem dX7_allMatches_0 : decode cX7_allMatches 0 = .ok (.iconst 0, 1) := by decide +kernel
theorem dX7_allMatches_1 : decode cX7_allMatches 1 = .ok (.istore_n 1, 1) := by decide +kernel
theorem dX7_allMatches_2 : decode cX7_allMatches 2 = .ok (.aload_n 0, 1) := by decide +kernel
theorem dX7_allMatches_3 : decode cX7_allMatches 3 = .ok (.bipush (-5), 2) := by decide +kernel
theorem dX7_allMatches_5 : decode cX7_allMatches 5 = .ok (.putfield 79, 3) := by decide +kernel
theorem dX7_allMatches_8 : decode cX7_allMatches 8 = .ok (.iconst 0, 1) := by decide +kernel
theorem dX7_allMatches_9 : decode cX7_allMatches 9 = .ok (.istore_n 2, 1) := by decide +kernel
theorem dX7_allMatches_10 : decode cX7_allMatches 10 = .ok (.iload_n 2, 1) := by decide +kernel
theorem dX7_allMatches_11 : decode cX7_allMatches 11 = .ok (.aload_n 0, 1) := by decide +kernel
theorem dX7_allMatches_12 : decode cX7_allMatches 12 = .ok (.getfield 7, 3) := by decide +kernel
theorem dX7_allMatches_15 : decode cX7_allMatches 15 = .ok (.iconst 0, 1) := by decide +kernel
theorem dX7_allMatches_16 : decode cX7_allMatches 16 = .ok (.iaload, 1) := by decide +kernel
theorem dX7_allMatches_17 : decode cX7_allMatches 17 = .ok (.if_icmp .ge 16, 3) := by decide +kernel
theorem dX7_allMatches_20 : decode cX7_allMatches 20 = .ok (.aload_n 0, 1) := by decide +kernel
theorem dX7_allMatches_21 : decode cX7_allMatches 21 = .ok (.getfield 34, 3) := by decide +kernel
theorem dX7_allMatches_24 : decode cX7_allMatches 24 = .ok (.iload_n 2, 1) := by decide +kernel
theorem dX7_allMatches_25 : decode cX7_allMatches 25 = .ok (.iconst 0, 1) := by decide +kernel
theorem dX7_allMatches_26 : decode cX7_allMatches 26 = .ok (.iastore, 1) := by decide +kernel
theorem dX7_allMatches_27 : decode cX7_allMatches 27 = .ok (.iinc 2 1, 3) := by decide +kernel
theorem dX7_allMatches_30 : decode cX7_allMatches 30 = .ok (.goto (-20), 3) := by decide +kernel
theorem dX7_allMatches_33 : decode cX7_allMatches 33 = .ok (.iconst 0, 1) := by decide +kernel
theorem dX7_allMatches_34 : decode cX7_allMatches 34 = .ok (.istore_n 2, 1) := by decide +kernel
theorem dX7_allMatches_35 : decode cX7_allMatches 35 = .ok (.iload_n 2, 1) := by decide +kernel
theorem dX7_allMatches_36 : decode cX7_allMatches 36 = .ok (.aload_n 0, 1) := by decide +kernel
theorem dX7_allMatches_37 : decode cX7_allMatches 37 = .ok (.getfield 7, 3) := by decide +kernel
theorem dX7_allMatches_40 : decode cX7_allMatches 40 = .ok (.iconst 3, 1) := by decide +kernel
theorem dX7_allMatches_41 : decode cX7_allMatches 41 = .ok (.iaload, 1) := by decide +kernel
theorem dX7_allMatches_42 : decode cX7_allMatches 42 = .ok (.if_icmp .ge 21, 3) := by decide +kernel
theorem dX7_allMatches_45 : decode cX7_allMatches 45 = .ok (.aload_n 0, 1) := by decide +kernel
theorem dX7_allMatches_46 : decode cX7_allMatches 46 = .ok (.iload_n 2, 1) := by decide +kernel
theorem dX7_allMatches_47 : decode cX7_allMatches 47 = .ok (.invokevirtual 109, 3) := by decide +kernel
theorem dX7_allMatches_50 : decode cX7_allMatches 50 = .ok (.iload_n 1, 1) := by decide +kernel
theorem dX7_allMatches_51 : decode cX7_allMatches 51 = .ok (.aload_n 0, 1) := by decide +kernel
theorem dX7_allMatches_52 : decode cX7_allMatches 52 = .ok (.getfield 76, 3) := by decide +kernel
theorem dX7_allMatches_55 : decode cX7_allMatches 55 = .ok (.iadd, 1) := by decide +kernel
theorem dX7_allMatches_56 : decode cX7_allMatches 56 = .ok (.istore_n 1, 1) := by decide +kernel
theorem dX7_allMatches_57 : decode cX7_allMatches 57 = .ok (.iinc 2 1, 3) := by decide +kernel
theorem dX7_allMatches_60 : decode cX7_allMatches 60 = .ok (.goto (-25), 3) := by decide +kernel
theorem dX7_allMatches_63 : decode cX7_allMatches 63 = .ok (.iload_n 1, 1) := by decide +kernel
theorem dX7_allMatches_64 : decode cX7_allMatches 64 = .ok (.ireturn, 1) := by decide +kernel
theorem dX7_event_0 : decode cX7_event 0 = .ok (.iload_n 1, 1) := by decide +kernel
theorem dX7_event_1 : decode cX7_event 1 = .ok (.iload_n 2, 1) := by decide +kernel
theorem dX7_event_2 : decode cX7_event 2 = .ok (.iload_n 3, 1) := by decide +kernel
theorem dX7_event_3 : decode cX7_event 3 = .ok (.invokestatic 112, 3) := by decide +kernel
theorem dX7_event_6 : decode cX7_event 6 = .ok (.ifCond .ne 6, 3) := by decide +kernel
theorem dX7_event_9 : decode cX7_event 9 = .ok (.bipush (-2), 2) := by decide +kernel
theorem dX7_event_11 : decode cX7_event 11 = .ok (.ireturn, 1) := by decide +kernel
theorem dX7_event_12 : decode cX7_event 12 = .ok (.aload_n 0, 1) := by decide +kernel
theorem dX7_event_13 : decode cX7_event 13 = .ok (.iload_n 3, 1) := by decide +kernel
theorem dX7_event_14 : decode cX7_event 14 = .ok (.invokevirtual 116, 3) := by decide +kernel
theorem dX7_event_17 : decode cX7_event 17 = .ok (.ifCond .eq 6, 3) := by decide +kernel
theorem dX7_event_20 : decode cX7_event 20 = .ok (.bipush (-4), 2) := by decide +kernel
theorem dX7_event_22 : decode cX7_event 22 = .ok (.ireturn, 1) := by decide +kernel
theorem dX7_event_23 : decode cX7_event 23 = .ok (.aload_n 0, 1) := by decide +kernel
theorem dX7_event_24 : decode cX7_event 24 = .ok (.getfield 7, 3) := by decide +kernel
theorem dX7_event_27 : decode cX7_event 27 = .ok (.iconst 0, 1) := by decide +kernel
theorem dX7_event_28 : decode cX7_event 28 = .ok (.iaload, 1) := by decide +kernel
theorem dX7_event_29 : decode cX7_event 29 = .ok (.bipush 24, 2) := by decide +kernel
theorem dX7_event_31 : decode cX7_event 31 = .ok (.if_icmp .ne 6, 3) := by decide +kernel
theorem dX7_event_34 : decode cX7_event 34 = .ok (.bipush (-3), 2) := by decide +kernel
theorem dX7_event_36 : decode cX7_event 36 = .ok (.ireturn, 1) := by decide +kernel
theorem dX7_event_37 : decode cX7_event 37 = .ok (.aload_n 0, 1) := by decide +kernel
theorem dX7_event_38 : decode cX7_event 38 = .ok (.invokevirtual 120, 3) := by decide +kernel
theorem dX7_event_41 : decode cX7_event 41 = .ok (.aload_n 0, 1) := by decide +kernel
theorem dX7_event_42 : decode cX7_event 42 = .ok (.iload_n 1, 1) := by decide +kernel
theorem dX7_event_43 : decode cX7_event 43 = .ok (.iload_n 2, 1) := by decide +kernel
theorem dX7_event_44 : decode cX7_event 44 = .ok (.iload_n 3, 1) := by decide +kernel
theorem dX7_event_45 : decode cX7_event 45 = .ok (.invokevirtual 123, 3) := by decide +kernel
theorem dX7_event_48 : decode cX7_event 48 = .ok (.aload_n 0, 1) := by decide +kernel
theorem dX7_event_49 : decode cX7_event 49 = .ok (.aload_n 0, 1) := by decide +kernel
theorem dX7_event_50 : decode cX7_event 50 = .ok (.getfield 7, 3) := by decide +kernel
theorem dX7_event_53 : decode cX7_event 53 = .ok (.iconst 0, 1) := by decide +kernel
theorem dX7_event_54 : decode cX7_event 54 = .ok (.iaload, 1) := by decide +kernel
theorem dX7_event_55 : decode cX7_event 55 = .ok (.iconst 1, 1) := by decide +kernel
theorem dX7_event_56 : decode cX7_event 56 = .ok (.isub, 1) := by decide +kernel
theorem dX7_event_57 : decode cX7_event 57 = .ok (.invokevirtual 127, 3) := by decide +kernel
theorem dX7_event_60 : decode cX7_event 60 = .ok (.ireturn, 1) := by decide +kernel
theorem dX7_forget_0 : decode cX7_forget 0 = .ok (.iload_n 1, 1) := by decide +kernel
theorem dX7_forget_1 : decode cX7_forget 1 = .ok (.i2l, 1) := by decide +kernel
theorem dX7_forget_2 : decode cX7_forget 2 = .ok (.lconst 0, 1) := by decide +kernel
theorem dX7_forget_3 : decode cX7_forget 3 = .ok (.ldc2_w 60, 3) := by decide +kernel
theorem dX7_forget_6 : decode cX7_forget 6 = .ok (.invokestatic 50, 3) := by decide +kernel
theorem dX7_forget_9 : decode cX7_forget 9 = .ok (.ifCond .ne 6, 3) := by decide +kernel
theorem dX7_forget_12 : decode cX7_forget 12 = .ok (.bipush (-2), 2) := by decide +kernel
theorem dX7_forget_14 : decode cX7_forget 14 = .ok (.ireturn, 1) := by decide +kernel
theorem dX7_forget_15 : decode cX7_forget 15 = .ok (.aload_n 0, 1) := by decide +kernel
theorem dX7_forget_16 : decode cX7_forget 16 = .ok (.invokevirtual 120, 3) := by decide +kernel
theorem dX7_forget_19 : decode cX7_forget 19 = .ok (.aload_n 0, 1) := by decide +kernel
theorem dX7_forget_20 : decode cX7_forget 20 = .ok (.getfield 7, 3) := by decide +kernel
theorem dX7_forget_23 : decode cX7_forget 23 = .ok (.iconst 0, 1) := by decide +kernel
theorem dX7_forget_24 : decode cX7_forget 24 = .ok (.iconst 0, 1) := by decide +kernel
theorem dX7_forget_25 : decode cX7_forget 25 = .ok (.iastore, 1) := by decide +kernel
theorem dX7_forget_26 : decode cX7_forget 26 = .ok (.iconst 4, 1) := by decide +kernel
theorem dX7_forget_27 : decode cX7_forget 27 = .ok (.istore_n 2, 1) := by decide +kernel
theorem dX7_forget_28 : decode cX7_forget 28 = .ok (.iload_n 2, 1) := by decide +kernel
theorem dX7_forget_29 : decode cX7_forget 29 = .ok (.iconst 4, 1) := by decide +kernel
theorem dX7_forget_30 : decode cX7_forget 30 = .ok (.iconst 3, 1) := by decide +kernel
theorem dX7_forget_31 : decode cX7_forget 31 = .ok (.aload_n 0, 1) := by decide +kernel
theorem dX7_forget_32 : decode cX7_forget 32 = .ok (.getfield 13, 3) := by decide +kernel
theorem dX7_forget_35 : decode cX7_forget 35 = .ok (.iconst 0, 1) := by decide +kernel
theorem dX7_forget_36 : decode cX7_forget 36 = .ok (.iaload, 1) := by decide +kernel
theorem dX7_forget_37 : decode cX7_forget 37 = .ok (.imul, 1) := by decide +kernel
