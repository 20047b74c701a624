theorem dX0_init_0 : decode cX0_init 0 = .ok (.aload_n 0, 1) := by decide +kernel
theorem dX0_init_1 : decode cX0_init 1 = .ok (.invokespecial 3, 3) := by decide +kernel
theorem dX0_init_4 : decode cX0_init 4 = .ok (.aload_n 0, 1) := by decide +kernel
theorem dX0_init_5 : decode cX0_init 5 = .ok (.iconst 4, 1) := by decide +kernel
theorem dX0_init_6 : decode cX0_init 6 = .ok (.anewarray 9, 3) := by decide +kernel
theorem dX0_init_9 : decode cX0_init 9 = .ok (.putfield 11, 3) := by decide +kernel
theorem dX0_init_12 : decode cX0_init 12 = .ok (.aload_n 0, 1) := by decide +kernel
theorem dX0_init_13 : decode cX0_init 13 = .ok (.iconst 0, 1) := by decide +kernel
theorem dX0_init_14 : decode cX0_init 14 = .ok (.putfield 17, 3) := by decide +kernel
theorem dX0_init_17 : decode cX0_init 17 = .ok (.aload_n 0, 1) := by decide +kernel
theorem dX0_init_18 : decode cX0_init 18 = .ok (.iconst 0, 1) := by decide +kernel
theorem dX0_init_19 : decode cX0_init 19 = .ok (.putfield 21, 3) := by decide +kernel
theorem dX0_init_22 : decode cX0_init 22 = .ok (.iconst 0, 1) := by decide +kernel
theorem dX0_init_23 : decode cX0_init 23 = .ok (.istore_n 1, 1) := by decide +kernel
theorem dX0_init_24 : decode cX0_init 24 = .ok (.iload_n 1, 1) := by decide +kernel
theorem dX0_init_25 : decode cX0_init 25 = .ok (.iconst 4, 1) := by decide +kernel
theorem dX0_init_26 : decode cX0_init 26 = .ok (.if_icmp .ge 22, 3) := by decide +kernel
theorem dX0_init_29 : decode cX0_init 29 = .ok (.aload_n 0, 1) := by decide +kernel
theorem dX0_init_30 : decode cX0_init 30 = .ok (.getfield 11, 3) := by decide +kernel
theorem dX0_init_33 : decode cX0_init 33 = .ok (.iload_n 1, 1) := by decide +kernel
theorem dX0_init_34 : decode cX0_init 34 = .ok (.new 9, 3) := by decide +kernel
theorem dX0_init_37 : decode cX0_init 37 = .ok (.dup, 1) := by decide +kernel
theorem dX0_init_38 : decode cX0_init 38 = .ok (.invokespecial 24, 3) := by decide +kernel
theorem dX0_init_41 : decode cX0_init 41 = .ok (.aastore, 1) := by decide +kernel
theorem dX0_init_42 : decode cX0_init 42 = .ok (.iinc 1 1, 3) := by decide +kernel
theorem dX0_init_45 : decode cX0_init 45 = .ok (.goto (-21), 3) := by decide +kernel
theorem dX0_init_48 : decode cX0_init 48 = .ok (.return_, 1) := by decide +kernel
theorem dX0_record_0 : decode cX0_record 0 = .ok (.aload_n 0, 1) := by decide +kernel
theorem dX0_record_1 : decode cX0_record 1 = .ok (.getfield 21, 3) := by decide +kernel
theorem dX0_record_4 : decode cX0_record 4 = .ok (.iconst 4, 1) := by decide +kernel
theorem dX0_record_5 : decode cX0_record 5 = .ok (.if_icmp .lt 25, 3) := by decide +kernel
theorem dX0_record_8 : decode cX0_record 8 = .ok (.aload_n 0, 1) := by decide +kernel
theorem dX0_record_9 : decode cX0_record 9 = .ok (.aload_n 0, 1) := by decide +kernel
theorem dX0_record_10 : decode cX0_record 10 = .ok (.getfield 17, 3) := by decide +kernel
theorem dX0_record_13 : decode cX0_record 13 = .ok (.iconst 1, 1) := by decide +kernel
theorem dX0_record_14 : decode cX0_record 14 = .ok (.iadd, 1) := by decide +kernel
theorem dX0_record_15 : decode cX0_record 15 = .ok (.iconst 4, 1) := by decide +kernel
theorem dX0_record_16 : decode cX0_record 16 = .ok (.irem, 1) := by decide +kernel
theorem dX0_record_17 : decode cX0_record 17 = .ok (.putfield 17, 3) := by decide +kernel
theorem dX0_record_20 : decode cX0_record 20 = .ok (.aload_n 0, 1) := by decide +kernel
theorem dX0_record_21 : decode cX0_record 21 = .ok (.dup, 1) := by decide +kernel
theorem dX0_record_22 : decode cX0_record 22 = .ok (.getfield 21, 3) := by decide +kernel
theorem dX0_record_25 : decode cX0_record 25 = .ok (.iconst 1, 1) := by decide +kernel
theorem dX0_record_26 : decode cX0_record 26 = .ok (.isub, 1) := by decide +kernel
theorem dX0_record_27 : decode cX0_record 27 = .ok (.putfield 21, 3) := by decide +kernel
theorem dX0_record_30 : decode cX0_record 30 = .ok (.aload_n 0, 1) := by decide +kernel
theorem dX0_record_31 : decode cX0_record 31 = .ok (.getfield 11, 3) := by decide +kernel
theorem dX0_record_34 : decode cX0_record 34 = .ok (.aload_n 0, 1) := by decide +kernel
theorem dX0_record_35 : decode cX0_record 35 = .ok (.getfield 17, 3) := by decide +kernel
theorem dX0_record_38 : decode cX0_record 38 = .ok (.aload_n 0, 1) := by decide +kernel
theorem dX0_record_39 : decode cX0_record 39 = .ok (.getfield 21, 3) := by decide +kernel
theorem dX0_record_42 : decode cX0_record 42 = .ok (.iadd, 1) := by decide +kernel
theorem dX0_record_43 : decode cX0_record 43 = .ok (.iconst 4, 1) := by decide +kernel
theorem dX0_record_44 : decode cX0_record 44 = .ok (.irem, 1) := by decide +kernel
theorem dX0_record_45 : decode cX0_record 45 = .ok (.aaload, 1) := by decide +kernel
theorem dX0_record_46 : decode cX0_record 46 = .ok (.aload_n 1, 1) := by decide +kernel
theorem dX0_record_47 : decode cX0_record 47 = .ok (.invokevirtual 25, 3) := by decide +kernel
theorem dX0_record_50 : decode cX0_record 50 = .ok (.aload_n 0, 1) := by decide +kernel
theorem dX0_record_51 : decode cX0_record 51 = .ok (.dup, 1) := by decide +kernel
theorem dX0_record_52 : decode cX0_record 52 = .ok (.getfield 21, 3) := by decide +kernel
theorem dX0_record_55 : decode cX0_record 55 = .ok (.iconst 1, 1) := by decide +kernel
theorem dX0_record_56 : decode cX0_record 56 = .ok (.iadd, 1) := by decide +kernel
theorem dX0_record_57 : decode cX0_record 57 = .ok (.putfield 21, 3) := by decide +kernel
theorem dX0_record_60 : decode cX0_record 60 = .ok (.return_, 1) := by decide +kernel
theorem dX0_removeLatestInto_0 : decode cX0_removeLatestInto 0 = .ok (.aload_n 0, 1) := by decide +kernel
theorem dX0_removeLatestInto_1 : decode cX0_removeLatestInto 1 = .ok (.getfield 21, 3) := by decide +kernel
theorem dX0_removeLatestInto_4 : decode cX0_removeLatestInto 4 = .ok (.ifCond .gt 4, 3) := by decide +kernel
theorem dX0_removeLatestInto_7 : decode cX0_removeLatestInto 7 = .ok (.return_, 1) := by decide +kernel
theorem dX0_removeLatestInto_8 : decode cX0_removeLatestInto 8 = .ok (.aload_n 0, 1) := by decide +kernel
theorem dX0_removeLatestInto_9 : decode cX0_removeLatestInto 9 = .ok (.dup, 1) := by decide +kernel
theorem dX0_removeLatestInto_10 : decode cX0_removeLatestInto 10 = .ok (.getfield 21, 3) := by decide +kernel
theorem dX0_removeLatestInto_13 : decode cX0_removeLatestInto 13 = .ok (.iconst 1, 1) := by decide +kernel
theorem dX0_removeLatestInto_14 : decode cX0_removeLatestInto 14 = .ok (.isub, 1) := by decide +kernel
theorem dX0_removeLatestInto_15 : decode cX0_removeLatestInto 15 = .ok (.putfield 21, 3) := by decide +kernel
theorem dX0_removeLatestInto_18 : decode cX0_removeLatestInto 18 = .ok (.aload_n 1, 1) := by decide +kernel
theorem dX0_removeLatestInto_19 : decode cX0_removeLatestInto 19 = .ok (.aload_n 0, 1) := by decide +kernel
theorem dX0_removeLatestInto_20 : decode cX0_removeLatestInto 20 = .ok (.getfield 11, 3) := by decide +kernel
theorem dX0_removeLatestInto_23 : decode cX0_removeLatestInto 23 = .ok (.aload_n 0, 1) := by decide +kernel
theorem dX0_removeLatestInto_24 : decode cX0_removeLatestInto 24 = .ok (.getfield 17, 3) := by decide +kernel
theorem dX0_removeLatestInto_27 : decode cX0_removeLatestInto 27 = .ok (.aload_n 0, 1) := by decide +kernel
theorem dX0_removeLatestInto_28 : decode cX0_removeLatestInto 28 = .ok (.getfield 21, 3) := by decide +kernel
theorem dX0_removeLatestInto_31 : decode cX0_removeLatestInto 31 = .ok (.iadd, 1) := by decide +kernel
theorem dX0_removeLatestInto_32 : decode cX0_removeLatestInto 32 = .ok (.iconst 4, 1) := by decide +kernel
theorem dX0_removeLatestInto_33 : decode cX0_removeLatestInto 33 = .ok (.irem, 1) := by decide +kernel
theorem dX0_removeLatestInto_34 : decode cX0_removeLatestInto 34 = .ok (.aaload, 1) := by decide +kernel
theorem dX0_removeLatestInto_35 : decode cX0_removeLatestInto 35 = .ok (.invokevirtual 25, 3) := by decide +kernel
theorem dX0_removeLatestInto_38 : decode cX0_removeLatestInto 38 = .ok (.return_, 1) := by decide +kernel
theorem dX1_init_0 : decode cX1_init 0 = .ok (.aload_n 0, 1) := by decide +kernel
theorem dX1_init_1 : decode cX1_init 1 = .ok (.invokespecial 3, 3) := by decide +kernel
theorem dX1_init_4 : decode cX1_init 4 = .ok (.aload_n 0, 1) := by decide +kernel
theorem dX1_init_5 : decode cX1_init 5 = .ok (.iconst 0, 1) := by decide +kernel
theorem dX1_init_6 : decode cX1_init 6 = .ok (.putfield 9, 3) := by decide +kernel
theorem dX1_init_9 : decode cX1_init 9 = .ok (.aload_n 0, 1) := by decide +kernel
theorem dX1_init_10 : decode cX1_init 10 = .ok (.bipush 25, 2) := by decide +kernel
theorem dX1_init_12 : decode cX1_init 12 = .ok (.newarray .int, 2) := by decide +kernel
theorem dX1_init_14 : decode cX1_init 14 = .ok (.putfield 15, 3) := by decide +kernel
theorem dX1_init_17 : decode cX1_init 17 = .ok (.aload_n 0, 1) := by decide +kernel
theorem dX1_init_18 : decode cX1_init 18 = .ok (.bipush 25, 2) := by decide +kernel
theorem dX1_init_20 : decode cX1_init 20 = .ok (.newarray .char, 2) := by decide +kernel
theorem dX1_init_22 : decode cX1_init 22 = .ok (.putfield 19, 3) := by decide +kernel
theorem dX1_init_25 : decode cX1_init 25 = .ok (.aload_n 0, 1) := by decide +kernel
theorem dX1_init_26 : decode cX1_init 26 = .ok (.bipush 25, 2) := by decide +kernel
theorem dX1_init_28 : decode cX1_init 28 = .ok (.newarray .int, 2) := by decide +kernel
theorem dX1_init_30 : decode cX1_init 30 = .ok (.putfield 23, 3) := by decide +kernel
theorem dX1_init_33 : decode cX1_init 33 = .ok (.aload_n 0, 1) := by decide +kernel
theorem dX1_init_34 : decode cX1_init 34 = .ok (.bipush 25, 2) := by decide +kernel
theorem dX1_init_36 : decode cX1_init 36 = .ok (.newarray .int, 2) := by decide +kernel
theorem dX1_init_38 : decode cX1_init 38 = .ok (.putfield 26, 3) := by decide +kernel
theorem dX1_init_41 : decode cX1_init 41 = .ok (.return_, 1) := by decide +kernel
theorem dX1_fillFrom_0 : decode cX1_fillFrom 0 = .ok (.aload_n 0, 1) := by decide +kernel
theorem dX1_fillFrom_1 : decode cX1_fillFrom 1 = .ok (.iconst 0, 1) := by decide +kernel
theorem dX1_fillFrom_2 : decode cX1_fillFrom 2 = .ok (.putfield 9, 3) := by decide +kernel
theorem dX1_fillFrom_5 : decode cX1_fillFrom 5 = .ok (.iconst 0, 1) := by decide +kernel
theorem dX1_fillFrom_6 : decode cX1_fillFrom 6 = .ok (.istore_n 2, 1) := by decide +kernel
theorem dX1_fillFrom_7 : decode cX1_fillFrom 7 = .ok (.iload_n 2, 1) := by decide +kernel
theorem dX1_fillFrom_8 : decode cX1_fillFrom 8 = .ok (.aload_n 1, 1) := by decide +kernel
theorem dX1_fillFrom_9 : decode cX1_fillFrom 9 = .ok (.getfield 29, 3) := by decide +kernel
theorem dX1_fillFrom_12 : decode cX1_fillFrom 12 = .ok (.if_icmp .ge 32, 3) := by decide +kernel
theorem dX1_fillFrom_15 : decode cX1_fillFrom 15 = .ok (.aload_n 0, 1) := by decide +kernel
theorem dX1_fillFrom_16 : decode cX1_fillFrom 16 = .ok (.iload_n 2, 1) := by decide +kernel
theorem dX1_fillFrom_17 : decode cX1_fillFrom 17 = .ok (.aload_n 1, 1) := by decide +kernel
theorem dX1_fillFrom_18 : decode cX1_fillFrom 18 = .ok (.getfield 34, 3) := by decide +kernel
theorem dX1_fillFrom_21 : decode cX1_fillFrom 21 = .ok (.iload_n 2, 1) := by decide +kernel
theorem dX1_fillFrom_22 : decode cX1_fillFrom 22 = .ok (.caload, 1) := by decide +kernel
theorem dX1_fillFrom_23 : decode cX1_fillFrom 23 = .ok (.aload_n 1, 1) := by decide +kernel
theorem dX1_fillFrom_24 : decode cX1_fillFrom 24 = .ok (.getfield 35, 3) := by decide +kernel
theorem dX1_fillFrom_27 : decode cX1_fillFrom 27 = .ok (.iload_n 2, 1) := by decide +kernel
theorem dX1_fillFrom_28 : decode cX1_fillFrom 28 = .ok (.iaload, 1) := by decide +kernel
theorem dX1_fillFrom_29 : decode cX1_fillFrom 29 = .ok (.aload_n 1, 1) := by decide +kernel
theorem dX1_fillFrom_30 : decode cX1_fillFrom 30 = .ok (.getfield 36, 3) := by decide +kernel
theorem dX1_fillFrom_33 : decode cX1_fillFrom 33 = .ok (.iload_n 2, 1) := by decide +kernel
theorem dX1_fillFrom_34 : decode cX1_fillFrom 34 = .ok (.iaload, 1) := by decide +kernel
theorem dX1_fillFrom_35 : decode cX1_fillFrom 35 = .ok (.invokevirtual 37, 3) := by decide +kernel
theorem dX1_fillFrom_38 : decode cX1_fillFrom 38 = .ok (.iinc 2 1, 3) := by decide +kernel
theorem dX1_fillFrom_41 : decode cX1_fillFrom 41 = .ok (.goto (-34), 3) := by decide +kernel
theorem dX1_fillFrom_44 : decode cX1_fillFrom 44 = .ok (.return_, 1) := by decide +kernel
theorem dX1_insert_0 : decode cX1_insert 0 = .ok (.aload_n 0, 1) := by decide +kernel
theorem dX1_insert_1 : decode cX1_insert 1 = .ok (.getfield 9, 3) := by decide +kernel
theorem dX1_insert_4 : decode cX1_insert 4 = .ok (.bipush 25, 2) := by decide +kernel
theorem dX1_insert_6 : decode cX1_insert 6 = .ok (.if_icmp .lt 4, 3) := by decide +kernel
theorem dX1_insert_9 : decode cX1_insert 9 = .ok (.return_, 1) := by decide +kernel
theorem dX1_insert_10 : decode cX1_insert 10 = .ok (.aload_n 0, 1) := by decide +kernel
theorem dX1_insert_11 : decode cX1_insert 11 = .ok (.getfield 9, 3) := by decide +kernel
theorem dX1_insert_14 : decode cX1_insert 14 = .ok (.istore 5, 2) := by decide +kernel
theorem dX1_insert_16 : decode cX1_insert 16 = .ok (.iload 5, 2) := by decide +kernel
theorem dX1_insert_18 : decode cX1_insert 18 = .ok (.ifCond .le 65, 3) := by decide +kernel
theorem dX1_insert_21 : decode cX1_insert 21 = .ok (.aload_n 0, 1) := by decide +kernel
theorem dX1_insert_22 : decode cX1_insert 22 = .ok (.getfield 26, 3) := by decide +kernel
theorem dX1_insert_25 : decode cX1_insert 25 = .ok (.iload 5, 2) := by decide +kernel
theorem dX1_insert_27 : decode cX1_insert 27 = .ok (.iconst 1, 1) := by decide +kernel
theorem dX1_insert_28 : decode cX1_insert 28 = .ok (.isub, 1) := by decide +kernel
theorem dX1_insert_29 : decode cX1_insert 29 = .ok (.iaload, 1) := by decide +kernel
theorem dX1_insert_30 : decode cX1_insert 30 = .ok (.iload 4, 2) := by decide +kernel
theorem dX1_insert_32 : decode cX1_insert 32 = .ok (.if_icmp .le 51, 3) := by decide +kernel
theorem dX1_insert_35 : decode cX1_insert 35 = .ok (.aload_n 0, 1) := by decide +kernel
theorem dX1_insert_36 : decode cX1_insert 36 = .ok (.iload 5, 2) := by decide +kernel
theorem dX1_insert_38 : decode cX1_insert 38 = .ok (.aload_n 0, 1) := by decide +kernel
theorem dX1_insert_39 : decode cX1_insert 39 = .ok (.getfield 15, 3) := by decide +kernel
theorem dX1_insert_42 : decode cX1_insert 42 = .ok (.iload 5, 2) := by decide +kernel
theorem dX1_insert_44 : decode cX1_insert 44 = .ok (.iconst 1, 1) := by decide +kernel
theorem dX1_insert_45 : decode cX1_insert 45 = .ok (.isub, 1) := by decide +kernel
theorem dX1_insert_46 : decode cX1_insert 46 = .ok (.iaload, 1) := by decide +kernel
theorem dX1_insert_47 : decode cX1_insert 47 = .ok (.aload_n 0, 1) := by decide +kernel
theorem dX1_insert_48 : decode cX1_insert 48 = .ok (.getfield 19, 3) := by decide +kernel
theorem dX1_insert_51 : decode cX1_insert 51 = .ok (.iload 5, 2) := by decide +kernel
theorem dX1_insert_53 : decode cX1_insert 53 = .ok (.iconst 1, 1) := by decide +kernel
theorem dX1_insert_54 : decode cX1_insert 54 = .ok (.isub, 1) := by decide +kernel
theorem dX1_insert_55 : decode cX1_insert 55 = .ok (.caload, 1) := by decide +kernel
theorem dX1_insert_56 : decode cX1_insert 56 = .ok (.aload_n 0, 1) := by decide +kernel
theorem dX1_insert_57 : decode cX1_insert 57 = .ok (.getfield 23, 3) := by decide +kernel
theorem dX1_insert_60 : decode cX1_insert 60 = .ok (.iload 5, 2) := by decide +kernel
theorem dX1_insert_62 : decode cX1_insert 62 = .ok (.iconst 1, 1) := by decide +kernel
theorem dX1_insert_63 : decode cX1_insert 63 = .ok (.isub, 1) := by decide +kernel
theorem dX1_insert_64 : decode cX1_insert 64 = .ok (.iaload, 1) := by decide +kernel
theorem dX1_insert_65 : decode cX1_insert 65 = .ok (.aload_n 0, 1) := by decide +kernel
theorem dX1_insert_66 : decode cX1_insert 66 = .ok (.getfield 26, 3) := by decide +kernel
theorem dX1_insert_69 : decode cX1_insert 69 = .ok (.iload 5, 2) := by decide +kernel
theorem dX1_insert_71 : decode cX1_insert 71 = .ok (.iconst 1, 1) := by decide +kernel
theorem dX1_insert_72 : decode cX1_insert 72 = .ok (.isub, 1) := by decide +kernel
theorem dX1_insert_73 : decode cX1_insert 73 = .ok (.iaload, 1) := by decide +kernel
theorem dX1_insert_74 : decode cX1_insert 74 = .ok (.invokevirtual 41, 3) := by decide +kernel
theorem dX1_insert_77 : decode cX1_insert 77 = .ok (.iinc 5 (-1), 3) := by decide +kernel
theorem dX1_insert_80 : decode cX1_insert 80 = .ok (.goto (-64), 3) := by decide +kernel
theorem dX1_insert_83 : decode cX1_insert 83 = .ok (.aload_n 0, 1) := by decide +kernel
theorem dX1_insert_84 : decode cX1_insert 84 = .ok (.iload 5, 2) := by decide +kernel
theorem dX1_insert_86 : decode cX1_insert 86 = .ok (.iload_n 1, 1) := by decide +kernel
theorem dX1_insert_87 : decode cX1_insert 87 = .ok (.iload_n 2, 1) := by decide +kernel
theorem dX1_insert_88 : decode cX1_insert 88 = .ok (.iload_n 3, 1) := by decide +kernel
theorem dX1_insert_89 : decode cX1_insert 89 = .ok (.iload 4, 2) := by decide +kernel
theorem dX1_insert_91 : decode cX1_insert 91 = .ok (.invokevirtual 41, 3) := by decide +kernel
theorem dX1_insert_94 : decode cX1_insert 94 = .ok (.aload_n 0, 1) := by decide +kernel
theorem dX1_insert_95 : decode cX1_insert 95 = .ok (.dup, 1) := by decide +kernel
theorem dX1_insert_96 : decode cX1_insert 96 = .ok (.getfield 9, 3) := by decide +kernel
theorem dX1_insert_99 : decode cX1_insert 99 = .ok (.iconst 1, 1) := by decide +kernel
theorem dX1_insert_100 : decode cX1_insert 100 = .ok (.iadd, 1) := by decide +kernel
theorem dX1_insert_101 : decode cX1_insert 101 = .ok (.putfield 9, 3) := by decide +kernel
theorem dX1_insert_104 : decode cX1_insert 104 = .ok (.return_, 1) := by decide +kernel
theorem dX1_put_0 : decode cX1_put 0 = .ok (.aload_n 0, 1) := by decide +kernel
theorem dX1_put_1 : decode cX1_put 1 = .ok (.getfield 15, 3) := by decide +kernel
theorem dX1_put_4 : decode cX1_put 4 = .ok (.iload_n 1, 1) := by decide +kernel
theorem dX1_put_5 : decode cX1_put 5 = .ok (.iload_n 2, 1) := by decide +kernel
theorem dX1_put_6 : decode cX1_put 6 = .ok (.iastore, 1) := by decide +kernel
theorem dX1_put_7 : decode cX1_put 7 = .ok (.aload_n 0, 1) := by decide +kernel
theorem dX1_put_8 : decode cX1_put 8 = .ok (.getfield 19, 3) := by decide +kernel
theorem dX1_put_11 : decode cX1_put 11 = .ok (.iload_n 1, 1) := by decide +kernel
theorem dX1_put_12 : decode cX1_put 12 = .ok (.iload_n 3, 1) := by decide +kernel
theorem dX1_put_13 : decode cX1_put 13 = .ok (.castore, 1) := by decide +kernel
theorem dX1_put_14 : decode cX1_put 14 = .ok (.aload_n 0, 1) := by decide +kernel
theorem dX1_put_15 : decode cX1_put 15 = .ok (.getfield 23, 3) := by decide +kernel
theorem dX1_put_18 : decode cX1_put 18 = .ok (.iload_n 1, 1) := by decide +kernel
theorem dX1_put_19 : decode cX1_put 19 = .ok (.iload 4, 2) := by decide +kernel
theorem dX1_put_21 : decode cX1_put 21 = .ok (.iastore, 1) := by decide +kernel
theorem dX1_put_22 : decode cX1_put 22 = .ok (.aload_n 0, 1) := by decide +kernel
theorem dX1_put_23 : decode cX1_put 23 = .ok (.getfield 26, 3) := by decide +kernel
theorem dX1_put_26 : decode cX1_put 26 = .ok (.iload_n 1, 1) := by decide +kernel
theorem dX1_put_27 : decode cX1_put 27 = .ok (.iload 5, 2) := by decide +kernel
theorem dX1_put_29 : decode cX1_put 29 = .ok (.iastore, 1) := by decide +kernel
theorem dX1_put_30 : decode cX1_put 30 = .ok (.return_, 1) := by decide +kernel
theorem dX1_placeOf_0 : decode cX1_placeOf 0 = .ok (.iconst 0, 1) := by decide +kernel
theorem dX1_placeOf_1 : decode cX1_placeOf 1 = .ok (.istore_n 2, 1) := by decide +kernel
theorem dX1_placeOf_2 : decode cX1_placeOf 2 = .ok (.iconst 0, 1) := by decide +kernel
theorem dX1_placeOf_3 : decode cX1_placeOf 3 = .ok (.istore_n 3, 1) := by decide +kernel
theorem dX1_placeOf_4 : decode cX1_placeOf 4 = .ok (.iload_n 3, 1) := by decide +kernel
theorem dX1_placeOf_5 : decode cX1_placeOf 5 = .ok (.aload_n 0, 1) := by decide +kernel
theorem dX1_placeOf_6 : decode cX1_placeOf 6 = .ok (.getfield 9, 3) := by decide +kernel
theorem dX1_placeOf_9 : decode cX1_placeOf 9 = .ok (.if_icmp .ge 21, 3) := by decide +kernel
theorem dX1_placeOf_12 : decode cX1_placeOf 12 = .ok (.aload_n 0, 1) := by decide +kernel
theorem dX1_placeOf_13 : decode cX1_placeOf 13 = .ok (.getfield 15, 3) := by decide +kernel
theorem dX1_placeOf_16 : decode cX1_placeOf 16 = .ok (.iload_n 3, 1) := by decide +kernel
theorem dX1_placeOf_17 : decode cX1_placeOf 17 = .ok (.iaload, 1) := by decide +kernel
theorem dX1_placeOf_18 : decode cX1_placeOf 18 = .ok (.iload_n 1, 1) := by decide +kernel
theorem dX1_placeOf_19 : decode cX1_placeOf 19 = .ok (.if_icmp .ne 5, 3) := by decide +kernel
theorem dX1_placeOf_22 : decode cX1_placeOf 22 = .ok (.iload_n 3, 1) := by decide +kernel
theorem dX1_placeOf_23 : decode cX1_placeOf 23 = .ok (.istore_n 2, 1) := by decide +kernel
theorem dX1_placeOf_24 : decode cX1_placeOf 24 = .ok (.iinc 3 1, 3) := by decide +kernel
theorem dX1_placeOf_27 : decode cX1_placeOf 27 = .ok (.goto (-23), 3) := by decide +kernel
theorem dX1_placeOf_30 : decode cX1_placeOf 30 = .ok (.iload_n 2, 1) := by decide +kernel
theorem dX1_placeOf_31 : decode cX1_placeOf 31 = .ok (.ireturn, 1) := by decide +kernel
theorem dX2_init_0 : decode cX2_init 0 = .ok (.aload_n 0, 1) := by decide +kernel
theorem dX2_init_1 : decode cX2_init 1 = .ok (.invokespecial 3, 3) := by decide +kernel
theorem dX2_init_4 : decode cX2_init 4 = .ok (.aload_n 0, 1) := by decide +kernel
theorem dX2_init_5 : decode cX2_init 5 = .ok (.iconst 1, 1) := by decide +kernel
theorem dX2_init_6 : decode cX2_init 6 = .ok (.putfield 9, 3) := by decide +kernel
theorem dX2_init_9 : decode cX2_init 9 = .ok (.aload_n 0, 1) := by decide +kernel
theorem dX2_init_10 : decode cX2_init 10 = .ok (.iconst 0, 1) := by decide +kernel
theorem dX2_init_11 : decode cX2_init 11 = .ok (.putfield 15, 3) := by decide +kernel
theorem dX2_init_14 : decode cX2_init 14 = .ok (.aload_n 0, 1) := by decide +kernel
theorem dX2_init_15 : decode cX2_init 15 = .ok (.iconst 0, 1) := by decide +kernel
theorem dX2_init_16 : decode cX2_init 16 = .ok (.putfield 18, 3) := by decide +kernel
theorem dX2_init_19 : decode cX2_init 19 = .ok (.aload_n 0, 1) := by decide +kernel
theorem dX2_init_20 : decode cX2_init 20 = .ok (.iconst 0, 1) := by decide +kernel
theorem dX2_init_21 : decode cX2_init 21 = .ok (.putfield 21, 3) := by decide +kernel
theorem dX2_init_24 : decode cX2_init 24 = .ok (.aload_n 0, 1) := by decide +kernel
theorem dX2_init_25 : decode cX2_init 25 = .ok (.bipush 8, 2) := by decide +kernel
theorem dX2_init_27 : decode cX2_init 27 = .ok (.newarray .char, 2) := by decide +kernel
theorem dX2_init_29 : decode cX2_init 29 = .ok (.putfield 24, 3) := by decide +kernel
theorem dX2_init_32 : decode cX2_init 32 = .ok (.aload_n 0, 1) := by decide +kernel
theorem dX2_init_33 : decode cX2_init 33 = .ok (.bipush 8, 2) := by decide +kernel
theorem dX2_init_35 : decode cX2_init 35 = .ok (.newarray .boolean, 2) := by decide +kernel
theorem dX2_init_37 : decode cX2_init 37 = .ok (.putfield 28, 3) := by decide +kernel
theorem dX2_init_40 : decode cX2_init 40 = .ok (.return_, 1) := by decide +kernel
theorem dX2_clearSteps_0 : decode cX2_clearSteps 0 = .ok (.aload_n 0, 1) := by decide +kernel
theorem dX2_clearSteps_1 : decode cX2_clearSteps 1 = .ok (.iconst 0, 1) := by decide +kernel
theorem dX2_clearSteps_2 : decode cX2_clearSteps 2 = .ok (.putfield 18, 3) := by decide +kernel
theorem dX2_clearSteps_5 : decode cX2_clearSteps 5 = .ok (.aload_n 0, 1) := by decide +kernel
theorem dX2_clearSteps_6 : decode cX2_clearSteps 6 = .ok (.iconst 0, 1) := by decide +kernel
theorem dX2_clearSteps_7 : decode cX2_clearSteps 7 = .ok (.putfield 21, 3) := by decide +kernel
theorem dX2_clearSteps_10 : decode cX2_clearSteps 10 = .ok (.return_, 1) := by decide +kernel
theorem dX2_hasRoomForStep_0 : decode cX2_hasRoomForStep 0 = .ok (.aload_n 0, 1) := by decide +kernel
theorem dX2_hasRoomForStep_1 : decode cX2_hasRoomForStep 1 = .ok (.getfield 18, 3) := by decide +kernel
theorem dX2_hasRoomForStep_4 : decode cX2_hasRoomForStep 4 = .ok (.bipush 8, 2) := by decide +kernel
theorem dX2_hasRoomForStep_6 : decode cX2_hasRoomForStep 6 = .ok (.if_icmp .ge 7, 3) := by decide +kernel
theorem dX2_hasRoomForStep_9 : decode cX2_hasRoomForStep 9 = .ok (.iconst 1, 1) := by decide +kernel
theorem dX2_hasRoomForStep_10 : decode cX2_hasRoomForStep 10 = .ok (.goto 4, 3) := by decide +kernel
theorem dX2_hasRoomForStep_13 : decode cX2_hasRoomForStep 13 = .ok (.iconst 0, 1) := by decide +kernel
theorem dX2_hasRoomForStep_14 : decode cX2_hasRoomForStep 14 = .ok (.ireturn, 1) := by decide +kernel
theorem dX2_endsWithPlainStep_0 : decode cX2_endsWithPlainStep 0 = .ok (.aload_n 0, 1) := by decide +kernel
theorem dX2_endsWithPlainStep_1 : decode cX2_endsWithPlainStep 1 = .ok (.getfield 18, 3) := by decide +kernel
theorem dX2_endsWithPlainStep_4 : decode cX2_endsWithPlainStep 4 = .ok (.ifCond .le 30, 3) := by decide +kernel
theorem dX2_endsWithPlainStep_7 : decode cX2_endsWithPlainStep 7 = .ok (.aload_n 0, 1) := by decide +kernel
theorem dX2_endsWithPlainStep_8 : decode cX2_endsWithPlainStep 8 = .ok (.getfield 18, 3) := by decide +kernel
theorem dX2_endsWithPlainStep_11 : decode cX2_endsWithPlainStep 11 = .ok (.bipush 8, 2) := by decide +kernel
theorem dX2_endsWithPlainStep_13 : decode cX2_endsWithPlainStep 13 = .ok (.if_icmp .gt 21, 3) := by decide +kernel
theorem dX2_endsWithPlainStep_16 : decode cX2_endsWithPlainStep 16 = .ok (.aload_n 0, 1) := by decide +kernel
theorem dX2_endsWithPlainStep_17 : decode cX2_endsWithPlainStep 17 = .ok (.getfield 28, 3) := by decide +kernel
theorem dX2_endsWithPlainStep_20 : decode cX2_endsWithPlainStep 20 = .ok (.aload_n 0, 1) := by decide +kernel
theorem dX2_endsWithPlainStep_21 : decode cX2_endsWithPlainStep 21 = .ok (.getfield 18, 3) := by decide +kernel
theorem dX2_endsWithPlainStep_24 : decode cX2_endsWithPlainStep 24 = .ok (.iconst 1, 1) := by decide +kernel
theorem dX2_endsWithPlainStep_25 : decode cX2_endsWithPlainStep 25 = .ok (.isub, 1) := by decide +kernel
theorem dX2_endsWithPlainStep_26 : decode cX2_endsWithPlainStep 26 = .ok (.baload, 1) := by decide +kernel
theorem dX2_endsWithPlainStep_27 : decode cX2_endsWithPlainStep 27 = .ok (.ifCond .ne 7, 3) := by decide +kernel
theorem dX2_endsWithPlainStep_30 : decode cX2_endsWithPlainStep 30 = .ok (.iconst 1, 1) := by decide +kernel
theorem dX2_endsWithPlainStep_31 : decode cX2_endsWithPlainStep 31 = .ok (.goto 4, 3) := by decide +kernel
theorem dX2_endsWithPlainStep_34 : decode cX2_endsWithPlainStep 34 = .ok (.iconst 0, 1) := by decide +kernel
theorem dX2_endsWithPlainStep_35 : decode cX2_endsWithPlainStep 35 = .ok (.ireturn, 1) := by decide +kernel
theorem dX2_addStep_0 : decode cX2_addStep 0 = .ok (.aload_n 0, 1) := by decide +kernel
theorem dX2_addStep_1 : decode cX2_addStep 1 = .ok (.invokevirtual 32, 3) := by decide +kernel
theorem dX2_addStep_4 : decode cX2_addStep 4 = .ok (.ifCond .ne 4, 3) := by decide +kernel
theorem dX2_addStep_7 : decode cX2_addStep 7 = .ok (.return_, 1) := by decide +kernel
theorem dX2_addStep_8 : decode cX2_addStep 8 = .ok (.aload_n 0, 1) := by decide +kernel
theorem dX2_addStep_9 : decode cX2_addStep 9 = .ok (.getfield 24, 3) := by decide +kernel
theorem dX2_addStep_12 : decode cX2_addStep 12 = .ok (.aload_n 0, 1) := by decide +kernel
theorem dX2_addStep_13 : decode cX2_addStep 13 = .ok (.getfield 18, 3) := by decide +kernel
theorem dX2_addStep_16 : decode cX2_addStep 16 = .ok (.iload_n 1, 1) := by decide +kernel
theorem dX2_addStep_17 : decode cX2_addStep 17 = .ok (.castore, 1) := by decide +kernel
theorem dX2_addStep_18 : decode cX2_addStep 18 = .ok (.aload_n 0, 1) := by decide +kernel
theorem dX2_addStep_19 : decode cX2_addStep 19 = .ok (.getfield 28, 3) := by decide +kernel
theorem dX2_addStep_22 : decode cX2_addStep 22 = .ok (.aload_n 0, 1) := by decide +kernel
theorem dX2_addStep_23 : decode cX2_addStep 23 = .ok (.getfield 18, 3) := by decide +kernel
theorem dX2_addStep_26 : decode cX2_addStep 26 = .ok (.iload_n 2, 1) := by decide +kernel
theorem dX2_addStep_27 : decode cX2_addStep 27 = .ok (.bastore, 1) := by decide +kernel
theorem dX2_addStep_28 : decode cX2_addStep 28 = .ok (.aload_n 0, 1) := by decide +kernel
theorem dX2_addStep_29 : decode cX2_addStep 29 = .ok (.dup, 1) := by decide +kernel
theorem dX2_addStep_30 : decode cX2_addStep 30 = .ok (.getfield 18, 3) := by decide +kernel
theorem dX2_addStep_33 : decode cX2_addStep 33 = .ok (.iconst 1, 1) := by decide +kernel
theorem dX2_addStep_34 : decode cX2_addStep 34 = .ok (.iadd, 1) := by decide +kernel
theorem dX2_addStep_35 : decode cX2_addStep 35 = .ok (.putfield 18, 3) := by decide +kernel
theorem dX2_addStep_38 : decode cX2_addStep 38 = .ok (.iload_n 2, 1) := by decide +kernel
theorem dX2_addStep_39 : decode cX2_addStep 39 = .ok (.ifCond .ne 13, 3) := by decide +kernel
theorem dX2_addStep_42 : decode cX2_addStep 42 = .ok (.aload_n 0, 1) := by decide +kernel
theorem dX2_addStep_43 : decode cX2_addStep 43 = .ok (.dup, 1) := by decide +kernel
theorem dX2_addStep_44 : decode cX2_addStep 44 = .ok (.getfield 21, 3) := by decide +kernel
theorem dX2_addStep_47 : decode cX2_addStep 47 = .ok (.iconst 1, 1) := by decide +kernel
theorem dX2_addStep_48 : decode cX2_addStep 48 = .ok (.iadd, 1) := by decide +kernel
theorem dX2_addStep_49 : decode cX2_addStep 49 = .ok (.putfield 21, 3) := by decide +kernel
theorem dX2_addStep_52 : decode cX2_addStep 52 = .ok (.return_, 1) := by decide +kernel
theorem dX2_copyFrom_0 : decode cX2_copyFrom 0 = .ok (.aload_n 0, 1) := by decide +kernel
theorem dX2_copyFrom_1 : decode cX2_copyFrom 1 = .ok (.aload_n 1, 1) := by decide +kernel
theorem dX2_copyFrom_2 : decode cX2_copyFrom 2 = .ok (.getfield 9, 3) := by decide +kernel
theorem dX2_copyFrom_5 : decode cX2_copyFrom 5 = .ok (.putfield 9, 3) := by decide +kernel
theorem dX2_copyFrom_8 : decode cX2_copyFrom 8 = .ok (.aload_n 0, 1) := by decide +kernel
theorem dX2_copyFrom_9 : decode cX2_copyFrom 9 = .ok (.aload_n 1, 1) := by decide +kernel
theorem dX2_copyFrom_10 : decode cX2_copyFrom 10 = .ok (.getfield 15, 3) := by decide +kernel
theorem dX2_copyFrom_13 : decode cX2_copyFrom 13 = .ok (.putfield 15, 3) := by decide +kernel
theorem dX2_copyFrom_16 : decode cX2_copyFrom 16 = .ok (.aload_n 0, 1) := by decide +kernel
theorem dX2_copyFrom_17 : decode cX2_copyFrom 17 = .ok (.aload_n 1, 1) := by decide +kernel
theorem dX2_copyFrom_18 : decode cX2_copyFrom 18 = .ok (.getfield 18, 3) := by decide +kernel
theorem dX2_copyFrom_21 : decode cX2_copyFrom 21 = .ok (.putfield 18, 3) := by decide +kernel
theorem dX2_copyFrom_24 : decode cX2_copyFrom 24 = .ok (.aload_n 0, 1) := by decide +kernel
theorem dX2_copyFrom_25 : decode cX2_copyFrom 25 = .ok (.aload_n 1, 1) := by decide +kernel
theorem dX2_copyFrom_26 : decode cX2_copyFrom 26 = .ok (.getfield 21, 3) := by decide +kernel
theorem dX2_copyFrom_29 : decode cX2_copyFrom 29 = .ok (.putfield 21, 3) := by decide +kernel
theorem dX2_copyFrom_32 : decode cX2_copyFrom 32 = .ok (.iconst 0, 1) := by decide +kernel
theorem dX2_copyFrom_33 : decode cX2_copyFrom 33 = .ok (.istore_n 2, 1) := by decide +kernel
theorem dX2_copyFrom_34 : decode cX2_copyFrom 34 = .ok (.iload_n 2, 1) := by decide +kernel
theorem dX2_copyFrom_35 : decode cX2_copyFrom 35 = .ok (.bipush 8, 2) := by decide +kernel
theorem dX2_copyFrom_37 : decode cX2_copyFrom 37 = .ok (.if_icmp .ge 33, 3) := by decide +kernel
theorem dX2_copyFrom_40 : decode cX2_copyFrom 40 = .ok (.aload_n 0, 1) := by decide +kernel
theorem dX2_copyFrom_41 : decode cX2_copyFrom 41 = .ok (.getfield 24, 3) := by decide +kernel
theorem dX2_copyFrom_44 : decode cX2_copyFrom 44 = .ok (.iload_n 2, 1) := by decide +kernel
theorem dX2_copyFrom_45 : decode cX2_copyFrom 45 = .ok (.aload_n 1, 1) := by decide +kernel
theorem dX2_copyFrom_46 : decode cX2_copyFrom 46 = .ok (.getfield 24, 3) := by decide +kernel
theorem dX2_copyFrom_49 : decode cX2_copyFrom 49 = .ok (.iload_n 2, 1) := by decide +kernel
theorem dX2_copyFrom_50 : decode cX2_copyFrom 50 = .ok (.caload, 1) := by decide +kernel
theorem dX2_copyFrom_51 : decode cX2_copyFrom 51 = .ok (.castore, 1) := by decide +kernel
theorem dX2_copyFrom_52 : decode cX2_copyFrom 52 = .ok (.aload_n 0, 1) := by decide +kernel
theorem dX2_copyFrom_53 : decode cX2_copyFrom 53 = .ok (.getfield 28, 3) := by decide +kernel
theorem dX2_copyFrom_56 : decode cX2_copyFrom 56 = .ok (.iload_n 2, 1) := by decide +kernel
theorem dX2_copyFrom_57 : decode cX2_copyFrom 57 = .ok (.aload_n 1, 1) := by decide +kernel
theorem dX2_copyFrom_58 : decode cX2_copyFrom 58 = .ok (.getfield 28, 3) := by decide +kernel
theorem dX2_copyFrom_61 : decode cX2_copyFrom 61 = .ok (.iload_n 2, 1) := by decide +kernel
theorem dX2_copyFrom_62 : decode cX2_copyFrom 62 = .ok (.baload, 1) := by decide +kernel
theorem dX2_copyFrom_63 : decode cX2_copyFrom 63 = .ok (.bastore, 1) := by decide +kernel
theorem dX2_copyFrom_64 : decode cX2_copyFrom 64 = .ok (.iinc 2 1, 3) := by decide +kernel
theorem dX2_copyFrom_67 : decode cX2_copyFrom 67 = .ok (.goto (-33), 3) := by decide +kernel
theorem dX2_copyFrom_70 : decode cX2_copyFrom 70 = .ok (.return_, 1) := by decide +kernel
theorem dX3_init_0 : decode cX3_init 0 = .ok (.aload_n 0, 1) := by decide +kernel
theorem dX3_init_1 : decode cX3_init 1 = .ok (.invokespecial 3, 3) := by decide +kernel
theorem dX3_init_4 : decode cX3_init 4 = .ok (.aload_n 0, 1) := by decide +kernel
theorem dX3_init_5 : decode cX3_init 5 = .ok (.new 9, 3) := by decide +kernel
theorem dX3_init_8 : decode cX3_init 8 = .ok (.dup, 1) := by decide +kernel
theorem dX3_init_9 : decode cX3_init 9 = .ok (.invokespecial 11, 3) := by decide +kernel
theorem dX3_init_12 : decode cX3_init 12 = .ok (.putfield 12, 3) := by decide +kernel
theorem dX3_init_15 : decode cX3_init 15 = .ok (.aload_n 0, 1) := by decide +kernel
theorem dX3_init_16 : decode cX3_init 16 = .ok (.iconst 0, 1) := by decide +kernel
theorem dX3_init_17 : decode cX3_init 17 = .ok (.putfield 18, 3) := by decide +kernel
theorem dX3_init_20 : decode cX3_init 20 = .ok (.aload_n 0, 1) := by decide +kernel
theorem dX3_init_21 : decode cX3_init 21 = .ok (.iconst 0, 1) := by decide +kernel
theorem dX3_init_22 : decode cX3_init 22 = .ok (.putfield 22, 3) := by decide +kernel
theorem dX3_init_25 : decode cX3_init 25 = .ok (.aload_n 0, 1) := by decide +kernel
theorem dX3_init_26 : decode cX3_init 26 = .ok (.iconst (-1), 1) := by decide +kernel
theorem dX3_init_27 : decode cX3_init 27 = .ok (.putfield 25, 3) := by decide +kernel
theorem dX3_init_30 : decode cX3_init 30 = .ok (.aload_n 0, 1) := by decide +kernel
theorem dX3_init_31 : decode cX3_init 31 = .ok (.iconst 0, 1) := by decide +kernel
theorem dX3_init_32 : decode cX3_init 32 = .ok (.putfield 28, 3) := by decide +kernel
theorem dX3_init_35 : decode cX3_init 35 = .ok (.aload_n 0, 1) := by decide +kernel
theorem dX3_init_36 : decode cX3_init 36 = .ok (.bipush (-5), 2) := by decide +kernel
theorem dX3_init_38 : decode cX3_init 38 = .ok (.putfield 31, 3) := by decide +kernel
theorem dX3_init_41 : decode cX3_init 41 = .ok (.aload_n 0, 1) := by decide +kernel
theorem dX3_init_42 : decode cX3_init 42 = .ok (.iconst 0, 1) := by decide +kernel
theorem dX3_init_43 : decode cX3_init 43 = .ok (.putfield 34, 3) := by decide +kernel
theorem dX3_init_46 : decode cX3_init 46 = .ok (.aload_n 0, 1) := by decide +kernel
theorem dX3_init_47 : decode cX3_init 47 = .ok (.iconst 0, 1) := by decide +kernel
theorem dX3_init_48 : decode cX3_init 48 = .ok (.putfield 37, 3) := by decide +kernel
theorem dX3_init_51 : decode cX3_init 51 = .ok (.aload_n 0, 1) := by decide +kernel
theorem dX3_init_52 : decode cX3_init 52 = .ok (.iconst 0, 1) := by decide +kernel
theorem dX3_init_53 : decode cX3_init 53 = .ok (.putfield 40, 3) := by decide +kernel
theorem dX3_init_56 : decode cX3_init 56 = .ok (.aload_n 0, 1) := by decide +kernel
theorem dX3_init_57 : decode cX3_init 57 = .ok (.iconst 4, 1) := by decide +kernel
theorem dX3_init_58 : decode cX3_init 58 = .ok (.newarray .char, 2) := by decide +kernel
theorem dX3_init_60 : decode cX3_init 60 = .ok (.putfield 43, 3) := by decide +kernel
theorem dX3_init_63 : decode cX3_init 63 = .ok (.aload_n 0, 1) := by decide +kernel
theorem dX3_init_64 : decode cX3_init 64 = .ok (.iconst 4, 1) := by decide +kernel
theorem dX3_init_65 : decode cX3_init 65 = .ok (.newarray .char, 2) := by decide +kernel
theorem dX3_init_67 : decode cX3_init 67 = .ok (.putfield 47, 3) := by decide +kernel
theorem dX3_init_70 : decode cX3_init 70 = .ok (.aload_n 0, 1) := by decide +kernel
theorem dX3_init_71 : decode cX3_init 71 = .ok (.iconst 4, 1) := by decide +kernel
theorem dX3_init_72 : decode cX3_init 72 = .ok (.newarray .int, 2) := by decide +kernel
theorem dX3_init_74 : decode cX3_init 74 = .ok (.putfield 50, 3) := by decide +kernel
theorem dX3_init_77 : decode cX3_init 77 = .ok (.aload_n 0, 1) := by decide +kernel
theorem dX3_init_78 : decode cX3_init 78 = .ok (.iconst 0, 1) := by decide +kernel
theorem dX3_init_79 : decode cX3_init 79 = .ok (.putfield 54, 3) := by decide +kernel
theorem dX3_init_82 : decode cX3_init 82 = .ok (.aload_n 0, 1) := by decide +kernel
theorem dX3_init_83 : decode cX3_init 83 = .ok (.iconst 0, 1) := by decide +kernel
theorem dX3_init_84 : decode cX3_init 84 = .ok (.putfield 57, 3) := by decide +kernel
theorem dX3_init_87 : decode cX3_init 87 = .ok (.aload_n 0, 1) := by decide +kernel
theorem dX3_init_88 : decode cX3_init 88 = .ok (.iconst 0, 1) := by decide +kernel
theorem dX3_init_89 : decode cX3_init 89 = .ok (.putfield 60, 3) := by decide +kernel
theorem dX3_init_92 : decode cX3_init 92 = .ok (.aload_n 0, 1) := by decide +kernel
theorem dX3_init_93 : decode cX3_init 93 = .ok (.bipush 25, 2) := by decide +kernel
theorem dX3_init_95 : decode cX3_init 95 = .ok (.newarray .int, 2) := by decide +kernel
theorem dX3_init_97 : decode cX3_init 97 = .ok (.putfield 63, 3) := by decide +kernel
theorem dX3_init_100 : decode cX3_init 100 = .ok (.return_, 1) := by decide +kernel
theorem dX3_begin_0 : decode cX3_begin 0 = .ok (.aload_n 0, 1) := by decide +kernel
theorem dX3_begin_1 : decode cX3_begin 1 = .ok (.getfield 12, 3) := by decide +kernel
theorem dX3_begin_4 : decode cX3_begin 4 = .ok (.aload_n 1, 1) := by decide +kernel
theorem dX3_begin_5 : decode cX3_begin 5 = .ok (.invokevirtual 66, 3) := by decide +kernel
theorem dX3_begin_8 : decode cX3_begin 8 = .ok (.aload_n 0, 1) := by decide +kernel
theorem dX3_begin_9 : decode cX3_begin 9 = .ok (.aload_n 1, 1) := by decide +kernel
theorem dX3_begin_10 : decode cX3_begin 10 = .ok (.getfield 70, 3) := by decide +kernel
theorem dX3_begin_13 : decode cX3_begin 13 = .ok (.putfield 18, 3) := by decide +kernel
theorem dX3_begin_16 : decode cX3_begin 16 = .ok (.aload_n 0, 1) := by decide +kernel
theorem dX3_begin_17 : decode cX3_begin 17 = .ok (.aload_n 1, 1) := by decide +kernel
theorem dX3_begin_18 : decode cX3_begin 18 = .ok (.invokevirtual 73, 3) := by decide +kernel
theorem dX3_begin_21 : decode cX3_begin 21 = .ok (.putfield 22, 3) := by decide +kernel
theorem dX3_begin_24 : decode cX3_begin 24 = .ok (.aload_n 0, 1) := by decide +kernel
theorem dX3_begin_25 : decode cX3_begin 25 = .ok (.iconst (-1), 1) := by decide +kernel
theorem dX3_begin_26 : decode cX3_begin 26 = .ok (.putfield 25, 3) := by decide +kernel
theorem dX3_begin_29 : decode cX3_begin 29 = .ok (.aload_n 0, 1) := by decide +kernel
theorem dX3_begin_30 : decode cX3_begin 30 = .ok (.bipush (-5), 2) := by decide +kernel
theorem dX3_begin_32 : decode cX3_begin 32 = .ok (.putfield 31, 3) := by decide +kernel
theorem dX3_begin_35 : decode cX3_begin 35 = .ok (.iconst 0, 1) := by decide +kernel
theorem dX3_begin_36 : decode cX3_begin 36 = .ok (.istore_n 2, 1) := by decide +kernel
theorem dX3_begin_37 : decode cX3_begin 37 = .ok (.iload_n 2, 1) := by decide +kernel
theorem dX3_begin_38 : decode cX3_begin 38 = .ok (.bipush 25, 2) := by decide +kernel
theorem dX3_begin_40 : decode cX3_begin 40 = .ok (.if_icmp .ge 16, 3) := by decide +kernel
theorem dX3_begin_43 : decode cX3_begin 43 = .ok (.aload_n 0, 1) := by decide +kernel
theorem dX3_begin_44 : decode cX3_begin 44 = .ok (.getfield 63, 3) := by decide +kernel
theorem dX3_begin_47 : decode cX3_begin 47 = .ok (.iload_n 2, 1) := by decide +kernel
theorem dX3_begin_48 : decode cX3_begin 48 = .ok (.iconst 0, 1) := by decide +kernel
theorem dX3_begin_49 : decode cX3_begin 49 = .ok (.iastore, 1) := by decide +kernel
theorem dX3_begin_50 : decode cX3_begin 50 = .ok (.iinc 2 1, 3) := by decide +kernel
theorem dX3_begin_53 : decode cX3_begin 53 = .ok (.goto (-16), 3) := by decide +kernel
theorem dX3_begin_56 : decode cX3_begin 56 = .ok (.return_, 1) := by decide +kernel
theorem dX3_want_0 : decode cX3_want 0 = .ok (.aload_n 0, 1) := by decide +kernel
theorem dX3_want_1 : decode cX3_want 1 = .ok (.iload_n 1, 1) := by decide +kernel
theorem dX3_want_2 : decode cX3_want 2 = .ok (.putfield 25, 3) := by decide +kernel
theorem dX3_want_5 : decode cX3_want 5 = .ok (.aload_n 0, 1) := by decide +kernel
theorem dX3_want_6 : decode cX3_want 6 = .ok (.iload_n 2, 1) := by decide +kernel
theorem dX3_want_7 : decode cX3_want 7 = .ok (.putfield 28, 3) := by decide +kernel
theorem dX3_want_10 : decode cX3_want 10 = .ok (.return_, 1) := by decide +kernel
theorem dX3_runAll_0 : decode cX3_runAll 0 = .ok (.iconst 0, 1) := by decide +kernel
theorem dX3_runAll_1 : decode cX3_runAll 1 = .ok (.istore_n 2, 1) := by decide +kernel
theorem dX3_runAll_2 : decode cX3_runAll 2 = .ok (.iconst 0, 1) := by decide +kernel
theorem dX3_runAll_3 : decode cX3_runAll 3 = .ok (.istore_n 3, 1) := by decide +kernel
theorem dX3_runAll_4 : decode cX3_runAll 4 = .ok (.iload_n 3, 1) := by decide +kernel
theorem dX3_runAll_5 : decode cX3_runAll 5 = .ok (.aload_n 1, 1) := by decide +kernel
theorem dX3_runAll_6 : decode cX3_runAll 6 = .ok (.getfield 76, 3) := by decide +kernel
theorem dX3_runAll_9 : decode cX3_runAll 9 = .ok (.if_icmp .ge 26, 3) := by decide +kernel
theorem dX3_runAll_12 : decode cX3_runAll 12 = .ok (.aload_n 0, 1) := by decide +kernel
theorem dX3_runAll_13 : decode cX3_runAll 13 = .ok (.aload_n 1, 1) := by decide +kernel
theorem dX3_runAll_14 : decode cX3_runAll 14 = .ok (.getfield 79, 3) := by decide +kernel
theorem dX3_runAll_17 : decode cX3_runAll 17 = .ok (.iload_n 3, 1) := by decide +kernel
theorem dX3_runAll_18 : decode cX3_runAll 18 = .ok (.aaload, 1) := by decide +kernel
theorem dX3_runAll_19 : decode cX3_runAll 19 = .ok (.invokevirtual 83, 3) := by decide +kernel
theorem dX3_runAll_22 : decode cX3_runAll 22 = .ok (.iload_n 2, 1) := by decide +kernel
theorem dX3_runAll_23 : decode cX3_runAll 23 = .ok (.aload_n 0, 1) := by decide +kernel
theorem dX3_runAll_24 : decode cX3_runAll 24 = .ok (.getfield 54, 3) := by decide +kernel
theorem dX3_runAll_27 : decode cX3_runAll 27 = .ok (.iadd, 1) := by decide +kernel
theorem dX3_runAll_28 : decode cX3_runAll 28 = .ok (.istore_n 2, 1) := by decide +kernel
theorem dX3_runAll_29 : decode cX3_runAll 29 = .ok (.iinc 3 1, 3) := by decide +kernel
theorem dX3_runAll_32 : decode cX3_runAll 32 = .ok (.goto (-28), 3) := by decide +kernel
theorem dX3_runAll_35 : decode cX3_runAll 35 = .ok (.iload_n 2, 1) := by decide +kernel
theorem dX3_runAll_36 : decode cX3_runAll 36 = .ok (.ireturn, 1) := by decide +kernel
theorem dX3_run_0 : decode cX3_run 0 = .ok (.aload_n 0, 1) := by decide +kernel
theorem dX3_run_1 : decode cX3_run 1 = .ok (.aload_n 1, 1) := by decide +kernel
theorem dX3_run_2 : decode cX3_run 2 = .ok (.getfield 87, 3) := by decide +kernel
theorem dX3_run_5 : decode cX3_run 5 = .ok (.putfield 34, 3) := by decide +kernel
theorem dX3_run_8 : decode cX3_run 8 = .ok (.aload_n 0, 1) := by decide +kernel
theorem dX3_run_9 : decode cX3_run 9 = .ok (.aload_n 1, 1) := by decide +kernel
theorem dX3_run_10 : decode cX3_run 10 = .ok (.getfield 90, 3) := by decide +kernel
theorem dX3_run_13 : decode cX3_run 13 = .ok (.putfield 37, 3) := by decide +kernel
theorem dX3_run_16 : decode cX3_run 16 = .ok (.aload_n 0, 1) := by decide +kernel
theorem dX3_run_17 : decode cX3_run 17 = .ok (.iconst 0, 1) := by decide +kernel
theorem dX3_run_18 : decode cX3_run 18 = .ok (.putfield 54, 3) := by decide +kernel
theorem dX3_run_21 : decode cX3_run 21 = .ok (.aload_n 0, 1) := by decide +kernel
theorem dX3_run_22 : decode cX3_run 22 = .ok (.iconst 0, 1) := by decide +kernel
theorem dX3_run_23 : decode cX3_run 23 = .ok (.putfield 57, 3) := by decide +kernel
theorem dX3_run_26 : decode cX3_run 26 = .ok (.aload_n 0, 1) := by decide +kernel
theorem dX3_run_27 : decode cX3_run 27 = .ok (.iconst 0, 1) := by decide +kernel
theorem dX3_run_28 : decode cX3_run 28 = .ok (.putfield 60, 3) := by decide +kernel
theorem dX3_run_31 : decode cX3_run 31 = .ok (.aload_n 0, 1) := by decide +kernel
theorem dX3_run_32 : decode cX3_run 32 = .ok (.aload_n 1, 1) := by decide +kernel
theorem dX3_run_33 : decode cX3_run 33 = .ok (.invokevirtual 91, 3) := by decide +kernel
theorem dX3_run_36 : decode cX3_run 36 = .ok (.aload_n 0, 1) := by decide +kernel
theorem dX3_run_37 : decode cX3_run 37 = .ok (.getfield 40, 3) := by decide +kernel
theorem dX3_run_40 : decode cX3_run 40 = .ok (.ifCond .le 9, 3) := by decide +kernel
theorem dX3_run_43 : decode cX3_run 43 = .ok (.aload_n 0, 1) := by decide +kernel
theorem dX3_run_44 : decode cX3_run 44 = .ok (.iconst 0, 1) := by decide +kernel
theorem dX3_run_45 : decode cX3_run 45 = .ok (.invokestatic 94, 3) := by decide +kernel
theorem dX3_run_48 : decode cX3_run 48 = .ok (.pop, 1) := by decide +kernel
theorem dX3_run_49 : decode cX3_run 49 = .ok (.return_, 1) := by decide +kernel
theorem dX3_takePlainSteps_0 : decode cX3_takePlainSteps 0 = .ok (.aload_n 0, 1) := by decide +kernel
theorem dX3_takePlainSteps_1 : decode cX3_takePlainSteps 1 = .ok (.iconst 0, 1) := by decide +kernel
theorem dX3_takePlainSteps_2 : decode cX3_takePlainSteps 2 = .ok (.putfield 40, 3) := by decide +kernel
theorem dX3_takePlainSteps_5 : decode cX3_takePlainSteps 5 = .ok (.iconst 0, 1) := by decide +kernel
theorem dX3_takePlainSteps_6 : decode cX3_takePlainSteps 6 = .ok (.istore_n 2, 1) := by decide +kernel
theorem dX3_takePlainSteps_7 : decode cX3_takePlainSteps 7 = .ok (.iconst 0, 1) := by decide +kernel
theorem dX3_takePlainSteps_8 : decode cX3_takePlainSteps 8 = .ok (.istore_n 3, 1) := by decide +kernel
theorem dX3_takePlainSteps_9 : decode cX3_takePlainSteps 9 = .ok (.iload_n 3, 1) := by decide +kernel
theorem dX3_takePlainSteps_10 : decode cX3_takePlainSteps 10 = .ok (.aload_n 1, 1) := by decide +kernel
theorem dX3_takePlainSteps_11 : decode cX3_takePlainSteps 11 = .ok (.getfield 98, 3) := by decide +kernel
theorem dX3_takePlainSteps_14 : decode cX3_takePlainSteps 14 = .ok (.if_icmp .ge 73, 3) := by decide +kernel
theorem dX3_takePlainSteps_17 : decode cX3_takePlainSteps 17 = .ok (.aload_n 1, 1) := by decide +kernel
theorem dX3_takePlainSteps_18 : decode cX3_takePlainSteps 18 = .ok (.getfield 101, 3) := by decide +kernel
theorem dX3_takePlainSteps_21 : decode cX3_takePlainSteps 21 = .ok (.iload_n 3, 1) := by decide +kernel
theorem dX3_takePlainSteps_22 : decode cX3_takePlainSteps 22 = .ok (.baload, 1) := by decide +kernel
theorem dX3_takePlainSteps_23 : decode cX3_takePlainSteps 23 = .ok (.ifCond .eq 13, 3) := by decide +kernel
theorem dX3_takePlainSteps_26 : decode cX3_takePlainSteps 26 = .ok (.aload_n 1, 1) := by decide +kernel
theorem dX3_takePlainSteps_27 : decode cX3_takePlainSteps 27 = .ok (.getfield 105, 3) := by decide +kernel
theorem dX3_takePlainSteps_30 : decode cX3_takePlainSteps 30 = .ok (.iload_n 3, 1) := by decide +kernel
theorem dX3_takePlainSteps_31 : decode cX3_takePlainSteps 31 = .ok (.caload, 1) := by decide +kernel
theorem dX3_takePlainSteps_32 : decode cX3_takePlainSteps 32 = .ok (.istore_n 2, 1) := by decide +kernel
theorem dX3_takePlainSteps_33 : decode cX3_takePlainSteps 33 = .ok (.goto 48, 3) := by decide +kernel
theorem dX3_takePlainSteps_36 : decode cX3_takePlainSteps 36 = .ok (.aload_n 0, 1) := by decide +kernel
theorem dX3_takePlainSteps_37 : decode cX3_takePlainSteps 37 = .ok (.getfield 40, 3) := by decide +kernel
theorem dX3_takePlainSteps_40 : decode cX3_takePlainSteps 40 = .ok (.iconst 4, 1) := by decide +kernel
theorem dX3_takePlainSteps_41 : decode cX3_takePlainSteps 41 = .ok (.if_icmp .ge 40, 3) := by decide +kernel
theorem dX3_takePlainSteps_44 : decode cX3_takePlainSteps 44 = .ok (.aload_n 0, 1) := by decide +kernel
theorem dX3_takePlainSteps_45 : decode cX3_takePlainSteps 45 = .ok (.getfield 43, 3) := by decide +kernel
theorem dX3_takePlainSteps_48 : decode cX3_takePlainSteps 48 = .ok (.aload_n 0, 1) := by decide +kernel
theorem dX3_takePlainSteps_49 : decode cX3_takePlainSteps 49 = .ok (.getfield 40, 3) := by decide +kernel
theorem dX3_takePlainSteps_52 : decode cX3_takePlainSteps 52 = .ok (.aload_n 1, 1) := by decide +kernel
theorem dX3_takePlainSteps_53 : decode cX3_takePlainSteps 53 = .ok (.getfield 105, 3) := by decide +kernel
theorem dX3_takePlainSteps_56 : decode cX3_takePlainSteps 56 = .ok (.iload_n 3, 1) := by decide +kernel
theorem dX3_takePlainSteps_57 : decode cX3_takePlainSteps 57 = .ok (.caload, 1) := by decide +kernel
theorem dX3_takePlainSteps_58 : decode cX3_takePlainSteps 58 = .ok (.castore, 1) := by decide +kernel
theorem dX3_takePlainSteps_59 : decode cX3_takePlainSteps 59 = .ok (.aload_n 0, 1) := by decide +kernel
theorem dX3_takePlainSteps_60 : decode cX3_takePlainSteps 60 = .ok (.getfield 47, 3) := by decide +kernel
theorem dX3_takePlainSteps_63 : decode cX3_takePlainSteps 63 = .ok (.aload_n 0, 1) := by decide +kernel
theorem dX3_takePlainSteps_64 : decode cX3_takePlainSteps 64 = .ok (.getfield 40, 3) := by decide +kernel
theorem dX3_takePlainSteps_67 : decode cX3_takePlainSteps 67 = .ok (.iload_n 2, 1) := by decide +kernel
theorem dX3_takePlainSteps_68 : decode cX3_takePlainSteps 68 = .ok (.castore, 1) := by decide +kernel
theorem dX3_takePlainSteps_69 : decode cX3_takePlainSteps 69 = .ok (.aload_n 0, 1) := by decide +kernel
theorem dX3_takePlainSteps_70 : decode cX3_takePlainSteps 70 = .ok (.dup, 1) := by decide +kernel
theorem dX3_takePlainSteps_71 : decode cX3_takePlainSteps 71 = .ok (.getfield 40, 3) := by decide +kernel
theorem dX3_takePlainSteps_74 : decode cX3_takePlainSteps 74 = .ok (.iconst 1, 1) := by decide +kernel
theorem dX3_takePlainSteps_75 : decode cX3_takePlainSteps 75 = .ok (.iadd, 1) := by decide +kernel
theorem dX3_takePlainSteps_76 : decode cX3_takePlainSteps 76 = .ok (.putfield 40, 3) := by decide +kernel
theorem dX3_takePlainSteps_79 : decode cX3_takePlainSteps 79 = .ok (.iconst 0, 1) := by decide +kernel
theorem dX3_takePlainSteps_80 : decode cX3_takePlainSteps 80 = .ok (.istore_n 2, 1) := by decide +kernel
theorem dX3_takePlainSteps_81 : decode cX3_takePlainSteps 81 = .ok (.iinc 3 1, 3) := by decide +kernel
theorem dX3_takePlainSteps_84 : decode cX3_takePlainSteps 84 = .ok (.goto (-75), 3) := by decide +kernel
theorem dX3_takePlainSteps_87 : decode cX3_takePlainSteps 87 = .ok (.return_, 1) := by decide +kernel
theorem dX3_walkFrom_0 : decode cX3_walkFrom 0 = .ok (.iload_n 1, 1) := by decide +kernel
theorem dX3_walkFrom_1 : decode cX3_walkFrom 1 = .ok (.aload_n 0, 1) := by decide +kernel
theorem dX3_walkFrom_2 : decode cX3_walkFrom 2 = .ok (.getfield 40, 3) := by decide +kernel
theorem dX3_walkFrom_5 : decode cX3_walkFrom 5 = .ok (.if_icmp .ge 8, 3) := by decide +kernel
theorem dX3_walkFrom_8 : decode cX3_walkFrom 8 = .ok (.iload_n 1, 1) := by decide +kernel
theorem dX3_walkFrom_9 : decode cX3_walkFrom 9 = .ok (.iconst 4, 1) := by decide +kernel
theorem dX3_walkFrom_10 : decode cX3_walkFrom 10 = .ok (.if_icmp .lt 9, 3) := by decide +kernel
theorem dX3_walkFrom_13 : decode cX3_walkFrom 13 = .ok (.aload_n 0, 1) := by decide +kernel
theorem dX3_walkFrom_14 : decode cX3_walkFrom 14 = .ok (.invokevirtual 106, 3) := by decide +kernel
theorem dX3_walkFrom_17 : decode cX3_walkFrom 17 = .ok (.iconst 1, 1) := by decide +kernel
theorem dX3_walkFrom_18 : decode cX3_walkFrom 18 = .ok (.ireturn, 1) := by decide +kernel
theorem dX3_walkFrom_19 : decode cX3_walkFrom 19 = .ok (.aload_n 0, 1) := by decide +kernel
theorem dX3_walkFrom_20 : decode cX3_walkFrom 20 = .ok (.getfield 12, 3) := by decide +kernel
theorem dX3_walkFrom_23 : decode cX3_walkFrom 23 = .ok (.astore_n 2, 1) := by decide +kernel
theorem dX3_walkFrom_24 : decode cX3_walkFrom 24 = .ok (.iconst 0, 1) := by decide +kernel
theorem dX3_walkFrom_25 : decode cX3_walkFrom 25 = .ok (.istore_n 3, 1) := by decide +kernel
theorem dX3_walkFrom_26 : decode cX3_walkFrom 26 = .ok (.iload_n 1, 1) := by decide +kernel
theorem dX3_walkFrom_27 : decode cX3_walkFrom 27 = .ok (.ifCond .ne 7, 3) := by decide +kernel
theorem dX3_walkFrom_30 : decode cX3_walkFrom 30 = .ok (.iconst 0, 1) := by decide +kernel
theorem dX3_walkFrom_31 : decode cX3_walkFrom 31 = .ok (.goto 13, 3) := by decide +kernel
theorem dX3_walkFrom_34 : decode cX3_walkFrom 34 = .ok (.aload_n 0, 1) := by decide +kernel
theorem dX3_walkFrom_35 : decode cX3_walkFrom 35 = .ok (.getfield 50, 3) := by decide +kernel
theorem dX3_walkFrom_38 : decode cX3_walkFrom 38 = .ok (.iload_n 1, 1) := by decide +kernel
theorem dX3_walkFrom_39 : decode cX3_walkFrom 39 = .ok (.iconst 1, 1) := by decide +kernel
theorem dX3_walkFrom_40 : decode cX3_walkFrom 40 = .ok (.isub, 1) := by decide +kernel
theorem dX3_walkFrom_41 : decode cX3_walkFrom 41 = .ok (.iaload, 1) := by decide +kernel
theorem dX3_walkFrom_42 : decode cX3_walkFrom 42 = .ok (.iconst 1, 1) := by decide +kernel
theorem dX3_walkFrom_43 : decode cX3_walkFrom 43 = .ok (.iadd, 1) := by decide +kernel
theorem dX3_walkFrom_44 : decode cX3_walkFrom 44 = .ok (.istore 4, 2) := by decide +kernel
theorem dX3_walkFrom_46 : decode cX3_walkFrom 46 = .ok (.iload 4, 2) := by decide +kernel
theorem dX3_walkFrom_48 : decode cX3_walkFrom 48 = .ok (.istore 5, 2) := by decide +kernel
theorem dX3_walkFrom_50 : decode cX3_walkFrom 50 = .ok (.iload 5, 2) := by decide +kernel
theorem dX3_walkFrom_52 : decode cX3_walkFrom 52 = .ok (.aload_n 2, 1) := by decide +kernel
theorem dX3_walkFrom_53 : decode cX3_walkFrom 53 = .ok (.getfield 109, 3) := by decide +kernel
theorem dX3_walkFrom_56 : decode cX3_walkFrom 56 = .ok (.if_icmp .ge 87, 3) := by decide +kernel
theorem dX3_walkFrom_59 : decode cX3_walkFrom 59 = .ok (.aload_n 0, 1) := by decide +kernel
theorem dX3_walkFrom_60 : decode cX3_walkFrom 60 = .ok (.iload_n 1, 1) := by decide +kernel
theorem dX3_walkFrom_61 : decode cX3_walkFrom 61 = .ok (.iload 5, 2) := by decide +kernel
theorem dX3_walkFrom_63 : decode cX3_walkFrom 63 = .ok (.invokevirtual 112, 3) := by decide +kernel
theorem dX3_walkFrom_66 : decode cX3_walkFrom 66 = .ok (.ifCond .eq 77, 3) := by decide +kernel
theorem dX3_walkFrom_69 : decode cX3_walkFrom 69 = .ok (.aload_n 0, 1) := by decide +kernel
theorem dX3_walkFrom_70 : decode cX3_walkFrom 70 = .ok (.iload_n 1, 1) := by decide +kernel
theorem dX3_walkFrom_71 : decode cX3_walkFrom 71 = .ok (.iload 5, 2) := by decide +kernel
theorem dX3_walkFrom_73 : decode cX3_walkFrom 73 = .ok (.invokevirtual 116, 3) := by decide +kernel
theorem dX3_walkFrom_76 : decode cX3_walkFrom 76 = .ok (.ifCond .eq 42, 3) := by decide +kernel
theorem dX3_walkFrom_79 : decode cX3_walkFrom 79 = .ok (.aload_n 0, 1) := by decide +kernel
theorem dX3_walkFrom_80 : decode cX3_walkFrom 80 = .ok (.getfield 50, 3) := by decide +kernel
theorem dX3_walkFrom_83 : decode cX3_walkFrom 83 = .ok (.iload_n 1, 1) := by decide +kernel
theorem dX3_walkFrom_84 : decode cX3_walkFrom 84 = .ok (.iload 5, 2) := by decide +kernel
theorem dX3_walkFrom_86 : decode cX3_walkFrom 86 = .ok (.iastore, 1) := by decide +kernel
theorem dX3_walkFrom_87 : decode cX3_walkFrom 87 = .ok (.aload_n 0, 1) := by decide +kernel
theorem dX3_walkFrom_88 : decode cX3_walkFrom 88 = .ok (.iload_n 1, 1) := by decide +kernel
theorem dX3_walkFrom_89 : decode cX3_walkFrom 89 = .ok (.invokevirtual 119, 3) := by decide +kernel
theorem dX3_walkFrom_92 : decode cX3_walkFrom 92 = .ok (.aload_n 0, 1) := by decide +kernel
theorem dX3_walkFrom_93 : decode cX3_walkFrom 93 = .ok (.iload_n 1, 1) := by decide +kernel
theorem dX3_walkFrom_94 : decode cX3_walkFrom 94 = .ok (.iconst 1, 1) := by decide +kernel
theorem dX3_walkFrom_95 : decode cX3_walkFrom 95 = .ok (.iadd, 1) := by decide +kernel
theorem dX3_walkFrom_96 : decode cX3_walkFrom 96 = .ok (.invokestatic 94, 3) := by decide +kernel
theorem dX3_walkFrom_99 : decode cX3_walkFrom 99 = .ok (.istore 6, 2) := by decide +kernel
theorem dX3_walkFrom_101 : decode cX3_walkFrom 101 = .ok (.aload_n 0, 1) := by decide +kernel
theorem dX3_walkFrom_102 : decode cX3_walkFrom 102 = .ok (.getfield 63, 3) := by decide +kernel
theorem dX3_walkFrom_105 : decode cX3_walkFrom 105 = .ok (.iload 5, 2) := by decide +kernel
theorem dX3_walkFrom_107 : decode cX3_walkFrom 107 = .ok (.dup2, 1) := by decide +kernel
theorem dX3_walkFrom_108 : decode cX3_walkFrom 108 = .ok (.iaload, 1) := by decide +kernel
theorem dX3_walkFrom_109 : decode cX3_walkFrom 109 = .ok (.iload 6, 2) := by decide +kernel
theorem dX3_walkFrom_111 : decode cX3_walkFrom 111 = .ok (.iadd, 1) := by decide +kernel
theorem dX3_walkFrom_112 : decode cX3_walkFrom 112 = .ok (.iastore, 1) := by decide +kernel
theorem dX3_walkFrom_113 : decode cX3_walkFrom 113 = .ok (.iload_n 3, 1) := by decide +kernel
theorem dX3_walkFrom_114 : decode cX3_walkFrom 114 = .ok (.iload 6, 2) := by decide +kernel
theorem dX3_walkFrom_116 : decode cX3_walkFrom 116 = .ok (.iadd, 1) := by decide +kernel
theorem dX3_walkFrom_117 : decode cX3_walkFrom 117 = .ok (.istore_n 3, 1) := by decide +kernel
theorem dX3_walkFrom_118 : decode cX3_walkFrom 118 = .ok (.aload_n 2, 1) := by decide +kernel
theorem dX3_walkFrom_119 : decode cX3_walkFrom 119 = .ok (.getfield 123, 3) := by decide +kernel
theorem dX3_walkFrom_122 : decode cX3_walkFrom 122 = .ok (.iload 5, 2) := by decide +kernel
theorem dX3_walkFrom_124 : decode cX3_walkFrom 124 = .ok (.caload, 1) := by decide +kernel
theorem dX3_walkFrom_125 : decode cX3_walkFrom 125 = .ok (.aload_n 0, 1) := by decide +kernel
theorem dX3_walkFrom_126 : decode cX3_walkFrom 126 = .ok (.getfield 47, 3) := by decide +kernel
theorem dX3_walkFrom_129 : decode cX3_walkFrom 129 = .ok (.iload_n 1, 1) := by decide +kernel
theorem dX3_walkFrom_130 : decode cX3_walkFrom 130 = .ok (.caload, 1) := by decide +kernel
theorem dX3_walkFrom_131 : decode cX3_walkFrom 131 = .ok (.if_icmp .ne 6, 3) := by decide +kernel
theorem dX3_walkFrom_134 : decode cX3_walkFrom 134 = .ok (.goto 9, 3) := by decide +kernel
theorem dX3_walkFrom_137 : decode cX3_walkFrom 137 = .ok (.iinc 5 1, 3) := by decide +kernel
theorem dX3_walkFrom_140 : decode cX3_walkFrom 140 = .ok (.goto (-90), 3) := by decide +kernel
theorem dX3_walkFrom_143 : decode cX3_walkFrom 143 = .ok (.iload_n 3, 1) := by decide +kernel
theorem dX3_walkFrom_144 : decode cX3_walkFrom 144 = .ok (.ireturn, 1) := by decide +kernel
theorem dX3_isInWindow_0 : decode cX3_isInWindow 0 = .ok (.iload_n 1, 1) := by decide +kernel
theorem dX3_isInWindow_1 : decode cX3_isInWindow 1 = .ok (.ifCond .eq 34, 3) := by decide +kernel
theorem dX3_isInWindow_4 : decode cX3_isInWindow 4 = .ok (.aload_n 0, 1) := by decide +kernel
theorem dX3_isInWindow_5 : decode cX3_isInWindow 5 = .ok (.getfield 12, 3) := by decide +kernel
theorem dX3_isInWindow_8 : decode cX3_isInWindow 8 = .ok (.getfield 124, 3) := by decide +kernel
theorem dX3_isInWindow_11 : decode cX3_isInWindow 11 = .ok (.iload_n 2, 1) := by decide +kernel
theorem dX3_isInWindow_12 : decode cX3_isInWindow 12 = .ok (.iaload, 1) := by decide +kernel
theorem dX3_isInWindow_13 : decode cX3_isInWindow 13 = .ok (.aload_n 0, 1) := by decide +kernel
theorem dX3_isInWindow_14 : decode cX3_isInWindow 14 = .ok (.getfield 12, 3) := by decide +kernel
theorem dX3_isInWindow_17 : decode cX3_isInWindow 17 = .ok (.getfield 124, 3) := by decide +kernel
theorem dX3_isInWindow_20 : decode cX3_isInWindow 20 = .ok (.aload_n 0, 1) := by decide +kernel
theorem dX3_isInWindow_21 : decode cX3_isInWindow 21 = .ok (.getfield 50, 3) := by decide +kernel
theorem dX3_isInWindow_24 : decode cX3_isInWindow 24 = .ok (.iconst 0, 1) := by decide +kernel
theorem dX3_isInWindow_25 : decode cX3_isInWindow 25 = .ok (.iaload, 1) := by decide +kernel
theorem dX3_isInWindow_26 : decode cX3_isInWindow 26 = .ok (.iaload, 1) := by decide +kernel
theorem dX3_isInWindow_27 : decode cX3_isInWindow 27 = .ok (.aload_n 0, 1) := by decide +kernel
theorem dX3_isInWindow_28 : decode cX3_isInWindow 28 = .ok (.getfield 34, 3) := by decide +kernel
theorem dX3_isInWindow_31 : decode cX3_isInWindow 31 = .ok (.iadd, 1) := by decide +kernel
theorem dX3_isInWindow_32 : decode cX3_isInWindow 32 = .ok (.if_icmp .gt 7, 3) := by decide +kernel
theorem dX3_isInWindow_35 : decode cX3_isInWindow 35 = .ok (.iconst 1, 1) := by decide +kernel
theorem dX3_isInWindow_36 : decode cX3_isInWindow 36 = .ok (.goto 4, 3) := by decide +kernel
theorem dX3_isInWindow_39 : decode cX3_isInWindow 39 = .ok (.iconst 0, 1) := by decide +kernel
theorem dX3_isInWindow_40 : decode cX3_isInWindow 40 = .ok (.ireturn, 1) := by decide +kernel
theorem dX3_suits_0 : decode cX3_suits 0 = .ok (.aload_n 0, 1) := by decide +kernel
theorem dX3_suits_1 : decode cX3_suits 1 = .ok (.getfield 12, 3) := by decide +kernel
theorem dX3_suits_4 : decode cX3_suits 4 = .ok (.getfield 123, 3) := by decide +kernel
theorem dX3_suits_7 : decode cX3_suits 7 = .ok (.iload_n 2, 1) := by decide +kernel
theorem dX3_suits_8 : decode cX3_suits 8 = .ok (.caload, 1) := by decide +kernel
theorem dX3_suits_9 : decode cX3_suits 9 = .ok (.aload_n 0, 1) := by decide +kernel
theorem dX3_suits_10 : decode cX3_suits 10 = .ok (.getfield 43, 3) := by decide +kernel
theorem dX3_suits_13 : decode cX3_suits 13 = .ok (.iload_n 1, 1) := by decide +kernel
theorem dX3_suits_14 : decode cX3_suits 14 = .ok (.caload, 1) := by decide +kernel
theorem dX3_suits_15 : decode cX3_suits 15 = .ok (.if_icmp .eq 5, 3) := by decide +kernel
theorem dX3_suits_18 : decode cX3_suits 18 = .ok (.iconst 0, 1) := by decide +kernel
theorem dX3_suits_19 : decode cX3_suits 19 = .ok (.ireturn, 1) := by decide +kernel
theorem dX3_suits_20 : decode cX3_suits 20 = .ok (.iload_n 1, 1) := by decide +kernel
theorem dX3_suits_21 : decode cX3_suits 21 = .ok (.ifCond .eq 10, 3) := by decide +kernel
theorem dX3_suits_24 : decode cX3_suits 24 = .ok (.aload_n 0, 1) := by decide +kernel
theorem dX3_suits_25 : decode cX3_suits 25 = .ok (.getfield 37, 3) := by decide +kernel
theorem dX3_suits_28 : decode cX3_suits 28 = .ok (.ifCond .ne 5, 3) := by decide +kernel
theorem dX3_suits_31 : decode cX3_suits 31 = .ok (.iconst 1, 1) := by decide +kernel
theorem dX3_suits_32 : decode cX3_suits 32 = .ok (.ireturn, 1) := by decide +kernel
theorem dX3_suits_33 : decode cX3_suits 33 = .ok (.aload_n 0, 1) := by decide +kernel
theorem dX3_suits_34 : decode cX3_suits 34 = .ok (.getfield 12, 3) := by decide +kernel
theorem dX3_suits_37 : decode cX3_suits 37 = .ok (.getfield 127, 3) := by decide +kernel
theorem dX3_suits_40 : decode cX3_suits 40 = .ok (.aload_n 0, 1) := by decide +kernel
theorem dX3_suits_41 : decode cX3_suits 41 = .ok (.getfield 50, 3) := by decide +kernel
theorem dX3_suits_44 : decode cX3_suits 44 = .ok (.iload_n 1, 1) := by decide +kernel
theorem dX3_suits_45 : decode cX3_suits 45 = .ok (.iconst 1, 1) := by decide +kernel
theorem dX3_suits_46 : decode cX3_suits 46 = .ok (.isub, 1) := by decide +kernel
theorem dX3_suits_47 : decode cX3_suits 47 = .ok (.iaload, 1) := by decide +kernel
theorem dX3_suits_48 : decode cX3_suits 48 = .ok (.iaload, 1) := by decide +kernel
theorem dX3_suits_49 : decode cX3_suits 49 = .ok (.istore_n 3, 1) := by decide +kernel
theorem dX3_suits_50 : decode cX3_suits 50 = .ok (.aload_n 0, 1) := by decide +kernel
theorem dX3_suits_51 : decode cX3_suits 51 = .ok (.getfield 37, 3) := by decide +kernel
theorem dX3_suits_54 : decode cX3_suits 54 = .ok (.iconst 1, 1) := by decide +kernel
theorem dX3_suits_55 : decode cX3_suits 55 = .ok (.if_icmp .ne 24, 3) := by decide +kernel
theorem dX3_suits_58 : decode cX3_suits 58 = .ok (.aload_n 0, 1) := by decide +kernel
theorem dX3_suits_59 : decode cX3_suits 59 = .ok (.getfield 12, 3) := by decide +kernel
theorem dX3_suits_62 : decode cX3_suits 62 = .ok (.getfield 127, 3) := by decide +kernel
theorem dX3_suits_65 : decode cX3_suits 65 = .ok (.iload_n 2, 1) := by decide +kernel
theorem dX3_suits_66 : decode cX3_suits 66 = .ok (.iaload, 1) := by decide +kernel
theorem dX3_suits_67 : decode cX3_suits 67 = .ok (.iload_n 3, 1) := by decide +kernel
theorem dX3_suits_68 : decode cX3_suits 68 = .ok (.if_icmp .le 7, 3) := by decide +kernel
theorem dX3_suits_71 : decode cX3_suits 71 = .ok (.iconst 1, 1) := by decide +kernel
theorem dX3_suits_72 : decode cX3_suits 72 = .ok (.goto 25, 3) := by decide +kernel
theorem dX3_suits_75 : decode cX3_suits 75 = .ok (.iconst 0, 1) := by decide +kernel
theorem dX3_suits_76 : decode cX3_suits 76 = .ok (.goto 21, 3) := by decide +kernel
theorem dX3_suits_79 : decode cX3_suits 79 = .ok (.aload_n 0, 1) := by decide +kernel
theorem dX3_suits_80 : decode cX3_suits 80 = .ok (.getfield 12, 3) := by decide +kernel
theorem dX3_suits_83 : decode cX3_suits 83 = .ok (.getfield 127, 3) := by decide +kernel
theorem dX3_suits_86 : decode cX3_suits 86 = .ok (.iload_n 2, 1) := by decide +kernel
theorem dX3_suits_87 : decode cX3_suits 87 = .ok (.iaload, 1) := by decide +kernel
theorem dX3_suits_88 : decode cX3_suits 88 = .ok (.iload_n 3, 1) := by decide +kernel
theorem dX3_suits_89 : decode cX3_suits 89 = .ok (.if_icmp .ne 7, 3) := by decide +kernel
theorem dX3_suits_92 : decode cX3_suits 92 = .ok (.iconst 1, 1) := by decide +kernel
theorem dX3_suits_93 : decode cX3_suits 93 = .ok (.goto 4, 3) := by decide +kernel
theorem dX3_suits_96 : decode cX3_suits 96 = .ok (.iconst 0, 1) := by decide +kernel
theorem dX3_suits_97 : decode cX3_suits 97 = .ok (.ireturn, 1) := by decide +kernel
theorem dX3_tellBranch_0 : decode cX3_tellBranch 0 = .ok (.iload_n 1, 1) := by decide +kernel
theorem dX3_tellBranch_1 : decode cX3_tellBranch 1 = .ok (.iconst 1, 1) := by decide +kernel
theorem dX3_tellBranch_2 : decode cX3_tellBranch 2 = .ok (.iadd, 1) := by decide +kernel
theorem dX3_tellBranch_3 : decode cX3_tellBranch 3 = .ok (.aload_n 0, 1) := by decide +kernel
theorem dX3_tellBranch_4 : decode cX3_tellBranch 4 = .ok (.getfield 40, 3) := by decide +kernel
theorem dX3_tellBranch_7 : decode cX3_tellBranch 7 = .ok (.if_icmp .ge 39, 3) := by decide +kernel
theorem dX3_tellBranch_10 : decode cX3_tellBranch 10 = .ok (.aload_n 0, 1) := by decide +kernel
theorem dX3_tellBranch_11 : decode cX3_tellBranch 11 = .ok (.getfield 12, 3) := by decide +kernel
theorem dX3_tellBranch_14 : decode cX3_tellBranch 14 = .ok (.getfield 124, 3) := by decide +kernel
theorem dX3_tellBranch_17 : decode cX3_tellBranch 17 = .ok (.aload_n 0, 1) := by decide +kernel
theorem dX3_tellBranch_18 : decode cX3_tellBranch 18 = .ok (.getfield 50, 3) := by decide +kernel
theorem dX3_tellBranch_21 : decode cX3_tellBranch 21 = .ok (.iconst 0, 1) := by decide +kernel
theorem dX3_tellBranch_22 : decode cX3_tellBranch 22 = .ok (.iaload, 1) := by decide +kernel
theorem dX3_tellBranch_23 : decode cX3_tellBranch 23 = .ok (.iaload, 1) := by decide +kernel
theorem dX3_tellBranch_24 : decode cX3_tellBranch 24 = .ok (.aload_n 0, 1) := by decide +kernel
theorem dX3_tellBranch_25 : decode cX3_tellBranch 25 = .ok (.getfield 34, 3) := by decide +kernel
theorem dX3_tellBranch_28 : decode cX3_tellBranch 28 = .ok (.iadd, 1) := by decide +kernel
theorem dX3_tellBranch_29 : decode cX3_tellBranch 29 = .ok (.aload_n 0, 1) := by decide +kernel
theorem dX3_tellBranch_30 : decode cX3_tellBranch 30 = .ok (.getfield 18, 3) := by decide +kernel
theorem dX3_tellBranch_33 : decode cX3_tellBranch 33 = .ok (.if_icmp .lt 13, 3) := by decide +kernel
theorem dX3_tellBranch_36 : decode cX3_tellBranch 36 = .ok (.aload_n 0, 1) := by decide +kernel
theorem dX3_tellBranch_37 : decode cX3_tellBranch 37 = .ok (.dup, 1) := by decide +kernel
theorem dX3_tellBranch_38 : decode cX3_tellBranch 38 = .ok (.getfield 60, 3) := by decide +kernel
theorem dX3_tellBranch_41 : decode cX3_tellBranch 41 = .ok (.iconst 1, 1) := by decide +kernel
theorem dX3_tellBranch_42 : decode cX3_tellBranch 42 = .ok (.iadd, 1) := by decide +kernel
theorem dX3_tellBranch_43 : decode cX3_tellBranch 43 = .ok (.putfield 60, 3) := by decide +kernel
theorem dX3_tellBranch_46 : decode cX3_tellBranch 46 = .ok (.return_, 1) := by decide +kernel
theorem dX3_tellMatch_0 : decode cX3_tellMatch 0 = .ok (.aload_n 0, 1) := by decide +kernel
theorem dX3_tellMatch_1 : decode cX3_tellMatch 1 = .ok (.getfield 12, 3) := by decide +kernel
theorem dX3_tellMatch_4 : decode cX3_tellMatch 4 = .ok (.getfield 124, 3) := by decide +kernel
theorem dX3_tellMatch_7 : decode cX3_tellMatch 7 = .ok (.aload_n 0, 1) := by decide +kernel
theorem dX3_tellMatch_8 : decode cX3_tellMatch 8 = .ok (.getfield 50, 3) := by decide +kernel
theorem dX3_tellMatch_11 : decode cX3_tellMatch 11 = .ok (.aload_n 0, 1) := by decide +kernel
theorem dX3_tellMatch_12 : decode cX3_tellMatch 12 = .ok (.getfield 40, 3) := by decide +kernel
theorem dX3_tellMatch_15 : decode cX3_tellMatch 15 = .ok (.iconst 1, 1) := by decide +kernel
theorem dX3_tellMatch_16 : decode cX3_tellMatch 16 = .ok (.isub, 1) := by decide +kernel
theorem dX3_tellMatch_17 : decode cX3_tellMatch 17 = .ok (.iaload, 1) := by decide +kernel
theorem dX3_tellMatch_18 : decode cX3_tellMatch 18 = .ok (.iaload, 1) := by decide +kernel
theorem dX3_tellMatch_19 : decode cX3_tellMatch 19 = .ok (.aload_n 0, 1) := by decide +kernel
theorem dX3_tellMatch_20 : decode cX3_tellMatch 20 = .ok (.getfield 22, 3) := by decide +kernel
theorem dX3_tellMatch_23 : decode cX3_tellMatch 23 = .ok (.if_icmp .gt 13, 3) := by decide +kernel
theorem dX3_tellMatch_26 : decode cX3_tellMatch 26 = .ok (.aload_n 0, 1) := by decide +kernel
theorem dX3_tellMatch_27 : decode cX3_tellMatch 27 = .ok (.dup, 1) := by decide +kernel
theorem dX3_tellMatch_28 : decode cX3_tellMatch 28 = .ok (.getfield 57, 3) := by decide +kernel
theorem dX3_tellMatch_31 : decode cX3_tellMatch 31 = .ok (.iconst 1, 1) := by decide +kernel
theorem dX3_tellMatch_32 : decode cX3_tellMatch 32 = .ok (.iadd, 1) := by decide +kernel
theorem dX3_tellMatch_33 : decode cX3_tellMatch 33 = .ok (.putfield 57, 3) := by decide +kernel
theorem dX3_tellMatch_36 : decode cX3_tellMatch 36 = .ok (.aload_n 0, 1) := by decide +kernel
theorem dX3_tellMatch_37 : decode cX3_tellMatch 37 = .ok (.getfield 54, 3) := by decide +kernel
theorem dX3_tellMatch_40 : decode cX3_tellMatch 40 = .ok (.aload_n 0, 1) := by decide +kernel
theorem dX3_tellMatch_41 : decode cX3_tellMatch 41 = .ok (.getfield 25, 3) := by decide +kernel
theorem dX3_tellMatch_44 : decode cX3_tellMatch 44 = .ok (.if_icmp .ne 24, 3) := by decide +kernel
theorem dX3_tellMatch_47 : decode cX3_tellMatch 47 = .ok (.aload_n 0, 1) := by decide +kernel
theorem dX3_tellMatch_48 : decode cX3_tellMatch 48 = .ok (.aload_n 0, 1) := by decide +kernel
theorem dX3_tellMatch_49 : decode cX3_tellMatch 49 = .ok (.getfield 12, 3) := by decide +kernel
theorem dX3_tellMatch_52 : decode cX3_tellMatch 52 = .ok (.getfield 130, 3) := by decide +kernel
theorem dX3_tellMatch_55 : decode cX3_tellMatch 55 = .ok (.aload_n 0, 1) := by decide +kernel
theorem dX3_tellMatch_56 : decode cX3_tellMatch 56 = .ok (.getfield 50, 3) := by decide +kernel
theorem dX3_tellMatch_59 : decode cX3_tellMatch 59 = .ok (.aload_n 0, 1) := by decide +kernel
theorem dX3_tellMatch_60 : decode cX3_tellMatch 60 = .ok (.getfield 28, 3) := by decide +kernel
theorem dX3_tellMatch_63 : decode cX3_tellMatch 63 = .ok (.iaload, 1) := by decide +kernel
theorem dX3_tellMatch_64 : decode cX3_tellMatch 64 = .ok (.iaload, 1) := by decide +kernel
theorem dX3_tellMatch_65 : decode cX3_tellMatch 65 = .ok (.putfield 31, 3) := by decide +kernel
theorem dX3_tellMatch_68 : decode cX3_tellMatch 68 = .ok (.aload_n 0, 1) := by decide +kernel
theorem dX3_tellMatch_69 : decode cX3_tellMatch 69 = .ok (.dup, 1) := by decide +kernel
theorem dX3_tellMatch_70 : decode cX3_tellMatch 70 = .ok (.getfield 54, 3) := by decide +kernel
theorem dX3_tellMatch_73 : decode cX3_tellMatch 73 = .ok (.iconst 1, 1) := by decide +kernel
theorem dX3_tellMatch_74 : decode cX3_tellMatch 74 = .ok (.iadd, 1) := by decide +kernel
theorem dX3_tellMatch_75 : decode cX3_tellMatch 75 = .ok (.putfield 54, 3) := by decide +kernel
theorem dX3_tellMatch_78 : decode cX3_tellMatch 78 = .ok (.return_, 1) := by decide +kernel
theorem dX3_shareOf_0 : decode cX3_shareOf 0 = .ok (.aload_n 0, 1) := by decide +kernel
theorem dX3_shareOf_1 : decode cX3_shareOf 1 = .ok (.getfield 63, 3) := by decide +kernel
theorem dX3_shareOf_4 : decode cX3_shareOf 4 = .ok (.aload_n 0, 1) := by decide +kernel
theorem dX3_shareOf_5 : decode cX3_shareOf 5 = .ok (.getfield 12, 3) := by decide +kernel
theorem dX3_shareOf_8 : decode cX3_shareOf 8 = .ok (.iload_n 1, 1) := by decide +kernel
theorem dX3_shareOf_9 : decode cX3_shareOf 9 = .ok (.invokevirtual 133, 3) := by decide +kernel
theorem dX3_shareOf_12 : decode cX3_shareOf 12 = .ok (.iaload, 1) := by decide +kernel
theorem dX3_shareOf_13 : decode cX3_shareOf 13 = .ok (.ireturn, 1) := by decide +kernel
theorem dX3_placesWithoutShare_0 : decode cX3_placesWithoutShare 0 = .ok (.iconst 0, 1) := by decide +kernel
theorem dX3_placesWithoutShare_1 : decode cX3_placesWithoutShare 1 = .ok (.istore_n 1, 1) := by decide +kernel
theorem dX3_placesWithoutShare_2 : decode cX3_placesWithoutShare 2 = .ok (.iconst 0, 1) := by decide +kernel
theorem dX3_placesWithoutShare_3 : decode cX3_placesWithoutShare 3 = .ok (.istore_n 2, 1) := by decide +kernel
theorem dX3_placesWithoutShare_4 : decode cX3_placesWithoutShare 4 = .ok (.iload_n 2, 1) := by decide +kernel
theorem dX3_placesWithoutShare_5 : decode cX3_placesWithoutShare 5 = .ok (.aload_n 0, 1) := by decide +kernel
theorem dX3_placesWithoutShare_6 : decode cX3_placesWithoutShare 6 = .ok (.getfield 12, 3) := by decide +kernel
theorem dX3_placesWithoutShare_9 : decode cX3_placesWithoutShare 9 = .ok (.getfield 109, 3) := by decide +kernel
theorem dX3_placesWithoutShare_12 : decode cX3_placesWithoutShare 12 = .ok (.if_icmp .ge 21, 3) := by decide +kernel
theorem dX3_placesWithoutShare_15 : decode cX3_placesWithoutShare 15 = .ok (.aload_n 0, 1) := by decide +kernel
theorem dX3_placesWithoutShare_16 : decode cX3_placesWithoutShare 16 = .ok (.getfield 63, 3) := by decide +kernel
theorem dX3_placesWithoutShare_19 : decode cX3_placesWithoutShare 19 = .ok (.iload_n 2, 1) := by decide +kernel
theorem dX3_placesWithoutShare_20 : decode cX3_placesWithoutShare 20 = .ok (.iaload, 1) := by decide +kernel
theorem dX3_placesWithoutShare_21 : decode cX3_placesWithoutShare 21 = .ok (.ifCond .ne 6, 3) := by decide +kernel
theorem dX3_placesWithoutShare_24 : decode cX3_placesWithoutShare 24 = .ok (.iinc 1 1, 3) := by decide +kernel
theorem dX3_placesWithoutShare_27 : decode cX3_placesWithoutShare 27 = .ok (.iinc 2 1, 3) := by decide +kernel
theorem dX3_placesWithoutShare_30 : decode cX3_placesWithoutShare 30 = .ok (.goto (-26), 3) := by decide +kernel
theorem dX3_placesWithoutShare_33 : decode cX3_placesWithoutShare 33 = .ok (.iload_n 1, 1) := by decide +kernel
theorem dX3_placesWithoutShare_34 : decode cX3_placesWithoutShare 34 = .ok (.ireturn, 1) := by decide +kernel
theorem dX4_init_0 : decode cX4_init 0 = .ok (.aload_n 0, 1) := by decide +kernel
theorem dX4_init_1 : decode cX4_init 1 = .ok (.invokespecial 3, 3) := by decide +kernel
theorem dX4_init_4 : decode cX4_init 4 = .ok (.aload_n 0, 1) := by decide +kernel
theorem dX4_init_5 : decode cX4_init 5 = .ok (.iconst 0, 1) := by decide +kernel
theorem dX4_init_6 : decode cX4_init 6 = .ok (.putfield 9, 3) := by decide +kernel
theorem dX4_init_9 : decode cX4_init 9 = .ok (.aload_n 0, 1) := by decide +kernel
theorem dX4_init_10 : decode cX4_init 10 = .ok (.bipush 24, 2) := by decide +kernel
theorem dX4_init_12 : decode cX4_init 12 = .ok (.newarray .char, 2) := by decide +kernel
theorem dX4_init_14 : decode cX4_init 14 = .ok (.putfield 15, 3) := by decide +kernel
theorem dX4_init_17 : decode cX4_init 17 = .ok (.aload_n 0, 1) := by decide +kernel
theorem dX4_init_18 : decode cX4_init 18 = .ok (.bipush 24, 2) := by decide +kernel
theorem dX4_init_20 : decode cX4_init 20 = .ok (.newarray .int, 2) := by decide +kernel
theorem dX4_init_22 : decode cX4_init 22 = .ok (.putfield 19, 3) := by decide +kernel
theorem dX4_init_25 : decode cX4_init 25 = .ok (.aload_n 0, 1) := by decide +kernel
theorem dX4_init_26 : decode cX4_init 26 = .ok (.bipush 24, 2) := by decide +kernel
theorem dX4_init_28 : decode cX4_init 28 = .ok (.newarray .int, 2) := by decide +kernel
theorem dX4_init_30 : decode cX4_init 30 = .ok (.putfield 23, 3) := by decide +kernel
theorem dX4_init_33 : decode cX4_init 33 = .ok (.aload_n 0, 1) := by decide +kernel
theorem dX4_init_34 : decode cX4_init 34 = .ok (.iconst 0, 1) := by decide +kernel
theorem dX4_init_35 : decode cX4_init 35 = .ok (.putfield 26, 3) := by decide +kernel
theorem dX4_init_38 : decode cX4_init 38 = .ok (.aload_n 0, 1) := by decide +kernel
theorem dX4_init_39 : decode cX4_init 39 = .ok (.bipush 20, 2) := by decide +kernel
theorem dX4_init_41 : decode cX4_init 41 = .ok (.putfield 29, 3) := by decide +kernel
theorem dX4_init_44 : decode cX4_init 44 = .ok (.aload_n 0, 1) := by decide +kernel
theorem dX4_init_45 : decode cX4_init 45 = .ok (.iconst 0, 1) := by decide +kernel
theorem dX4_init_46 : decode cX4_init 46 = .ok (.putfield 32, 3) := by decide +kernel
theorem dX4_init_49 : decode cX4_init 49 = .ok (.aload_n 0, 1) := by decide +kernel
theorem dX4_init_50 : decode cX4_init 50 = .ok (.iconst 4, 1) := by decide +kernel
theorem dX4_init_51 : decode cX4_init 51 = .ok (.anewarray 35, 3) := by decide +kernel
theorem dX4_init_54 : decode cX4_init 54 = .ok (.putfield 37, 3) := by decide +kernel
theorem dX4_init_57 : decode cX4_init 57 = .ok (.iconst 0, 1) := by decide +kernel
theorem dX4_init_58 : decode cX4_init 58 = .ok (.istore_n 1, 1) := by decide +kernel
theorem dX4_init_59 : decode cX4_init 59 = .ok (.iload_n 1, 1) := by decide +kernel
theorem dX4_init_60 : decode cX4_init 60 = .ok (.iconst 4, 1) := by decide +kernel
theorem dX4_init_61 : decode cX4_init 61 = .ok (.if_icmp .ge 22, 3) := by decide +kernel
theorem dX4_init_64 : decode cX4_init 64 = .ok (.aload_n 0, 1) := by decide +kernel
theorem dX4_init_65 : decode cX4_init 65 = .ok (.getfield 37, 3) := by decide +kernel
theorem dX4_init_68 : decode cX4_init 68 = .ok (.iload_n 1, 1) := by decide +kernel
theorem dX4_init_69 : decode cX4_init 69 = .ok (.new 35, 3) := by decide +kernel
theorem dX4_init_72 : decode cX4_init 72 = .ok (.dup, 1) := by decide +kernel
theorem dX4_init_73 : decode cX4_init 73 = .ok (.invokespecial 41, 3) := by decide +kernel
theorem dX4_init_76 : decode cX4_init 76 = .ok (.aastore, 1) := by decide +kernel
theorem dX4_init_77 : decode cX4_init 77 = .ok (.iinc 1 1, 3) := by decide +kernel
theorem dX4_init_80 : decode cX4_init 80 = .ok (.goto (-21), 3) := by decide +kernel
theorem dX4_init_83 : decode cX4_init 83 = .ok (.return_, 1) := by decide +kernel
theorem dX4_copyFrom_0 : decode cX4_copyFrom 0 = .ok (.aload_n 0, 1) := by decide +kernel
theorem dX4_copyFrom_1 : decode cX4_copyFrom 1 = .ok (.aload_n 1, 1) := by decide +kernel
theorem dX4_copyFrom_2 : decode cX4_copyFrom 2 = .ok (.getfield 9, 3) := by decide +kernel
theorem dX4_copyFrom_5 : decode cX4_copyFrom 5 = .ok (.putfield 9, 3) := by decide +kernel
theorem dX4_copyFrom_8 : decode cX4_copyFrom 8 = .ok (.iconst 0, 1) := by decide +kernel
theorem dX4_copyFrom_9 : decode cX4_copyFrom 9 = .ok (.istore_n 2, 1) := by decide +kernel
theorem dX4_copyFrom_10 : decode cX4_copyFrom 10 = .ok (.iload_n 2, 1) := by decide +kernel
theorem dX4_copyFrom_11 : decode cX4_copyFrom 11 = .ok (.aload_n 1, 1) := by decide +kernel
theorem dX4_copyFrom_12 : decode cX4_copyFrom 12 = .ok (.getfield 9, 3) := by decide +kernel
theorem dX4_copyFrom_15 : decode cX4_copyFrom 15 = .ok (.if_icmp .ge 45, 3) := by decide +kernel
theorem dX4_copyFrom_18 : decode cX4_copyFrom 18 = .ok (.aload_n 0, 1) := by decide +kernel
theorem dX4_copyFrom_19 : decode cX4_copyFrom 19 = .ok (.getfield 15, 3) := by decide +kernel
theorem dX4_copyFrom_22 : decode cX4_copyFrom 22 = .ok (.iload_n 2, 1) := by decide +kernel
theorem dX4_copyFrom_23 : decode cX4_copyFrom 23 = .ok (.aload_n 1, 1) := by decide +kernel
theorem dX4_copyFrom_24 : decode cX4_copyFrom 24 = .ok (.getfield 15, 3) := by decide +kernel
theorem dX4_copyFrom_27 : decode cX4_copyFrom 27 = .ok (.iload_n 2, 1) := by decide +kernel
theorem dX4_copyFrom_28 : decode cX4_copyFrom 28 = .ok (.caload, 1) := by decide +kernel
theorem dX4_copyFrom_29 : decode cX4_copyFrom 29 = .ok (.castore, 1) := by decide +kernel
theorem dX4_copyFrom_30 : decode cX4_copyFrom 30 = .ok (.aload_n 0, 1) := by decide +kernel
theorem dX4_copyFrom_31 : decode cX4_copyFrom 31 = .ok (.getfield 19, 3) := by decide +kernel
theorem dX4_copyFrom_34 : decode cX4_copyFrom 34 = .ok (.iload_n 2, 1) := by decide +kernel
theorem dX4_copyFrom_35 : decode cX4_copyFrom 35 = .ok (.aload_n 1, 1) := by decide +kernel
theorem dX4_copyFrom_36 : decode cX4_copyFrom 36 = .ok (.getfield 19, 3) := by decide +kernel
theorem dX4_copyFrom_39 : decode cX4_copyFrom 39 = .ok (.iload_n 2, 1) := by decide +kernel
theorem dX4_copyFrom_40 : decode cX4_copyFrom 40 = .ok (.iaload, 1) := by decide +kernel
theorem dX4_copyFrom_41 : decode cX4_copyFrom 41 = .ok (.iastore, 1) := by decide +kernel
theorem dX4_copyFrom_42 : decode cX4_copyFrom 42 = .ok (.aload_n 0, 1) := by decide +kernel
theorem dX4_copyFrom_43 : decode cX4_copyFrom 43 = .ok (.getfield 23, 3) := by decide +kernel
theorem dX4_copyFrom_46 : decode cX4_copyFrom 46 = .ok (.iload_n 2, 1) := by decide +kernel
theorem dX4_copyFrom_47 : decode cX4_copyFrom 47 = .ok (.aload_n 1, 1) := by decide +kernel
theorem dX4_copyFrom_48 : decode cX4_copyFrom 48 = .ok (.getfield 23, 3) := by decide +kernel
theorem dX4_copyFrom_51 : decode cX4_copyFrom 51 = .ok (.iload_n 2, 1) := by decide +kernel
theorem dX4_copyFrom_52 : decode cX4_copyFrom 52 = .ok (.iaload, 1) := by decide +kernel
theorem dX4_copyFrom_53 : decode cX4_copyFrom 53 = .ok (.iastore, 1) := by decide +kernel
theorem dX4_copyFrom_54 : decode cX4_copyFrom 54 = .ok (.iinc 2 1, 3) := by decide +kernel
theorem dX4_copyFrom_57 : decode cX4_copyFrom 57 = .ok (.goto (-47), 3) := by decide +kernel
theorem dX4_copyFrom_60 : decode cX4_copyFrom 60 = .ok (.aload_n 0, 1) := by decide +kernel
theorem dX4_copyFrom_61 : decode cX4_copyFrom 61 = .ok (.aload_n 1, 1) := by decide +kernel
theorem dX4_copyFrom_62 : decode cX4_copyFrom 62 = .ok (.getfield 26, 3) := by decide +kernel
theorem dX4_copyFrom_65 : decode cX4_copyFrom 65 = .ok (.putfield 26, 3) := by decide +kernel
theorem dX4_copyFrom_68 : decode cX4_copyFrom 68 = .ok (.aload_n 0, 1) := by decide +kernel
theorem dX4_copyFrom_69 : decode cX4_copyFrom 69 = .ok (.aload_n 1, 1) := by decide +kernel
theorem dX4_copyFrom_70 : decode cX4_copyFrom 70 = .ok (.getfield 29, 3) := by decide +kernel
theorem dX4_copyFrom_73 : decode cX4_copyFrom 73 = .ok (.putfield 29, 3) := by decide +kernel
theorem dX4_copyFrom_76 : decode cX4_copyFrom 76 = .ok (.aload_n 0, 1) := by decide +kernel
theorem dX4_copyFrom_77 : decode cX4_copyFrom 77 = .ok (.aload_n 1, 1) := by decide +kernel
theorem dX4_copyFrom_78 : decode cX4_copyFrom 78 = .ok (.getfield 32, 3) := by decide +kernel
theorem dX4_copyFrom_81 : decode cX4_copyFrom 81 = .ok (.putfield 32, 3) := by decide +kernel
theorem dX4_copyFrom_84 : decode cX4_copyFrom 84 = .ok (.iconst 0, 1) := by decide +kernel
theorem dX4_copyFrom_85 : decode cX4_copyFrom 85 = .ok (.istore_n 2, 1) := by decide +kernel
theorem dX4_copyFrom_86 : decode cX4_copyFrom 86 = .ok (.iload_n 2, 1) := by decide +kernel
theorem dX4_copyFrom_87 : decode cX4_copyFrom 87 = .ok (.aload_n 1, 1) := by decide +kernel
theorem dX4_copyFrom_88 : decode cX4_copyFrom 88 = .ok (.getfield 32, 3) := by decide +kernel
theorem dX4_copyFrom_91 : decode cX4_copyFrom 91 = .ok (.if_icmp .ge 24, 3) := by decide +kernel
theorem dX4_copyFrom_94 : decode cX4_copyFrom 94 = .ok (.aload_n 0, 1) := by decide +kernel
theorem dX4_copyFrom_95 : decode cX4_copyFrom 95 = .ok (.getfield 37, 3) := by decide +kernel
theorem dX4_copyFrom_98 : decode cX4_copyFrom 98 = .ok (.iload_n 2, 1) := by decide +kernel
theorem dX4_copyFrom_99 : decode cX4_copyFrom 99 = .ok (.aaload, 1) := by decide +kernel
theorem dX4_copyFrom_100 : decode cX4_copyFrom 100 = .ok (.aload_n 1, 1) := by decide +kernel
theorem dX4_copyFrom_101 : decode cX4_copyFrom 101 = .ok (.getfield 37, 3) := by decide +kernel
theorem dX4_copyFrom_104 : decode cX4_copyFrom 104 = .ok (.iload_n 2, 1) := by decide +kernel
theorem dX4_copyFrom_105 : decode cX4_copyFrom 105 = .ok (.aaload, 1) := by decide +kernel
theorem dX4_copyFrom_106 : decode cX4_copyFrom 106 = .ok (.invokevirtual 42, 3) := by decide +kernel
theorem dX4_copyFrom_109 : decode cX4_copyFrom 109 = .ok (.iinc 2 1, 3) := by decide +kernel
theorem dX4_copyFrom_112 : decode cX4_copyFrom 112 = .ok (.goto (-26), 3) := by decide +kernel
theorem dX4_copyFrom_115 : decode cX4_copyFrom 115 = .ok (.return_, 1) := by decide +kernel
theorem dX4_watermark_0 : decode cX4_watermark 0 = .ok (.iconst 0, 1) := by decide +kernel
theorem dX4_watermark_1 : decode cX4_watermark 1 = .ok (.aload_n 0, 1) := by decide +kernel
theorem dX4_watermark_2 : decode cX4_watermark 2 = .ok (.getfield 26, 3) := by decide +kernel
theorem dX4_watermark_5 : decode cX4_watermark 5 = .ok (.aload_n 0, 1) := by decide +kernel
theorem dX4_watermark_6 : decode cX4_watermark 6 = .ok (.getfield 29, 3) := by decide +kernel
theorem dX4_watermark_9 : decode cX4_watermark 9 = .ok (.isub, 1) := by decide +kernel
theorem dX4_watermark_10 : decode cX4_watermark 10 = .ok (.invokestatic 46, 3) := by decide +kernel
theorem dX4_watermark_13 : decode cX4_watermark 13 = .ok (.ireturn, 1) := by decide +kernel
theorem dX4_addEvent_0 : decode cX4_addEvent 0 = .ok (.aload_n 0, 1) := by decide +kernel
theorem dX4_addEvent_1 : decode cX4_addEvent 1 = .ok (.getfield 9, 3) := by decide +kernel
theorem dX4_addEvent_4 : decode cX4_addEvent 4 = .ok (.bipush 24, 2) := by decide +kernel
theorem dX4_addEvent_6 : decode cX4_addEvent 6 = .ok (.if_icmp .lt 6, 3) := by decide +kernel
theorem dX4_addEvent_9 : decode cX4_addEvent 9 = .ok (.bipush (-3), 2) := by decide +kernel
theorem dX4_addEvent_11 : decode cX4_addEvent 11 = .ok (.ireturn, 1) := by decide +kernel
theorem dX4_addEvent_12 : decode cX4_addEvent 12 = .ok (.aload_n 0, 1) := by decide +kernel
theorem dX4_addEvent_13 : decode cX4_addEvent 13 = .ok (.getfield 9, 3) := by decide +kernel
theorem dX4_addEvent_16 : decode cX4_addEvent 16 = .ok (.istore 4, 2) := by decide +kernel
theorem dX4_addEvent_18 : decode cX4_addEvent 18 = .ok (.aload_n 0, 1) := by decide +kernel
theorem dX4_addEvent_19 : decode cX4_addEvent 19 = .ok (.iload 4, 2) := by decide +kernel
theorem dX4_addEvent_21 : decode cX4_addEvent 21 = .ok (.iload_n 1, 1) := by decide +kernel
theorem dX4_addEvent_22 : decode cX4_addEvent 22 = .ok (.iload_n 2, 1) := by decide +kernel
theorem dX4_addEvent_23 : decode cX4_addEvent 23 = .ok (.iload_n 3, 1) := by decide +kernel
theorem dX4_addEvent_24 : decode cX4_addEvent 24 = .ok (.invokevirtual 52, 3) := by decide +kernel
theorem dX4_addEvent_27 : decode cX4_addEvent 27 = .ok (.aload_n 0, 1) := by decide +kernel
theorem dX4_addEvent_28 : decode cX4_addEvent 28 = .ok (.dup, 1) := by decide +kernel
theorem dX4_addEvent_29 : decode cX4_addEvent 29 = .ok (.getfield 9, 3) := by decide +kernel
theorem dX4_addEvent_32 : decode cX4_addEvent 32 = .ok (.iconst 1, 1) := by decide +kernel
theorem dX4_addEvent_33 : decode cX4_addEvent 33 = .ok (.iadd, 1) := by decide +kernel
theorem dX4_addEvent_34 : decode cX4_addEvent 34 = .ok (.putfield 9, 3) := by decide +kernel
theorem dX4_addEvent_37 : decode cX4_addEvent 37 = .ok (.aload_n 0, 1) := by decide +kernel
theorem dX4_addEvent_38 : decode cX4_addEvent 38 = .ok (.aload_n 0, 1) := by decide +kernel
theorem dX4_addEvent_39 : decode cX4_addEvent 39 = .ok (.getfield 26, 3) := by decide +kernel
theorem dX4_addEvent_42 : decode cX4_addEvent 42 = .ok (.iload_n 3, 1) := by decide +kernel
theorem dX4_addEvent_43 : decode cX4_addEvent 43 = .ok (.invokestatic 46, 3) := by decide +kernel
theorem dX4_addEvent_46 : decode cX4_addEvent 46 = .ok (.putfield 26, 3) := by decide +kernel
theorem dX4_addEvent_49 : decode cX4_addEvent 49 = .ok (.iload 4, 2) := by decide +kernel
theorem dX4_addEvent_51 : decode cX4_addEvent 51 = .ok (.ireturn, 1) := by decide +kernel
theorem dX4_putEvent_0 : decode cX4_putEvent 0 = .ok (.aload_n 0, 1) := by decide +kernel
theorem dX4_putEvent_1 : decode cX4_putEvent 1 = .ok (.getfield 15, 3) := by decide +kernel
theorem dX4_putEvent_4 : decode cX4_putEvent 4 = .ok (.iload_n 1, 1) := by decide +kernel
theorem dX4_putEvent_5 : decode cX4_putEvent 5 = .ok (.iload_n 2, 1) := by decide +kernel
theorem dX4_putEvent_6 : decode cX4_putEvent 6 = .ok (.castore, 1) := by decide +kernel
theorem dX4_putEvent_7 : decode cX4_putEvent 7 = .ok (.aload_n 0, 1) := by decide +kernel
theorem dX4_putEvent_8 : decode cX4_putEvent 8 = .ok (.getfield 19, 3) := by decide +kernel
theorem dX4_putEvent_11 : decode cX4_putEvent 11 = .ok (.iload_n 1, 1) := by decide +kernel
theorem dX4_putEvent_12 : decode cX4_putEvent 12 = .ok (.iload_n 3, 1) := by decide +kernel
theorem dX4_putEvent_13 : decode cX4_putEvent 13 = .ok (.iastore, 1) := by decide +kernel
theorem dX4_putEvent_14 : decode cX4_putEvent 14 = .ok (.aload_n 0, 1) := by decide +kernel
theorem dX4_putEvent_15 : decode cX4_putEvent 15 = .ok (.getfield 23, 3) := by decide +kernel
theorem dX4_putEvent_18 : decode cX4_putEvent 18 = .ok (.iload_n 1, 1) := by decide +kernel
theorem dX4_putEvent_19 : decode cX4_putEvent 19 = .ok (.iload 4, 2) := by decide +kernel
theorem dX4_putEvent_21 : decode cX4_putEvent 21 = .ok (.iastore, 1) := by decide +kernel
theorem dX4_putEvent_22 : decode cX4_putEvent 22 = .ok (.return_, 1) := by decide +kernel
theorem dX4_eventsAheadOf_0 : decode cX4_eventsAheadOf 0 = .ok (.iconst 0, 1) := by decide +kernel
theorem dX4_eventsAheadOf_1 : decode cX4_eventsAheadOf 1 = .ok (.istore_n 2, 1) := by decide +kernel
theorem dX4_eventsAheadOf_2 : decode cX4_eventsAheadOf 2 = .ok (.iconst 0, 1) := by decide +kernel
theorem dX4_eventsAheadOf_3 : decode cX4_eventsAheadOf 3 = .ok (.istore_n 3, 1) := by decide +kernel
theorem dX4_eventsAheadOf_4 : decode cX4_eventsAheadOf 4 = .ok (.iload_n 3, 1) := by decide +kernel
theorem dX4_eventsAheadOf_5 : decode cX4_eventsAheadOf 5 = .ok (.aload_n 0, 1) := by decide +kernel
theorem dX4_eventsAheadOf_6 : decode cX4_eventsAheadOf 6 = .ok (.getfield 9, 3) := by decide +kernel
theorem dX4_eventsAheadOf_9 : decode cX4_eventsAheadOf 9 = .ok (.if_icmp .ge 22, 3) := by decide +kernel
theorem dX4_eventsAheadOf_12 : decode cX4_eventsAheadOf 12 = .ok (.aload_n 0, 1) := by decide +kernel
theorem dX4_eventsAheadOf_13 : decode cX4_eventsAheadOf 13 = .ok (.getfield 23, 3) := by decide +kernel
theorem dX4_eventsAheadOf_16 : decode cX4_eventsAheadOf 16 = .ok (.iload_n 3, 1) := by decide +kernel
theorem dX4_eventsAheadOf_17 : decode cX4_eventsAheadOf 17 = .ok (.iaload, 1) := by decide +kernel
theorem dX4_eventsAheadOf_18 : decode cX4_eventsAheadOf 18 = .ok (.iload_n 1, 1) := by decide +kernel
theorem dX4_eventsAheadOf_19 : decode cX4_eventsAheadOf 19 = .ok (.if_icmp .ge 6, 3) := by decide +kernel
theorem dX4_eventsAheadOf_22 : decode cX4_eventsAheadOf 22 = .ok (.iinc 2 1, 3) := by decide +kernel
theorem dX4_eventsAheadOf_25 : decode cX4_eventsAheadOf 25 = .ok (.iinc 3 1, 3) := by decide +kernel
theorem dX4_eventsAheadOf_28 : decode cX4_eventsAheadOf 28 = .ok (.goto (-24), 3) := by decide +kernel
theorem dX4_eventsAheadOf_31 : decode cX4_eventsAheadOf 31 = .ok (.iload_n 2, 1) := by decide +kernel
theorem dX4_eventsAheadOf_32 : decode cX4_eventsAheadOf 32 = .ok (.ireturn, 1) := by decide +kernel
theorem dX4_removeEventsAheadOf_0 : decode cX4_removeEventsAheadOf 0 = .ok (.iconst 0, 1) := by decide +kernel
theorem dX4_removeEventsAheadOf_1 : decode cX4_removeEventsAheadOf 1 = .ok (.istore_n 2, 1) := by decide +kernel
theorem dX4_removeEventsAheadOf_2 : decode cX4_removeEventsAheadOf 2 = .ok (.iconst 0, 1) := by decide +kernel
theorem dX4_removeEventsAheadOf_3 : decode cX4_removeEventsAheadOf 3 = .ok (.istore_n 3, 1) := by decide +kernel
theorem dX4_removeEventsAheadOf_4 : decode cX4_removeEventsAheadOf 4 = .ok (.iload_n 3, 1) := by decide +kernel
theorem dX4_removeEventsAheadOf_5 : decode cX4_removeEventsAheadOf 5 = .ok (.aload_n 0, 1) := by decide +kernel
theorem dX4_removeEventsAheadOf_6 : decode cX4_removeEventsAheadOf 6 = .ok (.getfield 9, 3) := by decide +kernel
theorem dX4_removeEventsAheadOf_9 : decode cX4_removeEventsAheadOf 9 = .ok (.if_icmp .ge 45, 3) := by decide +kernel
theorem dX4_removeEventsAheadOf_12 : decode cX4_removeEventsAheadOf 12 = .ok (.aload_n 0, 1) := by decide +kernel
theorem dX4_removeEventsAheadOf_13 : decode cX4_removeEventsAheadOf 13 = .ok (.getfield 23, 3) := by decide +kernel
theorem dX4_removeEventsAheadOf_16 : decode cX4_removeEventsAheadOf 16 = .ok (.iload_n 3, 1) := by decide +kernel
theorem dX4_removeEventsAheadOf_17 : decode cX4_removeEventsAheadOf 17 = .ok (.iaload, 1) := by decide +kernel
theorem dX4_removeEventsAheadOf_18 : decode cX4_removeEventsAheadOf 18 = .ok (.iload_n 1, 1) := by decide +kernel
theorem dX4_removeEventsAheadOf_19 : decode cX4_removeEventsAheadOf 19 = .ok (.if_icmp .lt 29, 3) := by decide +kernel
theorem dX4_removeEventsAheadOf_22 : decode cX4_removeEventsAheadOf 22 = .ok (.aload_n 0, 1) := by decide +kernel
theorem dX4_removeEventsAheadOf_23 : decode cX4_removeEventsAheadOf 23 = .ok (.iload_n 2, 1) := by decide +kernel
theorem dX4_removeEventsAheadOf_24 : decode cX4_removeEventsAheadOf 24 = .ok (.aload_n 0, 1) := by decide +kernel
theorem dX4_removeEventsAheadOf_25 : decode cX4_removeEventsAheadOf 25 = .ok (.getfield 15, 3) := by decide +kernel
theorem dX4_removeEventsAheadOf_28 : decode cX4_removeEventsAheadOf 28 = .ok (.iload_n 3, 1) := by decide +kernel
theorem dX4_removeEventsAheadOf_29 : decode cX4_removeEventsAheadOf 29 = .ok (.caload, 1) := by decide +kernel
theorem dX4_removeEventsAheadOf_30 : decode cX4_removeEventsAheadOf 30 = .ok (.aload_n 0, 1) := by decide +kernel
theorem dX4_removeEventsAheadOf_31 : decode cX4_removeEventsAheadOf 31 = .ok (.getfield 19, 3) := by decide +kernel
theorem dX4_removeEventsAheadOf_34 : decode cX4_removeEventsAheadOf 34 = .ok (.iload_n 3, 1) := by decide +kernel
theorem dX4_removeEventsAheadOf_35 : decode cX4_removeEventsAheadOf 35 = .ok (.iaload, 1) := by decide +kernel
theorem dX4_removeEventsAheadOf_36 : decode cX4_removeEventsAheadOf 36 = .ok (.aload_n 0, 1) := by decide +kernel
theorem dX4_removeEventsAheadOf_37 : decode cX4_removeEventsAheadOf 37 = .ok (.getfield 23, 3) := by decide +kernel
theorem dX4_removeEventsAheadOf_40 : decode cX4_removeEventsAheadOf 40 = .ok (.iload_n 3, 1) := by decide +kernel
theorem dX4_removeEventsAheadOf_41 : decode cX4_removeEventsAheadOf 41 = .ok (.iaload, 1) := by decide +kernel
theorem dX4_removeEventsAheadOf_42 : decode cX4_removeEventsAheadOf 42 = .ok (.invokevirtual 52, 3) := by decide +kernel
theorem dX4_removeEventsAheadOf_45 : decode cX4_removeEventsAheadOf 45 = .ok (.iinc 2 1, 3) := by decide +kernel
theorem dX4_removeEventsAheadOf_48 : decode cX4_removeEventsAheadOf 48 = .ok (.iinc 3 1, 3) := by decide +kernel
theorem dX4_removeEventsAheadOf_51 : decode cX4_removeEventsAheadOf 51 = .ok (.goto (-47), 3) := by decide +kernel
theorem dX4_removeEventsAheadOf_54 : decode cX4_removeEventsAheadOf 54 = .ok (.aload_n 0, 1) := by decide +kernel
theorem dX4_removeEventsAheadOf_55 : decode cX4_removeEventsAheadOf 55 = .ok (.iload_n 2, 1) := by decide +kernel
theorem dX4_removeEventsAheadOf_56 : decode cX4_removeEventsAheadOf 56 = .ok (.putfield 9, 3) := by decide +kernel
theorem dX4_removeEventsAheadOf_59 : decode cX4_removeEventsAheadOf 59 = .ok (.return_, 1) := by decide +kernel
theorem dX4_addCopyOf_0 : decode cX4_addCopyOf 0 = .ok (.aload_n 0, 1) := by decide +kernel
theorem dX4_addCopyOf_1 : decode cX4_addCopyOf 1 = .ok (.getfield 32, 3) := by decide +kernel
theorem dX4_addCopyOf_4 : decode cX4_addCopyOf 4 = .ok (.iconst 4, 1) := by decide +kernel
theorem dX4_addCopyOf_5 : decode cX4_addCopyOf 5 = .ok (.if_icmp .lt 6, 3) := by decide +kernel
theorem dX4_addCopyOf_8 : decode cX4_addCopyOf 8 = .ok (.bipush (-3), 2) := by decide +kernel
theorem dX4_addCopyOf_10 : decode cX4_addCopyOf 10 = .ok (.ireturn, 1) := by decide +kernel
theorem dX4_addCopyOf_11 : decode cX4_addCopyOf 11 = .ok (.aload_n 0, 1) := by decide +kernel
theorem dX4_addCopyOf_12 : decode cX4_addCopyOf 12 = .ok (.getfield 32, 3) := by decide +kernel
theorem dX4_addCopyOf_15 : decode cX4_addCopyOf 15 = .ok (.istore_n 2, 1) := by decide +kernel
theorem dX4_addCopyOf_16 : decode cX4_addCopyOf 16 = .ok (.aload_n 0, 1) := by decide +kernel
theorem dX4_addCopyOf_17 : decode cX4_addCopyOf 17 = .ok (.getfield 37, 3) := by decide +kernel
theorem dX4_addCopyOf_20 : decode cX4_addCopyOf 20 = .ok (.iload_n 2, 1) := by decide +kernel
theorem dX4_addCopyOf_21 : decode cX4_addCopyOf 21 = .ok (.aaload, 1) := by decide +kernel
theorem dX4_addCopyOf_22 : decode cX4_addCopyOf 22 = .ok (.aload_n 1, 1) := by decide +kernel
theorem dX4_addCopyOf_23 : decode cX4_addCopyOf 23 = .ok (.invokevirtual 42, 3) := by decide +kernel
theorem dX4_addCopyOf_26 : decode cX4_addCopyOf 26 = .ok (.aload_n 0, 1) := by decide +kernel
theorem dX4_addCopyOf_27 : decode cX4_addCopyOf 27 = .ok (.dup, 1) := by decide +kernel
theorem dX4_addCopyOf_28 : decode cX4_addCopyOf 28 = .ok (.getfield 32, 3) := by decide +kernel
theorem dX4_addCopyOf_31 : decode cX4_addCopyOf 31 = .ok (.iconst 1, 1) := by decide +kernel
theorem dX4_addCopyOf_32 : decode cX4_addCopyOf 32 = .ok (.iadd, 1) := by decide +kernel
theorem dX4_addCopyOf_33 : decode cX4_addCopyOf 33 = .ok (.putfield 32, 3) := by decide +kernel
theorem dX4_addCopyOf_36 : decode cX4_addCopyOf 36 = .ok (.iload_n 2, 1) := by decide +kernel
theorem dX4_addCopyOf_37 : decode cX4_addCopyOf 37 = .ok (.ireturn, 1) := by decide +kernel
theorem dX4_removePattern_0 : decode cX4_removePattern 0 = .ok (.iload_n 1, 1) := by decide +kernel
theorem dX4_removePattern_1 : decode cX4_removePattern 1 = .ok (.istore_n 2, 1) := by decide +kernel
theorem dX4_removePattern_2 : decode cX4_removePattern 2 = .ok (.iload_n 2, 1) := by decide +kernel
theorem dX4_removePattern_3 : decode cX4_removePattern 3 = .ok (.iconst 1, 1) := by decide +kernel
theorem dX4_removePattern_4 : decode cX4_removePattern 4 = .ok (.iadd, 1) := by decide +kernel
theorem dX4_removePattern_5 : decode cX4_removePattern 5 = .ok (.aload_n 0, 1) := by decide +kernel
theorem dX4_removePattern_6 : decode cX4_removePattern 6 = .ok (.getfield 32, 3) := by decide +kernel
theorem dX4_removePattern_9 : decode cX4_removePattern 9 = .ok (.if_icmp .ge 26, 3) := by decide +kernel
theorem dX4_removePattern_12 : decode cX4_removePattern 12 = .ok (.aload_n 0, 1) := by decide +kernel
theorem dX4_removePattern_13 : decode cX4_removePattern 13 = .ok (.getfield 37, 3) := by decide +kernel
theorem dX4_removePattern_16 : decode cX4_removePattern 16 = .ok (.iload_n 2, 1) := by decide +kernel
theorem dX4_removePattern_17 : decode cX4_removePattern 17 = .ok (.aaload, 1) := by decide +kernel
theorem dX4_removePattern_18 : decode cX4_removePattern 18 = .ok (.aload_n 0, 1) := by decide +kernel
theorem dX4_removePattern_19 : decode cX4_removePattern 19 = .ok (.getfield 37, 3) := by decide +kernel
theorem dX4_removePattern_22 : decode cX4_removePattern 22 = .ok (.iload_n 2, 1) := by decide +kernel
theorem dX4_removePattern_23 : decode cX4_removePattern 23 = .ok (.iconst 1, 1) := by decide +kernel
theorem dX4_removePattern_24 : decode cX4_removePattern 24 = .ok (.iadd, 1) := by decide +kernel
theorem dX4_removePattern_25 : decode cX4_removePattern 25 = .ok (.aaload, 1) := by decide +kernel
theorem dX4_removePattern_26 : decode cX4_removePattern 26 = .ok (.invokevirtual 42, 3) := by decide +kernel
theorem dX4_removePattern_29 : decode cX4_removePattern 29 = .ok (.iinc 2 1, 3) := by decide +kernel
theorem dX4_removePattern_32 : decode cX4_removePattern 32 = .ok (.goto (-30), 3) := by decide +kernel
theorem dX4_removePattern_35 : decode cX4_removePattern 35 = .ok (.aload_n 0, 1) := by decide +kernel
theorem dX4_removePattern_36 : decode cX4_removePattern 36 = .ok (.dup, 1) := by decide +kernel
theorem dX4_removePattern_37 : decode cX4_removePattern 37 = .ok (.getfield 32, 3) := by decide +kernel
theorem dX4_removePattern_40 : decode cX4_removePattern 40 = .ok (.iconst 1, 1) := by decide +kernel
theorem dX4_removePattern_41 : decode cX4_removePattern 41 = .ok (.isub, 1) := by decide +kernel
theorem dX4_removePattern_42 : decode cX4_removePattern 42 = .ok (.putfield 32, 3) := by decide +kernel
theorem dX4_removePattern_45 : decode cX4_removePattern 45 = .ok (.aload_n 0, 1) := by decide +kernel
theorem dX4_removePattern_46 : decode cX4_removePattern 46 = .ok (.getfield 32, 3) := by decide +kernel
theorem dX4_removePattern_49 : decode cX4_removePattern 49 = .ok (.ireturn, 1) := by decide +kernel
theorem dX5_init_0 : decode cX5_init 0 = .ok (.aload_n 0, 1) := by decide +kernel
theorem dX5_init_1 : decode cX5_init 1 = .ok (.invokespecial 3, 3) := by decide +kernel
theorem dX5_init_4 : decode cX5_init 4 = .ok (.aload_n 0, 1) := by decide +kernel
theorem dX5_init_5 : decode cX5_init 5 = .ok (.bipush 80, 2) := by decide +kernel
theorem dX5_init_7 : decode cX5_init 7 = .ok (.newarray .char, 2) := by decide +kernel
theorem dX5_init_9 : decode cX5_init 9 = .ok (.putfield 9, 3) := by decide +kernel
theorem dX5_init_12 : decode cX5_init 12 = .ok (.aload_n 0, 1) := by decide +kernel
theorem dX5_init_13 : decode cX5_init 13 = .ok (.iconst 0, 1) := by decide +kernel
theorem dX5_init_14 : decode cX5_init 14 = .ok (.putfield 15, 3) := by decide +kernel
theorem dX5_init_17 : decode cX5_init 17 = .ok (.aload_n 0, 1) := by decide +kernel
theorem dX5_init_18 : decode cX5_init 18 = .ok (.iconst 0, 1) := by decide +kernel
theorem dX5_init_19 : decode cX5_init 19 = .ok (.putfield 19, 3) := by decide +kernel
theorem dX5_init_22 : decode cX5_init 22 = .ok (.return_, 1) := by decide +kernel
theorem dX5_append_0 : decode cX5_append 0 = .ok (.aload_n 0, 1) := by decide +kernel
theorem dX5_append_1 : decode cX5_append 1 = .ok (.getfield 15, 3) := by decide +kernel
theorem dX5_append_4 : decode cX5_append 4 = .ok (.bipush 80, 2) := by decide +kernel
theorem dX5_append_6 : decode cX5_append 6 = .ok (.if_icmp .lt 6, 3) := by decide +kernel
theorem dX5_append_9 : decode cX5_append 9 = .ok (.bipush (-3), 2) := by decide +kernel
theorem dX5_append_11 : decode cX5_append 11 = .ok (.ireturn, 1) := by decide +kernel
theorem dX5_append_12 : decode cX5_append 12 = .ok (.aload_n 0, 1) := by decide +kernel
theorem dX5_append_13 : decode cX5_append 13 = .ok (.getfield 9, 3) := by decide +kernel
theorem dX5_append_16 : decode cX5_append 16 = .ok (.aload_n 0, 1) := by decide +kernel
theorem dX5_append_17 : decode cX5_append 17 = .ok (.getfield 15, 3) := by decide +kernel
theorem dX5_append_20 : decode cX5_append 20 = .ok (.iload_n 1, 1) := by decide +kernel
theorem dX5_append_21 : decode cX5_append 21 = .ok (.castore, 1) := by decide +kernel
theorem dX5_append_22 : decode cX5_append 22 = .ok (.aload_n 0, 1) := by decide +kernel
theorem dX5_append_23 : decode cX5_append 23 = .ok (.dup, 1) := by decide +kernel
theorem dX5_append_24 : decode cX5_append 24 = .ok (.getfield 15, 3) := by decide +kernel
theorem dX5_append_27 : decode cX5_append 27 = .ok (.iconst 1, 1) := by decide +kernel
theorem dX5_append_28 : decode cX5_append 28 = .ok (.iadd, 1) := by decide +kernel
theorem dX5_append_29 : decode cX5_append 29 = .ok (.putfield 15, 3) := by decide +kernel
theorem dX5_append_32 : decode cX5_append 32 = .ok (.aload_n 0, 1) := by decide +kernel
theorem dX5_append_33 : decode cX5_append 33 = .ok (.getfield 15, 3) := by decide +kernel
theorem dX5_append_36 : decode cX5_append 36 = .ok (.ireturn, 1) := by decide +kernel
theorem dX5_readInto_0 : decode cX5_readInto 0 = .ok (.aload_n 0, 1) := by decide +kernel
theorem dX5_readInto_1 : decode cX5_readInto 1 = .ok (.iconst 0, 1) := by decide +kernel
theorem dX5_readInto_2 : decode cX5_readInto 2 = .ok (.putfield 19, 3) := by decide +kernel
theorem dX5_readInto_5 : decode cX5_readInto 5 = .ok (.aload_n 1, 1) := by decide +kernel
theorem dX5_readInto_6 : decode cX5_readInto 6 = .ok (.invokevirtual 22, 3) := by decide +kernel
theorem dX5_readInto_9 : decode cX5_readInto 9 = .ok (.aload_n 0, 1) := by decide +kernel
theorem dX5_readInto_10 : decode cX5_readInto 10 = .ok (.ldc 27, 2) := by decide +kernel
theorem dX5_readInto_12 : decode cX5_readInto 12 = .ok (.invokevirtual 29, 3) := by decide +kernel
theorem dX5_readInto_15 : decode cX5_readInto 15 = .ok (.ifCond .eq 40, 3) := by decide +kernel
theorem dX5_readInto_18 : decode cX5_readInto 18 = .ok (.aload_n 0, 1) := by decide +kernel
theorem dX5_readInto_19 : decode cX5_readInto 19 = .ok (.aload_n 1, 1) := by decide +kernel
theorem dX5_readInto_20 : decode cX5_readInto 20 = .ok (.invokevirtual 33, 3) := by decide +kernel
theorem dX5_readInto_23 : decode cX5_readInto 23 = .ok (.ifCond .eq 32, 3) := by decide +kernel
theorem dX5_readInto_26 : decode cX5_readInto 26 = .ok (.aload_n 0, 1) := by decide +kernel
theorem dX5_readInto_27 : decode cX5_readInto 27 = .ok (.ldc 37, 2) := by decide +kernel
theorem dX5_readInto_29 : decode cX5_readInto 29 = .ok (.invokevirtual 29, 3) := by decide +kernel
theorem dX5_readInto_32 : decode cX5_readInto 32 = .ok (.ifCond .eq 23, 3) := by decide +kernel
theorem dX5_readInto_35 : decode cX5_readInto 35 = .ok (.aload_n 0, 1) := by decide +kernel
theorem dX5_readInto_36 : decode cX5_readInto 36 = .ok (.aload_n 1, 1) := by decide +kernel
theorem dX5_readInto_37 : decode cX5_readInto 37 = .ok (.invokevirtual 39, 3) := by decide +kernel
theorem dX5_readInto_40 : decode cX5_readInto 40 = .ok (.ifCond .eq 15, 3) := by decide +kernel
theorem dX5_readInto_43 : decode cX5_readInto 43 = .ok (.aload_n 0, 1) := by decide +kernel
theorem dX5_readInto_44 : decode cX5_readInto 44 = .ok (.aload_n 1, 1) := by decide +kernel
theorem dX5_readInto_45 : decode cX5_readInto 45 = .ok (.invokevirtual 42, 3) := by decide +kernel
theorem dX5_readInto_48 : decode cX5_readInto 48 = .ok (.ifCond .eq 7, 3) := by decide +kernel
theorem dX5_readInto_51 : decode cX5_readInto 51 = .ok (.iconst 1, 1) := by decide +kernel
theorem dX5_readInto_52 : decode cX5_readInto 52 = .ok (.goto 4, 3) := by decide +kernel
theorem dX5_readInto_55 : decode cX5_readInto 55 = .ok (.iconst 0, 1) := by decide +kernel
theorem dX5_readInto_56 : decode cX5_readInto 56 = .ok (.istore_n 2, 1) := by decide +kernel
theorem dX5_readInto_57 : decode cX5_readInto 57 = .ok (.iload_n 2, 1) := by decide +kernel
theorem dX5_readInto_58 : decode cX5_readInto 58 = .ok (.ifCond .eq 7, 3) := by decide +kernel
theorem dX5_readInto_61 : decode cX5_readInto 61 = .ok (.iconst (-1), 1) := by decide +kernel
theorem dX5_readInto_62 : decode cX5_readInto 62 = .ok (.goto 7, 3) := by decide +kernel
theorem dX5_readInto_65 : decode cX5_readInto 65 = .ok (.aload_n 0, 1) := by decide +kernel
theorem dX5_readInto_66 : decode cX5_readInto 66 = .ok (.getfield 19, 3) := by decide +kernel
theorem dX5_readInto_69 : decode cX5_readInto 69 = .ok (.ireturn, 1) := by decide +kernel
theorem dX5_next_0 : decode cX5_next 0 = .ok (.aload_n 0, 1) := by decide +kernel
theorem dX5_next_1 : decode cX5_next 1 = .ok (.getfield 19, 3) := by decide +kernel
theorem dX5_next_4 : decode cX5_next 4 = .ok (.aload_n 0, 1) := by decide +kernel
theorem dX5_next_5 : decode cX5_next 5 = .ok (.getfield 15, 3) := by decide +kernel
theorem dX5_next_8 : decode cX5_next 8 = .ok (.if_icmp .ge 15, 3) := by decide +kernel
theorem dX5_next_11 : decode cX5_next 11 = .ok (.aload_n 0, 1) := by decide +kernel
theorem dX5_next_12 : decode cX5_next 12 = .ok (.getfield 9, 3) := by decide +kernel
theorem dX5_next_15 : decode cX5_next 15 = .ok (.aload_n 0, 1) := by decide +kernel
theorem dX5_next_16 : decode cX5_next 16 = .ok (.getfield 19, 3) := by decide +kernel
theorem dX5_next_19 : decode cX5_next 19 = .ok (.caload, 1) := by decide +kernel
theorem dX5_next_20 : decode cX5_next 20 = .ok (.goto 4, 3) := by decide +kernel
theorem dX5_next_23 : decode cX5_next 23 = .ok (.iconst 0, 1) := by decide +kernel
theorem dX5_next_24 : decode cX5_next 24 = .ok (.ireturn, 1) := by decide +kernel
theorem dX5_takesWord_0 : decode cX5_takesWord 0 = .ok (.iconst 0, 1) := by decide +kernel
theorem dX5_takesWord_1 : decode cX5_takesWord 1 = .ok (.istore_n 2, 1) := by decide +kernel
theorem dX5_takesWord_2 : decode cX5_takesWord 2 = .ok (.iload_n 2, 1) := by decide +kernel
theorem dX5_takesWord_3 : decode cX5_takesWord 3 = .ok (.aload_n 1, 1) := by decide +kernel
theorem dX5_takesWord_4 : decode cX5_takesWord 4 = .ok (.invokevirtual 45, 3) := by decide +kernel
theorem dX5_takesWord_7 : decode cX5_takesWord 7 = .ok (.if_icmp .ge 49, 3) := by decide +kernel
theorem dX5_takesWord_10 : decode cX5_takesWord 10 = .ok (.aload_n 0, 1) := by decide +kernel
theorem dX5_takesWord_11 : decode cX5_takesWord 11 = .ok (.getfield 19, 3) := by decide +kernel
theorem dX5_takesWord_14 : decode cX5_takesWord 14 = .ok (.aload_n 0, 1) := by decide +kernel
theorem dX5_takesWord_15 : decode cX5_takesWord 15 = .ok (.getfield 15, 3) := by decide +kernel
theorem dX5_takesWord_18 : decode cX5_takesWord 18 = .ok (.if_icmp .ge 20, 3) := by decide +kernel
theorem dX5_takesWord_21 : decode cX5_takesWord 21 = .ok (.aload_n 0, 1) := by decide +kernel
theorem dX5_takesWord_22 : decode cX5_takesWord 22 = .ok (.getfield 9, 3) := by decide +kernel
theorem dX5_takesWord_25 : decode cX5_takesWord 25 = .ok (.aload_n 0, 1) := by decide +kernel
theorem dX5_takesWord_26 : decode cX5_takesWord 26 = .ok (.getfield 19, 3) := by decide +kernel
theorem dX5_takesWord_29 : decode cX5_takesWord 29 = .ok (.caload, 1) := by decide +kernel
theorem dX5_takesWord_30 : decode cX5_takesWord 30 = .ok (.aload_n 1, 1) := by decide +kernel
theorem dX5_takesWord_31 : decode cX5_takesWord 31 = .ok (.iload_n 2, 1) := by decide +kernel
theorem dX5_takesWord_32 : decode cX5_takesWord 32 = .ok (.invokevirtual 50, 3) := by decide +kernel
theorem dX5_takesWord_35 : decode cX5_takesWord 35 = .ok (.if_icmp .eq 5, 3) := by decide +kernel
theorem dX5_takesWord_38 : decode cX5_takesWord 38 = .ok (.iconst 0, 1) := by decide +kernel
theorem dX5_takesWord_39 : decode cX5_takesWord 39 = .ok (.ireturn, 1) := by decide +kernel
theorem dX5_takesWord_40 : decode cX5_takesWord 40 = .ok (.aload_n 0, 1) := by decide +kernel
theorem dX5_takesWord_41 : decode cX5_takesWord 41 = .ok (.dup, 1) := by decide +kernel
theorem dX5_takesWord_42 : decode cX5_takesWord 42 = .ok (.getfield 19, 3) := by decide +kernel
theorem dX5_takesWord_45 : decode cX5_takesWord 45 = .ok (.iconst 1, 1) := by decide +kernel
theorem dX5_takesWord_46 : decode cX5_takesWord 46 = .ok (.iadd, 1) := by decide +kernel
theorem dX5_takesWord_47 : decode cX5_takesWord 47 = .ok (.putfield 19, 3) := by decide +kernel
theorem dX5_takesWord_50 : decode cX5_takesWord 50 = .ok (.iinc 2 1, 3) := by decide +kernel
theorem dX5_takesWord_53 : decode cX5_takesWord 53 = .ok (.goto (-51), 3) := by decide +kernel
theorem dX5_takesWord_56 : decode cX5_takesWord 56 = .ok (.iconst 1, 1) := by decide +kernel
theorem dX5_takesWord_57 : decode cX5_takesWord 57 = .ok (.ireturn, 1) := by decide +kernel
theorem dX5_takesWindow_0 : decode cX5_takesWindow 0 = .ok (.iconst 0, 1) := by decide +kernel
theorem dX5_takesWindow_1 : decode cX5_takesWindow 1 = .ok (.istore_n 2, 1) := by decide +kernel
theorem dX5_takesWindow_2 : decode cX5_takesWindow 2 = .ok (.aload_n 0, 1) := by decide +kernel
theorem dX5_takesWindow_3 : decode cX5_takesWindow 3 = .ok (.getfield 19, 3) := by decide +kernel
theorem dX5_takesWindow_6 : decode cX5_takesWindow 6 = .ok (.aload_n 0, 1) := by decide +kernel
theorem dX5_takesWindow_7 : decode cX5_takesWindow 7 = .ok (.getfield 15, 3) := by decide +kernel
theorem dX5_takesWindow_10 : decode cX5_takesWindow 10 = .ok (.if_icmp .ge 68, 3) := by decide +kernel
theorem dX5_takesWindow_13 : decode cX5_takesWindow 13 = .ok (.aload_n 0, 1) := by decide +kernel
theorem dX5_takesWindow_14 : decode cX5_takesWindow 14 = .ok (.getfield 9, 3) := by decide +kernel
theorem dX5_takesWindow_17 : decode cX5_takesWindow 17 = .ok (.aload_n 0, 1) := by decide +kernel
theorem dX5_takesWindow_18 : decode cX5_takesWindow 18 = .ok (.getfield 19, 3) := by decide +kernel
theorem dX5_takesWindow_21 : decode cX5_takesWindow 21 = .ok (.caload, 1) := by decide +kernel
theorem dX5_takesWindow_22 : decode cX5_takesWindow 22 = .ok (.bipush 48, 2) := by decide +kernel
theorem dX5_takesWindow_24 : decode cX5_takesWindow 24 = .ok (.bipush 57, 2) := by decide +kernel
theorem dX5_takesWindow_26 : decode cX5_takesWindow 26 = .ok (.invokestatic 54, 3) := by decide +kernel
theorem dX5_takesWindow_29 : decode cX5_takesWindow 29 = .ok (.ifCond .eq 49, 3) := by decide +kernel
theorem dX5_takesWindow_32 : decode cX5_takesWindow 32 = .ok (.iload_n 2, 1) := by decide +kernel
theorem dX5_takesWindow_33 : decode cX5_takesWindow 33 = .ok (.bipush 10, 2) := by decide +kernel
theorem dX5_takesWindow_35 : decode cX5_takesWindow 35 = .ok (.imul, 1) := by decide +kernel
theorem dX5_takesWindow_36 : decode cX5_takesWindow 36 = .ok (.aload_n 0, 1) := by decide +kernel
theorem dX5_takesWindow_37 : decode cX5_takesWindow 37 = .ok (.getfield 9, 3) := by decide +kernel
theorem dX5_takesWindow_40 : decode cX5_takesWindow 40 = .ok (.aload_n 0, 1) := by decide +kernel
theorem dX5_takesWindow_41 : decode cX5_takesWindow 41 = .ok (.getfield 19, 3) := by decide +kernel
theorem dX5_takesWindow_44 : decode cX5_takesWindow 44 = .ok (.caload, 1) := by decide +kernel
theorem dX5_takesWindow_45 : decode cX5_takesWindow 45 = .ok (.bipush 48, 2) := by decide +kernel
theorem dX5_takesWindow_47 : decode cX5_takesWindow 47 = .ok (.isub, 1) := by decide +kernel
theorem dX5_takesWindow_48 : decode cX5_takesWindow 48 = .ok (.iadd, 1) := by decide +kernel
theorem dX5_takesWindow_49 : decode cX5_takesWindow 49 = .ok (.istore_n 3, 1) := by decide +kernel
theorem dX5_takesWindow_50 : decode cX5_takesWindow 50 = .ok (.iload_n 3, 1) := by decide +kernel
theorem dX5_takesWindow_51 : decode cX5_takesWindow 51 = .ok (.iconst 1, 1) := by decide +kernel
theorem dX5_takesWindow_52 : decode cX5_takesWindow 52 = .ok (.sipush 1000, 3) := by decide +kernel
theorem dX5_takesWindow_55 : decode cX5_takesWindow 55 = .ok (.invokestatic 54, 3) := by decide +kernel
theorem dX5_takesWindow_58 : decode cX5_takesWindow 58 = .ok (.ifCond .ne 5, 3) := by decide +kernel
theorem dX5_takesWindow_61 : decode cX5_takesWindow 61 = .ok (.iconst 0, 1) := by decide +kernel
theorem dX5_takesWindow_62 : decode cX5_takesWindow 62 = .ok (.ireturn, 1) := by decide +kernel
theorem dX5_takesWindow_63 : decode cX5_takesWindow 63 = .ok (.iload_n 3, 1) := by decide +kernel
theorem dX5_takesWindow_64 : decode cX5_takesWindow 64 = .ok (.istore_n 2, 1) := by decide +kernel
theorem dX5_takesWindow_65 : decode cX5_takesWindow 65 = .ok (.aload_n 0, 1) := by decide +kernel
theorem dX5_takesWindow_66 : decode cX5_takesWindow 66 = .ok (.dup, 1) := by decide +kernel
theorem dX5_takesWindow_67 : decode cX5_takesWindow 67 = .ok (.getfield 19, 3) := by decide +kernel
theorem dX5_takesWindow_70 : decode cX5_takesWindow 70 = .ok (.iconst 1, 1) := by decide +kernel
theorem dX5_takesWindow_71 : decode cX5_takesWindow 71 = .ok (.iadd, 1) := by decide +kernel
theorem dX5_takesWindow_72 : decode cX5_takesWindow 72 = .ok (.putfield 19, 3) := by decide +kernel
theorem dX5_takesWindow_75 : decode cX5_takesWindow 75 = .ok (.goto (-73), 3) := by decide +kernel
theorem dX5_takesWindow_78 : decode cX5_takesWindow 78 = .ok (.aload_n 1, 1) := by decide +kernel
theorem dX5_takesWindow_79 : decode cX5_takesWindow 79 = .ok (.iload_n 2, 1) := by decide +kernel
theorem dX5_takesWindow_80 : decode cX5_takesWindow 80 = .ok (.putfield 58, 3) := by decide +kernel
theorem dX5_takesWindow_83 : decode cX5_takesWindow 83 = .ok (.iload_n 2, 1) := by decide +kernel
theorem dX5_takesWindow_84 : decode cX5_takesWindow 84 = .ok (.ifCond .le 7, 3) := by decide +kernel
theorem dX5_takesWindow_87 : decode cX5_takesWindow 87 = .ok (.iconst 1, 1) := by decide +kernel
theorem dX5_takesWindow_88 : decode cX5_takesWindow 88 = .ok (.goto 4, 3) := by decide +kernel
theorem dX5_takesWindow_91 : decode cX5_takesWindow 91 = .ok (.iconst 0, 1) := by decide +kernel
theorem dX5_takesWindow_92 : decode cX5_takesWindow 92 = .ok (.ireturn, 1) := by decide +kernel
theorem dX5_takesRule_0 : decode cX5_takesRule 0 = .ok (.aload_n 1, 1) := by decide +kernel
theorem dX5_takesRule_1 : decode cX5_takesRule 1 = .ok (.iconst 0, 1) := by decide +kernel
theorem dX5_takesRule_2 : decode cX5_takesRule 2 = .ok (.putfield 61, 3) := by decide +kernel
theorem dX5_takesRule_5 : decode cX5_takesRule 5 = .ok (.aload_n 0, 1) := by decide +kernel
theorem dX5_takesRule_6 : decode cX5_takesRule 6 = .ok (.invokevirtual 64, 3) := by decide +kernel
theorem dX5_takesRule_9 : decode cX5_takesRule 9 = .ok (.bipush 114, 2) := by decide +kernel
theorem dX5_takesRule_11 : decode cX5_takesRule 11 = .ok (.if_icmp .ne 15, 3) := by decide +kernel
theorem dX5_takesRule_14 : decode cX5_takesRule 14 = .ok (.aload_n 1, 1) := by decide +kernel
theorem dX5_takesRule_15 : decode cX5_takesRule 15 = .ok (.iconst 1, 1) := by decide +kernel
theorem dX5_takesRule_16 : decode cX5_takesRule 16 = .ok (.putfield 61, 3) := by decide +kernel
theorem dX5_takesRule_19 : decode cX5_takesRule 19 = .ok (.aload_n 0, 1) := by decide +kernel
theorem dX5_takesRule_20 : decode cX5_takesRule 20 = .ok (.ldc 68, 2) := by decide +kernel
theorem dX5_takesRule_22 : decode cX5_takesRule 22 = .ok (.invokevirtual 29, 3) := by decide +kernel
theorem dX5_takesRule_25 : decode cX5_takesRule 25 = .ok (.ireturn, 1) := by decide +kernel
theorem dX5_takesRule_26 : decode cX5_takesRule 26 = .ok (.aload_n 0, 1) := by decide +kernel
theorem dX5_takesRule_27 : decode cX5_takesRule 27 = .ok (.invokevirtual 64, 3) := by decide +kernel
theorem dX5_takesRule_30 : decode cX5_takesRule 30 = .ok (.bipush 97, 2) := by decide +kernel
theorem dX5_takesRule_32 : decode cX5_takesRule 32 = .ok (.if_icmp .ne 44, 3) := by decide +kernel
theorem dX5_takesRule_35 : decode cX5_takesRule 35 = .ok (.aload_n 0, 1) := by decide +kernel
theorem dX5_takesRule_36 : decode cX5_takesRule 36 = .ok (.getfield 19, 3) := by decide +kernel
theorem dX5_takesRule_39 : decode cX5_takesRule 39 = .ok (.iconst 1, 1) := by decide +kernel
theorem dX5_takesRule_40 : decode cX5_takesRule 40 = .ok (.iadd, 1) := by decide +kernel
theorem dX5_takesRule_41 : decode cX5_takesRule 41 = .ok (.aload_n 0, 1) := by decide +kernel
theorem dX5_takesRule_42 : decode cX5_takesRule 42 = .ok (.getfield 15, 3) := by decide +kernel
theorem dX5_takesRule_45 : decode cX5_takesRule 45 = .ok (.if_icmp .ge 31, 3) := by decide +kernel
theorem dX5_takesRule_48 : decode cX5_takesRule 48 = .ok (.aload_n 0, 1) := by decide +kernel
theorem dX5_takesRule_49 : decode cX5_takesRule 49 = .ok (.getfield 9, 3) := by decide +kernel
theorem dX5_takesRule_52 : decode cX5_takesRule 52 = .ok (.aload_n 0, 1) := by decide +kernel
theorem dX5_takesRule_53 : decode cX5_takesRule 53 = .ok (.getfield 19, 3) := by decide +kernel
theorem dX5_takesRule_56 : decode cX5_takesRule 56 = .ok (.iconst 1, 1) := by decide +kernel
theorem dX5_takesRule_57 : decode cX5_takesRule 57 = .ok (.iadd, 1) := by decide +kernel
theorem dX5_takesRule_58 : decode cX5_takesRule 58 = .ok (.caload, 1) := by decide +kernel
theorem dX5_takesRule_59 : decode cX5_takesRule 59 = .ok (.bipush 108, 2) := by decide +kernel
theorem dX5_takesRule_61 : decode cX5_takesRule 61 = .ok (.if_icmp .ne 15, 3) := by decide +kernel
theorem dX5_takesRule_64 : decode cX5_takesRule 64 = .ok (.aload_n 1, 1) := by decide +kernel
theorem dX5_takesRule_65 : decode cX5_takesRule 65 = .ok (.iconst 2, 1) := by decide +kernel
theorem dX5_takesRule_66 : decode cX5_takesRule 66 = .ok (.putfield 61, 3) := by decide +kernel
theorem dX5_takesRule_69 : decode cX5_takesRule 69 = .ok (.aload_n 0, 1) := by decide +kernel
theorem dX5_takesRule_70 : decode cX5_takesRule 70 = .ok (.ldc 70, 2) := by decide +kernel
theorem dX5_takesRule_72 : decode cX5_takesRule 72 = .ok (.invokevirtual 29, 3) := by decide +kernel
theorem dX5_takesRule_75 : decode cX5_takesRule 75 = .ok (.ireturn, 1) := by decide +kernel
theorem dX5_takesRule_76 : decode cX5_takesRule 76 = .ok (.iconst 1, 1) := by decide +kernel
theorem dX5_takesRule_77 : decode cX5_takesRule 77 = .ok (.ireturn, 1) := by decide +kernel
theorem dX5_takesSteps_0 : decode cX5_takesSteps 0 = .ok (.iconst 0, 1) := by decide +kernel
theorem dX5_takesSteps_1 : decode cX5_takesSteps 1 = .ok (.istore_n 2, 1) := by decide +kernel
theorem dX5_takesSteps_2 : decode cX5_takesSteps 2 = .ok (.iload_n 2, 1) := by decide +kernel
theorem dX5_takesSteps_3 : decode cX5_takesSteps 3 = .ok (.bipush 8, 2) := by decide +kernel
theorem dX5_takesSteps_5 : decode cX5_takesSteps 5 = .ok (.if_icmp .gt 62, 3) := by decide +kernel
theorem dX5_takesSteps_8 : decode cX5_takesSteps 8 = .ok (.aload_n 0, 1) := by decide +kernel
theorem dX5_takesSteps_9 : decode cX5_takesSteps 9 = .ok (.aload_n 1, 1) := by decide +kernel
theorem dX5_takesSteps_10 : decode cX5_takesSteps 10 = .ok (.invokevirtual 72, 3) := by decide +kernel
theorem dX5_takesSteps_13 : decode cX5_takesSteps 13 = .ok (.ifCond .ne 5, 3) := by decide +kernel
theorem dX5_takesSteps_16 : decode cX5_takesSteps 16 = .ok (.iconst 0, 1) := by decide +kernel
theorem dX5_takesSteps_17 : decode cX5_takesSteps 17 = .ok (.ireturn, 1) := by decide +kernel
theorem dX5_takesSteps_18 : decode cX5_takesSteps 18 = .ok (.aload_n 0, 1) := by decide +kernel
theorem dX5_takesSteps_19 : decode cX5_takesSteps 19 = .ok (.getfield 19, 3) := by decide +kernel
theorem dX5_takesSteps_22 : decode cX5_takesSteps 22 = .ok (.aload_n 0, 1) := by decide +kernel
theorem dX5_takesSteps_23 : decode cX5_takesSteps 23 = .ok (.getfield 15, 3) := by decide +kernel
theorem dX5_takesSteps_26 : decode cX5_takesSteps 26 = .ok (.if_icmp .lt 24, 3) := by decide +kernel
theorem dX5_takesSteps_29 : decode cX5_takesSteps 29 = .ok (.aload_n 1, 1) := by decide +kernel
theorem dX5_takesSteps_30 : decode cX5_takesSteps 30 = .ok (.invokevirtual 75, 3) := by decide +kernel
theorem dX5_takesSteps_33 : decode cX5_takesSteps 33 = .ok (.ifCond .eq 15, 3) := by decide +kernel
theorem dX5_takesSteps_36 : decode cX5_takesSteps 36 = .ok (.aload_n 1, 1) := by decide +kernel
theorem dX5_takesSteps_37 : decode cX5_takesSteps 37 = .ok (.getfield 79, 3) := by decide +kernel
theorem dX5_takesSteps_40 : decode cX5_takesSteps 40 = .ok (.iconst 1, 1) := by decide +kernel
theorem dX5_takesSteps_41 : decode cX5_takesSteps 41 = .ok (.if_icmp .le 7, 3) := by decide +kernel
theorem dX5_takesSteps_44 : decode cX5_takesSteps 44 = .ok (.iconst 1, 1) := by decide +kernel
theorem dX5_takesSteps_45 : decode cX5_takesSteps 45 = .ok (.goto 4, 3) := by decide +kernel
theorem dX5_takesSteps_48 : decode cX5_takesSteps 48 = .ok (.iconst 0, 1) := by decide +kernel
theorem dX5_takesSteps_49 : decode cX5_takesSteps 49 = .ok (.ireturn, 1) := by decide +kernel
theorem dX5_takesSteps_50 : decode cX5_takesSteps 50 = .ok (.aload_n 0, 1) := by decide +kernel
theorem dX5_takesSteps_51 : decode cX5_takesSteps 51 = .ok (.ldc 82, 2) := by decide +kernel
theorem dX5_takesSteps_53 : decode cX5_takesSteps 53 = .ok (.invokevirtual 29, 3) := by decide +kernel
theorem dX5_takesSteps_56 : decode cX5_takesSteps 56 = .ok (.ifCond .ne 5, 3) := by decide +kernel
theorem dX5_takesSteps_59 : decode cX5_takesSteps 59 = .ok (.iconst 0, 1) := by decide +kernel
theorem dX5_takesSteps_60 : decode cX5_takesSteps 60 = .ok (.ireturn, 1) := by decide +kernel
theorem dX5_takesSteps_61 : decode cX5_takesSteps 61 = .ok (.iinc 2 1, 3) := by decide +kernel
theorem dX5_takesSteps_64 : decode cX5_takesSteps 64 = .ok (.goto (-62), 3) := by decide +kernel
theorem dX5_takesSteps_67 : decode cX5_takesSteps 67 = .ok (.iconst 0, 1) := by decide +kernel
theorem dX5_takesSteps_68 : decode cX5_takesSteps 68 = .ok (.ireturn, 1) := by decide +kernel
theorem dX5_takesStep_0 : decode cX5_takesStep 0 = .ok (.aload_n 0, 1) := by decide +kernel
theorem dX5_takesStep_1 : decode cX5_takesStep 1 = .ok (.invokevirtual 64, 3) := by decide +kernel
theorem dX5_takesStep_4 : decode cX5_takesStep 4 = .ok (.bipush 110, 2) := by decide +kernel
theorem dX5_takesStep_6 : decode cX5_takesStep 6 = .ok (.if_icmp .ne 7, 3) := by decide +kernel
theorem dX5_takesStep_9 : decode cX5_takesStep 9 = .ok (.iconst 1, 1) := by decide +kernel
theorem dX5_takesStep_10 : decode cX5_takesStep 10 = .ok (.goto 4, 3) := by decide +kernel
theorem dX5_takesStep_13 : decode cX5_takesStep 13 = .ok (.iconst 0, 1) := by decide +kernel
theorem dX5_takesStep_14 : decode cX5_takesStep 14 = .ok (.istore_n 2, 1) := by decide +kernel
theorem dX5_takesStep_15 : decode cX5_takesStep 15 = .ok (.iload_n 2, 1) := by decide +kernel
theorem dX5_takesStep_16 : decode cX5_takesStep 16 = .ok (.ifCond .eq 21, 3) := by decide +kernel
theorem dX5_takesStep_19 : decode cX5_takesStep 19 = .ok (.aload_n 1, 1) := by decide +kernel
theorem dX5_takesStep_20 : decode cX5_takesStep 20 = .ok (.invokevirtual 75, 3) := by decide +kernel
theorem dX5_takesStep_23 : decode cX5_takesStep 23 = .ok (.ifCond .eq 12, 3) := by decide +kernel
theorem dX5_takesStep_26 : decode cX5_takesStep 26 = .ok (.aload_n 0, 1) := by decide +kernel
theorem dX5_takesStep_27 : decode cX5_takesStep 27 = .ok (.ldc 84, 2) := by decide +kernel
theorem dX5_takesStep_29 : decode cX5_takesStep 29 = .ok (.invokevirtual 29, 3) := by decide +kernel
theorem dX5_takesStep_32 : decode cX5_takesStep 32 = .ok (.ifCond .ne 15, 3) := by decide +kernel
theorem dX5_takesStep_35 : decode cX5_takesStep 35 = .ok (.iconst 0, 1) := by decide +kernel
theorem dX5_takesStep_36 : decode cX5_takesStep 36 = .ok (.ireturn, 1) := by decide +kernel
theorem dX5_takesStep_37 : decode cX5_takesStep 37 = .ok (.aload_n 1, 1) := by decide +kernel
theorem dX5_takesStep_38 : decode cX5_takesStep 38 = .ok (.getfield 86, 3) := by decide +kernel
theorem dX5_takesStep_41 : decode cX5_takesStep 41 = .ok (.iconst 4, 1) := by decide +kernel
theorem dX5_takesStep_42 : decode cX5_takesStep 42 = .ok (.if_icmp .lt 5, 3) := by decide +kernel
theorem dX5_takesStep_45 : decode cX5_takesStep 45 = .ok (.iconst 0, 1) := by decide +kernel
theorem dX5_takesStep_46 : decode cX5_takesStep 46 = .ok (.ireturn, 1) := by decide +kernel
theorem dX5_takesStep_47 : decode cX5_takesStep 47 = .ok (.aload_n 0, 1) := by decide +kernel
theorem dX5_takesStep_48 : decode cX5_takesStep 48 = .ok (.invokevirtual 64, 3) := by decide +kernel
theorem dX5_takesStep_51 : decode cX5_takesStep 51 = .ok (.istore_n 3, 1) := by decide +kernel
theorem dX5_takesStep_52 : decode cX5_takesStep 52 = .ok (.iload_n 3, 1) := by decide +kernel
theorem dX5_takesStep_53 : decode cX5_takesStep 53 = .ok (.invokestatic 89, 3) := by decide +kernel
theorem dX5_takesStep_56 : decode cX5_takesStep 56 = .ok (.ifCond .eq 10, 3) := by decide +kernel
theorem dX5_takesStep_59 : decode cX5_takesStep 59 = .ok (.aload_n 1, 1) := by decide +kernel
theorem dX5_takesStep_60 : decode cX5_takesStep 60 = .ok (.invokevirtual 93, 3) := by decide +kernel
theorem dX5_takesStep_63 : decode cX5_takesStep 63 = .ok (.ifCond .ne 5, 3) := by decide +kernel
theorem dX5_takesStep_66 : decode cX5_takesStep 66 = .ok (.iconst 0, 1) := by decide +kernel
theorem dX5_takesStep_67 : decode cX5_takesStep 67 = .ok (.ireturn, 1) := by decide +kernel
theorem dX5_takesStep_68 : decode cX5_takesStep 68 = .ok (.aload_n 1, 1) := by decide +kernel
theorem dX5_takesStep_69 : decode cX5_takesStep 69 = .ok (.iload_n 3, 1) := by decide +kernel
theorem dX5_takesStep_70 : decode cX5_takesStep 70 = .ok (.iload_n 2, 1) := by decide +kernel
theorem dX5_takesStep_71 : decode cX5_takesStep 71 = .ok (.invokevirtual 96, 3) := by decide +kernel
theorem dX5_takesStep_74 : decode cX5_takesStep 74 = .ok (.aload_n 0, 1) := by decide +kernel
theorem dX5_takesStep_75 : decode cX5_takesStep 75 = .ok (.dup, 1) := by decide +kernel
theorem dX5_takesStep_76 : decode cX5_takesStep 76 = .ok (.getfield 19, 3) := by decide +kernel
theorem dX5_takesStep_79 : decode cX5_takesStep 79 = .ok (.iconst 1, 1) := by decide +kernel
theorem dX5_takesStep_80 : decode cX5_takesStep 80 = .ok (.iadd, 1) := by decide +kernel
theorem dX5_takesStep_81 : decode cX5_takesStep 81 = .ok (.putfield 19, 3) := by decide +kernel
theorem dX5_takesStep_84 : decode cX5_takesStep 84 = .ok (.iconst 1, 1) := by decide +kernel
theorem dX5_takesStep_85 : decode cX5_takesStep 85 = .ok (.ireturn, 1) := by decide +kernel
theorem dX6_init_0 : decode cX6_init 0 = .ok (.aload_n 0, 1) := by decide +kernel
theorem dX6_init_1 : decode cX6_init 1 = .ok (.invokespecial 1, 3) := by decide +kernel
theorem dX6_init_4 : decode cX6_init 4 = .ok (.aload_n 0, 1) := by decide +kernel
theorem dX6_init_5 : decode cX6_init 5 = .ok (.new 7, 3) := by decide +kernel
theorem dX6_init_8 : decode cX6_init 8 = .ok (.dup, 1) := by decide +kernel
theorem dX6_init_9 : decode cX6_init 9 = .ok (.invokespecial 9, 3) := by decide +kernel
theorem dX6_init_12 : decode cX6_init 12 = .ok (.putfield 10, 3) := by decide +kernel
