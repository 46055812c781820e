theorem dX0_init_0 : decode cX0_init 0 = .ok (.aload_n 0, 1) := by decide +kernel
theorem dX0_init_1 : decode cX0_init 1 = .ok (.invokespecial 3, 3) := by decide +kernel
theorem dX0_init_4 : decode cX0_init 4 = .ok (.aload_n 0, 1) := by decide +kernel
theorem dX0_init_5 : decode cX0_init 5 = .ok (.bipush 32, 2) := by decide +kernel
theorem dX0_init_7 : decode cX0_init 7 = .ok (.newarray .int, 2) := by decide +kernel
theorem dX0_init_9 : decode cX0_init 9 = .ok (.putfield 9, 3) := by decide +kernel
theorem dX0_init_12 : decode cX0_init 12 = .ok (.aload_n 0, 1) := by decide +kernel
theorem dX0_init_13 : decode cX0_init 13 = .ok (.bipush 32, 2) := by decide +kernel
theorem dX0_init_15 : decode cX0_init 15 = .ok (.newarray .int, 2) := by decide +kernel
theorem dX0_init_17 : decode cX0_init 17 = .ok (.putfield 15, 3) := by decide +kernel
theorem dX0_init_20 : decode cX0_init 20 = .ok (.return_, 1) := by decide +kernel
theorem dX0_restart_0 : decode cX0_restart 0 = .ok (.aload_n 0, 1) := by decide +kernel
theorem dX0_restart_1 : decode cX0_restart 1 = .ok (.iconst 0, 1) := by decide +kernel
theorem dX0_restart_2 : decode cX0_restart 2 = .ok (.putfield 18, 3) := by decide +kernel
theorem dX0_restart_5 : decode cX0_restart 5 = .ok (.aload_n 0, 1) := by decide +kernel
theorem dX0_restart_6 : decode cX0_restart 6 = .ok (.aload_n 0, 1) := by decide +kernel
theorem dX0_restart_7 : decode cX0_restart 7 = .ok (.getfield 22, 3) := by decide +kernel
theorem dX0_restart_10 : decode cX0_restart 10 = .ok (.putfield 25, 3) := by decide +kernel
theorem dX0_restart_13 : decode cX0_restart 13 = .ok (.return_, 1) := by decide +kernel
theorem dX0_copyFrom_0 : decode cX0_copyFrom 0 = .ok (.aload_n 1, 1) := by decide +kernel
theorem dX0_copyFrom_1 : decode cX0_copyFrom 1 = .ok (.getfield 9, 3) := by decide +kernel
theorem dX0_copyFrom_4 : decode cX0_copyFrom 4 = .ok (.iconst 0, 1) := by decide +kernel
theorem dX0_copyFrom_5 : decode cX0_copyFrom 5 = .ok (.aload_n 0, 1) := by decide +kernel
theorem dX0_copyFrom_6 : decode cX0_copyFrom 6 = .ok (.getfield 9, 3) := by decide +kernel
theorem dX0_copyFrom_9 : decode cX0_copyFrom 9 = .ok (.iconst 0, 1) := by decide +kernel
theorem dX0_copyFrom_10 : decode cX0_copyFrom 10 = .ok (.bipush 32, 2) := by decide +kernel
theorem dX0_copyFrom_12 : decode cX0_copyFrom 12 = .ok (.invokestatic 28, 3) := by decide +kernel
theorem dX0_copyFrom_15 : decode cX0_copyFrom 15 = .ok (.aload_n 1, 1) := by decide +kernel
theorem dX0_copyFrom_16 : decode cX0_copyFrom 16 = .ok (.getfield 15, 3) := by decide +kernel
theorem dX0_copyFrom_19 : decode cX0_copyFrom 19 = .ok (.iconst 0, 1) := by decide +kernel
theorem dX0_copyFrom_20 : decode cX0_copyFrom 20 = .ok (.aload_n 0, 1) := by decide +kernel
theorem dX0_copyFrom_21 : decode cX0_copyFrom 21 = .ok (.getfield 15, 3) := by decide +kernel
theorem dX0_copyFrom_24 : decode cX0_copyFrom 24 = .ok (.iconst 0, 1) := by decide +kernel
theorem dX0_copyFrom_25 : decode cX0_copyFrom 25 = .ok (.bipush 32, 2) := by decide +kernel
theorem dX0_copyFrom_27 : decode cX0_copyFrom 27 = .ok (.invokestatic 28, 3) := by decide +kernel
theorem dX0_copyFrom_30 : decode cX0_copyFrom 30 = .ok (.aload_n 0, 1) := by decide +kernel
theorem dX0_copyFrom_31 : decode cX0_copyFrom 31 = .ok (.aload_n 1, 1) := by decide +kernel
theorem dX0_copyFrom_32 : decode cX0_copyFrom 32 = .ok (.getfield 18, 3) := by decide +kernel
theorem dX0_copyFrom_35 : decode cX0_copyFrom 35 = .ok (.putfield 18, 3) := by decide +kernel
theorem dX0_copyFrom_38 : decode cX0_copyFrom 38 = .ok (.aload_n 0, 1) := by decide +kernel
theorem dX0_copyFrom_39 : decode cX0_copyFrom 39 = .ok (.aload_n 1, 1) := by decide +kernel
theorem dX0_copyFrom_40 : decode cX0_copyFrom 40 = .ok (.getfield 22, 3) := by decide +kernel
theorem dX0_copyFrom_43 : decode cX0_copyFrom 43 = .ok (.putfield 22, 3) := by decide +kernel
theorem dX0_copyFrom_46 : decode cX0_copyFrom 46 = .ok (.aload_n 0, 1) := by decide +kernel
theorem dX0_copyFrom_47 : decode cX0_copyFrom 47 = .ok (.aload_n 1, 1) := by decide +kernel
theorem dX0_copyFrom_48 : decode cX0_copyFrom 48 = .ok (.getfield 25, 3) := by decide +kernel
theorem dX0_copyFrom_51 : decode cX0_copyFrom 51 = .ok (.putfield 25, 3) := by decide +kernel
theorem dX0_copyFrom_54 : decode cX0_copyFrom 54 = .ok (.return_, 1) := by decide +kernel
theorem dX0_note_0 : decode cX0_note 0 = .ok (.aload_n 0, 1) := by decide +kernel
theorem dX0_note_1 : decode cX0_note 1 = .ok (.getfield 18, 3) := by decide +kernel
theorem dX0_note_4 : decode cX0_note 4 = .ok (.bipush 32, 2) := by decide +kernel
theorem dX0_note_6 : decode cX0_note 6 = .ok (.if_icmp .lt 5, 3) := by decide +kernel
theorem dX0_note_9 : decode cX0_note 9 = .ok (.iconst 0, 1) := by decide +kernel
theorem dX0_note_10 : decode cX0_note 10 = .ok (.ireturn, 1) := by decide +kernel
theorem dX0_note_11 : decode cX0_note 11 = .ok (.aload_n 0, 1) := by decide +kernel
theorem dX0_note_12 : decode cX0_note 12 = .ok (.getfield 9, 3) := by decide +kernel
theorem dX0_note_15 : decode cX0_note 15 = .ok (.aload_n 0, 1) := by decide +kernel
theorem dX0_note_16 : decode cX0_note 16 = .ok (.getfield 18, 3) := by decide +kernel
theorem dX0_note_19 : decode cX0_note 19 = .ok (.iload_n 1, 1) := by decide +kernel
theorem dX0_note_20 : decode cX0_note 20 = .ok (.iastore, 1) := by decide +kernel
theorem dX0_note_21 : decode cX0_note 21 = .ok (.aload_n 0, 1) := by decide +kernel
theorem dX0_note_22 : decode cX0_note 22 = .ok (.getfield 15, 3) := by decide +kernel
theorem dX0_note_25 : decode cX0_note 25 = .ok (.aload_n 0, 1) := by decide +kernel
theorem dX0_note_26 : decode cX0_note 26 = .ok (.getfield 18, 3) := by decide +kernel
theorem dX0_note_29 : decode cX0_note 29 = .ok (.iload_n 2, 1) := by decide +kernel
theorem dX0_note_30 : decode cX0_note 30 = .ok (.iastore, 1) := by decide +kernel
theorem dX0_note_31 : decode cX0_note 31 = .ok (.aload_n 0, 1) := by decide +kernel
theorem dX0_note_32 : decode cX0_note 32 = .ok (.dup, 1) := by decide +kernel
theorem dX0_note_33 : decode cX0_note 33 = .ok (.getfield 18, 3) := by decide +kernel
theorem dX0_note_36 : decode cX0_note 36 = .ok (.iconst 1, 1) := by decide +kernel
theorem dX0_note_37 : decode cX0_note 37 = .ok (.iadd, 1) := by decide +kernel
theorem dX0_note_38 : decode cX0_note 38 = .ok (.putfield 18, 3) := by decide +kernel
theorem dX0_note_41 : decode cX0_note 41 = .ok (.iconst 1, 1) := by decide +kernel
theorem dX0_note_42 : decode cX0_note 42 = .ok (.ireturn, 1) := by decide +kernel
theorem dX0_admit_0 : decode cX0_admit 0 = .ok (.iconst 0, 1) := by decide +kernel
theorem dX0_admit_1 : decode cX0_admit 1 = .ok (.istore_n 3, 1) := by decide +kernel
theorem dX0_admit_2 : decode cX0_admit 2 = .ok (.iconst 0, 1) := by decide +kernel
theorem dX0_admit_3 : decode cX0_admit 3 = .ok (.istore 4, 2) := by decide +kernel
theorem dX0_admit_5 : decode cX0_admit 5 = .ok (.iload 4, 2) := by decide +kernel
theorem dX0_admit_7 : decode cX0_admit 7 = .ok (.aload_n 0, 1) := by decide +kernel
theorem dX0_admit_8 : decode cX0_admit 8 = .ok (.getfield 18, 3) := by decide +kernel
theorem dX0_admit_11 : decode cX0_admit 11 = .ok (.if_icmp .ge 65, 3) := by decide +kernel
theorem dX0_admit_14 : decode cX0_admit 14 = .ok (.aload_n 0, 1) := by decide +kernel
theorem dX0_admit_15 : decode cX0_admit 15 = .ok (.getfield 15, 3) := by decide +kernel
theorem dX0_admit_18 : decode cX0_admit 18 = .ok (.iload 4, 2) := by decide +kernel
theorem dX0_admit_20 : decode cX0_admit 20 = .ok (.iaload, 1) := by decide +kernel
theorem dX0_admit_21 : decode cX0_admit 21 = .ok (.iload_n 2, 1) := by decide +kernel
theorem dX0_admit_22 : decode cX0_admit 22 = .ok (.if_icmp .ne 19, 3) := by decide +kernel
theorem dX0_admit_25 : decode cX0_admit 25 = .ok (.aload_n 1, 1) := by decide +kernel
theorem dX0_admit_26 : decode cX0_admit 26 = .ok (.aload_n 0, 1) := by decide +kernel
theorem dX0_admit_27 : decode cX0_admit 27 = .ok (.getfield 9, 3) := by decide +kernel
theorem dX0_admit_30 : decode cX0_admit 30 = .ok (.iload 4, 2) := by decide +kernel
theorem dX0_admit_32 : decode cX0_admit 32 = .ok (.iaload, 1) := by decide +kernel
theorem dX0_admit_33 : decode cX0_admit 33 = .ok (.iload_n 2, 1) := by decide +kernel
theorem dX0_admit_34 : decode cX0_admit 34 = .ok (.invokevirtual 34, 3) := by decide +kernel
theorem dX0_admit_37 : decode cX0_admit 37 = .ok (.pop, 1) := by decide +kernel
theorem dX0_admit_38 : decode cX0_admit 38 = .ok (.goto 32, 3) := by decide +kernel
theorem dX0_admit_41 : decode cX0_admit 41 = .ok (.aload_n 0, 1) := by decide +kernel
theorem dX0_admit_42 : decode cX0_admit 42 = .ok (.getfield 9, 3) := by decide +kernel
theorem dX0_admit_45 : decode cX0_admit 45 = .ok (.iload_n 3, 1) := by decide +kernel
theorem dX0_admit_46 : decode cX0_admit 46 = .ok (.aload_n 0, 1) := by decide +kernel
theorem dX0_admit_47 : decode cX0_admit 47 = .ok (.getfield 9, 3) := by decide +kernel
theorem dX0_admit_50 : decode cX0_admit 50 = .ok (.iload 4, 2) := by decide +kernel
theorem dX0_admit_52 : decode cX0_admit 52 = .ok (.iaload, 1) := by decide +kernel
theorem dX0_admit_53 : decode cX0_admit 53 = .ok (.iastore, 1) := by decide +kernel
theorem dX0_admit_54 : decode cX0_admit 54 = .ok (.aload_n 0, 1) := by decide +kernel
theorem dX0_admit_55 : decode cX0_admit 55 = .ok (.getfield 15, 3) := by decide +kernel
theorem dX0_admit_58 : decode cX0_admit 58 = .ok (.iload_n 3, 1) := by decide +kernel
theorem dX0_admit_59 : decode cX0_admit 59 = .ok (.aload_n 0, 1) := by decide +kernel
theorem dX0_admit_60 : decode cX0_admit 60 = .ok (.getfield 15, 3) := by decide +kernel
theorem dX0_admit_63 : decode cX0_admit 63 = .ok (.iload 4, 2) := by decide +kernel
theorem dX0_admit_65 : decode cX0_admit 65 = .ok (.iaload, 1) := by decide +kernel
theorem dX0_admit_66 : decode cX0_admit 66 = .ok (.iastore, 1) := by decide +kernel
theorem dX0_admit_67 : decode cX0_admit 67 = .ok (.iinc 3 1, 3) := by decide +kernel
theorem dX0_admit_70 : decode cX0_admit 70 = .ok (.iinc 4 1, 3) := by decide +kernel
theorem dX0_admit_73 : decode cX0_admit 73 = .ok (.goto (-68), 3) := by decide +kernel
theorem dX0_admit_76 : decode cX0_admit 76 = .ok (.aload_n 0, 1) := by decide +kernel
theorem dX0_admit_77 : decode cX0_admit 77 = .ok (.iload_n 3, 1) := by decide +kernel
theorem dX0_admit_78 : decode cX0_admit 78 = .ok (.putfield 18, 3) := by decide +kernel
theorem dX0_admit_81 : decode cX0_admit 81 = .ok (.return_, 1) := by decide +kernel
theorem dX0_tick_0 : decode cX0_tick 0 = .ok (.aload_n 0, 1) := by decide +kernel
theorem dX0_tick_1 : decode cX0_tick 1 = .ok (.getfield 22, 3) := by decide +kernel
theorem dX0_tick_4 : decode cX0_tick 4 = .ok (.ifCond .ne 4, 3) := by decide +kernel
theorem dX0_tick_7 : decode cX0_tick 7 = .ok (.return_, 1) := by decide +kernel
theorem dX0_tick_8 : decode cX0_tick 8 = .ok (.aload_n 0, 1) := by decide +kernel
theorem dX0_tick_9 : decode cX0_tick 9 = .ok (.dup, 1) := by decide +kernel
theorem dX0_tick_10 : decode cX0_tick 10 = .ok (.getfield 25, 3) := by decide +kernel
theorem dX0_tick_13 : decode cX0_tick 13 = .ok (.iconst 1, 1) := by decide +kernel
theorem dX0_tick_14 : decode cX0_tick 14 = .ok (.isub, 1) := by decide +kernel
theorem dX0_tick_15 : decode cX0_tick 15 = .ok (.putfield 25, 3) := by decide +kernel
theorem dX0_tick_18 : decode cX0_tick 18 = .ok (.aload_n 0, 1) := by decide +kernel
theorem dX0_tick_19 : decode cX0_tick 19 = .ok (.getfield 25, 3) := by decide +kernel
theorem dX0_tick_22 : decode cX0_tick 22 = .ok (.ifCond .ne 19, 3) := by decide +kernel
theorem dX0_tick_25 : decode cX0_tick 25 = .ok (.aload_n 1, 1) := by decide +kernel
theorem dX0_tick_26 : decode cX0_tick 26 = .ok (.bipush 16, 2) := by decide +kernel
theorem dX0_tick_28 : decode cX0_tick 28 = .ok (.iload_n 2, 1) := by decide +kernel
theorem dX0_tick_29 : decode cX0_tick 29 = .ok (.invokevirtual 34, 3) := by decide +kernel
theorem dX0_tick_32 : decode cX0_tick 32 = .ok (.pop, 1) := by decide +kernel
theorem dX0_tick_33 : decode cX0_tick 33 = .ok (.aload_n 0, 1) := by decide +kernel
theorem dX0_tick_34 : decode cX0_tick 34 = .ok (.aload_n 0, 1) := by decide +kernel
theorem dX0_tick_35 : decode cX0_tick 35 = .ok (.getfield 22, 3) := by decide +kernel
theorem dX0_tick_38 : decode cX0_tick 38 = .ok (.putfield 25, 3) := by decide +kernel
theorem dX0_tick_41 : decode cX0_tick 41 = .ok (.return_, 1) := by decide +kernel
theorem dX1_init_0 : decode cX1_init 0 = .ok (.aload_n 0, 1) := by decide +kernel
theorem dX1_init_1 : decode cX1_init 1 = .ok (.invokespecial 3, 3) := by decide +kernel
theorem dX1_init_4 : decode cX1_init 4 = .ok (.aload_n 0, 1) := by decide +kernel
theorem dX1_init_5 : decode cX1_init 5 = .ok (.bipush 8, 2) := by decide +kernel
theorem dX1_init_7 : decode cX1_init 7 = .ok (.newarray .int, 2) := by decide +kernel
theorem dX1_init_9 : decode cX1_init 9 = .ok (.putfield 9, 3) := by decide +kernel
theorem dX1_init_12 : decode cX1_init 12 = .ok (.aload_n 0, 1) := by decide +kernel
theorem dX1_init_13 : decode cX1_init 13 = .ok (.iconst 4, 1) := by decide +kernel
theorem dX1_init_14 : decode cX1_init 14 = .ok (.newarray .int, 2) := by decide +kernel
theorem dX1_init_16 : decode cX1_init 16 = .ok (.putfield 15, 3) := by decide +kernel
theorem dX1_init_19 : decode cX1_init 19 = .ok (.aload_n 0, 1) := by decide +kernel
theorem dX1_init_20 : decode cX1_init 20 = .ok (.bipush 16, 2) := by decide +kernel
theorem dX1_init_22 : decode cX1_init 22 = .ok (.newarray .int, 2) := by decide +kernel
theorem dX1_init_24 : decode cX1_init 24 = .ok (.putfield 18, 3) := by decide +kernel
theorem dX1_init_27 : decode cX1_init 27 = .ok (.aload_n 0, 1) := by decide +kernel
theorem dX1_init_28 : decode cX1_init 28 = .ok (.bipush 96, 2) := by decide +kernel
theorem dX1_init_30 : decode cX1_init 30 = .ok (.newarray .int, 2) := by decide +kernel
theorem dX1_init_32 : decode cX1_init 32 = .ok (.putfield 21, 3) := by decide +kernel
theorem dX1_init_35 : decode cX1_init 35 = .ok (.aload_n 0, 1) := by decide +kernel
theorem dX1_init_36 : decode cX1_init 36 = .ok (.iconst (-1), 1) := by decide +kernel
theorem dX1_init_37 : decode cX1_init 37 = .ok (.putfield 24, 3) := by decide +kernel
theorem dX1_init_40 : decode cX1_init 40 = .ok (.aload_n 0, 1) := by decide +kernel
theorem dX1_init_41 : decode cX1_init 41 = .ok (.aload_n 1, 1) := by decide +kernel
theorem dX1_init_42 : decode cX1_init 42 = .ok (.putfield 28, 3) := by decide +kernel
theorem dX1_init_45 : decode cX1_init 45 = .ok (.return_, 1) := by decide +kernel
theorem dX1_restart_0 : decode cX1_restart 0 = .ok (.aload_n 0, 1) := by decide +kernel
theorem dX1_restart_1 : decode cX1_restart 1 = .ok (.getfield 9, 3) := by decide +kernel
theorem dX1_restart_4 : decode cX1_restart 4 = .ok (.iconst 0, 1) := by decide +kernel
theorem dX1_restart_5 : decode cX1_restart 5 = .ok (.invokestatic 31, 3) := by decide +kernel
theorem dX1_restart_8 : decode cX1_restart 8 = .ok (.aload_n 0, 1) := by decide +kernel
theorem dX1_restart_9 : decode cX1_restart 9 = .ok (.getfield 15, 3) := by decide +kernel
theorem dX1_restart_12 : decode cX1_restart 12 = .ok (.iconst 0, 1) := by decide +kernel
theorem dX1_restart_13 : decode cX1_restart 13 = .ok (.invokestatic 31, 3) := by decide +kernel
theorem dX1_restart_16 : decode cX1_restart 16 = .ok (.aload_n 0, 1) := by decide +kernel
theorem dX1_restart_17 : decode cX1_restart 17 = .ok (.getfield 18, 3) := by decide +kernel
theorem dX1_restart_20 : decode cX1_restart 20 = .ok (.iconst 0, 1) := by decide +kernel
theorem dX1_restart_21 : decode cX1_restart 21 = .ok (.invokestatic 31, 3) := by decide +kernel
theorem dX1_restart_24 : decode cX1_restart 24 = .ok (.aload_n 0, 1) := by decide +kernel
theorem dX1_restart_25 : decode cX1_restart 25 = .ok (.getfield 21, 3) := by decide +kernel
theorem dX1_restart_28 : decode cX1_restart 28 = .ok (.iconst 0, 1) := by decide +kernel
theorem dX1_restart_29 : decode cX1_restart 29 = .ok (.invokestatic 31, 3) := by decide +kernel
theorem dX1_restart_32 : decode cX1_restart 32 = .ok (.aload_n 0, 1) := by decide +kernel
theorem dX1_restart_33 : decode cX1_restart 33 = .ok (.iconst 0, 1) := by decide +kernel
theorem dX1_restart_34 : decode cX1_restart 34 = .ok (.putfield 37, 3) := by decide +kernel
theorem dX1_restart_37 : decode cX1_restart 37 = .ok (.aload_n 0, 1) := by decide +kernel
theorem dX1_restart_38 : decode cX1_restart 38 = .ok (.iconst 0, 1) := by decide +kernel
theorem dX1_restart_39 : decode cX1_restart 39 = .ok (.putfield 40, 3) := by decide +kernel
theorem dX1_restart_42 : decode cX1_restart 42 = .ok (.aload_n 0, 1) := by decide +kernel
theorem dX1_restart_43 : decode cX1_restart 43 = .ok (.iconst 0, 1) := by decide +kernel
theorem dX1_restart_44 : decode cX1_restart 44 = .ok (.putfield 43, 3) := by decide +kernel
theorem dX1_restart_47 : decode cX1_restart 47 = .ok (.aload_n 0, 1) := by decide +kernel
theorem dX1_restart_48 : decode cX1_restart 48 = .ok (.iconst 0, 1) := by decide +kernel
theorem dX1_restart_49 : decode cX1_restart 49 = .ok (.putfield 46, 3) := by decide +kernel
theorem dX1_restart_52 : decode cX1_restart 52 = .ok (.aload_n 0, 1) := by decide +kernel
theorem dX1_restart_53 : decode cX1_restart 53 = .ok (.iconst 0, 1) := by decide +kernel
theorem dX1_restart_54 : decode cX1_restart 54 = .ok (.putfield 49, 3) := by decide +kernel
theorem dX1_restart_57 : decode cX1_restart 57 = .ok (.aload_n 0, 1) := by decide +kernel
theorem dX1_restart_58 : decode cX1_restart 58 = .ok (.iconst 0, 1) := by decide +kernel
theorem dX1_restart_59 : decode cX1_restart 59 = .ok (.putfield 52, 3) := by decide +kernel
theorem dX1_restart_62 : decode cX1_restart 62 = .ok (.aload_n 0, 1) := by decide +kernel
theorem dX1_restart_63 : decode cX1_restart 63 = .ok (.iconst (-1), 1) := by decide +kernel
theorem dX1_restart_64 : decode cX1_restart 64 = .ok (.putfield 24, 3) := by decide +kernel
theorem dX1_restart_67 : decode cX1_restart 67 = .ok (.aload_n 0, 1) := by decide +kernel
theorem dX1_restart_68 : decode cX1_restart 68 = .ok (.iconst 0, 1) := by decide +kernel
theorem dX1_restart_69 : decode cX1_restart 69 = .ok (.putfield 55, 3) := by decide +kernel
theorem dX1_restart_72 : decode cX1_restart 72 = .ok (.aload_n 0, 1) := by decide +kernel
theorem dX1_restart_73 : decode cX1_restart 73 = .ok (.iconst 0, 1) := by decide +kernel
theorem dX1_restart_74 : decode cX1_restart 74 = .ok (.putfield 59, 3) := by decide +kernel
theorem dX1_restart_77 : decode cX1_restart 77 = .ok (.return_, 1) := by decide +kernel
theorem dX1_copyFrom_0 : decode cX1_copyFrom 0 = .ok (.aload_n 1, 1) := by decide +kernel
theorem dX1_copyFrom_1 : decode cX1_copyFrom 1 = .ok (.getfield 9, 3) := by decide +kernel
theorem dX1_copyFrom_4 : decode cX1_copyFrom 4 = .ok (.iconst 0, 1) := by decide +kernel
theorem dX1_copyFrom_5 : decode cX1_copyFrom 5 = .ok (.aload_n 0, 1) := by decide +kernel
theorem dX1_copyFrom_6 : decode cX1_copyFrom 6 = .ok (.getfield 9, 3) := by decide +kernel
theorem dX1_copyFrom_9 : decode cX1_copyFrom 9 = .ok (.iconst 0, 1) := by decide +kernel
theorem dX1_copyFrom_10 : decode cX1_copyFrom 10 = .ok (.bipush 8, 2) := by decide +kernel
theorem dX1_copyFrom_12 : decode cX1_copyFrom 12 = .ok (.invokestatic 62, 3) := by decide +kernel
theorem dX1_copyFrom_15 : decode cX1_copyFrom 15 = .ok (.aload_n 1, 1) := by decide +kernel
theorem dX1_copyFrom_16 : decode cX1_copyFrom 16 = .ok (.getfield 15, 3) := by decide +kernel
theorem dX1_copyFrom_19 : decode cX1_copyFrom 19 = .ok (.iconst 0, 1) := by decide +kernel
theorem dX1_copyFrom_20 : decode cX1_copyFrom 20 = .ok (.aload_n 0, 1) := by decide +kernel
theorem dX1_copyFrom_21 : decode cX1_copyFrom 21 = .ok (.getfield 15, 3) := by decide +kernel
theorem dX1_copyFrom_24 : decode cX1_copyFrom 24 = .ok (.iconst 0, 1) := by decide +kernel
theorem dX1_copyFrom_25 : decode cX1_copyFrom 25 = .ok (.iconst 4, 1) := by decide +kernel
theorem dX1_copyFrom_26 : decode cX1_copyFrom 26 = .ok (.invokestatic 62, 3) := by decide +kernel
theorem dX1_copyFrom_29 : decode cX1_copyFrom 29 = .ok (.aload_n 1, 1) := by decide +kernel
theorem dX1_copyFrom_30 : decode cX1_copyFrom 30 = .ok (.getfield 18, 3) := by decide +kernel
theorem dX1_copyFrom_33 : decode cX1_copyFrom 33 = .ok (.iconst 0, 1) := by decide +kernel
theorem dX1_copyFrom_34 : decode cX1_copyFrom 34 = .ok (.aload_n 0, 1) := by decide +kernel
theorem dX1_copyFrom_35 : decode cX1_copyFrom 35 = .ok (.getfield 18, 3) := by decide +kernel
theorem dX1_copyFrom_38 : decode cX1_copyFrom 38 = .ok (.iconst 0, 1) := by decide +kernel
theorem dX1_copyFrom_39 : decode cX1_copyFrom 39 = .ok (.bipush 16, 2) := by decide +kernel
theorem dX1_copyFrom_41 : decode cX1_copyFrom 41 = .ok (.invokestatic 62, 3) := by decide +kernel
theorem dX1_copyFrom_44 : decode cX1_copyFrom 44 = .ok (.aload_n 1, 1) := by decide +kernel
theorem dX1_copyFrom_45 : decode cX1_copyFrom 45 = .ok (.getfield 21, 3) := by decide +kernel
theorem dX1_copyFrom_48 : decode cX1_copyFrom 48 = .ok (.iconst 0, 1) := by decide +kernel
theorem dX1_copyFrom_49 : decode cX1_copyFrom 49 = .ok (.aload_n 0, 1) := by decide +kernel
theorem dX1_copyFrom_50 : decode cX1_copyFrom 50 = .ok (.getfield 21, 3) := by decide +kernel
theorem dX1_copyFrom_53 : decode cX1_copyFrom 53 = .ok (.iconst 0, 1) := by decide +kernel
theorem dX1_copyFrom_54 : decode cX1_copyFrom 54 = .ok (.bipush 96, 2) := by decide +kernel
theorem dX1_copyFrom_56 : decode cX1_copyFrom 56 = .ok (.invokestatic 62, 3) := by decide +kernel
theorem dX1_copyFrom_59 : decode cX1_copyFrom 59 = .ok (.aload_n 0, 1) := by decide +kernel
theorem dX1_copyFrom_60 : decode cX1_copyFrom 60 = .ok (.aload_n 1, 1) := by decide +kernel
theorem dX1_copyFrom_61 : decode cX1_copyFrom 61 = .ok (.getfield 37, 3) := by decide +kernel
theorem dX1_copyFrom_64 : decode cX1_copyFrom 64 = .ok (.putfield 37, 3) := by decide +kernel
theorem dX1_copyFrom_67 : decode cX1_copyFrom 67 = .ok (.aload_n 0, 1) := by decide +kernel
theorem dX1_copyFrom_68 : decode cX1_copyFrom 68 = .ok (.aload_n 1, 1) := by decide +kernel
theorem dX1_copyFrom_69 : decode cX1_copyFrom 69 = .ok (.getfield 40, 3) := by decide +kernel
theorem dX1_copyFrom_72 : decode cX1_copyFrom 72 = .ok (.putfield 40, 3) := by decide +kernel
theorem dX1_copyFrom_75 : decode cX1_copyFrom 75 = .ok (.aload_n 0, 1) := by decide +kernel
theorem dX1_copyFrom_76 : decode cX1_copyFrom 76 = .ok (.aload_n 1, 1) := by decide +kernel
theorem dX1_copyFrom_77 : decode cX1_copyFrom 77 = .ok (.getfield 46, 3) := by decide +kernel
theorem dX1_copyFrom_80 : decode cX1_copyFrom 80 = .ok (.putfield 46, 3) := by decide +kernel
theorem dX1_copyFrom_83 : decode cX1_copyFrom 83 = .ok (.aload_n 0, 1) := by decide +kernel
theorem dX1_copyFrom_84 : decode cX1_copyFrom 84 = .ok (.aload_n 1, 1) := by decide +kernel
theorem dX1_copyFrom_85 : decode cX1_copyFrom 85 = .ok (.getfield 49, 3) := by decide +kernel
theorem dX1_copyFrom_88 : decode cX1_copyFrom 88 = .ok (.putfield 49, 3) := by decide +kernel
theorem dX1_copyFrom_91 : decode cX1_copyFrom 91 = .ok (.aload_n 0, 1) := by decide +kernel
theorem dX1_copyFrom_92 : decode cX1_copyFrom 92 = .ok (.aload_n 1, 1) := by decide +kernel
theorem dX1_copyFrom_93 : decode cX1_copyFrom 93 = .ok (.getfield 52, 3) := by decide +kernel
theorem dX1_copyFrom_96 : decode cX1_copyFrom 96 = .ok (.putfield 52, 3) := by decide +kernel
theorem dX1_copyFrom_99 : decode cX1_copyFrom 99 = .ok (.aload_n 0, 1) := by decide +kernel
theorem dX1_copyFrom_100 : decode cX1_copyFrom 100 = .ok (.aload_n 1, 1) := by decide +kernel
theorem dX1_copyFrom_101 : decode cX1_copyFrom 101 = .ok (.getfield 24, 3) := by decide +kernel
theorem dX1_copyFrom_104 : decode cX1_copyFrom 104 = .ok (.putfield 24, 3) := by decide +kernel
theorem dX1_copyFrom_107 : decode cX1_copyFrom 107 = .ok (.aload_n 0, 1) := by decide +kernel
theorem dX1_copyFrom_108 : decode cX1_copyFrom 108 = .ok (.aload_n 1, 1) := by decide +kernel
theorem dX1_copyFrom_109 : decode cX1_copyFrom 109 = .ok (.getfield 55, 3) := by decide +kernel
theorem dX1_copyFrom_112 : decode cX1_copyFrom 112 = .ok (.putfield 55, 3) := by decide +kernel
theorem dX1_copyFrom_115 : decode cX1_copyFrom 115 = .ok (.aload_n 0, 1) := by decide +kernel
theorem dX1_copyFrom_116 : decode cX1_copyFrom 116 = .ok (.aload_n 1, 1) := by decide +kernel
theorem dX1_copyFrom_117 : decode cX1_copyFrom 117 = .ok (.getfield 59, 3) := by decide +kernel
theorem dX1_copyFrom_120 : decode cX1_copyFrom 120 = .ok (.putfield 59, 3) := by decide +kernel
theorem dX1_copyFrom_123 : decode cX1_copyFrom 123 = .ok (.return_, 1) := by decide +kernel
theorem dX1_isLike_0 : decode cX1_isLike 0 = .ok (.iconst 0, 1) := by decide +kernel
theorem dX1_isLike_1 : decode cX1_isLike 1 = .ok (.istore_n 2, 1) := by decide +kernel
theorem dX1_isLike_2 : decode cX1_isLike 2 = .ok (.iload_n 2, 1) := by decide +kernel
theorem dX1_isLike_3 : decode cX1_isLike 3 = .ok (.iconst 4, 1) := by decide +kernel
theorem dX1_isLike_4 : decode cX1_isLike 4 = .ok (.if_icmp .ge 41, 3) := by decide +kernel
theorem dX1_isLike_7 : decode cX1_isLike 7 = .ok (.aload_n 0, 1) := by decide +kernel
theorem dX1_isLike_8 : decode cX1_isLike 8 = .ok (.getfield 9, 3) := by decide +kernel
theorem dX1_isLike_11 : decode cX1_isLike 11 = .ok (.iload_n 2, 1) := by decide +kernel
theorem dX1_isLike_12 : decode cX1_isLike 12 = .ok (.iaload, 1) := by decide +kernel
theorem dX1_isLike_13 : decode cX1_isLike 13 = .ok (.aload_n 1, 1) := by decide +kernel
theorem dX1_isLike_14 : decode cX1_isLike 14 = .ok (.getfield 9, 3) := by decide +kernel
theorem dX1_isLike_17 : decode cX1_isLike 17 = .ok (.iload_n 2, 1) := by decide +kernel
theorem dX1_isLike_18 : decode cX1_isLike 18 = .ok (.iaload, 1) := by decide +kernel
theorem dX1_isLike_19 : decode cX1_isLike 19 = .ok (.if_icmp .ne 18, 3) := by decide +kernel
theorem dX1_isLike_22 : decode cX1_isLike 22 = .ok (.aload_n 0, 1) := by decide +kernel
theorem dX1_isLike_23 : decode cX1_isLike 23 = .ok (.getfield 15, 3) := by decide +kernel
theorem dX1_isLike_26 : decode cX1_isLike 26 = .ok (.iload_n 2, 1) := by decide +kernel
theorem dX1_isLike_27 : decode cX1_isLike 27 = .ok (.iaload, 1) := by decide +kernel
theorem dX1_isLike_28 : decode cX1_isLike 28 = .ok (.aload_n 1, 1) := by decide +kernel
theorem dX1_isLike_29 : decode cX1_isLike 29 = .ok (.getfield 15, 3) := by decide +kernel
theorem dX1_isLike_32 : decode cX1_isLike 32 = .ok (.iload_n 2, 1) := by decide +kernel
theorem dX1_isLike_33 : decode cX1_isLike 33 = .ok (.iaload, 1) := by decide +kernel
theorem dX1_isLike_34 : decode cX1_isLike 34 = .ok (.if_icmp .eq 5, 3) := by decide +kernel
theorem dX1_isLike_37 : decode cX1_isLike 37 = .ok (.iconst 0, 1) := by decide +kernel
theorem dX1_isLike_38 : decode cX1_isLike 38 = .ok (.ireturn, 1) := by decide +kernel
theorem dX1_isLike_39 : decode cX1_isLike 39 = .ok (.iinc 2 1, 3) := by decide +kernel
theorem dX1_isLike_42 : decode cX1_isLike 42 = .ok (.goto (-40), 3) := by decide +kernel
theorem dX1_isLike_45 : decode cX1_isLike 45 = .ok (.aload_n 0, 1) := by decide +kernel
theorem dX1_isLike_46 : decode cX1_isLike 46 = .ok (.getfield 37, 3) := by decide +kernel
theorem dX1_isLike_49 : decode cX1_isLike 49 = .ok (.aload_n 1, 1) := by decide +kernel
theorem dX1_isLike_50 : decode cX1_isLike 50 = .ok (.getfield 37, 3) := by decide +kernel
theorem dX1_isLike_53 : decode cX1_isLike 53 = .ok (.if_icmp .ne 40, 3) := by decide +kernel
theorem dX1_isLike_56 : decode cX1_isLike 56 = .ok (.aload_n 0, 1) := by decide +kernel
theorem dX1_isLike_57 : decode cX1_isLike 57 = .ok (.getfield 46, 3) := by decide +kernel
theorem dX1_isLike_60 : decode cX1_isLike 60 = .ok (.aload_n 1, 1) := by decide +kernel
theorem dX1_isLike_61 : decode cX1_isLike 61 = .ok (.getfield 46, 3) := by decide +kernel
theorem dX1_isLike_64 : decode cX1_isLike 64 = .ok (.if_icmp .ne 29, 3) := by decide +kernel
theorem dX1_isLike_67 : decode cX1_isLike 67 = .ok (.aload_n 0, 1) := by decide +kernel
theorem dX1_isLike_68 : decode cX1_isLike 68 = .ok (.getfield 49, 3) := by decide +kernel
theorem dX1_isLike_71 : decode cX1_isLike 71 = .ok (.aload_n 1, 1) := by decide +kernel
theorem dX1_isLike_72 : decode cX1_isLike 72 = .ok (.getfield 49, 3) := by decide +kernel
theorem dX1_isLike_75 : decode cX1_isLike 75 = .ok (.if_icmp .ne 18, 3) := by decide +kernel
theorem dX1_isLike_78 : decode cX1_isLike 78 = .ok (.aload_n 0, 1) := by decide +kernel
theorem dX1_isLike_79 : decode cX1_isLike 79 = .ok (.getfield 40, 3) := by decide +kernel
theorem dX1_isLike_82 : decode cX1_isLike 82 = .ok (.aload_n 1, 1) := by decide +kernel
theorem dX1_isLike_83 : decode cX1_isLike 83 = .ok (.getfield 40, 3) := by decide +kernel
theorem dX1_isLike_86 : decode cX1_isLike 86 = .ok (.if_icmp .ne 7, 3) := by decide +kernel
theorem dX1_isLike_89 : decode cX1_isLike 89 = .ok (.iconst 1, 1) := by decide +kernel
theorem dX1_isLike_90 : decode cX1_isLike 90 = .ok (.goto 4, 3) := by decide +kernel
theorem dX1_isLike_93 : decode cX1_isLike 93 = .ok (.iconst 0, 1) := by decide +kernel
theorem dX1_isLike_94 : decode cX1_isLike 94 = .ok (.ireturn, 1) := by decide +kernel
theorem dX1_passes_0 : decode cX1_passes 0 = .ok (.aload_n 0, 1) := by decide +kernel
theorem dX1_passes_1 : decode cX1_passes 1 = .ok (.getfield 52, 3) := by decide +kernel
theorem dX1_passes_4 : decode cX1_passes 4 = .ok (.ifCond .le 15, 3) := by decide +kernel
theorem dX1_passes_7 : decode cX1_passes 7 = .ok (.aload_n 0, 1) := by decide +kernel
theorem dX1_passes_8 : decode cX1_passes 8 = .ok (.dup, 1) := by decide +kernel
theorem dX1_passes_9 : decode cX1_passes 9 = .ok (.getfield 52, 3) := by decide +kernel
theorem dX1_passes_12 : decode cX1_passes 12 = .ok (.iconst 1, 1) := by decide +kernel
theorem dX1_passes_13 : decode cX1_passes 13 = .ok (.isub, 1) := by decide +kernel
theorem dX1_passes_14 : decode cX1_passes 14 = .ok (.putfield 52, 3) := by decide +kernel
theorem dX1_passes_17 : decode cX1_passes 17 = .ok (.iconst 1, 1) := by decide +kernel
theorem dX1_passes_18 : decode cX1_passes 18 = .ok (.ireturn, 1) := by decide +kernel
theorem dX1_passes_19 : decode cX1_passes 19 = .ok (.aload_n 0, 1) := by decide +kernel
theorem dX1_passes_20 : decode cX1_passes 20 = .ok (.getfield 59, 3) := by decide +kernel
theorem dX1_passes_23 : decode cX1_passes 23 = .ok (.ireturn, 1) := by decide +kernel
theorem dX1_byteBehind_0 : decode cX1_byteBehind 0 = .ok (.aload_n 0, 1) := by decide +kernel
theorem dX1_byteBehind_1 : decode cX1_byteBehind 1 = .ok (.getfield 28, 3) := by decide +kernel
theorem dX1_byteBehind_4 : decode cX1_byteBehind 4 = .ok (.aload_n 0, 1) := by decide +kernel
theorem dX1_byteBehind_5 : decode cX1_byteBehind 5 = .ok (.getfield 37, 3) := by decide +kernel
theorem dX1_byteBehind_8 : decode cX1_byteBehind 8 = .ok (.iload_n 1, 1) := by decide +kernel
theorem dX1_byteBehind_9 : decode cX1_byteBehind 9 = .ok (.iadd, 1) := by decide +kernel
theorem dX1_byteBehind_10 : decode cX1_byteBehind 10 = .ok (.sipush 511, 3) := by decide +kernel
theorem dX1_byteBehind_13 : decode cX1_byteBehind 13 = .ok (.iand, 1) := by decide +kernel
theorem dX1_byteBehind_14 : decode cX1_byteBehind 14 = .ok (.iaload, 1) := by decide +kernel
theorem dX1_byteBehind_15 : decode cX1_byteBehind 15 = .ok (.ireturn, 1) := by decide +kernel
theorem dX1_mustSave_0 : decode cX1_mustSave 0 = .ok (.aload_n 0, 1) := by decide +kernel
theorem dX1_mustSave_1 : decode cX1_mustSave 1 = .ok (.getfield 24, 3) := by decide +kernel
theorem dX1_mustSave_4 : decode cX1_mustSave 4 = .ok (.iconst (-1), 1) := by decide +kernel
theorem dX1_mustSave_5 : decode cX1_mustSave 5 = .ok (.if_icmp .eq 18, 3) := by decide +kernel
theorem dX1_mustSave_8 : decode cX1_mustSave 8 = .ok (.aload_n 0, 1) := by decide +kernel
theorem dX1_mustSave_9 : decode cX1_mustSave 9 = .ok (.iconst 0, 1) := by decide +kernel
theorem dX1_mustSave_10 : decode cX1_mustSave 10 = .ok (.invokevirtual 68, 3) := by decide +kernel
theorem dX1_mustSave_13 : decode cX1_mustSave 13 = .ok (.invokestatic 72, 3) := by decide +kernel
theorem dX1_mustSave_16 : decode cX1_mustSave 16 = .ok (.ifCond .eq 7, 3) := by decide +kernel
theorem dX1_mustSave_19 : decode cX1_mustSave 19 = .ok (.iconst 1, 1) := by decide +kernel
theorem dX1_mustSave_20 : decode cX1_mustSave 20 = .ok (.goto 4, 3) := by decide +kernel
theorem dX1_mustSave_23 : decode cX1_mustSave 23 = .ok (.iconst 0, 1) := by decide +kernel
theorem dX1_mustSave_24 : decode cX1_mustSave 24 = .ok (.ireturn, 1) := by decide +kernel
theorem dX1_faultOf_0 : decode cX1_faultOf 0 = .ok (.iload_n 1, 1) := by decide +kernel
theorem dX1_faultOf_1 : decode cX1_faultOf 1 = .ok (.iconst 1, 1) := by decide +kernel
theorem dX1_faultOf_2 : decode cX1_faultOf 2 = .ok (.if_icmp .lt 9, 3) := by decide +kernel
theorem dX1_faultOf_5 : decode cX1_faultOf 5 = .ok (.iload_n 1, 1) := by decide +kernel
theorem dX1_faultOf_6 : decode cX1_faultOf 6 = .ok (.bipush 29, 2) := by decide +kernel
theorem dX1_faultOf_8 : decode cX1_faultOf 8 = .ok (.if_icmp .le 6, 3) := by decide +kernel
theorem dX1_faultOf_11 : decode cX1_faultOf 11 = .ok (.bipush 18, 2) := by decide +kernel
theorem dX1_faultOf_13 : decode cX1_faultOf 13 = .ok (.ireturn, 1) := by decide +kernel
theorem dX1_faultOf_14 : decode cX1_faultOf 14 = .ok (.iload_n 1, 1) := by decide +kernel
theorem dX1_faultOf_15 : decode cX1_faultOf 15 = .ok (.lookupswitch 186 #[(5, 57), (9, 76), (10, 92), (21, 107), (22, 139), (26, 171)], 57) := by decide +kernel
theorem dX1_faultOf_72 : decode cX1_faultOf 72 = .ok (.aload_n 0, 1) := by decide +kernel
theorem dX1_faultOf_73 : decode cX1_faultOf 73 = .ok (.getfield 9, 3) := by decide +kernel
theorem dX1_faultOf_76 : decode cX1_faultOf 76 = .ok (.iload_n 3, 1) := by decide +kernel
theorem dX1_faultOf_77 : decode cX1_faultOf 77 = .ok (.bipush 7, 2) := by decide +kernel
theorem dX1_faultOf_79 : decode cX1_faultOf 79 = .ok (.iand, 1) := by decide +kernel
theorem dX1_faultOf_80 : decode cX1_faultOf 80 = .ok (.iaload, 1) := by decide +kernel
theorem dX1_faultOf_81 : decode cX1_faultOf 81 = .ok (.ifCond .ne 8, 3) := by decide +kernel
theorem dX1_faultOf_84 : decode cX1_faultOf 84 = .ok (.bipush 18, 2) := by decide +kernel
theorem dX1_faultOf_86 : decode cX1_faultOf 86 = .ok (.goto 4, 3) := by decide +kernel
theorem dX1_faultOf_89 : decode cX1_faultOf 89 = .ok (.iconst (-1), 1) := by decide +kernel
theorem dX1_faultOf_90 : decode cX1_faultOf 90 = .ok (.ireturn, 1) := by decide +kernel
theorem dX1_faultOf_91 : decode cX1_faultOf 91 = .ok (.aload_n 0, 1) := by decide +kernel
theorem dX1_faultOf_92 : decode cX1_faultOf 92 = .ok (.getfield 40, 3) := by decide +kernel
theorem dX1_faultOf_95 : decode cX1_faultOf 95 = .ok (.bipush 96, 2) := by decide +kernel
theorem dX1_faultOf_97 : decode cX1_faultOf 97 = .ok (.if_icmp .lt 8, 3) := by decide +kernel
theorem dX1_faultOf_100 : decode cX1_faultOf 100 = .ok (.bipush 19, 2) := by decide +kernel
theorem dX1_faultOf_102 : decode cX1_faultOf 102 = .ok (.goto 4, 3) := by decide +kernel
theorem dX1_faultOf_105 : decode cX1_faultOf 105 = .ok (.iconst (-1), 1) := by decide +kernel
theorem dX1_faultOf_106 : decode cX1_faultOf 106 = .ok (.ireturn, 1) := by decide +kernel
theorem dX1_faultOf_107 : decode cX1_faultOf 107 = .ok (.aload_n 0, 1) := by decide +kernel
theorem dX1_faultOf_108 : decode cX1_faultOf 108 = .ok (.getfield 40, 3) := by decide +kernel
theorem dX1_faultOf_111 : decode cX1_faultOf 111 = .ok (.iconst 1, 1) := by decide +kernel
theorem dX1_faultOf_112 : decode cX1_faultOf 112 = .ok (.if_icmp .ge 8, 3) := by decide +kernel
theorem dX1_faultOf_115 : decode cX1_faultOf 115 = .ok (.bipush 19, 2) := by decide +kernel
theorem dX1_faultOf_117 : decode cX1_faultOf 117 = .ok (.goto 4, 3) := by decide +kernel
theorem dX1_faultOf_120 : decode cX1_faultOf 120 = .ok (.iconst (-1), 1) := by decide +kernel
theorem dX1_faultOf_121 : decode cX1_faultOf 121 = .ok (.ireturn, 1) := by decide +kernel
theorem dX1_faultOf_122 : decode cX1_faultOf 122 = .ok (.aload_n 0, 1) := by decide +kernel
theorem dX1_faultOf_123 : decode cX1_faultOf 123 = .ok (.getfield 15, 3) := by decide +kernel
theorem dX1_faultOf_126 : decode cX1_faultOf 126 = .ok (.iload_n 2, 1) := by decide +kernel
theorem dX1_faultOf_127 : decode cX1_faultOf 127 = .ok (.iconst 3, 1) := by decide +kernel
theorem dX1_faultOf_128 : decode cX1_faultOf 128 = .ok (.iand, 1) := by decide +kernel
theorem dX1_faultOf_129 : decode cX1_faultOf 129 = .ok (.iaload, 1) := by decide +kernel
theorem dX1_faultOf_130 : decode cX1_faultOf 130 = .ok (.aload_n 0, 1) := by decide +kernel
theorem dX1_faultOf_131 : decode cX1_faultOf 131 = .ok (.getfield 15, 3) := by decide +kernel
theorem dX1_faultOf_134 : decode cX1_faultOf 134 = .ok (.iload_n 3, 1) := by decide +kernel
theorem dX1_faultOf_135 : decode cX1_faultOf 135 = .ok (.iconst 3, 1) := by decide +kernel
theorem dX1_faultOf_136 : decode cX1_faultOf 136 = .ok (.iand, 1) := by decide +kernel
theorem dX1_faultOf_137 : decode cX1_faultOf 137 = .ok (.iaload, 1) := by decide +kernel
theorem dX1_faultOf_138 : decode cX1_faultOf 138 = .ok (.invokestatic 78, 3) := by decide +kernel
theorem dX1_faultOf_141 : decode cX1_faultOf 141 = .ok (.invokestatic 82, 3) := by decide +kernel
theorem dX1_faultOf_144 : decode cX1_faultOf 144 = .ok (.ifCond .eq 7, 3) := by decide +kernel
theorem dX1_faultOf_147 : decode cX1_faultOf 147 = .ok (.iconst (-1), 1) := by decide +kernel
theorem dX1_faultOf_148 : decode cX1_faultOf 148 = .ok (.goto 5, 3) := by decide +kernel
theorem dX1_faultOf_151 : decode cX1_faultOf 151 = .ok (.bipush 18, 2) := by decide +kernel
theorem dX1_faultOf_153 : decode cX1_faultOf 153 = .ok (.ireturn, 1) := by decide +kernel
theorem dX1_faultOf_154 : decode cX1_faultOf 154 = .ok (.aload_n 0, 1) := by decide +kernel
theorem dX1_faultOf_155 : decode cX1_faultOf 155 = .ok (.getfield 15, 3) := by decide +kernel
theorem dX1_faultOf_158 : decode cX1_faultOf 158 = .ok (.iload_n 2, 1) := by decide +kernel
theorem dX1_faultOf_159 : decode cX1_faultOf 159 = .ok (.iconst 3, 1) := by decide +kernel
theorem dX1_faultOf_160 : decode cX1_faultOf 160 = .ok (.iand, 1) := by decide +kernel
theorem dX1_faultOf_161 : decode cX1_faultOf 161 = .ok (.iaload, 1) := by decide +kernel
theorem dX1_faultOf_162 : decode cX1_faultOf 162 = .ok (.aload_n 0, 1) := by decide +kernel
theorem dX1_faultOf_163 : decode cX1_faultOf 163 = .ok (.getfield 15, 3) := by decide +kernel
theorem dX1_faultOf_166 : decode cX1_faultOf 166 = .ok (.iload_n 3, 1) := by decide +kernel
theorem dX1_faultOf_167 : decode cX1_faultOf 167 = .ok (.iconst 3, 1) := by decide +kernel
theorem dX1_faultOf_168 : decode cX1_faultOf 168 = .ok (.iand, 1) := by decide +kernel
theorem dX1_faultOf_169 : decode cX1_faultOf 169 = .ok (.iaload, 1) := by decide +kernel
theorem dX1_faultOf_170 : decode cX1_faultOf 170 = .ok (.invokestatic 85, 3) := by decide +kernel
theorem dX1_faultOf_173 : decode cX1_faultOf 173 = .ok (.invokestatic 82, 3) := by decide +kernel
theorem dX1_faultOf_176 : decode cX1_faultOf 176 = .ok (.ifCond .eq 7, 3) := by decide +kernel
theorem dX1_faultOf_179 : decode cX1_faultOf 179 = .ok (.iconst (-1), 1) := by decide +kernel
theorem dX1_faultOf_180 : decode cX1_faultOf 180 = .ok (.goto 5, 3) := by decide +kernel
theorem dX1_faultOf_183 : decode cX1_faultOf 183 = .ok (.bipush 18, 2) := by decide +kernel
theorem dX1_faultOf_185 : decode cX1_faultOf 185 = .ok (.ireturn, 1) := by decide +kernel
theorem dX1_faultOf_186 : decode cX1_faultOf 186 = .ok (.aload_n 0, 1) := by decide +kernel
theorem dX1_faultOf_187 : decode cX1_faultOf 187 = .ok (.getfield 40, 3) := by decide +kernel
theorem dX1_faultOf_190 : decode cX1_faultOf 190 = .ok (.iconst 2, 1) := by decide +kernel
theorem dX1_faultOf_191 : decode cX1_faultOf 191 = .ok (.if_icmp .ge 8, 3) := by decide +kernel
theorem dX1_faultOf_194 : decode cX1_faultOf 194 = .ok (.bipush 19, 2) := by decide +kernel
theorem dX1_faultOf_196 : decode cX1_faultOf 196 = .ok (.goto 4, 3) := by decide +kernel
theorem dX1_faultOf_199 : decode cX1_faultOf 199 = .ok (.iconst (-1), 1) := by decide +kernel
theorem dX1_faultOf_200 : decode cX1_faultOf 200 = .ok (.ireturn, 1) := by decide +kernel
theorem dX1_faultOf_201 : decode cX1_faultOf 201 = .ok (.iconst (-1), 1) := by decide +kernel
theorem dX1_faultOf_202 : decode cX1_faultOf 202 = .ok (.ireturn, 1) := by decide +kernel
theorem dX1_reckon_0 : decode cX1_reckon 0 = .ok (.iload_n 2, 1) := by decide +kernel
theorem dX1_reckon_1 : decode cX1_reckon 1 = .ok (.bipush 7, 2) := by decide +kernel
theorem dX1_reckon_3 : decode cX1_reckon 3 = .ok (.iand, 1) := by decide +kernel
theorem dX1_reckon_4 : decode cX1_reckon 4 = .ok (.istore 4, 2) := by decide +kernel
theorem dX1_reckon_6 : decode cX1_reckon 6 = .ok (.aload_n 0, 1) := by decide +kernel
theorem dX1_reckon_7 : decode cX1_reckon 7 = .ok (.getfield 9, 3) := by decide +kernel
theorem dX1_reckon_10 : decode cX1_reckon 10 = .ok (.iload_n 3, 1) := by decide +kernel
theorem dX1_reckon_11 : decode cX1_reckon 11 = .ok (.bipush 7, 2) := by decide +kernel
theorem dX1_reckon_13 : decode cX1_reckon 13 = .ok (.iand, 1) := by decide +kernel
theorem dX1_reckon_14 : decode cX1_reckon 14 = .ok (.iaload, 1) := by decide +kernel
theorem dX1_reckon_15 : decode cX1_reckon 15 = .ok (.istore 5, 2) := by decide +kernel
theorem dX1_reckon_17 : decode cX1_reckon 17 = .ok (.iload_n 1, 1) := by decide +kernel
theorem dX1_reckon_18 : decode cX1_reckon 18 = .ok (.tableswitch 216 1 8 #[46, 57, 76, 95, 114, 142, 161, 204], 46) := by decide +kernel
theorem dX1_reckon_64 : decode cX1_reckon 64 = .ok (.aload_n 0, 1) := by decide +kernel
theorem dX1_reckon_65 : decode cX1_reckon 65 = .ok (.getfield 9, 3) := by decide +kernel
theorem dX1_reckon_68 : decode cX1_reckon 68 = .ok (.iload 4, 2) := by decide +kernel
theorem dX1_reckon_70 : decode cX1_reckon 70 = .ok (.iload_n 3, 1) := by decide +kernel
theorem dX1_reckon_71 : decode cX1_reckon 71 = .ok (.iastore, 1) := by decide +kernel
theorem dX1_reckon_72 : decode cX1_reckon 72 = .ok (.goto 162, 3) := by decide +kernel
theorem dX1_reckon_75 : decode cX1_reckon 75 = .ok (.aload_n 0, 1) := by decide +kernel
theorem dX1_reckon_76 : decode cX1_reckon 76 = .ok (.iload 4, 2) := by decide +kernel
theorem dX1_reckon_78 : decode cX1_reckon 78 = .ok (.aload_n 0, 1) := by decide +kernel
theorem dX1_reckon_79 : decode cX1_reckon 79 = .ok (.getfield 9, 3) := by decide +kernel
theorem dX1_reckon_82 : decode cX1_reckon 82 = .ok (.iload 4, 2) := by decide +kernel
theorem dX1_reckon_84 : decode cX1_reckon 84 = .ok (.iaload, 1) := by decide +kernel
theorem dX1_reckon_85 : decode cX1_reckon 85 = .ok (.iload 5, 2) := by decide +kernel
theorem dX1_reckon_87 : decode cX1_reckon 87 = .ok (.iadd, 1) := by decide +kernel
theorem dX1_reckon_88 : decode cX1_reckon 88 = .ok (.invokevirtual 88, 3) := by decide +kernel
theorem dX1_reckon_91 : decode cX1_reckon 91 = .ok (.goto 143, 3) := by decide +kernel
theorem dX1_reckon_94 : decode cX1_reckon 94 = .ok (.aload_n 0, 1) := by decide +kernel
theorem dX1_reckon_95 : decode cX1_reckon 95 = .ok (.iload 4, 2) := by decide +kernel
theorem dX1_reckon_97 : decode cX1_reckon 97 = .ok (.aload_n 0, 1) := by decide +kernel
theorem dX1_reckon_98 : decode cX1_reckon 98 = .ok (.getfield 9, 3) := by decide +kernel
theorem dX1_reckon_101 : decode cX1_reckon 101 = .ok (.iload 4, 2) := by decide +kernel
theorem dX1_reckon_103 : decode cX1_reckon 103 = .ok (.iaload, 1) := by decide +kernel
theorem dX1_reckon_104 : decode cX1_reckon 104 = .ok (.iload 5, 2) := by decide +kernel
theorem dX1_reckon_106 : decode cX1_reckon 106 = .ok (.isub, 1) := by decide +kernel
theorem dX1_reckon_107 : decode cX1_reckon 107 = .ok (.invokevirtual 88, 3) := by decide +kernel
theorem dX1_reckon_110 : decode cX1_reckon 110 = .ok (.goto 124, 3) := by decide +kernel
theorem dX1_reckon_113 : decode cX1_reckon 113 = .ok (.aload_n 0, 1) := by decide +kernel
theorem dX1_reckon_114 : decode cX1_reckon 114 = .ok (.iload 4, 2) := by decide +kernel
theorem dX1_reckon_116 : decode cX1_reckon 116 = .ok (.aload_n 0, 1) := by decide +kernel
theorem dX1_reckon_117 : decode cX1_reckon 117 = .ok (.getfield 9, 3) := by decide +kernel
theorem dX1_reckon_120 : decode cX1_reckon 120 = .ok (.iload 4, 2) := by decide +kernel
theorem dX1_reckon_122 : decode cX1_reckon 122 = .ok (.iaload, 1) := by decide +kernel
theorem dX1_reckon_123 : decode cX1_reckon 123 = .ok (.iload 5, 2) := by decide +kernel
theorem dX1_reckon_125 : decode cX1_reckon 125 = .ok (.imul, 1) := by decide +kernel
theorem dX1_reckon_126 : decode cX1_reckon 126 = .ok (.invokevirtual 88, 3) := by decide +kernel
theorem dX1_reckon_129 : decode cX1_reckon 129 = .ok (.goto 105, 3) := by decide +kernel
theorem dX1_reckon_132 : decode cX1_reckon 132 = .ok (.aload_n 0, 1) := by decide +kernel
theorem dX1_reckon_133 : decode cX1_reckon 133 = .ok (.iload 4, 2) := by decide +kernel
theorem dX1_reckon_135 : decode cX1_reckon 135 = .ok (.iload 5, 2) := by decide +kernel
theorem dX1_reckon_137 : decode cX1_reckon 137 = .ok (.ifCond .ne 7, 3) := by decide +kernel
theorem dX1_reckon_140 : decode cX1_reckon 140 = .ok (.iconst 0, 1) := by decide +kernel
theorem dX1_reckon_141 : decode cX1_reckon 141 = .ok (.goto 13, 3) := by decide +kernel
theorem dX1_reckon_144 : decode cX1_reckon 144 = .ok (.aload_n 0, 1) := by decide +kernel
theorem dX1_reckon_145 : decode cX1_reckon 145 = .ok (.getfield 9, 3) := by decide +kernel
theorem dX1_reckon_148 : decode cX1_reckon 148 = .ok (.iload 4, 2) := by decide +kernel
theorem dX1_reckon_150 : decode cX1_reckon 150 = .ok (.iaload, 1) := by decide +kernel
theorem dX1_reckon_151 : decode cX1_reckon 151 = .ok (.iload 5, 2) := by decide +kernel
theorem dX1_reckon_153 : decode cX1_reckon 153 = .ok (.idiv, 1) := by decide +kernel
theorem dX1_reckon_154 : decode cX1_reckon 154 = .ok (.invokevirtual 88, 3) := by decide +kernel
theorem dX1_reckon_157 : decode cX1_reckon 157 = .ok (.goto 77, 3) := by decide +kernel
theorem dX1_reckon_160 : decode cX1_reckon 160 = .ok (.aload_n 0, 1) := by decide +kernel
theorem dX1_reckon_161 : decode cX1_reckon 161 = .ok (.iload 4, 2) := by decide +kernel
theorem dX1_reckon_163 : decode cX1_reckon 163 = .ok (.aload_n 0, 1) := by decide +kernel
theorem dX1_reckon_164 : decode cX1_reckon 164 = .ok (.getfield 9, 3) := by decide +kernel
theorem dX1_reckon_167 : decode cX1_reckon 167 = .ok (.iload 4, 2) := by decide +kernel
theorem dX1_reckon_169 : decode cX1_reckon 169 = .ok (.iaload, 1) := by decide +kernel
theorem dX1_reckon_170 : decode cX1_reckon 170 = .ok (.iload 5, 2) := by decide +kernel
theorem dX1_reckon_172 : decode cX1_reckon 172 = .ok (.ixor, 1) := by decide +kernel
theorem dX1_reckon_173 : decode cX1_reckon 173 = .ok (.invokevirtual 88, 3) := by decide +kernel
theorem dX1_reckon_176 : decode cX1_reckon 176 = .ok (.goto 58, 3) := by decide +kernel
theorem dX1_reckon_179 : decode cX1_reckon 179 = .ok (.aload_n 0, 1) := by decide +kernel
theorem dX1_reckon_180 : decode cX1_reckon 180 = .ok (.iload 4, 2) := by decide +kernel
theorem dX1_reckon_182 : decode cX1_reckon 182 = .ok (.iload_n 3, 1) := by decide +kernel
theorem dX1_reckon_183 : decode cX1_reckon 183 = .ok (.bipush 32, 2) := by decide +kernel
theorem dX1_reckon_185 : decode cX1_reckon 185 = .ok (.iand, 1) := by decide +kernel
theorem dX1_reckon_186 : decode cX1_reckon 186 = .ok (.ifCond .ne 18, 3) := by decide +kernel
theorem dX1_reckon_189 : decode cX1_reckon 189 = .ok (.aload_n 0, 1) := by decide +kernel
theorem dX1_reckon_190 : decode cX1_reckon 190 = .ok (.getfield 9, 3) := by decide +kernel
theorem dX1_reckon_193 : decode cX1_reckon 193 = .ok (.iload 4, 2) := by decide +kernel
theorem dX1_reckon_195 : decode cX1_reckon 195 = .ok (.iaload, 1) := by decide +kernel
theorem dX1_reckon_196 : decode cX1_reckon 196 = .ok (.iload_n 3, 1) := by decide +kernel
theorem dX1_reckon_197 : decode cX1_reckon 197 = .ok (.bipush 31, 2) := by decide +kernel
theorem dX1_reckon_199 : decode cX1_reckon 199 = .ok (.iand, 1) := by decide +kernel
theorem dX1_reckon_200 : decode cX1_reckon 200 = .ok (.ishl, 1) := by decide +kernel
theorem dX1_reckon_201 : decode cX1_reckon 201 = .ok (.goto 15, 3) := by decide +kernel
theorem dX1_reckon_204 : decode cX1_reckon 204 = .ok (.aload_n 0, 1) := by decide +kernel
theorem dX1_reckon_205 : decode cX1_reckon 205 = .ok (.getfield 9, 3) := by decide +kernel
theorem dX1_reckon_208 : decode cX1_reckon 208 = .ok (.iload 4, 2) := by decide +kernel
theorem dX1_reckon_210 : decode cX1_reckon 210 = .ok (.iaload, 1) := by decide +kernel
theorem dX1_reckon_211 : decode cX1_reckon 211 = .ok (.iload_n 3, 1) := by decide +kernel
theorem dX1_reckon_212 : decode cX1_reckon 212 = .ok (.bipush 31, 2) := by decide +kernel
theorem dX1_reckon_214 : decode cX1_reckon 214 = .ok (.iand, 1) := by decide +kernel
theorem dX1_reckon_215 : decode cX1_reckon 215 = .ok (.ishr, 1) := by decide +kernel
theorem dX1_reckon_216 : decode cX1_reckon 216 = .ok (.invokevirtual 88, 3) := by decide +kernel
theorem dX1_reckon_219 : decode cX1_reckon 219 = .ok (.goto 15, 3) := by decide +kernel
theorem dX1_reckon_222 : decode cX1_reckon 222 = .ok (.aload_n 0, 1) := by decide +kernel
theorem dX1_reckon_223 : decode cX1_reckon 223 = .ok (.getfield 9, 3) := by decide +kernel
theorem dX1_reckon_226 : decode cX1_reckon 226 = .ok (.iload 4, 2) := by decide +kernel
theorem dX1_reckon_228 : decode cX1_reckon 228 = .ok (.iload 5, 2) := by decide +kernel
theorem dX1_reckon_230 : decode cX1_reckon 230 = .ok (.iastore, 1) := by decide +kernel
theorem dX1_reckon_231 : decode cX1_reckon 231 = .ok (.goto 3, 3) := by decide +kernel
theorem dX1_reckon_234 : decode cX1_reckon 234 = .ok (.return_, 1) := by decide +kernel
theorem dX1_result_0 : decode cX1_result 0 = .ok (.aload_n 0, 1) := by decide +kernel
theorem dX1_result_1 : decode cX1_result 1 = .ok (.getfield 9, 3) := by decide +kernel
theorem dX1_result_4 : decode cX1_result 4 = .ok (.iload_n 1, 1) := by decide +kernel
theorem dX1_result_5 : decode cX1_result 5 = .ok (.iload_n 2, 1) := by decide +kernel
theorem dX1_result_6 : decode cX1_result 6 = .ok (.iastore, 1) := by decide +kernel
theorem dX1_result_7 : decode cX1_result 7 = .ok (.aload_n 0, 1) := by decide +kernel
theorem dX1_result_8 : decode cX1_result 8 = .ok (.iload_n 2, 1) := by decide +kernel
theorem dX1_result_9 : decode cX1_result 9 = .ok (.ifCond .ne 7, 3) := by decide +kernel
theorem dX1_result_12 : decode cX1_result 12 = .ok (.iconst 1, 1) := by decide +kernel
theorem dX1_result_13 : decode cX1_result 13 = .ok (.goto 4, 3) := by decide +kernel
theorem dX1_result_16 : decode cX1_result 16 = .ok (.iconst 0, 1) := by decide +kernel
theorem dX1_result_17 : decode cX1_result 17 = .ok (.putfield 46, 3) := by decide +kernel
theorem dX1_result_20 : decode cX1_result 20 = .ok (.aload_n 0, 1) := by decide +kernel
theorem dX1_result_21 : decode cX1_result 21 = .ok (.iload_n 2, 1) := by decide +kernel
theorem dX1_result_22 : decode cX1_result 22 = .ok (.ifCond .ge 7, 3) := by decide +kernel
theorem dX1_result_25 : decode cX1_result 25 = .ok (.iconst 1, 1) := by decide +kernel
theorem dX1_result_26 : decode cX1_result 26 = .ok (.goto 4, 3) := by decide +kernel
theorem dX1_result_29 : decode cX1_result 29 = .ok (.iconst 0, 1) := by decide +kernel
theorem dX1_result_30 : decode cX1_result 30 = .ok (.putfield 49, 3) := by decide +kernel
theorem dX1_result_33 : decode cX1_result 33 = .ok (.return_, 1) := by decide +kernel
theorem dX1_move_0 : decode cX1_move 0 = .ok (.sipush 256, 3) := by decide +kernel
theorem dX1_move_3 : decode cX1_move 3 = .ok (.iload_n 2, 1) := by decide +kernel
theorem dX1_move_4 : decode cX1_move 4 = .ok (.imul, 1) := by decide +kernel
theorem dX1_move_5 : decode cX1_move 5 = .ok (.iload_n 3, 1) := by decide +kernel
theorem dX1_move_6 : decode cX1_move 6 = .ok (.iadd, 1) := by decide +kernel
theorem dX1_move_7 : decode cX1_move 7 = .ok (.sipush 511, 3) := by decide +kernel
theorem dX1_move_10 : decode cX1_move 10 = .ok (.iand, 1) := by decide +kernel
theorem dX1_move_11 : decode cX1_move 11 = .ok (.istore 4, 2) := by decide +kernel
theorem dX1_move_13 : decode cX1_move 13 = .ok (.iload_n 1, 1) := by decide +kernel
theorem dX1_move_14 : decode cX1_move 14 = .ok (.tableswitch 238 9 29 #[98, 115, 131, 140, 164, 238, 238, 238, 238, 238, 238, 238, 238, 238, 238, 238, 238, 188, 238, 196, 217], 98) := by decide +kernel
theorem dX1_move_112 : decode cX1_move 112 = .ok (.aload_n 0, 1) := by decide +kernel
theorem dX1_move_113 : decode cX1_move 113 = .ok (.aload_n 0, 1) := by decide +kernel
theorem dX1_move_114 : decode cX1_move 114 = .ok (.getfield 9, 3) := by decide +kernel
theorem dX1_move_117 : decode cX1_move 117 = .ok (.iload_n 2, 1) := by decide +kernel
theorem dX1_move_118 : decode cX1_move 118 = .ok (.bipush 7, 2) := by decide +kernel
theorem dX1_move_120 : decode cX1_move 120 = .ok (.iand, 1) := by decide +kernel
theorem dX1_move_121 : decode cX1_move 121 = .ok (.iaload, 1) := by decide +kernel
theorem dX1_move_122 : decode cX1_move 122 = .ok (.invokevirtual 92, 3) := by decide +kernel
theorem dX1_move_125 : decode cX1_move 125 = .ok (.pop, 1) := by decide +kernel
theorem dX1_move_126 : decode cX1_move 126 = .ok (.goto 126, 3) := by decide +kernel
theorem dX1_move_129 : decode cX1_move 129 = .ok (.aload_n 0, 1) := by decide +kernel
theorem dX1_move_130 : decode cX1_move 130 = .ok (.getfield 9, 3) := by decide +kernel
theorem dX1_move_133 : decode cX1_move 133 = .ok (.iload_n 2, 1) := by decide +kernel
theorem dX1_move_134 : decode cX1_move 134 = .ok (.bipush 7, 2) := by decide +kernel
theorem dX1_move_136 : decode cX1_move 136 = .ok (.iand, 1) := by decide +kernel
theorem dX1_move_137 : decode cX1_move 137 = .ok (.aload_n 0, 1) := by decide +kernel
theorem dX1_move_138 : decode cX1_move 138 = .ok (.invokevirtual 95, 3) := by decide +kernel
theorem dX1_move_141 : decode cX1_move 141 = .ok (.iastore, 1) := by decide +kernel
theorem dX1_move_142 : decode cX1_move 142 = .ok (.goto 110, 3) := by decide +kernel
theorem dX1_move_145 : decode cX1_move 145 = .ok (.aload_n 0, 1) := by decide +kernel
theorem dX1_move_146 : decode cX1_move 146 = .ok (.iload 4, 2) := by decide +kernel
theorem dX1_move_148 : decode cX1_move 148 = .ok (.putfield 37, 3) := by decide +kernel
theorem dX1_move_151 : decode cX1_move 151 = .ok (.goto 101, 3) := by decide +kernel
theorem dX1_move_154 : decode cX1_move 154 = .ok (.aload_n 0, 1) := by decide +kernel
theorem dX1_move_155 : decode cX1_move 155 = .ok (.aload_n 0, 1) := by decide +kernel
theorem dX1_move_156 : decode cX1_move 156 = .ok (.getfield 46, 3) := by decide +kernel
theorem dX1_move_159 : decode cX1_move 159 = .ok (.iconst 1, 1) := by decide +kernel
theorem dX1_move_160 : decode cX1_move 160 = .ok (.if_icmp .ne 8, 3) := by decide +kernel
theorem dX1_move_163 : decode cX1_move 163 = .ok (.iload 4, 2) := by decide +kernel
theorem dX1_move_165 : decode cX1_move 165 = .ok (.goto 7, 3) := by decide +kernel
theorem dX1_move_168 : decode cX1_move 168 = .ok (.aload_n 0, 1) := by decide +kernel
theorem dX1_move_169 : decode cX1_move 169 = .ok (.getfield 37, 3) := by decide +kernel
theorem dX1_move_172 : decode cX1_move 172 = .ok (.putfield 37, 3) := by decide +kernel
theorem dX1_move_175 : decode cX1_move 175 = .ok (.goto 77, 3) := by decide +kernel
theorem dX1_move_178 : decode cX1_move 178 = .ok (.aload_n 0, 1) := by decide +kernel
theorem dX1_move_179 : decode cX1_move 179 = .ok (.aload_n 0, 1) := by decide +kernel
theorem dX1_move_180 : decode cX1_move 180 = .ok (.getfield 49, 3) := by decide +kernel
theorem dX1_move_183 : decode cX1_move 183 = .ok (.iconst 1, 1) := by decide +kernel
theorem dX1_move_184 : decode cX1_move 184 = .ok (.if_icmp .ne 8, 3) := by decide +kernel
theorem dX1_move_187 : decode cX1_move 187 = .ok (.iload 4, 2) := by decide +kernel
theorem dX1_move_189 : decode cX1_move 189 = .ok (.goto 7, 3) := by decide +kernel
theorem dX1_move_192 : decode cX1_move 192 = .ok (.aload_n 0, 1) := by decide +kernel
theorem dX1_move_193 : decode cX1_move 193 = .ok (.getfield 37, 3) := by decide +kernel
theorem dX1_move_196 : decode cX1_move 196 = .ok (.putfield 37, 3) := by decide +kernel
theorem dX1_move_199 : decode cX1_move 199 = .ok (.goto 53, 3) := by decide +kernel
theorem dX1_move_202 : decode cX1_move 202 = .ok (.aload_n 0, 1) := by decide +kernel
theorem dX1_move_203 : decode cX1_move 203 = .ok (.iload_n 2, 1) := by decide +kernel
theorem dX1_move_204 : decode cX1_move 204 = .ok (.invokevirtual 99, 3) := by decide +kernel
theorem dX1_move_207 : decode cX1_move 207 = .ok (.goto 45, 3) := by decide +kernel
theorem dX1_move_210 : decode cX1_move 210 = .ok (.aload_n 0, 1) := by decide +kernel
theorem dX1_move_211 : decode cX1_move 211 = .ok (.getfield 9, 3) := by decide +kernel
theorem dX1_move_214 : decode cX1_move 214 = .ok (.iload_n 2, 1) := by decide +kernel
theorem dX1_move_215 : decode cX1_move 215 = .ok (.bipush 7, 2) := by decide +kernel
theorem dX1_move_217 : decode cX1_move 217 = .ok (.iand, 1) := by decide +kernel
theorem dX1_move_218 : decode cX1_move 218 = .ok (.aload_n 0, 1) := by decide +kernel
theorem dX1_move_219 : decode cX1_move 219 = .ok (.getfield 18, 3) := by decide +kernel
theorem dX1_move_222 : decode cX1_move 222 = .ok (.iload_n 3, 1) := by decide +kernel
theorem dX1_move_223 : decode cX1_move 223 = .ok (.bipush 15, 2) := by decide +kernel
theorem dX1_move_225 : decode cX1_move 225 = .ok (.iand, 1) := by decide +kernel
theorem dX1_move_226 : decode cX1_move 226 = .ok (.iaload, 1) := by decide +kernel
theorem dX1_move_227 : decode cX1_move 227 = .ok (.iastore, 1) := by decide +kernel
theorem dX1_move_228 : decode cX1_move 228 = .ok (.goto 24, 3) := by decide +kernel
theorem dX1_move_231 : decode cX1_move 231 = .ok (.aload_n 0, 1) := by decide +kernel
theorem dX1_move_232 : decode cX1_move 232 = .ok (.getfield 18, 3) := by decide +kernel
theorem dX1_move_235 : decode cX1_move 235 = .ok (.iload_n 3, 1) := by decide +kernel
theorem dX1_move_236 : decode cX1_move 236 = .ok (.bipush 15, 2) := by decide +kernel
theorem dX1_move_238 : decode cX1_move 238 = .ok (.iand, 1) := by decide +kernel
theorem dX1_move_239 : decode cX1_move 239 = .ok (.aload_n 0, 1) := by decide +kernel
theorem dX1_move_240 : decode cX1_move 240 = .ok (.getfield 9, 3) := by decide +kernel
theorem dX1_move_243 : decode cX1_move 243 = .ok (.iload_n 2, 1) := by decide +kernel
theorem dX1_move_244 : decode cX1_move 244 = .ok (.bipush 7, 2) := by decide +kernel
theorem dX1_move_246 : decode cX1_move 246 = .ok (.iand, 1) := by decide +kernel
theorem dX1_move_247 : decode cX1_move 247 = .ok (.iaload, 1) := by decide +kernel
theorem dX1_move_248 : decode cX1_move 248 = .ok (.iastore, 1) := by decide +kernel
theorem dX1_move_249 : decode cX1_move 249 = .ok (.goto 3, 3) := by decide +kernel
theorem dX1_move_252 : decode cX1_move 252 = .ok (.return_, 1) := by decide +kernel
theorem dX1_reckonSingles_0 : decode cX1_reckonSingles 0 = .ok (.iload_n 2, 1) := by decide +kernel
theorem dX1_reckonSingles_1 : decode cX1_reckonSingles 1 = .ok (.iconst 3, 1) := by decide +kernel
theorem dX1_reckonSingles_2 : decode cX1_reckonSingles 2 = .ok (.iand, 1) := by decide +kernel
theorem dX1_reckonSingles_3 : decode cX1_reckonSingles 3 = .ok (.istore 4, 2) := by decide +kernel
theorem dX1_reckonSingles_5 : decode cX1_reckonSingles 5 = .ok (.iload_n 3, 1) := by decide +kernel
theorem dX1_reckonSingles_6 : decode cX1_reckonSingles 6 = .ok (.iconst 3, 1) := by decide +kernel
theorem dX1_reckonSingles_7 : decode cX1_reckonSingles 7 = .ok (.iand, 1) := by decide +kernel
theorem dX1_reckonSingles_8 : decode cX1_reckonSingles 8 = .ok (.istore 5, 2) := by decide +kernel
theorem dX1_reckonSingles_10 : decode cX1_reckonSingles 10 = .ok (.iload_n 1, 1) := by decide +kernel
theorem dX1_reckonSingles_11 : decode cX1_reckonSingles 11 = .ok (.tableswitch 151 20 24 #[33, 51, 78, 105, 128], 33) := by decide +kernel
theorem dX1_reckonSingles_44 : decode cX1_reckonSingles 44 = .ok (.aload_n 0, 1) := by decide +kernel
theorem dX1_reckonSingles_45 : decode cX1_reckonSingles 45 = .ok (.getfield 15, 3) := by decide +kernel
theorem dX1_reckonSingles_48 : decode cX1_reckonSingles 48 = .ok (.iload 4, 2) := by decide +kernel
theorem dX1_reckonSingles_50 : decode cX1_reckonSingles 50 = .ok (.iload_n 3, 1) := by decide +kernel
theorem dX1_reckonSingles_51 : decode cX1_reckonSingles 51 = .ok (.i2f, 1) := by decide +kernel
theorem dX1_reckonSingles_52 : decode cX1_reckonSingles 52 = .ok (.ldc 103, 2) := by decide +kernel
theorem dX1_reckonSingles_54 : decode cX1_reckonSingles 54 = .ok (.fmul, 1) := by decide +kernel
theorem dX1_reckonSingles_55 : decode cX1_reckonSingles 55 = .ok (.invokestatic 104, 3) := by decide +kernel
theorem dX1_reckonSingles_58 : decode cX1_reckonSingles 58 = .ok (.iastore, 1) := by decide +kernel
theorem dX1_reckonSingles_59 : decode cX1_reckonSingles 59 = .ok (.goto 103, 3) := by decide +kernel
theorem dX1_reckonSingles_62 : decode cX1_reckonSingles 62 = .ok (.aload_n 0, 1) := by decide +kernel
theorem dX1_reckonSingles_63 : decode cX1_reckonSingles 63 = .ok (.getfield 15, 3) := by decide +kernel
theorem dX1_reckonSingles_66 : decode cX1_reckonSingles 66 = .ok (.iload 4, 2) := by decide +kernel
theorem dX1_reckonSingles_68 : decode cX1_reckonSingles 68 = .ok (.aload_n 0, 1) := by decide +kernel
theorem dX1_reckonSingles_69 : decode cX1_reckonSingles 69 = .ok (.getfield 15, 3) := by decide +kernel
theorem dX1_reckonSingles_72 : decode cX1_reckonSingles 72 = .ok (.iload 4, 2) := by decide +kernel
theorem dX1_reckonSingles_74 : decode cX1_reckonSingles 74 = .ok (.iaload, 1) := by decide +kernel
theorem dX1_reckonSingles_75 : decode cX1_reckonSingles 75 = .ok (.aload_n 0, 1) := by decide +kernel
theorem dX1_reckonSingles_76 : decode cX1_reckonSingles 76 = .ok (.getfield 15, 3) := by decide +kernel
theorem dX1_reckonSingles_79 : decode cX1_reckonSingles 79 = .ok (.iload 5, 2) := by decide +kernel
theorem dX1_reckonSingles_81 : decode cX1_reckonSingles 81 = .ok (.iaload, 1) := by decide +kernel
theorem dX1_reckonSingles_82 : decode cX1_reckonSingles 82 = .ok (.invokestatic 78, 3) := by decide +kernel
theorem dX1_reckonSingles_85 : decode cX1_reckonSingles 85 = .ok (.iastore, 1) := by decide +kernel
theorem dX1_reckonSingles_86 : decode cX1_reckonSingles 86 = .ok (.goto 76, 3) := by decide +kernel
theorem dX1_reckonSingles_89 : decode cX1_reckonSingles 89 = .ok (.aload_n 0, 1) := by decide +kernel
theorem dX1_reckonSingles_90 : decode cX1_reckonSingles 90 = .ok (.getfield 15, 3) := by decide +kernel
theorem dX1_reckonSingles_93 : decode cX1_reckonSingles 93 = .ok (.iload 4, 2) := by decide +kernel
theorem dX1_reckonSingles_95 : decode cX1_reckonSingles 95 = .ok (.aload_n 0, 1) := by decide +kernel
theorem dX1_reckonSingles_96 : decode cX1_reckonSingles 96 = .ok (.getfield 15, 3) := by decide +kernel
theorem dX1_reckonSingles_99 : decode cX1_reckonSingles 99 = .ok (.iload 4, 2) := by decide +kernel
theorem dX1_reckonSingles_101 : decode cX1_reckonSingles 101 = .ok (.iaload, 1) := by decide +kernel
theorem dX1_reckonSingles_102 : decode cX1_reckonSingles 102 = .ok (.aload_n 0, 1) := by decide +kernel
theorem dX1_reckonSingles_103 : decode cX1_reckonSingles 103 = .ok (.getfield 15, 3) := by decide +kernel
theorem dX1_reckonSingles_106 : decode cX1_reckonSingles 106 = .ok (.iload 5, 2) := by decide +kernel
theorem dX1_reckonSingles_108 : decode cX1_reckonSingles 108 = .ok (.iaload, 1) := by decide +kernel
theorem dX1_reckonSingles_109 : decode cX1_reckonSingles 109 = .ok (.invokestatic 85, 3) := by decide +kernel
theorem dX1_reckonSingles_112 : decode cX1_reckonSingles 112 = .ok (.iastore, 1) := by decide +kernel
theorem dX1_reckonSingles_113 : decode cX1_reckonSingles 113 = .ok (.goto 49, 3) := by decide +kernel
theorem dX1_reckonSingles_116 : decode cX1_reckonSingles 116 = .ok (.aload_n 0, 1) := by decide +kernel
theorem dX1_reckonSingles_117 : decode cX1_reckonSingles 117 = .ok (.getfield 9, 3) := by decide +kernel
theorem dX1_reckonSingles_120 : decode cX1_reckonSingles 120 = .ok (.iload_n 2, 1) := by decide +kernel
theorem dX1_reckonSingles_121 : decode cX1_reckonSingles 121 = .ok (.bipush 7, 2) := by decide +kernel
theorem dX1_reckonSingles_123 : decode cX1_reckonSingles 123 = .ok (.iand, 1) := by decide +kernel
theorem dX1_reckonSingles_124 : decode cX1_reckonSingles 124 = .ok (.aload_n 0, 1) := by decide +kernel
theorem dX1_reckonSingles_125 : decode cX1_reckonSingles 125 = .ok (.getfield 15, 3) := by decide +kernel
theorem dX1_reckonSingles_128 : decode cX1_reckonSingles 128 = .ok (.iload 5, 2) := by decide +kernel
theorem dX1_reckonSingles_130 : decode cX1_reckonSingles 130 = .ok (.iaload, 1) := by decide +kernel
theorem dX1_reckonSingles_131 : decode cX1_reckonSingles 131 = .ok (.invokestatic 108, 3) := by decide +kernel
theorem dX1_reckonSingles_134 : decode cX1_reckonSingles 134 = .ok (.f2i, 1) := by decide +kernel
theorem dX1_reckonSingles_135 : decode cX1_reckonSingles 135 = .ok (.iastore, 1) := by decide +kernel
theorem dX1_reckonSingles_136 : decode cX1_reckonSingles 136 = .ok (.goto 26, 3) := by decide +kernel
theorem dX1_reckonSingles_139 : decode cX1_reckonSingles 139 = .ok (.aload_n 0, 1) := by decide +kernel
theorem dX1_reckonSingles_140 : decode cX1_reckonSingles 140 = .ok (.getfield 15, 3) := by decide +kernel
theorem dX1_reckonSingles_143 : decode cX1_reckonSingles 143 = .ok (.iload 4, 2) := by decide +kernel
theorem dX1_reckonSingles_145 : decode cX1_reckonSingles 145 = .ok (.aload_n 0, 1) := by decide +kernel
theorem dX1_reckonSingles_146 : decode cX1_reckonSingles 146 = .ok (.getfield 9, 3) := by decide +kernel
theorem dX1_reckonSingles_149 : decode cX1_reckonSingles 149 = .ok (.iload_n 3, 1) := by decide +kernel
theorem dX1_reckonSingles_150 : decode cX1_reckonSingles 150 = .ok (.bipush 7, 2) := by decide +kernel
theorem dX1_reckonSingles_152 : decode cX1_reckonSingles 152 = .ok (.iand, 1) := by decide +kernel
theorem dX1_reckonSingles_153 : decode cX1_reckonSingles 153 = .ok (.iaload, 1) := by decide +kernel
theorem dX1_reckonSingles_154 : decode cX1_reckonSingles 154 = .ok (.i2f, 1) := by decide +kernel
theorem dX1_reckonSingles_155 : decode cX1_reckonSingles 155 = .ok (.invokestatic 104, 3) := by decide +kernel
theorem dX1_reckonSingles_158 : decode cX1_reckonSingles 158 = .ok (.iastore, 1) := by decide +kernel
theorem dX1_reckonSingles_159 : decode cX1_reckonSingles 159 = .ok (.goto 3, 3) := by decide +kernel
theorem dX1_reckonSingles_162 : decode cX1_reckonSingles 162 = .ok (.aload_n 0, 1) := by decide +kernel
theorem dX1_reckonSingles_163 : decode cX1_reckonSingles 163 = .ok (.iconst 1, 1) := by decide +kernel
theorem dX1_reckonSingles_164 : decode cX1_reckonSingles 164 = .ok (.putfield 55, 3) := by decide +kernel
theorem dX1_reckonSingles_167 : decode cX1_reckonSingles 167 = .ok (.return_, 1) := by decide +kernel
theorem dX1_push_0 : decode cX1_push 0 = .ok (.aload_n 0, 1) := by decide +kernel
theorem dX1_push_1 : decode cX1_push 1 = .ok (.getfield 40, 3) := by decide +kernel
theorem dX1_push_4 : decode cX1_push 4 = .ok (.bipush 96, 2) := by decide +kernel
theorem dX1_push_6 : decode cX1_push 6 = .ok (.if_icmp .lt 5, 3) := by decide +kernel
theorem dX1_push_9 : decode cX1_push 9 = .ok (.iconst 0, 1) := by decide +kernel
theorem dX1_push_10 : decode cX1_push 10 = .ok (.ireturn, 1) := by decide +kernel
theorem dX1_push_11 : decode cX1_push 11 = .ok (.aload_n 0, 1) := by decide +kernel
theorem dX1_push_12 : decode cX1_push 12 = .ok (.getfield 21, 3) := by decide +kernel
theorem dX1_push_15 : decode cX1_push 15 = .ok (.aload_n 0, 1) := by decide +kernel
theorem dX1_push_16 : decode cX1_push 16 = .ok (.getfield 40, 3) := by decide +kernel
theorem dX1_push_19 : decode cX1_push 19 = .ok (.iload_n 1, 1) := by decide +kernel
theorem dX1_push_20 : decode cX1_push 20 = .ok (.iastore, 1) := by decide +kernel
theorem dX1_push_21 : decode cX1_push 21 = .ok (.aload_n 0, 1) := by decide +kernel
theorem dX1_push_22 : decode cX1_push 22 = .ok (.iconst 1, 1) := by decide +kernel
theorem dX1_push_23 : decode cX1_push 23 = .ok (.invokevirtual 112, 3) := by decide +kernel
theorem dX1_push_26 : decode cX1_push 26 = .ok (.iconst 1, 1) := by decide +kernel
theorem dX1_push_27 : decode cX1_push 27 = .ok (.ireturn, 1) := by decide +kernel
theorem dX1_pushFours_0 : decode cX1_pushFours 0 = .ok (.aload_n 0, 1) := by decide +kernel
theorem dX1_pushFours_1 : decode cX1_pushFours 1 = .ok (.getfield 40, 3) := by decide +kernel
theorem dX1_pushFours_4 : decode cX1_pushFours 4 = .ok (.bipush 92, 2) := by decide +kernel
theorem dX1_pushFours_6 : decode cX1_pushFours 6 = .ok (.if_icmp .le 5, 3) := by decide +kernel
theorem dX1_pushFours_9 : decode cX1_pushFours 9 = .ok (.iconst 0, 1) := by decide +kernel
theorem dX1_pushFours_10 : decode cX1_pushFours 10 = .ok (.ireturn, 1) := by decide +kernel
theorem dX1_pushFours_11 : decode cX1_pushFours 11 = .ok (.aload_n 0, 1) := by decide +kernel
theorem dX1_pushFours_12 : decode cX1_pushFours 12 = .ok (.aload_n 0, 1) := by decide +kernel
theorem dX1_pushFours_13 : decode cX1_pushFours 13 = .ok (.getfield 40, 3) := by decide +kernel
theorem dX1_pushFours_16 : decode cX1_pushFours 16 = .ok (.putfield 24, 3) := by decide +kernel
theorem dX1_pushFours_19 : decode cX1_pushFours 19 = .ok (.aload_n 0, 1) := by decide +kernel
theorem dX1_pushFours_20 : decode cX1_pushFours 20 = .ok (.iconst 4, 1) := by decide +kernel
theorem dX1_pushFours_21 : decode cX1_pushFours 21 = .ok (.invokevirtual 112, 3) := by decide +kernel
theorem dX1_pushFours_24 : decode cX1_pushFours 24 = .ok (.iconst 1, 1) := by decide +kernel
theorem dX1_pushFours_25 : decode cX1_pushFours 25 = .ok (.ireturn, 1) := by decide +kernel
theorem dX1_rise_0 : decode cX1_rise 0 = .ok (.aload_n 0, 1) := by decide +kernel
theorem dX1_rise_1 : decode cX1_rise 1 = .ok (.dup, 1) := by decide +kernel
theorem dX1_rise_2 : decode cX1_rise 2 = .ok (.getfield 40, 3) := by decide +kernel
theorem dX1_rise_5 : decode cX1_rise 5 = .ok (.iload_n 1, 1) := by decide +kernel
theorem dX1_rise_6 : decode cX1_rise 6 = .ok (.iadd, 1) := by decide +kernel
theorem dX1_rise_7 : decode cX1_rise 7 = .ok (.putfield 40, 3) := by decide +kernel
theorem dX1_rise_10 : decode cX1_rise 10 = .ok (.aload_n 0, 1) := by decide +kernel
theorem dX1_rise_11 : decode cX1_rise 11 = .ok (.aload_n 0, 1) := by decide +kernel
theorem dX1_rise_12 : decode cX1_rise 12 = .ok (.getfield 43, 3) := by decide +kernel
theorem dX1_rise_15 : decode cX1_rise 15 = .ok (.aload_n 0, 1) := by decide +kernel
theorem dX1_rise_16 : decode cX1_rise 16 = .ok (.getfield 40, 3) := by decide +kernel
theorem dX1_rise_19 : decode cX1_rise 19 = .ok (.invokestatic 115, 3) := by decide +kernel
theorem dX1_rise_22 : decode cX1_rise 22 = .ok (.putfield 43, 3) := by decide +kernel
theorem dX1_rise_25 : decode cX1_rise 25 = .ok (.return_, 1) := by decide +kernel
theorem dX1_pop_0 : decode cX1_pop 0 = .ok (.aload_n 0, 1) := by decide +kernel
theorem dX1_pop_1 : decode cX1_pop 1 = .ok (.getfield 40, 3) := by decide +kernel
theorem dX1_pop_4 : decode cX1_pop 4 = .ok (.iconst 1, 1) := by decide +kernel
theorem dX1_pop_5 : decode cX1_pop 5 = .ok (.if_icmp .ge 5, 3) := by decide +kernel
theorem dX1_pop_8 : decode cX1_pop 8 = .ok (.iconst 0, 1) := by decide +kernel
theorem dX1_pop_9 : decode cX1_pop 9 = .ok (.ireturn, 1) := by decide +kernel
theorem dX1_pop_10 : decode cX1_pop 10 = .ok (.aload_n 0, 1) := by decide +kernel
theorem dX1_pop_11 : decode cX1_pop 11 = .ok (.dup, 1) := by decide +kernel
theorem dX1_pop_12 : decode cX1_pop 12 = .ok (.getfield 40, 3) := by decide +kernel
theorem dX1_pop_15 : decode cX1_pop 15 = .ok (.iconst 1, 1) := by decide +kernel
theorem dX1_pop_16 : decode cX1_pop 16 = .ok (.isub, 1) := by decide +kernel
theorem dX1_pop_17 : decode cX1_pop 17 = .ok (.putfield 40, 3) := by decide +kernel
theorem dX1_pop_20 : decode cX1_pop 20 = .ok (.aload_n 0, 1) := by decide +kernel
theorem dX1_pop_21 : decode cX1_pop 21 = .ok (.getfield 21, 3) := by decide +kernel
theorem dX1_pop_24 : decode cX1_pop 24 = .ok (.aload_n 0, 1) := by decide +kernel
theorem dX1_pop_25 : decode cX1_pop 25 = .ok (.getfield 40, 3) := by decide +kernel
theorem dX1_pop_28 : decode cX1_pop 28 = .ok (.iaload, 1) := by decide +kernel
theorem dX1_pop_29 : decode cX1_pop 29 = .ok (.ireturn, 1) := by decide +kernel
theorem dX1_shiftReturn_0 : decode cX1_shiftReturn 0 = .ok (.aload_n 0, 1) := by decide +kernel
theorem dX1_shiftReturn_1 : decode cX1_shiftReturn 1 = .ok (.getfield 40, 3) := by decide +kernel
theorem dX1_shiftReturn_4 : decode cX1_shiftReturn 4 = .ok (.iconst 2, 1) := by decide +kernel
theorem dX1_shiftReturn_5 : decode cX1_shiftReturn 5 = .ok (.if_icmp .lt 31, 3) := by decide +kernel
theorem dX1_shiftReturn_8 : decode cX1_shiftReturn 8 = .ok (.aload_n 0, 1) := by decide +kernel
theorem dX1_shiftReturn_9 : decode cX1_shiftReturn 9 = .ok (.getfield 21, 3) := by decide +kernel
theorem dX1_shiftReturn_12 : decode cX1_shiftReturn 12 = .ok (.aload_n 0, 1) := by decide +kernel
theorem dX1_shiftReturn_13 : decode cX1_shiftReturn 13 = .ok (.getfield 40, 3) := by decide +kernel
theorem dX1_shiftReturn_16 : decode cX1_shiftReturn 16 = .ok (.iconst 2, 1) := by decide +kernel
theorem dX1_shiftReturn_17 : decode cX1_shiftReturn 17 = .ok (.isub, 1) := by decide +kernel
theorem dX1_shiftReturn_18 : decode cX1_shiftReturn 18 = .ok (.aload_n 0, 1) := by decide +kernel
theorem dX1_shiftReturn_19 : decode cX1_shiftReturn 19 = .ok (.getfield 21, 3) := by decide +kernel
theorem dX1_shiftReturn_22 : decode cX1_shiftReturn 22 = .ok (.aload_n 0, 1) := by decide +kernel
theorem dX1_shiftReturn_23 : decode cX1_shiftReturn 23 = .ok (.getfield 40, 3) := by decide +kernel
theorem dX1_shiftReturn_26 : decode cX1_shiftReturn 26 = .ok (.iconst 2, 1) := by decide +kernel
theorem dX1_shiftReturn_27 : decode cX1_shiftReturn 27 = .ok (.isub, 1) := by decide +kernel
theorem dX1_shiftReturn_28 : decode cX1_shiftReturn 28 = .ok (.iaload, 1) := by decide +kernel
theorem dX1_shiftReturn_29 : decode cX1_shiftReturn 29 = .ok (.iload_n 1, 1) := by decide +kernel
theorem dX1_shiftReturn_30 : decode cX1_shiftReturn 30 = .ok (.iadd, 1) := by decide +kernel
theorem dX1_shiftReturn_31 : decode cX1_shiftReturn 31 = .ok (.sipush 511, 3) := by decide +kernel
theorem dX1_shiftReturn_34 : decode cX1_shiftReturn 34 = .ok (.iand, 1) := by decide +kernel
theorem dX1_shiftReturn_35 : decode cX1_shiftReturn 35 = .ok (.iastore, 1) := by decide +kernel
theorem dX1_shiftReturn_36 : decode cX1_shiftReturn 36 = .ok (.return_, 1) := by decide +kernel
theorem dX1_saveSingle_0 : decode cX1_saveSingle 0 = .ok (.aload_n 0, 1) := by decide +kernel
theorem dX1_saveSingle_1 : decode cX1_saveSingle 1 = .ok (.getfield 24, 3) := by decide +kernel
theorem dX1_saveSingle_4 : decode cX1_saveSingle 4 = .ok (.ifCond .lt 31, 3) := by decide +kernel
theorem dX1_saveSingle_7 : decode cX1_saveSingle 7 = .ok (.aload_n 0, 1) := by decide +kernel
theorem dX1_saveSingle_8 : decode cX1_saveSingle 8 = .ok (.getfield 24, 3) := by decide +kernel
theorem dX1_saveSingle_11 : decode cX1_saveSingle 11 = .ok (.iload_n 1, 1) := by decide +kernel
theorem dX1_saveSingle_12 : decode cX1_saveSingle 12 = .ok (.iadd, 1) := by decide +kernel
theorem dX1_saveSingle_13 : decode cX1_saveSingle 13 = .ok (.bipush 96, 2) := by decide +kernel
theorem dX1_saveSingle_15 : decode cX1_saveSingle 15 = .ok (.if_icmp .ge 20, 3) := by decide +kernel
theorem dX1_saveSingle_18 : decode cX1_saveSingle 18 = .ok (.aload_n 0, 1) := by decide +kernel
theorem dX1_saveSingle_19 : decode cX1_saveSingle 19 = .ok (.getfield 21, 3) := by decide +kernel
theorem dX1_saveSingle_22 : decode cX1_saveSingle 22 = .ok (.aload_n 0, 1) := by decide +kernel
theorem dX1_saveSingle_23 : decode cX1_saveSingle 23 = .ok (.getfield 24, 3) := by decide +kernel
theorem dX1_saveSingle_26 : decode cX1_saveSingle 26 = .ok (.iload_n 1, 1) := by decide +kernel
theorem dX1_saveSingle_27 : decode cX1_saveSingle 27 = .ok (.iadd, 1) := by decide +kernel
theorem dX1_saveSingle_28 : decode cX1_saveSingle 28 = .ok (.aload_n 0, 1) := by decide +kernel
theorem dX1_saveSingle_29 : decode cX1_saveSingle 29 = .ok (.getfield 15, 3) := by decide +kernel
theorem dX1_saveSingle_32 : decode cX1_saveSingle 32 = .ok (.iload_n 1, 1) := by decide +kernel
theorem dX1_saveSingle_33 : decode cX1_saveSingle 33 = .ok (.iaload, 1) := by decide +kernel
theorem dX1_saveSingle_34 : decode cX1_saveSingle 34 = .ok (.iastore, 1) := by decide +kernel
theorem dX1_saveSingle_35 : decode cX1_saveSingle 35 = .ok (.return_, 1) := by decide +kernel
theorem dX1_frameFault_0 : decode cX1_frameFault 0 = .ok (.aload_n 0, 1) := by decide +kernel
theorem dX1_frameFault_1 : decode cX1_frameFault 1 = .ok (.getfield 40, 3) := by decide +kernel
theorem dX1_frameFault_4 : decode cX1_frameFault 4 = .ok (.bipush 6, 2) := by decide +kernel
theorem dX1_frameFault_6 : decode cX1_frameFault 6 = .ok (.if_icmp .ge 6, 3) := by decide +kernel
theorem dX1_frameFault_9 : decode cX1_frameFault 9 = .ok (.bipush 19, 2) := by decide +kernel
theorem dX1_frameFault_11 : decode cX1_frameFault 11 = .ok (.ireturn, 1) := by decide +kernel
theorem dX1_frameFault_12 : decode cX1_frameFault 12 = .ok (.aload_n 0, 1) := by decide +kernel
theorem dX1_frameFault_13 : decode cX1_frameFault 13 = .ok (.getfield 21, 3) := by decide +kernel
theorem dX1_frameFault_16 : decode cX1_frameFault 16 = .ok (.aload_n 0, 1) := by decide +kernel
theorem dX1_frameFault_17 : decode cX1_frameFault 17 = .ok (.getfield 40, 3) := by decide +kernel
theorem dX1_frameFault_20 : decode cX1_frameFault 20 = .ok (.iconst 1, 1) := by decide +kernel
theorem dX1_frameFault_21 : decode cX1_frameFault 21 = .ok (.isub, 1) := by decide +kernel
theorem dX1_frameFault_22 : decode cX1_frameFault 22 = .ok (.iaload, 1) := by decide +kernel
theorem dX1_frameFault_23 : decode cX1_frameFault 23 = .ok (.istore_n 1, 1) := by decide +kernel
theorem dX1_frameFault_24 : decode cX1_frameFault 24 = .ok (.iload_n 1, 1) := by decide +kernel
theorem dX1_frameFault_25 : decode cX1_frameFault 25 = .ok (.sipush 23040, 3) := by decide +kernel
theorem dX1_frameFault_28 : decode cX1_frameFault 28 = .ok (.if_icmp .lt 10, 3) := by decide +kernel
theorem dX1_frameFault_31 : decode cX1_frameFault 31 = .ok (.iload_n 1, 1) := by decide +kernel
theorem dX1_frameFault_32 : decode cX1_frameFault 32 = .ok (.sipush 23047, 3) := by decide +kernel
theorem dX1_frameFault_35 : decode cX1_frameFault 35 = .ok (.if_icmp .le 6, 3) := by decide +kernel
theorem dX1_frameFault_38 : decode cX1_frameFault 38 = .ok (.bipush 18, 2) := by decide +kernel
theorem dX1_frameFault_40 : decode cX1_frameFault 40 = .ok (.ireturn, 1) := by decide +kernel
theorem dX1_frameFault_41 : decode cX1_frameFault 41 = .ok (.aload_n 0, 1) := by decide +kernel
theorem dX1_frameFault_42 : decode cX1_frameFault 42 = .ok (.invokevirtual 120, 3) := by decide +kernel
theorem dX1_frameFault_45 : decode cX1_frameFault 45 = .ok (.ifCond .eq 15, 3) := by decide +kernel
theorem dX1_frameFault_48 : decode cX1_frameFault 48 = .ok (.aload_n 0, 1) := by decide +kernel
theorem dX1_frameFault_49 : decode cX1_frameFault 49 = .ok (.getfield 40, 3) := by decide +kernel
theorem dX1_frameFault_52 : decode cX1_frameFault 52 = .ok (.bipush 10, 2) := by decide +kernel
theorem dX1_frameFault_54 : decode cX1_frameFault 54 = .ok (.if_icmp .ge 6, 3) := by decide +kernel
theorem dX1_frameFault_57 : decode cX1_frameFault 57 = .ok (.bipush 19, 2) := by decide +kernel
theorem dX1_frameFault_59 : decode cX1_frameFault 59 = .ok (.ireturn, 1) := by decide +kernel
theorem dX1_frameFault_60 : decode cX1_frameFault 60 = .ok (.aload_n 0, 1) := by decide +kernel
theorem dX1_frameFault_61 : decode cX1_frameFault 61 = .ok (.getfield 21, 3) := by decide +kernel
theorem dX1_frameFault_64 : decode cX1_frameFault 64 = .ok (.aload_n 0, 1) := by decide +kernel
theorem dX1_frameFault_65 : decode cX1_frameFault 65 = .ok (.getfield 40, 3) := by decide +kernel
theorem dX1_frameFault_68 : decode cX1_frameFault 68 = .ok (.iconst 2, 1) := by decide +kernel
theorem dX1_frameFault_69 : decode cX1_frameFault 69 = .ok (.isub, 1) := by decide +kernel
theorem dX1_frameFault_70 : decode cX1_frameFault 70 = .ok (.iaload, 1) := by decide +kernel
theorem dX1_frameFault_71 : decode cX1_frameFault 71 = .ok (.invokestatic 124, 3) := by decide +kernel
theorem dX1_frameFault_74 : decode cX1_frameFault 74 = .ok (.ifCond .eq 7, 3) := by decide +kernel
theorem dX1_frameFault_77 : decode cX1_frameFault 77 = .ok (.iconst (-1), 1) := by decide +kernel
theorem dX1_frameFault_78 : decode cX1_frameFault 78 = .ok (.goto 5, 3) := by decide +kernel
theorem dX1_frameFault_81 : decode cX1_frameFault 81 = .ok (.bipush 18, 2) := by decide +kernel
theorem dX1_frameFault_83 : decode cX1_frameFault 83 = .ok (.ireturn, 1) := by decide +kernel
theorem dX1_hasFours_0 : decode cX1_hasFours 0 = .ok (.aload_n 0, 1) := by decide +kernel
theorem dX1_hasFours_1 : decode cX1_hasFours 1 = .ok (.getfield 21, 3) := by decide +kernel
theorem dX1_hasFours_4 : decode cX1_hasFours 4 = .ok (.aload_n 0, 1) := by decide +kernel
theorem dX1_hasFours_5 : decode cX1_hasFours 5 = .ok (.getfield 40, 3) := by decide +kernel
theorem dX1_hasFours_8 : decode cX1_hasFours 8 = .ok (.iconst 1, 1) := by decide +kernel
theorem dX1_hasFours_9 : decode cX1_hasFours 9 = .ok (.isub, 1) := by decide +kernel
theorem dX1_hasFours_10 : decode cX1_hasFours 10 = .ok (.iaload, 1) := by decide +kernel
theorem dX1_hasFours_11 : decode cX1_hasFours 11 = .ok (.iconst 4, 1) := by decide +kernel
theorem dX1_hasFours_12 : decode cX1_hasFours 12 = .ok (.iand, 1) := by decide +kernel
theorem dX1_hasFours_13 : decode cX1_hasFours 13 = .ok (.ifCond .eq 7, 3) := by decide +kernel
theorem dX1_hasFours_16 : decode cX1_hasFours 16 = .ok (.iconst 1, 1) := by decide +kernel
theorem dX1_hasFours_17 : decode cX1_hasFours 17 = .ok (.goto 4, 3) := by decide +kernel
theorem dX1_hasFours_20 : decode cX1_hasFours 20 = .ok (.iconst 0, 1) := by decide +kernel
theorem dX1_hasFours_21 : decode cX1_hasFours 21 = .ok (.ireturn, 1) := by decide +kernel
theorem dX1_isLazyFrame_0 : decode cX1_isLazyFrame 0 = .ok (.aload_n 0, 1) := by decide +kernel
theorem dX1_isLazyFrame_1 : decode cX1_isLazyFrame 1 = .ok (.invokevirtual 120, 3) := by decide +kernel
theorem dX1_isLazyFrame_4 : decode cX1_isLazyFrame 4 = .ok (.ifCond .eq 21, 3) := by decide +kernel
theorem dX1_isLazyFrame_7 : decode cX1_isLazyFrame 7 = .ok (.aload_n 0, 1) := by decide +kernel
theorem dX1_isLazyFrame_8 : decode cX1_isLazyFrame 8 = .ok (.getfield 24, 3) := by decide +kernel
theorem dX1_isLazyFrame_11 : decode cX1_isLazyFrame 11 = .ok (.aload_n 0, 1) := by decide +kernel
theorem dX1_isLazyFrame_12 : decode cX1_isLazyFrame 12 = .ok (.getfield 40, 3) := by decide +kernel
theorem dX1_isLazyFrame_15 : decode cX1_isLazyFrame 15 = .ok (.bipush 10, 2) := by decide +kernel
theorem dX1_isLazyFrame_17 : decode cX1_isLazyFrame 17 = .ok (.isub, 1) := by decide +kernel
theorem dX1_isLazyFrame_18 : decode cX1_isLazyFrame 18 = .ok (.if_icmp .ne 7, 3) := by decide +kernel
theorem dX1_isLazyFrame_21 : decode cX1_isLazyFrame 21 = .ok (.iconst 1, 1) := by decide +kernel
theorem dX1_isLazyFrame_22 : decode cX1_isLazyFrame 22 = .ok (.goto 4, 3) := by decide +kernel
theorem dX1_isLazyFrame_25 : decode cX1_isLazyFrame 25 = .ok (.iconst 0, 1) := by decide +kernel
theorem dX1_isLazyFrame_26 : decode cX1_isLazyFrame 26 = .ok (.ireturn, 1) := by decide +kernel
theorem dX1_frameSteps_0 : decode cX1_frameSteps 0 = .ok (.aload_n 0, 1) := by decide +kernel
theorem dX1_frameSteps_1 : decode cX1_frameSteps 1 = .ok (.invokevirtual 120, 3) := by decide +kernel
theorem dX1_frameSteps_4 : decode cX1_frameSteps 4 = .ok (.ifCond .eq 15, 3) := by decide +kernel
theorem dX1_frameSteps_7 : decode cX1_frameSteps 7 = .ok (.aload_n 0, 1) := by decide +kernel
theorem dX1_frameSteps_8 : decode cX1_frameSteps 8 = .ok (.invokevirtual 127, 3) := by decide +kernel
theorem dX1_frameSteps_11 : decode cX1_frameSteps 11 = .ok (.ifCond .ne 8, 3) := by decide +kernel
theorem dX1_frameSteps_14 : decode cX1_frameSteps 14 = .ok (.bipush 10, 2) := by decide +kernel
theorem dX1_frameSteps_16 : decode cX1_frameSteps 16 = .ok (.goto 5, 3) := by decide +kernel
theorem dX1_frameSteps_19 : decode cX1_frameSteps 19 = .ok (.bipush 6, 2) := by decide +kernel
theorem dX1_frameSteps_21 : decode cX1_frameSteps 21 = .ok (.ireturn, 1) := by decide +kernel
theorem dX1_popFrame_0 : decode cX1_popFrame 0 = .ok (.aload_n 0, 1) := by decide +kernel
theorem dX1_popFrame_1 : decode cX1_popFrame 1 = .ok (.invokevirtual 120, 3) := by decide +kernel
theorem dX1_popFrame_4 : decode cX1_popFrame 4 = .ok (.istore_n 1, 1) := by decide +kernel
theorem dX1_popFrame_5 : decode cX1_popFrame 5 = .ok (.aload_n 0, 1) := by decide +kernel
theorem dX1_popFrame_6 : decode cX1_popFrame 6 = .ok (.invokevirtual 127, 3) := by decide +kernel
theorem dX1_popFrame_9 : decode cX1_popFrame 9 = .ok (.istore_n 2, 1) := by decide +kernel
theorem dX1_popFrame_10 : decode cX1_popFrame 10 = .ok (.iload_n 2, 1) := by decide +kernel
theorem dX1_popFrame_11 : decode cX1_popFrame 11 = .ok (.ifCond .eq 11, 3) := by decide +kernel
theorem dX1_popFrame_14 : decode cX1_popFrame 14 = .ok (.aload_n 0, 1) := by decide +kernel
theorem dX1_popFrame_15 : decode cX1_popFrame 15 = .ok (.iconst (-1), 1) := by decide +kernel
theorem dX1_popFrame_16 : decode cX1_popFrame 16 = .ok (.putfield 24, 3) := by decide +kernel
theorem dX1_popFrame_19 : decode cX1_popFrame 19 = .ok (.goto 18, 3) := by decide +kernel
theorem dX1_popFrame_22 : decode cX1_popFrame 22 = .ok (.iload_n 1, 1) := by decide +kernel
theorem dX1_popFrame_23 : decode cX1_popFrame 23 = .ok (.ifCond .eq 14, 3) := by decide +kernel
theorem dX1_popFrame_26 : decode cX1_popFrame 26 = .ok (.aload_n 0, 1) := by decide +kernel
theorem dX1_popFrame_27 : decode cX1_popFrame 27 = .ok (.aload_n 0, 1) := by decide +kernel
theorem dX1_popFrame_28 : decode cX1_popFrame 28 = .ok (.getfield 40, 3) := by decide +kernel
theorem dX1_popFrame_31 : decode cX1_popFrame 31 = .ok (.bipush 10, 2) := by decide +kernel
theorem dX1_popFrame_33 : decode cX1_popFrame 33 = .ok (.isub, 1) := by decide +kernel
theorem dX1_popFrame_34 : decode cX1_popFrame 34 = .ok (.invokevirtual 130, 3) := by decide +kernel
theorem dX1_popFrame_37 : decode cX1_popFrame 37 = .ok (.aload_n 0, 1) := by decide +kernel
theorem dX1_popFrame_38 : decode cX1_popFrame 38 = .ok (.getfield 40, 3) := by decide +kernel
theorem dX1_popFrame_41 : decode cX1_popFrame 41 = .ok (.bipush 6, 2) := by decide +kernel
theorem dX1_popFrame_43 : decode cX1_popFrame 43 = .ok (.isub, 1) := by decide +kernel
theorem dX1_popFrame_44 : decode cX1_popFrame 44 = .ok (.istore_n 3, 1) := by decide +kernel
theorem dX1_popFrame_45 : decode cX1_popFrame 45 = .ok (.aload_n 0, 1) := by decide +kernel
theorem dX1_popFrame_46 : decode cX1_popFrame 46 = .ok (.getfield 21, 3) := by decide +kernel
theorem dX1_popFrame_49 : decode cX1_popFrame 49 = .ok (.iload_n 3, 1) := by decide +kernel
theorem dX1_popFrame_50 : decode cX1_popFrame 50 = .ok (.aload_n 0, 1) := by decide +kernel
theorem dX1_popFrame_51 : decode cX1_popFrame 51 = .ok (.getfield 9, 3) := by decide +kernel
theorem dX1_popFrame_54 : decode cX1_popFrame 54 = .ok (.iconst 0, 1) := by decide +kernel
theorem dX1_popFrame_55 : decode cX1_popFrame 55 = .ok (.iconst 4, 1) := by decide +kernel
theorem dX1_popFrame_56 : decode cX1_popFrame 56 = .ok (.invokestatic 62, 3) := by decide +kernel
theorem dX1_popFrame_59 : decode cX1_popFrame 59 = .ok (.aload_n 0, 1) := by decide +kernel
theorem dX1_popFrame_60 : decode cX1_popFrame 60 = .ok (.aload_n 0, 1) := by decide +kernel
theorem dX1_popFrame_61 : decode cX1_popFrame 61 = .ok (.getfield 21, 3) := by decide +kernel
theorem dX1_popFrame_64 : decode cX1_popFrame 64 = .ok (.iload_n 3, 1) := by decide +kernel
theorem dX1_popFrame_65 : decode cX1_popFrame 65 = .ok (.iconst 4, 1) := by decide +kernel
theorem dX1_popFrame_66 : decode cX1_popFrame 66 = .ok (.iadd, 1) := by decide +kernel
theorem dX1_popFrame_67 : decode cX1_popFrame 67 = .ok (.iaload, 1) := by decide +kernel
theorem dX1_popFrame_68 : decode cX1_popFrame 68 = .ok (.putfield 37, 3) := by decide +kernel
theorem dX1_popFrame_71 : decode cX1_popFrame 71 = .ok (.aload_n 0, 1) := by decide +kernel
theorem dX1_popFrame_72 : decode cX1_popFrame 72 = .ok (.aload_n 0, 1) := by decide +kernel
theorem dX1_popFrame_73 : decode cX1_popFrame 73 = .ok (.getfield 21, 3) := by decide +kernel
theorem dX1_popFrame_76 : decode cX1_popFrame 76 = .ok (.iload_n 3, 1) := by decide +kernel
theorem dX1_popFrame_77 : decode cX1_popFrame 77 = .ok (.iconst 5, 1) := by decide +kernel
theorem dX1_popFrame_78 : decode cX1_popFrame 78 = .ok (.iadd, 1) := by decide +kernel
theorem dX1_popFrame_79 : decode cX1_popFrame 79 = .ok (.iaload, 1) := by decide +kernel
theorem dX1_popFrame_80 : decode cX1_popFrame 80 = .ok (.iconst 1, 1) := by decide +kernel
theorem dX1_popFrame_81 : decode cX1_popFrame 81 = .ok (.iand, 1) := by decide +kernel
theorem dX1_popFrame_82 : decode cX1_popFrame 82 = .ok (.putfield 46, 3) := by decide +kernel
theorem dX1_popFrame_85 : decode cX1_popFrame 85 = .ok (.aload_n 0, 1) := by decide +kernel
theorem dX1_popFrame_86 : decode cX1_popFrame 86 = .ok (.aload_n 0, 1) := by decide +kernel
theorem dX1_popFrame_87 : decode cX1_popFrame 87 = .ok (.getfield 21, 3) := by decide +kernel
theorem dX1_popFrame_90 : decode cX1_popFrame 90 = .ok (.iload_n 3, 1) := by decide +kernel
theorem dX1_popFrame_91 : decode cX1_popFrame 91 = .ok (.iconst 5, 1) := by decide +kernel
theorem dX1_popFrame_92 : decode cX1_popFrame 92 = .ok (.iadd, 1) := by decide +kernel
theorem dX1_popFrame_93 : decode cX1_popFrame 93 = .ok (.iaload, 1) := by decide +kernel
theorem dX1_popFrame_94 : decode cX1_popFrame 94 = .ok (.iconst 1, 1) := by decide +kernel
theorem dX1_popFrame_95 : decode cX1_popFrame 95 = .ok (.ishr, 1) := by decide +kernel
theorem dX1_popFrame_96 : decode cX1_popFrame 96 = .ok (.iconst 1, 1) := by decide +kernel
theorem dX1_popFrame_97 : decode cX1_popFrame 97 = .ok (.iand, 1) := by decide +kernel
theorem dX1_popFrame_98 : decode cX1_popFrame 98 = .ok (.putfield 49, 3) := by decide +kernel
theorem dX1_popFrame_101 : decode cX1_popFrame 101 = .ok (.aload_n 0, 1) := by decide +kernel
theorem dX1_popFrame_102 : decode cX1_popFrame 102 = .ok (.iload_n 1, 1) := by decide +kernel
theorem dX1_popFrame_103 : decode cX1_popFrame 103 = .ok (.putfield 55, 3) := by decide +kernel
theorem dX1_popFrame_106 : decode cX1_popFrame 106 = .ok (.aload_n 0, 1) := by decide +kernel
theorem dX1_popFrame_107 : decode cX1_popFrame 107 = .ok (.dup, 1) := by decide +kernel
theorem dX1_popFrame_108 : decode cX1_popFrame 108 = .ok (.getfield 40, 3) := by decide +kernel
theorem dX1_popFrame_111 : decode cX1_popFrame 111 = .ok (.iload_n 1, 1) := by decide +kernel
theorem dX1_popFrame_112 : decode cX1_popFrame 112 = .ok (.ifCond .eq 8, 3) := by decide +kernel
theorem dX1_popFrame_115 : decode cX1_popFrame 115 = .ok (.bipush 10, 2) := by decide +kernel
theorem dX1_popFrame_117 : decode cX1_popFrame 117 = .ok (.goto 5, 3) := by decide +kernel
theorem dX1_popFrame_120 : decode cX1_popFrame 120 = .ok (.bipush 6, 2) := by decide +kernel
theorem dX1_popFrame_122 : decode cX1_popFrame 122 = .ok (.isub, 1) := by decide +kernel
theorem dX1_popFrame_123 : decode cX1_popFrame 123 = .ok (.putfield 40, 3) := by decide +kernel
theorem dX1_popFrame_126 : decode cX1_popFrame 126 = .ok (.iload_n 2, 1) := by decide +kernel
theorem dX1_popFrame_127 : decode cX1_popFrame 127 = .ok (.ireturn, 1) := by decide +kernel
theorem dX1_takeSingles_0 : decode cX1_takeSingles 0 = .ok (.iconst 0, 1) := by decide +kernel
theorem dX1_takeSingles_1 : decode cX1_takeSingles 1 = .ok (.istore_n 2, 1) := by decide +kernel
theorem dX1_takeSingles_2 : decode cX1_takeSingles 2 = .ok (.iload_n 2, 1) := by decide +kernel
theorem dX1_takeSingles_3 : decode cX1_takeSingles 3 = .ok (.iconst 4, 1) := by decide +kernel
theorem dX1_takeSingles_4 : decode cX1_takeSingles 4 = .ok (.if_icmp .ge 41, 3) := by decide +kernel
theorem dX1_takeSingles_7 : decode cX1_takeSingles 7 = .ok (.aload_n 0, 1) := by decide +kernel
theorem dX1_takeSingles_8 : decode cX1_takeSingles 8 = .ok (.getfield 15, 3) := by decide +kernel
theorem dX1_takeSingles_11 : decode cX1_takeSingles 11 = .ok (.iload_n 2, 1) := by decide +kernel
theorem dX1_takeSingles_12 : decode cX1_takeSingles 12 = .ok (.aload_n 0, 1) := by decide +kernel
theorem dX1_takeSingles_13 : decode cX1_takeSingles 13 = .ok (.getfield 21, 3) := by decide +kernel
theorem dX1_takeSingles_16 : decode cX1_takeSingles 16 = .ok (.iload_n 1, 1) := by decide +kernel
theorem dX1_takeSingles_17 : decode cX1_takeSingles 17 = .ok (.iload_n 2, 1) := by decide +kernel
theorem dX1_takeSingles_18 : decode cX1_takeSingles 18 = .ok (.iadd, 1) := by decide +kernel
theorem dX1_takeSingles_19 : decode cX1_takeSingles 19 = .ok (.iaload, 1) := by decide +kernel
theorem dX1_takeSingles_20 : decode cX1_takeSingles 20 = .ok (.invokestatic 82, 3) := by decide +kernel
theorem dX1_takeSingles_23 : decode cX1_takeSingles 23 = .ok (.ifCond .eq 14, 3) := by decide +kernel
theorem dX1_takeSingles_26 : decode cX1_takeSingles 26 = .ok (.aload_n 0, 1) := by decide +kernel
theorem dX1_takeSingles_27 : decode cX1_takeSingles 27 = .ok (.getfield 21, 3) := by decide +kernel
theorem dX1_takeSingles_30 : decode cX1_takeSingles 30 = .ok (.iload_n 1, 1) := by decide +kernel
theorem dX1_takeSingles_31 : decode cX1_takeSingles 31 = .ok (.iload_n 2, 1) := by decide +kernel
theorem dX1_takeSingles_32 : decode cX1_takeSingles 32 = .ok (.iadd, 1) := by decide +kernel
theorem dX1_takeSingles_33 : decode cX1_takeSingles 33 = .ok (.iaload, 1) := by decide +kernel
theorem dX1_takeSingles_34 : decode cX1_takeSingles 34 = .ok (.goto 4, 3) := by decide +kernel
theorem dX1_takeSingles_37 : decode cX1_takeSingles 37 = .ok (.iconst 0, 1) := by decide +kernel
theorem dX1_takeSingles_38 : decode cX1_takeSingles 38 = .ok (.iastore, 1) := by decide +kernel
theorem dX1_takeSingles_39 : decode cX1_takeSingles 39 = .ok (.iinc 2 1, 3) := by decide +kernel
theorem dX1_takeSingles_42 : decode cX1_takeSingles 42 = .ok (.goto (-40), 3) := by decide +kernel
theorem dX1_takeSingles_45 : decode cX1_takeSingles 45 = .ok (.return_, 1) := by decide +kernel
theorem dX2_init_0 : decode cX2_init 0 = .ok (.aload_n 0, 1) := by decide +kernel
theorem dX2_init_1 : decode cX2_init 1 = .ok (.invokespecial 3, 3) := by decide +kernel
theorem dX2_init_4 : decode cX2_init 4 = .ok (.aload_n 0, 1) := by decide +kernel
theorem dX2_init_5 : decode cX2_init 5 = .ok (.bipush 64, 2) := by decide +kernel
theorem dX2_init_7 : decode cX2_init 7 = .ok (.newarray .int, 2) := by decide +kernel
theorem dX2_init_9 : decode cX2_init 9 = .ok (.putfield 9, 3) := by decide +kernel
theorem dX2_init_12 : decode cX2_init 12 = .ok (.aload_n 0, 1) := by decide +kernel
theorem dX2_init_13 : decode cX2_init 13 = .ok (.bipush 96, 2) := by decide +kernel
theorem dX2_init_15 : decode cX2_init 15 = .ok (.newarray .int, 2) := by decide +kernel
theorem dX2_init_17 : decode cX2_init 17 = .ok (.putfield 15, 3) := by decide +kernel
theorem dX2_init_20 : decode cX2_init 20 = .ok (.return_, 1) := by decide +kernel
theorem dX2_restart_0 : decode cX2_restart 0 = .ok (.aload_n 0, 1) := by decide +kernel
theorem dX2_restart_1 : decode cX2_restart 1 = .ok (.iconst 0, 1) := by decide +kernel
theorem dX2_restart_2 : decode cX2_restart 2 = .ok (.putfield 18, 3) := by decide +kernel
theorem dX2_restart_5 : decode cX2_restart 5 = .ok (.aload_n 0, 1) := by decide +kernel
theorem dX2_restart_6 : decode cX2_restart 6 = .ok (.iconst 0, 1) := by decide +kernel
theorem dX2_restart_7 : decode cX2_restart 7 = .ok (.putfield 22, 3) := by decide +kernel
theorem dX2_restart_10 : decode cX2_restart 10 = .ok (.aload_n 0, 1) := by decide +kernel
theorem dX2_restart_11 : decode cX2_restart 11 = .ok (.iconst 0, 1) := by decide +kernel
theorem dX2_restart_12 : decode cX2_restart 12 = .ok (.putfield 25, 3) := by decide +kernel
theorem dX2_restart_15 : decode cX2_restart 15 = .ok (.aload_n 0, 1) := by decide +kernel
theorem dX2_restart_16 : decode cX2_restart 16 = .ok (.iconst 0, 1) := by decide +kernel
theorem dX2_restart_17 : decode cX2_restart 17 = .ok (.putfield 28, 3) := by decide +kernel
theorem dX2_restart_20 : decode cX2_restart 20 = .ok (.aload_n 0, 1) := by decide +kernel
theorem dX2_restart_21 : decode cX2_restart 21 = .ok (.iconst 0, 1) := by decide +kernel
theorem dX2_restart_22 : decode cX2_restart 22 = .ok (.putfield 31, 3) := by decide +kernel
theorem dX2_restart_25 : decode cX2_restart 25 = .ok (.aload_n 0, 1) := by decide +kernel
theorem dX2_restart_26 : decode cX2_restart 26 = .ok (.iconst 0, 1) := by decide +kernel
theorem dX2_restart_27 : decode cX2_restart 27 = .ok (.putfield 34, 3) := by decide +kernel
theorem dX2_restart_30 : decode cX2_restart 30 = .ok (.aload_n 0, 1) := by decide +kernel
theorem dX2_restart_31 : decode cX2_restart 31 = .ok (.iconst 0, 1) := by decide +kernel
theorem dX2_restart_32 : decode cX2_restart 32 = .ok (.putfield 37, 3) := by decide +kernel
theorem dX2_restart_35 : decode cX2_restart 35 = .ok (.aload_n 0, 1) := by decide +kernel
theorem dX2_restart_36 : decode cX2_restart 36 = .ok (.iconst 0, 1) := by decide +kernel
theorem dX2_restart_37 : decode cX2_restart 37 = .ok (.putfield 40, 3) := by decide +kernel
theorem dX2_restart_40 : decode cX2_restart 40 = .ok (.aload_n 0, 1) := by decide +kernel
theorem dX2_restart_41 : decode cX2_restart 41 = .ok (.iconst 0, 1) := by decide +kernel
theorem dX2_restart_42 : decode cX2_restart 42 = .ok (.putfield 43, 3) := by decide +kernel
theorem dX2_restart_45 : decode cX2_restart 45 = .ok (.aload_n 0, 1) := by decide +kernel
theorem dX2_restart_46 : decode cX2_restart 46 = .ok (.iconst 0, 1) := by decide +kernel
theorem dX2_restart_47 : decode cX2_restart 47 = .ok (.putfield 46, 3) := by decide +kernel
theorem dX2_restart_50 : decode cX2_restart 50 = .ok (.aload_n 0, 1) := by decide +kernel
theorem dX2_restart_51 : decode cX2_restart 51 = .ok (.iconst 0, 1) := by decide +kernel
theorem dX2_restart_52 : decode cX2_restart 52 = .ok (.putfield 49, 3) := by decide +kernel
theorem dX2_restart_55 : decode cX2_restart 55 = .ok (.aload_n 0, 1) := by decide +kernel
theorem dX2_restart_56 : decode cX2_restart 56 = .ok (.iconst 0, 1) := by decide +kernel
theorem dX2_restart_57 : decode cX2_restart 57 = .ok (.putfield 52, 3) := by decide +kernel
theorem dX2_restart_60 : decode cX2_restart 60 = .ok (.return_, 1) := by decide +kernel
theorem dX2_tell_0 : decode cX2_tell 0 = .ok (.aload_n 0, 1) := by decide +kernel
theorem dX2_tell_1 : decode cX2_tell 1 = .ok (.getfield 25, 3) := by decide +kernel
theorem dX2_tell_4 : decode cX2_tell 4 = .ok (.bipush 64, 2) := by decide +kernel
theorem dX2_tell_6 : decode cX2_tell 6 = .ok (.if_icmp .ge 13, 3) := by decide +kernel
theorem dX2_tell_9 : decode cX2_tell 9 = .ok (.aload_n 0, 1) := by decide +kernel
theorem dX2_tell_10 : decode cX2_tell 10 = .ok (.getfield 9, 3) := by decide +kernel
theorem dX2_tell_13 : decode cX2_tell 13 = .ok (.aload_n 0, 1) := by decide +kernel
theorem dX2_tell_14 : decode cX2_tell 14 = .ok (.getfield 25, 3) := by decide +kernel
theorem dX2_tell_17 : decode cX2_tell 17 = .ok (.iload_n 1, 1) := by decide +kernel
theorem dX2_tell_18 : decode cX2_tell 18 = .ok (.iastore, 1) := by decide +kernel
theorem dX2_tell_19 : decode cX2_tell 19 = .ok (.aload_n 0, 1) := by decide +kernel
theorem dX2_tell_20 : decode cX2_tell 20 = .ok (.dup, 1) := by decide +kernel
theorem dX2_tell_21 : decode cX2_tell 21 = .ok (.getfield 25, 3) := by decide +kernel
theorem dX2_tell_24 : decode cX2_tell 24 = .ok (.iconst 1, 1) := by decide +kernel
theorem dX2_tell_25 : decode cX2_tell 25 = .ok (.iadd, 1) := by decide +kernel
theorem dX2_tell_26 : decode cX2_tell 26 = .ok (.putfield 25, 3) := by decide +kernel
theorem dX2_tell_29 : decode cX2_tell 29 = .ok (.return_, 1) := by decide +kernel
theorem dX2_record_0 : decode cX2_record 0 = .ok (.aload_n 0, 1) := by decide +kernel
theorem dX2_record_1 : decode cX2_record 1 = .ok (.aload_n 0, 1) := by decide +kernel
theorem dX2_record_2 : decode cX2_record 2 = .ok (.getfield 22, 3) := by decide +kernel
theorem dX2_record_5 : decode cX2_record 5 = .ok (.iconst 1, 1) := by decide +kernel
theorem dX2_record_6 : decode cX2_record 6 = .ok (.iadd, 1) := by decide +kernel
theorem dX2_record_7 : decode cX2_record 7 = .ok (.bipush 24, 2) := by decide +kernel
theorem dX2_record_9 : decode cX2_record 9 = .ok (.if_icmp .ge 12, 3) := by decide +kernel
theorem dX2_record_12 : decode cX2_record 12 = .ok (.aload_n 0, 1) := by decide +kernel
theorem dX2_record_13 : decode cX2_record 13 = .ok (.getfield 22, 3) := by decide +kernel
theorem dX2_record_16 : decode cX2_record 16 = .ok (.iconst 1, 1) := by decide +kernel
theorem dX2_record_17 : decode cX2_record 17 = .ok (.iadd, 1) := by decide +kernel
theorem dX2_record_18 : decode cX2_record 18 = .ok (.goto 4, 3) := by decide +kernel
theorem dX2_record_21 : decode cX2_record 21 = .ok (.iconst 0, 1) := by decide +kernel
theorem dX2_record_22 : decode cX2_record 22 = .ok (.putfield 22, 3) := by decide +kernel
theorem dX2_record_25 : decode cX2_record 25 = .ok (.aload_n 0, 1) := by decide +kernel
theorem dX2_record_26 : decode cX2_record 26 = .ok (.getfield 22, 3) := by decide +kernel
theorem dX2_record_29 : decode cX2_record 29 = .ok (.iconst 4, 1) := by decide +kernel
theorem dX2_record_30 : decode cX2_record 30 = .ok (.imul, 1) := by decide +kernel
theorem dX2_record_31 : decode cX2_record 31 = .ok (.istore 5, 2) := by decide +kernel
theorem dX2_record_33 : decode cX2_record 33 = .ok (.aload_n 0, 1) := by decide +kernel
theorem dX2_record_34 : decode cX2_record 34 = .ok (.getfield 15, 3) := by decide +kernel
theorem dX2_record_37 : decode cX2_record 37 = .ok (.iload 5, 2) := by decide +kernel
theorem dX2_record_39 : decode cX2_record 39 = .ok (.iload_n 1, 1) := by decide +kernel
theorem dX2_record_40 : decode cX2_record 40 = .ok (.iastore, 1) := by decide +kernel
theorem dX2_record_41 : decode cX2_record 41 = .ok (.aload_n 0, 1) := by decide +kernel
theorem dX2_record_42 : decode cX2_record 42 = .ok (.getfield 15, 3) := by decide +kernel
theorem dX2_record_45 : decode cX2_record 45 = .ok (.iload 5, 2) := by decide +kernel
theorem dX2_record_47 : decode cX2_record 47 = .ok (.iconst 1, 1) := by decide +kernel
theorem dX2_record_48 : decode cX2_record 48 = .ok (.iadd, 1) := by decide +kernel
theorem dX2_record_49 : decode cX2_record 49 = .ok (.iload_n 2, 1) := by decide +kernel
theorem dX2_record_50 : decode cX2_record 50 = .ok (.iastore, 1) := by decide +kernel
theorem dX2_record_51 : decode cX2_record 51 = .ok (.aload_n 0, 1) := by decide +kernel
theorem dX2_record_52 : decode cX2_record 52 = .ok (.getfield 15, 3) := by decide +kernel
theorem dX2_record_55 : decode cX2_record 55 = .ok (.iload 5, 2) := by decide +kernel
theorem dX2_record_57 : decode cX2_record 57 = .ok (.iconst 2, 1) := by decide +kernel
theorem dX2_record_58 : decode cX2_record 58 = .ok (.iadd, 1) := by decide +kernel
theorem dX2_record_59 : decode cX2_record 59 = .ok (.iload_n 3, 1) := by decide +kernel
theorem dX2_record_60 : decode cX2_record 60 = .ok (.iastore, 1) := by decide +kernel
theorem dX2_record_61 : decode cX2_record 61 = .ok (.aload_n 0, 1) := by decide +kernel
theorem dX2_record_62 : decode cX2_record 62 = .ok (.getfield 15, 3) := by decide +kernel
theorem dX2_record_65 : decode cX2_record 65 = .ok (.iload 5, 2) := by decide +kernel
theorem dX2_record_67 : decode cX2_record 67 = .ok (.iconst 3, 1) := by decide +kernel
theorem dX2_record_68 : decode cX2_record 68 = .ok (.iadd, 1) := by decide +kernel
theorem dX2_record_69 : decode cX2_record 69 = .ok (.iload 4, 2) := by decide +kernel
theorem dX2_record_71 : decode cX2_record 71 = .ok (.iastore, 1) := by decide +kernel
theorem dX2_record_72 : decode cX2_record 72 = .ok (.aload_n 0, 1) := by decide +kernel
theorem dX2_record_73 : decode cX2_record 73 = .ok (.aload_n 0, 1) := by decide +kernel
theorem dX2_record_74 : decode cX2_record 74 = .ok (.getfield 18, 3) := by decide +kernel
theorem dX2_record_77 : decode cX2_record 77 = .ok (.iconst 1, 1) := by decide +kernel
theorem dX2_record_78 : decode cX2_record 78 = .ok (.iadd, 1) := by decide +kernel
theorem dX2_record_79 : decode cX2_record 79 = .ok (.bipush 24, 2) := by decide +kernel
theorem dX2_record_81 : decode cX2_record 81 = .ok (.invokestatic 55, 3) := by decide +kernel
theorem dX2_record_84 : decode cX2_record 84 = .ok (.putfield 18, 3) := by decide +kernel
theorem dX2_record_87 : decode cX2_record 87 = .ok (.return_, 1) := by decide +kernel
theorem dX2_fieldOf_0 : decode cX2_fieldOf 0 = .ok (.aload_n 0, 1) := by decide +kernel
theorem dX2_fieldOf_1 : decode cX2_fieldOf 1 = .ok (.getfield 22, 3) := by decide +kernel
theorem dX2_fieldOf_4 : decode cX2_fieldOf 4 = .ok (.iload_n 1, 1) := by decide +kernel
theorem dX2_fieldOf_5 : decode cX2_fieldOf 5 = .ok (.isub, 1) := by decide +kernel
theorem dX2_fieldOf_6 : decode cX2_fieldOf 6 = .ok (.istore_n 3, 1) := by decide +kernel
theorem dX2_fieldOf_7 : decode cX2_fieldOf 7 = .ok (.aload_n 0, 1) := by decide +kernel
theorem dX2_fieldOf_8 : decode cX2_fieldOf 8 = .ok (.getfield 15, 3) := by decide +kernel
theorem dX2_fieldOf_11 : decode cX2_fieldOf 11 = .ok (.iload_n 3, 1) := by decide +kernel
theorem dX2_fieldOf_12 : decode cX2_fieldOf 12 = .ok (.ifCond .ge 10, 3) := by decide +kernel
theorem dX2_fieldOf_15 : decode cX2_fieldOf 15 = .ok (.iload_n 3, 1) := by decide +kernel
theorem dX2_fieldOf_16 : decode cX2_fieldOf 16 = .ok (.bipush 24, 2) := by decide +kernel
theorem dX2_fieldOf_18 : decode cX2_fieldOf 18 = .ok (.iadd, 1) := by decide +kernel
theorem dX2_fieldOf_19 : decode cX2_fieldOf 19 = .ok (.goto 4, 3) := by decide +kernel
theorem dX2_fieldOf_22 : decode cX2_fieldOf 22 = .ok (.iload_n 3, 1) := by decide +kernel
theorem dX2_fieldOf_23 : decode cX2_fieldOf 23 = .ok (.iconst 4, 1) := by decide +kernel
theorem dX2_fieldOf_24 : decode cX2_fieldOf 24 = .ok (.imul, 1) := by decide +kernel
theorem dX2_fieldOf_25 : decode cX2_fieldOf 25 = .ok (.iload_n 2, 1) := by decide +kernel
theorem dX2_fieldOf_26 : decode cX2_fieldOf 26 = .ok (.iadd, 1) := by decide +kernel
theorem dX2_fieldOf_27 : decode cX2_fieldOf 27 = .ok (.iaload, 1) := by decide +kernel
theorem dX2_fieldOf_28 : decode cX2_fieldOf 28 = .ok (.ireturn, 1) := by decide +kernel
theorem dX3_init_0 : decode cX3_init 0 = .ok (.aload_n 0, 1) := by decide +kernel
theorem dX3_init_1 : decode cX3_init 1 = .ok (.invokespecial 3, 3) := by decide +kernel
theorem dX3_init_4 : decode cX3_init 4 = .ok (.aload_n 0, 1) := by decide +kernel
theorem dX3_init_5 : decode cX3_init 5 = .ok (.new 9, 3) := by decide +kernel
theorem dX3_init_8 : decode cX3_init 8 = .ok (.dup, 1) := by decide +kernel
theorem dX3_init_9 : decode cX3_init 9 = .ok (.invokespecial 11, 3) := by decide +kernel
theorem dX3_init_12 : decode cX3_init 12 = .ok (.putfield 12, 3) := by decide +kernel
theorem dX3_init_15 : decode cX3_init 15 = .ok (.aload_n 0, 1) := by decide +kernel
theorem dX3_init_16 : decode cX3_init 16 = .ok (.new 18, 3) := by decide +kernel
theorem dX3_init_19 : decode cX3_init 19 = .ok (.dup, 1) := by decide +kernel
theorem dX3_init_20 : decode cX3_init 20 = .ok (.invokespecial 20, 3) := by decide +kernel
theorem dX3_init_23 : decode cX3_init 23 = .ok (.putfield 21, 3) := by decide +kernel
theorem dX3_init_26 : decode cX3_init 26 = .ok (.aload_n 0, 1) := by decide +kernel
theorem dX3_init_27 : decode cX3_init 27 = .ok (.new 25, 3) := by decide +kernel
theorem dX3_init_30 : decode cX3_init 30 = .ok (.dup, 1) := by decide +kernel
theorem dX3_init_31 : decode cX3_init 31 = .ok (.invokespecial 27, 3) := by decide +kernel
theorem dX3_init_34 : decode cX3_init 34 = .ok (.putfield 28, 3) := by decide +kernel
theorem dX3_init_37 : decode cX3_init 37 = .ok (.aload_n 0, 1) := by decide +kernel
theorem dX3_init_38 : decode cX3_init 38 = .ok (.iconst (-1), 1) := by decide +kernel
theorem dX3_init_39 : decode cX3_init 39 = .ok (.putfield 32, 3) := by decide +kernel
theorem dX3_init_42 : decode cX3_init 42 = .ok (.aload_n 0, 1) := by decide +kernel
theorem dX3_init_43 : decode cX3_init 43 = .ok (.iconst (-1), 1) := by decide +kernel
theorem dX3_init_44 : decode cX3_init 44 = .ok (.putfield 36, 3) := by decide +kernel
theorem dX3_init_47 : decode cX3_init 47 = .ok (.aload_n 0, 1) := by decide +kernel
theorem dX3_init_48 : decode cX3_init 48 = .ok (.new 39, 3) := by decide +kernel
theorem dX3_init_51 : decode cX3_init 51 = .ok (.dup, 1) := by decide +kernel
theorem dX3_init_52 : decode cX3_init 52 = .ok (.aload_n 1, 1) := by decide +kernel
theorem dX3_init_53 : decode cX3_init 53 = .ok (.invokespecial 41, 3) := by decide +kernel
theorem dX3_init_56 : decode cX3_init 56 = .ok (.putfield 44, 3) := by decide +kernel
theorem dX3_init_59 : decode cX3_init 59 = .ok (.return_, 1) := by decide +kernel
theorem dX3_restart_0 : decode cX3_restart 0 = .ok (.aload_n 0, 1) := by decide +kernel
theorem dX3_restart_1 : decode cX3_restart 1 = .ok (.getfield 12, 3) := by decide +kernel
theorem dX3_restart_4 : decode cX3_restart 4 = .ok (.invokevirtual 48, 3) := by decide +kernel
theorem dX3_restart_7 : decode cX3_restart 7 = .ok (.aload_n 0, 1) := by decide +kernel
theorem dX3_restart_8 : decode cX3_restart 8 = .ok (.getfield 21, 3) := by decide +kernel
theorem dX3_restart_11 : decode cX3_restart 11 = .ok (.invokevirtual 51, 3) := by decide +kernel
theorem dX3_restart_14 : decode cX3_restart 14 = .ok (.aload_n 0, 1) := by decide +kernel
theorem dX3_restart_15 : decode cX3_restart 15 = .ok (.getfield 28, 3) := by decide +kernel
theorem dX3_restart_18 : decode cX3_restart 18 = .ok (.invokevirtual 52, 3) := by decide +kernel
theorem dX3_restart_21 : decode cX3_restart 21 = .ok (.aload_n 0, 1) := by decide +kernel
theorem dX3_restart_22 : decode cX3_restart 22 = .ok (.getfield 44, 3) := by decide +kernel
theorem dX3_restart_25 : decode cX3_restart 25 = .ok (.invokevirtual 53, 3) := by decide +kernel
theorem dX3_restart_28 : decode cX3_restart 28 = .ok (.aload_n 0, 1) := by decide +kernel
theorem dX3_restart_29 : decode cX3_restart 29 = .ok (.iconst 0, 1) := by decide +kernel
theorem dX3_restart_30 : decode cX3_restart 30 = .ok (.putfield 54, 3) := by decide +kernel
theorem dX3_restart_33 : decode cX3_restart 33 = .ok (.aload_n 0, 1) := by decide +kernel
theorem dX3_restart_34 : decode cX3_restart 34 = .ok (.iconst 0, 1) := by decide +kernel
theorem dX3_restart_35 : decode cX3_restart 35 = .ok (.putfield 57, 3) := by decide +kernel
theorem dX3_restart_38 : decode cX3_restart 38 = .ok (.aload_n 0, 1) := by decide +kernel
theorem dX3_restart_39 : decode cX3_restart 39 = .ok (.iconst 0, 1) := by decide +kernel
theorem dX3_restart_40 : decode cX3_restart 40 = .ok (.putfield 60, 3) := by decide +kernel
theorem dX3_restart_43 : decode cX3_restart 43 = .ok (.return_, 1) := by decide +kernel
theorem dX3_copyFrom_0 : decode cX3_copyFrom 0 = .ok (.aload_n 0, 1) := by decide +kernel
theorem dX3_copyFrom_1 : decode cX3_copyFrom 1 = .ok (.getfield 12, 3) := by decide +kernel
theorem dX3_copyFrom_4 : decode cX3_copyFrom 4 = .ok (.aload_n 1, 1) := by decide +kernel
theorem dX3_copyFrom_5 : decode cX3_copyFrom 5 = .ok (.getfield 12, 3) := by decide +kernel
theorem dX3_copyFrom_8 : decode cX3_copyFrom 8 = .ok (.invokevirtual 63, 3) := by decide +kernel
theorem dX3_copyFrom_11 : decode cX3_copyFrom 11 = .ok (.aload_n 0, 1) := by decide +kernel
theorem dX3_copyFrom_12 : decode cX3_copyFrom 12 = .ok (.getfield 21, 3) := by decide +kernel
theorem dX3_copyFrom_15 : decode cX3_copyFrom 15 = .ok (.aload_n 1, 1) := by decide +kernel
theorem dX3_copyFrom_16 : decode cX3_copyFrom 16 = .ok (.getfield 21, 3) := by decide +kernel
theorem dX3_copyFrom_19 : decode cX3_copyFrom 19 = .ok (.invokevirtual 67, 3) := by decide +kernel
theorem dX3_copyFrom_22 : decode cX3_copyFrom 22 = .ok (.aload_n 0, 1) := by decide +kernel
theorem dX3_copyFrom_23 : decode cX3_copyFrom 23 = .ok (.getfield 44, 3) := by decide +kernel
theorem dX3_copyFrom_26 : decode cX3_copyFrom 26 = .ok (.aload_n 1, 1) := by decide +kernel
theorem dX3_copyFrom_27 : decode cX3_copyFrom 27 = .ok (.getfield 44, 3) := by decide +kernel
theorem dX3_copyFrom_30 : decode cX3_copyFrom 30 = .ok (.invokevirtual 70, 3) := by decide +kernel
theorem dX3_copyFrom_33 : decode cX3_copyFrom 33 = .ok (.aload_n 0, 1) := by decide +kernel
theorem dX3_copyFrom_34 : decode cX3_copyFrom 34 = .ok (.aload_n 1, 1) := by decide +kernel
theorem dX3_copyFrom_35 : decode cX3_copyFrom 35 = .ok (.getfield 54, 3) := by decide +kernel
theorem dX3_copyFrom_38 : decode cX3_copyFrom 38 = .ok (.putfield 54, 3) := by decide +kernel
theorem dX3_copyFrom_41 : decode cX3_copyFrom 41 = .ok (.aload_n 0, 1) := by decide +kernel
theorem dX3_copyFrom_42 : decode cX3_copyFrom 42 = .ok (.aload_n 1, 1) := by decide +kernel
theorem dX3_copyFrom_43 : decode cX3_copyFrom 43 = .ok (.getfield 57, 3) := by decide +kernel
theorem dX3_copyFrom_46 : decode cX3_copyFrom 46 = .ok (.putfield 57, 3) := by decide +kernel
theorem dX3_copyFrom_49 : decode cX3_copyFrom 49 = .ok (.aload_n 0, 1) := by decide +kernel
theorem dX3_copyFrom_50 : decode cX3_copyFrom 50 = .ok (.aload_n 1, 1) := by decide +kernel
theorem dX3_copyFrom_51 : decode cX3_copyFrom 51 = .ok (.getfield 60, 3) := by decide +kernel
theorem dX3_copyFrom_54 : decode cX3_copyFrom 54 = .ok (.putfield 60, 3) := by decide +kernel
theorem dX3_copyFrom_57 : decode cX3_copyFrom 57 = .ok (.aload_n 0, 1) := by decide +kernel
theorem dX3_copyFrom_58 : decode cX3_copyFrom 58 = .ok (.aload_n 1, 1) := by decide +kernel
theorem dX3_copyFrom_59 : decode cX3_copyFrom 59 = .ok (.getfield 36, 3) := by decide +kernel
theorem dX3_copyFrom_62 : decode cX3_copyFrom 62 = .ok (.putfield 36, 3) := by decide +kernel
theorem dX3_copyFrom_65 : decode cX3_copyFrom 65 = .ok (.aload_n 0, 1) := by decide +kernel
theorem dX3_copyFrom_66 : decode cX3_copyFrom 66 = .ok (.aload_n 1, 1) := by decide +kernel
theorem dX3_copyFrom_67 : decode cX3_copyFrom 67 = .ok (.getfield 73, 3) := by decide +kernel
theorem dX3_copyFrom_70 : decode cX3_copyFrom 70 = .ok (.putfield 73, 3) := by decide +kernel
theorem dX3_copyFrom_73 : decode cX3_copyFrom 73 = .ok (.aload_n 0, 1) := by decide +kernel
theorem dX3_copyFrom_74 : decode cX3_copyFrom 74 = .ok (.aload_n 1, 1) := by decide +kernel
theorem dX3_copyFrom_75 : decode cX3_copyFrom 75 = .ok (.getfield 77, 3) := by decide +kernel
theorem dX3_copyFrom_78 : decode cX3_copyFrom 78 = .ok (.putfield 77, 3) := by decide +kernel
theorem dX3_copyFrom_81 : decode cX3_copyFrom 81 = .ok (.aload_n 0, 1) := by decide +kernel
theorem dX3_copyFrom_82 : decode cX3_copyFrom 82 = .ok (.iload_n 2, 1) := by decide +kernel
theorem dX3_copyFrom_83 : decode cX3_copyFrom 83 = .ok (.putfield 80, 3) := by decide +kernel
theorem dX3_copyFrom_86 : decode cX3_copyFrom 86 = .ok (.return_, 1) := by decide +kernel
theorem dX3_isQuiet_0 : decode cX3_isQuiet 0 = .ok (.aload_n 0, 1) := by decide +kernel
theorem dX3_isQuiet_1 : decode cX3_isQuiet 1 = .ok (.getfield 57, 3) := by decide +kernel
theorem dX3_isQuiet_4 : decode cX3_isQuiet 4 = .ok (.ifCond .ne 28, 3) := by decide +kernel
theorem dX3_isQuiet_7 : decode cX3_isQuiet 7 = .ok (.aload_n 0, 1) := by decide +kernel
theorem dX3_isQuiet_8 : decode cX3_isQuiet 8 = .ok (.getfield 12, 3) := by decide +kernel
theorem dX3_isQuiet_11 : decode cX3_isQuiet 11 = .ok (.getfield 83, 3) := by decide +kernel
theorem dX3_isQuiet_14 : decode cX3_isQuiet 14 = .ok (.ifCond .ne 18, 3) := by decide +kernel
theorem dX3_isQuiet_17 : decode cX3_isQuiet 17 = .ok (.aload_n 0, 1) := by decide +kernel
theorem dX3_isQuiet_18 : decode cX3_isQuiet 18 = .ok (.getfield 12, 3) := by decide +kernel
theorem dX3_isQuiet_21 : decode cX3_isQuiet 21 = .ok (.invokevirtual 86, 3) := by decide +kernel
theorem dX3_isQuiet_24 : decode cX3_isQuiet 24 = .ok (.iconst (-1), 1) := by decide +kernel
theorem dX3_isQuiet_25 : decode cX3_isQuiet 25 = .ok (.if_icmp .ne 7, 3) := by decide +kernel
theorem dX3_isQuiet_28 : decode cX3_isQuiet 28 = .ok (.iconst 1, 1) := by decide +kernel
theorem dX3_isQuiet_29 : decode cX3_isQuiet 29 = .ok (.goto 4, 3) := by decide +kernel
theorem dX3_isQuiet_32 : decode cX3_isQuiet 32 = .ok (.iconst 0, 1) := by decide +kernel
theorem dX3_isQuiet_33 : decode cX3_isQuiet 33 = .ok (.ireturn, 1) := by decide +kernel
theorem dX3_cyclesTill_0 : decode cX3_cyclesTill 0 = .ok (.iconst 1, 1) := by decide +kernel
theorem dX3_cyclesTill_1 : decode cX3_cyclesTill 1 = .ok (.istore_n 2, 1) := by decide +kernel
theorem dX3_cyclesTill_2 : decode cX3_cyclesTill 2 = .ok (.iload_n 2, 1) := by decide +kernel
theorem dX3_cyclesTill_3 : decode cX3_cyclesTill 3 = .ok (.sipush 300, 3) := by decide +kernel
theorem dX3_cyclesTill_6 : decode cX3_cyclesTill 6 = .ok (.if_icmp .gt 31, 3) := by decide +kernel
theorem dX3_cyclesTill_9 : decode cX3_cyclesTill 9 = .ok (.aload_n 0, 1) := by decide +kernel
theorem dX3_cyclesTill_10 : decode cX3_cyclesTill 10 = .ok (.getfield 57, 3) := by decide +kernel
theorem dX3_cyclesTill_13 : decode cX3_cyclesTill 13 = .ok (.iconst 5, 1) := by decide +kernel
theorem dX3_cyclesTill_14 : decode cX3_cyclesTill 14 = .ok (.if_icmp .eq 23, 3) := by decide +kernel
theorem dX3_cyclesTill_17 : decode cX3_cyclesTill 17 = .ok (.aload_n 0, 1) := by decide +kernel
theorem dX3_cyclesTill_18 : decode cX3_cyclesTill 18 = .ok (.invokevirtual 90, 3) := by decide +kernel
theorem dX3_cyclesTill_21 : decode cX3_cyclesTill 21 = .ok (.aload_n 0, 1) := by decide +kernel
theorem dX3_cyclesTill_22 : decode cX3_cyclesTill 22 = .ok (.getfield 32, 3) := by decide +kernel
theorem dX3_cyclesTill_25 : decode cX3_cyclesTill 25 = .ok (.iload_n 1, 1) := by decide +kernel
theorem dX3_cyclesTill_26 : decode cX3_cyclesTill 26 = .ok (.if_icmp .ne 5, 3) := by decide +kernel
theorem dX3_cyclesTill_29 : decode cX3_cyclesTill 29 = .ok (.iload_n 2, 1) := by decide +kernel
theorem dX3_cyclesTill_30 : decode cX3_cyclesTill 30 = .ok (.ireturn, 1) := by decide +kernel
theorem dX3_cyclesTill_31 : decode cX3_cyclesTill 31 = .ok (.iinc 2 1, 3) := by decide +kernel
theorem dX3_cyclesTill_34 : decode cX3_cyclesTill 34 = .ok (.goto (-32), 3) := by decide +kernel
theorem dX3_cyclesTill_37 : decode cX3_cyclesTill 37 = .ok (.iconst (-1), 1) := by decide +kernel
theorem dX3_cyclesTill_38 : decode cX3_cyclesTill 38 = .ok (.ireturn, 1) := by decide +kernel
theorem dX3_firstToBegin_0 : decode cX3_firstToBegin 0 = .ok (.iconst 0, 1) := by decide +kernel
theorem dX3_firstToBegin_1 : decode cX3_firstToBegin 1 = .ok (.istore_n 2, 1) := by decide +kernel
theorem dX3_firstToBegin_2 : decode cX3_firstToBegin 2 = .ok (.iload_n 2, 1) := by decide +kernel
theorem dX3_firstToBegin_3 : decode cX3_firstToBegin 3 = .ok (.iload_n 1, 1) := by decide +kernel
theorem dX3_firstToBegin_4 : decode cX3_firstToBegin 4 = .ok (.if_icmp .ge 34, 3) := by decide +kernel
theorem dX3_firstToBegin_7 : decode cX3_firstToBegin 7 = .ok (.aload_n 0, 1) := by decide +kernel
theorem dX3_firstToBegin_8 : decode cX3_firstToBegin 8 = .ok (.getfield 57, 3) := by decide +kernel
theorem dX3_firstToBegin_11 : decode cX3_firstToBegin 11 = .ok (.iconst 5, 1) := by decide +kernel
theorem dX3_firstToBegin_12 : decode cX3_firstToBegin 12 = .ok (.if_icmp .eq 26, 3) := by decide +kernel
theorem dX3_firstToBegin_15 : decode cX3_firstToBegin 15 = .ok (.aload_n 0, 1) := by decide +kernel
theorem dX3_firstToBegin_16 : decode cX3_firstToBegin 16 = .ok (.invokevirtual 90, 3) := by decide +kernel
theorem dX3_firstToBegin_19 : decode cX3_firstToBegin 19 = .ok (.aload_n 0, 1) := by decide +kernel
theorem dX3_firstToBegin_20 : decode cX3_firstToBegin 20 = .ok (.getfield 32, 3) := by decide +kernel
theorem dX3_firstToBegin_23 : decode cX3_firstToBegin 23 = .ok (.iconst (-1), 1) := by decide +kernel
theorem dX3_firstToBegin_24 : decode cX3_firstToBegin 24 = .ok (.if_icmp .eq 8, 3) := by decide +kernel
theorem dX3_firstToBegin_27 : decode cX3_firstToBegin 27 = .ok (.aload_n 0, 1) := by decide +kernel
theorem dX3_firstToBegin_28 : decode cX3_firstToBegin 28 = .ok (.getfield 32, 3) := by decide +kernel
theorem dX3_firstToBegin_31 : decode cX3_firstToBegin 31 = .ok (.ireturn, 1) := by decide +kernel
theorem dX3_firstToBegin_32 : decode cX3_firstToBegin 32 = .ok (.iinc 2 1, 3) := by decide +kernel
theorem dX3_firstToBegin_35 : decode cX3_firstToBegin 35 = .ok (.goto (-33), 3) := by decide +kernel
theorem dX3_firstToBegin_38 : decode cX3_firstToBegin 38 = .ok (.iconst (-1), 1) := by decide +kernel
theorem dX3_firstToBegin_39 : decode cX3_firstToBegin 39 = .ok (.ireturn, 1) := by decide +kernel
theorem dX3_cycle_0 : decode cX3_cycle 0 = .ok (.aload_n 0, 1) := by decide +kernel
theorem dX3_cycle_1 : decode cX3_cycle 1 = .ok (.dup, 1) := by decide +kernel
theorem dX3_cycle_2 : decode cX3_cycle 2 = .ok (.getfield 54, 3) := by decide +kernel
theorem dX3_cycle_5 : decode cX3_cycle 5 = .ok (.iconst 1, 1) := by decide +kernel
theorem dX3_cycle_6 : decode cX3_cycle 6 = .ok (.iadd, 1) := by decide +kernel
theorem dX3_cycle_7 : decode cX3_cycle 7 = .ok (.putfield 54, 3) := by decide +kernel
theorem dX3_cycle_10 : decode cX3_cycle 10 = .ok (.aload_n 0, 1) := by decide +kernel
theorem dX3_cycle_11 : decode cX3_cycle 11 = .ok (.iconst (-1), 1) := by decide +kernel
theorem dX3_cycle_12 : decode cX3_cycle 12 = .ok (.putfield 32, 3) := by decide +kernel
theorem dX3_cycle_15 : decode cX3_cycle 15 = .ok (.aload_n 0, 1) := by decide +kernel
theorem dX3_cycle_16 : decode cX3_cycle 16 = .ok (.getfield 21, 3) := by decide +kernel
theorem dX3_cycle_19 : decode cX3_cycle 19 = .ok (.aload_n 0, 1) := by decide +kernel
theorem dX3_cycle_20 : decode cX3_cycle 20 = .ok (.getfield 12, 3) := by decide +kernel
theorem dX3_cycle_23 : decode cX3_cycle 23 = .ok (.aload_n 0, 1) := by decide +kernel
theorem dX3_cycle_24 : decode cX3_cycle 24 = .ok (.getfield 54, 3) := by decide +kernel
theorem dX3_cycle_27 : decode cX3_cycle 27 = .ok (.invokevirtual 93, 3) := by decide +kernel
theorem dX3_cycle_30 : decode cX3_cycle 30 = .ok (.aload_n 0, 1) := by decide +kernel
theorem dX3_cycle_31 : decode cX3_cycle 31 = .ok (.getfield 21, 3) := by decide +kernel
theorem dX3_cycle_34 : decode cX3_cycle 34 = .ok (.aload_n 0, 1) := by decide +kernel
theorem dX3_cycle_35 : decode cX3_cycle 35 = .ok (.getfield 12, 3) := by decide +kernel
theorem dX3_cycle_38 : decode cX3_cycle 38 = .ok (.aload_n 0, 1) := by decide +kernel
theorem dX3_cycle_39 : decode cX3_cycle 39 = .ok (.getfield 54, 3) := by decide +kernel
theorem dX3_cycle_42 : decode cX3_cycle 42 = .ok (.invokevirtual 97, 3) := by decide +kernel
theorem dX3_cycle_45 : decode cX3_cycle 45 = .ok (.aload_n 0, 1) := by decide +kernel
theorem dX3_cycle_46 : decode cX3_cycle 46 = .ok (.invokevirtual 100, 3) := by decide +kernel
theorem dX3_cycle_49 : decode cX3_cycle 49 = .ok (.aload_n 0, 1) := by decide +kernel
theorem dX3_cycle_50 : decode cX3_cycle 50 = .ok (.getfield 57, 3) := by decide +kernel
theorem dX3_cycle_53 : decode cX3_cycle 53 = .ok (.tableswitch 70 0 4 #[35, 42, 49, 56, 63], 35) := by decide +kernel
theorem dX3_cycle_88 : decode cX3_cycle 88 = .ok (.aload_n 0, 1) := by decide +kernel
theorem dX3_cycle_89 : decode cX3_cycle 89 = .ok (.invokevirtual 103, 3) := by decide +kernel
theorem dX3_cycle_92 : decode cX3_cycle 92 = .ok (.goto 31, 3) := by decide +kernel
theorem dX3_cycle_95 : decode cX3_cycle 95 = .ok (.aload_n 0, 1) := by decide +kernel
theorem dX3_cycle_96 : decode cX3_cycle 96 = .ok (.invokevirtual 106, 3) := by decide +kernel
theorem dX3_cycle_99 : decode cX3_cycle 99 = .ok (.goto 24, 3) := by decide +kernel
theorem dX3_cycle_102 : decode cX3_cycle 102 = .ok (.aload_n 0, 1) := by decide +kernel
theorem dX3_cycle_103 : decode cX3_cycle 103 = .ok (.invokevirtual 109, 3) := by decide +kernel
theorem dX3_cycle_106 : decode cX3_cycle 106 = .ok (.goto 17, 3) := by decide +kernel
theorem dX3_cycle_109 : decode cX3_cycle 109 = .ok (.aload_n 0, 1) := by decide +kernel
theorem dX3_cycle_110 : decode cX3_cycle 110 = .ok (.invokevirtual 112, 3) := by decide +kernel
theorem dX3_cycle_113 : decode cX3_cycle 113 = .ok (.goto 10, 3) := by decide +kernel
theorem dX3_cycle_116 : decode cX3_cycle 116 = .ok (.aload_n 0, 1) := by decide +kernel
theorem dX3_cycle_117 : decode cX3_cycle 117 = .ok (.invokevirtual 115, 3) := by decide +kernel
theorem dX3_cycle_120 : decode cX3_cycle 120 = .ok (.goto 3, 3) := by decide +kernel
theorem dX3_cycle_123 : decode cX3_cycle 123 = .ok (.return_, 1) := by decide +kernel
theorem dX3_enter_0 : decode cX3_enter 0 = .ok (.aload_n 0, 1) := by decide +kernel
theorem dX3_enter_1 : decode cX3_enter 1 = .ok (.iload_n 1, 1) := by decide +kernel
theorem dX3_enter_2 : decode cX3_enter 2 = .ok (.putfield 57, 3) := by decide +kernel
theorem dX3_enter_5 : decode cX3_enter 5 = .ok (.aload_n 0, 1) := by decide +kernel
theorem dX3_enter_6 : decode cX3_enter 6 = .ok (.iconst 0, 1) := by decide +kernel
theorem dX3_enter_7 : decode cX3_enter 7 = .ok (.putfield 60, 3) := by decide +kernel
theorem dX3_enter_10 : decode cX3_enter 10 = .ok (.return_, 1) := by decide +kernel
theorem dX3_turn_0 : decode cX3_turn 0 = .ok (.aload_n 0, 1) := by decide +kernel
theorem dX3_turn_1 : decode cX3_turn 1 = .ok (.getfield 57, 3) := by decide +kernel
theorem dX3_turn_4 : decode cX3_turn 4 = .ok (.ifCond .ne 20, 3) := by decide +kernel
theorem dX3_turn_7 : decode cX3_turn 7 = .ok (.aload_n 0, 1) := by decide +kernel
theorem dX3_turn_8 : decode cX3_turn 8 = .ok (.getfield 44, 3) := by decide +kernel
theorem dX3_turn_11 : decode cX3_turn 11 = .ok (.getfield 118, 3) := by decide +kernel
theorem dX3_turn_14 : decode cX3_turn 14 = .ok (.ifCond .ne 10, 3) := by decide +kernel
theorem dX3_turn_17 : decode cX3_turn 17 = .ok (.aload_n 0, 1) := by decide +kernel
theorem dX3_turn_18 : decode cX3_turn 18 = .ok (.invokevirtual 121, 3) := by decide +kernel
theorem dX3_turn_21 : decode cX3_turn 21 = .ok (.goto 22, 3) := by decide +kernel
theorem dX3_turn_24 : decode cX3_turn 24 = .ok (.aload_n 0, 1) := by decide +kernel
theorem dX3_turn_25 : decode cX3_turn 25 = .ok (.getfield 57, 3) := by decide +kernel
theorem dX3_turn_28 : decode cX3_turn 28 = .ok (.iconst 3, 1) := by decide +kernel
theorem dX3_turn_29 : decode cX3_turn 29 = .ok (.if_icmp .ne 14, 3) := by decide +kernel
theorem dX3_turn_32 : decode cX3_turn 32 = .ok (.aload_n 0, 1) := by decide +kernel
theorem dX3_turn_33 : decode cX3_turn 33 = .ok (.getfield 80, 3) := by decide +kernel
theorem dX3_turn_36 : decode cX3_turn 36 = .ok (.ifCond .ne 7, 3) := by decide +kernel
theorem dX3_turn_39 : decode cX3_turn 39 = .ok (.aload_n 0, 1) := by decide +kernel
theorem dX3_turn_40 : decode cX3_turn 40 = .ok (.invokevirtual 124, 3) := by decide +kernel
theorem dX3_turn_43 : decode cX3_turn 43 = .ok (.return_, 1) := by decide +kernel
theorem dX3_leaveRun_0 : decode cX3_leaveRun 0 = .ok (.aload_n 0, 1) := by decide +kernel
theorem dX3_leaveRun_1 : decode cX3_leaveRun 1 = .ok (.getfield 12, 3) := by decide +kernel
theorem dX3_leaveRun_4 : decode cX3_leaveRun 4 = .ok (.invokevirtual 86, 3) := by decide +kernel
theorem dX3_leaveRun_7 : decode cX3_leaveRun 7 = .ok (.istore_n 1, 1) := by decide +kernel
theorem dX3_leaveRun_8 : decode cX3_leaveRun 8 = .ok (.iload_n 1, 1) := by decide +kernel
theorem dX3_leaveRun_9 : decode cX3_leaveRun 9 = .ok (.iconst (-1), 1) := by decide +kernel
theorem dX3_leaveRun_10 : decode cX3_leaveRun 10 = .ok (.if_icmp .eq 32, 3) := by decide +kernel
theorem dX3_leaveRun_13 : decode cX3_leaveRun 13 = .ok (.aload_n 0, 1) := by decide +kernel
theorem dX3_leaveRun_14 : decode cX3_leaveRun 14 = .ok (.getfield 44, 3) := by decide +kernel
theorem dX3_leaveRun_17 : decode cX3_leaveRun 17 = .ok (.iconst 0, 1) := by decide +kernel
theorem dX3_leaveRun_18 : decode cX3_leaveRun 18 = .ok (.putfield 127, 3) := by decide +kernel
theorem dX3_leaveRun_21 : decode cX3_leaveRun 21 = .ok (.aload_n 0, 1) := by decide +kernel
theorem dX3_leaveRun_22 : decode cX3_leaveRun 22 = .ok (.iload_n 1, 1) := by decide +kernel
theorem dX3_leaveRun_23 : decode cX3_leaveRun 23 = .ok (.putfield 36, 3) := by decide +kernel
theorem dX3_leaveRun_26 : decode cX3_leaveRun 26 = .ok (.aload_n 0, 1) := by decide +kernel
theorem dX3_leaveRun_27 : decode cX3_leaveRun 27 = .ok (.iconst 0, 1) := by decide +kernel
theorem dX3_leaveRun_28 : decode cX3_leaveRun 28 = .ok (.putfield 73, 3) := by decide +kernel
theorem dX3_leaveRun_31 : decode cX3_leaveRun 31 = .ok (.aload_n 0, 1) := by decide +kernel
theorem dX3_leaveRun_32 : decode cX3_leaveRun 32 = .ok (.iconst 0, 1) := by decide +kernel
theorem dX3_leaveRun_33 : decode cX3_leaveRun 33 = .ok (.putfield 77, 3) := by decide +kernel
theorem dX3_leaveRun_36 : decode cX3_leaveRun 36 = .ok (.aload_n 0, 1) := by decide +kernel
theorem dX3_leaveRun_37 : decode cX3_leaveRun 37 = .ok (.iconst 1, 1) := by decide +kernel
theorem dX3_leaveRun_38 : decode cX3_leaveRun 38 = .ok (.invokevirtual 130, 3) := by decide +kernel
theorem dX3_leaveRun_41 : decode cX3_leaveRun 41 = .ok (.return_, 1) := by decide +kernel
theorem dX3_leaveRun_42 : decode cX3_leaveRun 42 = .ok (.aload_n 0, 1) := by decide +kernel
theorem dX3_leaveRun_43 : decode cX3_leaveRun 43 = .ok (.getfield 44, 3) := by decide +kernel
theorem dX3_leaveRun_46 : decode cX3_leaveRun 46 = .ok (.getfield 127, 3) := by decide +kernel
theorem dX3_leaveRun_49 : decode cX3_leaveRun 49 = .ok (.ifCond .eq 23, 3) := by decide +kernel
theorem dX3_leaveRun_52 : decode cX3_leaveRun 52 = .ok (.aload_n 0, 1) := by decide +kernel
theorem dX3_leaveRun_53 : decode cX3_leaveRun 53 = .ok (.getfield 12, 3) := by decide +kernel
theorem dX3_leaveRun_56 : decode cX3_leaveRun 56 = .ok (.iconst 0, 1) := by decide +kernel
theorem dX3_leaveRun_57 : decode cX3_leaveRun 57 = .ok (.invokevirtual 134, 3) := by decide +kernel
theorem dX3_leaveRun_60 : decode cX3_leaveRun 60 = .ok (.iconst (-1), 1) := by decide +kernel
theorem dX3_leaveRun_61 : decode cX3_leaveRun 61 = .ok (.if_icmp .eq 11, 3) := by decide +kernel
theorem dX3_leaveRun_64 : decode cX3_leaveRun 64 = .ok (.aload_n 0, 1) := by decide +kernel
theorem dX3_leaveRun_65 : decode cX3_leaveRun 65 = .ok (.getfield 44, 3) := by decide +kernel
theorem dX3_leaveRun_68 : decode cX3_leaveRun 68 = .ok (.iconst 0, 1) := by decide +kernel
theorem dX3_leaveRun_69 : decode cX3_leaveRun 69 = .ok (.putfield 127, 3) := by decide +kernel
theorem dX3_leaveRun_72 : decode cX3_leaveRun 72 = .ok (.aload_n 0, 1) := by decide +kernel
theorem dX3_leaveRun_73 : decode cX3_leaveRun 73 = .ok (.getfield 44, 3) := by decide +kernel
theorem dX3_leaveRun_76 : decode cX3_leaveRun 76 = .ok (.getfield 127, 3) := by decide +kernel
theorem dX3_leaveRun_79 : decode cX3_leaveRun 79 = .ok (.ifCond .ne 18, 3) := by decide +kernel
theorem dX3_leaveRun_82 : decode cX3_leaveRun 82 = .ok (.aload_n 0, 1) := by decide +kernel
theorem dX3_leaveRun_83 : decode cX3_leaveRun 83 = .ok (.getfield 44, 3) := by decide +kernel
theorem dX3_leaveRun_86 : decode cX3_leaveRun 86 = .ok (.invokevirtual 138, 3) := by decide +kernel
theorem dX3_leaveRun_89 : decode cX3_leaveRun 89 = .ok (.ifCond .eq 8, 3) := by decide +kernel
theorem dX3_leaveRun_92 : decode cX3_leaveRun 92 = .ok (.aload_n 0, 1) := by decide +kernel
theorem dX3_leaveRun_93 : decode cX3_leaveRun 93 = .ok (.iconst 4, 1) := by decide +kernel
theorem dX3_leaveRun_94 : decode cX3_leaveRun 94 = .ok (.invokevirtual 130, 3) := by decide +kernel
theorem dX3_leaveRun_97 : decode cX3_leaveRun 97 = .ok (.return_, 1) := by decide +kernel
theorem dX3_abandon_0 : decode cX3_abandon 0 = .ok (.aload_n 0, 1) := by decide +kernel
theorem dX3_abandon_1 : decode cX3_abandon 1 = .ok (.getfield 12, 3) := by decide +kernel
theorem dX3_abandon_4 : decode cX3_abandon 4 = .ok (.invokevirtual 86, 3) := by decide +kernel
theorem dX3_abandon_7 : decode cX3_abandon 7 = .ok (.istore_n 1, 1) := by decide +kernel
theorem dX3_abandon_8 : decode cX3_abandon 8 = .ok (.iload_n 1, 1) := by decide +kernel
theorem dX3_abandon_9 : decode cX3_abandon 9 = .ok (.iconst (-1), 1) := by decide +kernel
theorem dX3_abandon_10 : decode cX3_abandon 10 = .ok (.if_icmp .eq 38, 3) := by decide +kernel
theorem dX3_abandon_13 : decode cX3_abandon 13 = .ok (.aload_n 0, 1) := by decide +kernel
theorem dX3_abandon_14 : decode cX3_abandon 14 = .ok (.getfield 28, 3) := by decide +kernel
theorem dX3_abandon_17 : decode cX3_abandon 17 = .ok (.dup, 1) := by decide +kernel
theorem dX3_abandon_18 : decode cX3_abandon 18 = .ok (.getfield 142, 3) := by decide +kernel
theorem dX3_abandon_21 : decode cX3_abandon 21 = .ok (.iconst 1, 1) := by decide +kernel
theorem dX3_abandon_22 : decode cX3_abandon 22 = .ok (.iadd, 1) := by decide +kernel
theorem dX3_abandon_23 : decode cX3_abandon 23 = .ok (.putfield 142, 3) := by decide +kernel
theorem dX3_abandon_26 : decode cX3_abandon 26 = .ok (.aload_n 0, 1) := by decide +kernel
theorem dX3_abandon_27 : decode cX3_abandon 27 = .ok (.getfield 28, 3) := by decide +kernel
theorem dX3_abandon_30 : decode cX3_abandon 30 = .ok (.iconst 4, 1) := by decide +kernel
theorem dX3_abandon_31 : decode cX3_abandon 31 = .ok (.iload_n 1, 1) := by decide +kernel
theorem dX3_abandon_32 : decode cX3_abandon 32 = .ok (.aload_n 0, 1) := by decide +kernel
theorem dX3_abandon_33 : decode cX3_abandon 33 = .ok (.getfield 54, 3) := by decide +kernel
theorem dX3_abandon_36 : decode cX3_abandon 36 = .ok (.aload_n 0, 1) := by decide +kernel
theorem dX3_abandon_37 : decode cX3_abandon 37 = .ok (.getfield 60, 3) := by decide +kernel
theorem dX3_abandon_40 : decode cX3_abandon 40 = .ok (.invokevirtual 145, 3) := by decide +kernel
theorem dX3_abandon_43 : decode cX3_abandon 43 = .ok (.aload_n 0, 1) := by decide +kernel
theorem dX3_abandon_44 : decode cX3_abandon 44 = .ok (.iconst 2, 1) := by decide +kernel
theorem dX3_abandon_45 : decode cX3_abandon 45 = .ok (.invokevirtual 130, 3) := by decide +kernel
theorem dX3_abandon_48 : decode cX3_abandon 48 = .ok (.return_, 1) := by decide +kernel
theorem dX3_stacking_0 : decode cX3_stacking 0 = .ok (.aload_n 0, 1) := by decide +kernel
theorem dX3_stacking_1 : decode cX3_stacking 1 = .ok (.getfield 60, 3) := by decide +kernel
theorem dX3_stacking_4 : decode cX3_stacking 4 = .ok (.ifCond .ne 53, 3) := by decide +kernel
theorem dX3_stacking_7 : decode cX3_stacking 7 = .ok (.aload_n 0, 1) := by decide +kernel
theorem dX3_stacking_8 : decode cX3_stacking 8 = .ok (.getfield 44, 3) := by decide +kernel
theorem dX3_stacking_11 : decode cX3_stacking 11 = .ok (.getfield 149, 3) := by decide +kernel
theorem dX3_stacking_14 : decode cX3_stacking 14 = .ok (.ifCond .eq 43, 3) := by decide +kernel
theorem dX3_stacking_17 : decode cX3_stacking 17 = .ok (.aload_n 0, 1) := by decide +kernel
theorem dX3_stacking_18 : decode cX3_stacking 18 = .ok (.aload_n 0, 1) := by decide +kernel
theorem dX3_stacking_19 : decode cX3_stacking 19 = .ok (.getfield 44, 3) := by decide +kernel
theorem dX3_stacking_22 : decode cX3_stacking 22 = .ok (.invokevirtual 152, 3) := by decide +kernel
theorem dX3_stacking_25 : decode cX3_stacking 25 = .ok (.putfield 77, 3) := by decide +kernel
theorem dX3_stacking_28 : decode cX3_stacking 28 = .ok (.aload_n 0, 1) := by decide +kernel
theorem dX3_stacking_29 : decode cX3_stacking 29 = .ok (.aload_n 0, 1) := by decide +kernel
theorem dX3_stacking_30 : decode cX3_stacking 30 = .ok (.getfield 77, 3) := by decide +kernel
theorem dX3_stacking_33 : decode cX3_stacking 33 = .ok (.ifCond .ne 7, 3) := by decide +kernel
theorem dX3_stacking_36 : decode cX3_stacking 36 = .ok (.iconst 1, 1) := by decide +kernel
theorem dX3_stacking_37 : decode cX3_stacking 37 = .ok (.goto 4, 3) := by decide +kernel
theorem dX3_stacking_40 : decode cX3_stacking 40 = .ok (.iconst 0, 1) := by decide +kernel
theorem dX3_stacking_41 : decode cX3_stacking 41 = .ok (.putfield 73, 3) := by decide +kernel
theorem dX3_stacking_44 : decode cX3_stacking 44 = .ok (.aload_n 0, 1) := by decide +kernel
theorem dX3_stacking_45 : decode cX3_stacking 45 = .ok (.getfield 73, 3) := by decide +kernel
theorem dX3_stacking_48 : decode cX3_stacking 48 = .ok (.ifCond .eq 9, 3) := by decide +kernel
theorem dX3_stacking_51 : decode cX3_stacking 51 = .ok (.aload_n 0, 1) := by decide +kernel
theorem dX3_stacking_52 : decode cX3_stacking 52 = .ok (.bipush 19, 2) := by decide +kernel
theorem dX3_stacking_54 : decode cX3_stacking 54 = .ok (.invokevirtual 155, 3) := by decide +kernel
theorem dX3_stacking_57 : decode cX3_stacking 57 = .ok (.aload_n 0, 1) := by decide +kernel
theorem dX3_stacking_58 : decode cX3_stacking 58 = .ok (.getfield 73, 3) := by decide +kernel
theorem dX3_stacking_61 : decode cX3_stacking 61 = .ok (.ifCond .ne 28, 3) := by decide +kernel
theorem dX3_stacking_64 : decode cX3_stacking 64 = .ok (.aload_n 0, 1) := by decide +kernel
theorem dX3_stacking_65 : decode cX3_stacking 65 = .ok (.getfield 44, 3) := by decide +kernel
theorem dX3_stacking_68 : decode cX3_stacking 68 = .ok (.aload_n 0, 1) := by decide +kernel
theorem dX3_stacking_69 : decode cX3_stacking 69 = .ok (.invokevirtual 158, 3) := by decide +kernel
theorem dX3_stacking_72 : decode cX3_stacking 72 = .ok (.invokevirtual 161, 3) := by decide +kernel
theorem dX3_stacking_75 : decode cX3_stacking 75 = .ok (.ifCond .ne 14, 3) := by decide +kernel
theorem dX3_stacking_78 : decode cX3_stacking 78 = .ok (.aload_n 0, 1) := by decide +kernel
theorem dX3_stacking_79 : decode cX3_stacking 79 = .ok (.iconst 1, 1) := by decide +kernel
theorem dX3_stacking_80 : decode cX3_stacking 80 = .ok (.putfield 73, 3) := by decide +kernel
theorem dX3_stacking_83 : decode cX3_stacking 83 = .ok (.aload_n 0, 1) := by decide +kernel
theorem dX3_stacking_84 : decode cX3_stacking 84 = .ok (.bipush 19, 2) := by decide +kernel
theorem dX3_stacking_86 : decode cX3_stacking 86 = .ok (.invokevirtual 155, 3) := by decide +kernel
theorem dX3_stacking_89 : decode cX3_stacking 89 = .ok (.aload_n 0, 1) := by decide +kernel
theorem dX3_stacking_90 : decode cX3_stacking 90 = .ok (.getfield 57, 3) := by decide +kernel
theorem dX3_stacking_93 : decode cX3_stacking 93 = .ok (.iconst 5, 1) := by decide +kernel
theorem dX3_stacking_94 : decode cX3_stacking 94 = .ok (.if_icmp .ne 4, 3) := by decide +kernel
theorem dX3_stacking_97 : decode cX3_stacking 97 = .ok (.return_, 1) := by decide +kernel
theorem dX3_stacking_98 : decode cX3_stacking 98 = .ok (.aload_n 0, 1) := by decide +kernel
theorem dX3_stacking_99 : decode cX3_stacking 99 = .ok (.dup, 1) := by decide +kernel
theorem dX3_stacking_100 : decode cX3_stacking 100 = .ok (.getfield 60, 3) := by decide +kernel
theorem dX3_stacking_103 : decode cX3_stacking 103 = .ok (.iconst 1, 1) := by decide +kernel
theorem dX3_stacking_104 : decode cX3_stacking 104 = .ok (.iadd, 1) := by decide +kernel
theorem dX3_stacking_105 : decode cX3_stacking 105 = .ok (.putfield 60, 3) := by decide +kernel
theorem dX3_stacking_108 : decode cX3_stacking 108 = .ok (.aload_n 0, 1) := by decide +kernel
theorem dX3_stacking_109 : decode cX3_stacking 109 = .ok (.getfield 60, 3) := by decide +kernel
theorem dX3_stacking_112 : decode cX3_stacking 112 = .ok (.bipush 6, 2) := by decide +kernel
theorem dX3_stacking_114 : decode cX3_stacking 114 = .ok (.if_icmp .lt 43, 3) := by decide +kernel
theorem dX3_stacking_117 : decode cX3_stacking 117 = .ok (.aload_n 0, 1) := by decide +kernel
theorem dX3_stacking_118 : decode cX3_stacking 118 = .ok (.aload_n 0, 1) := by decide +kernel
theorem dX3_stacking_119 : decode cX3_stacking 119 = .ok (.getfield 80, 3) := by decide +kernel
theorem dX3_stacking_122 : decode cX3_stacking 122 = .ok (.ifCond .eq 24, 3) := by decide +kernel
theorem dX3_stacking_125 : decode cX3_stacking 125 = .ok (.aload_n 0, 1) := by decide +kernel
theorem dX3_stacking_126 : decode cX3_stacking 126 = .ok (.getfield 12, 3) := by decide +kernel
theorem dX3_stacking_129 : decode cX3_stacking 129 = .ok (.aload_n 0, 1) := by decide +kernel
theorem dX3_stacking_130 : decode cX3_stacking 130 = .ok (.getfield 36, 3) := by decide +kernel
theorem dX3_stacking_133 : decode cX3_stacking 133 = .ok (.invokevirtual 165, 3) := by decide +kernel
theorem dX3_stacking_136 : decode cX3_stacking 136 = .ok (.ifCond .eq 10, 3) := by decide +kernel
theorem dX3_stacking_139 : decode cX3_stacking 139 = .ok (.aload_n 0, 1) := by decide +kernel
theorem dX3_stacking_140 : decode cX3_stacking 140 = .ok (.getfield 36, 3) := by decide +kernel
theorem dX3_stacking_143 : decode cX3_stacking 143 = .ok (.goto 10, 3) := by decide +kernel
theorem dX3_stacking_146 : decode cX3_stacking 146 = .ok (.aload_n 0, 1) := by decide +kernel
theorem dX3_stacking_147 : decode cX3_stacking 147 = .ok (.getfield 12, 3) := by decide +kernel
theorem dX3_stacking_150 : decode cX3_stacking 150 = .ok (.invokevirtual 86, 3) := by decide +kernel
theorem dX3_stacking_153 : decode cX3_stacking 153 = .ok (.iconst 0, 1) := by decide +kernel
theorem dX3_stacking_154 : decode cX3_stacking 154 = .ok (.invokevirtual 168, 3) := by decide +kernel
theorem dX3_stacking_157 : decode cX3_stacking 157 = .ok (.return_, 1) := by decide +kernel
theorem dX3_frameWord_0 : decode cX3_frameWord 0 = .ok (.aload_n 0, 1) := by decide +kernel
theorem dX3_frameWord_1 : decode cX3_frameWord 1 = .ok (.getfield 60, 3) := by decide +kernel
theorem dX3_frameWord_4 : decode cX3_frameWord 4 = .ok (.iconst 4, 1) := by decide +kernel
theorem dX3_frameWord_5 : decode cX3_frameWord 5 = .ok (.if_icmp .ge 16, 3) := by decide +kernel
theorem dX3_frameWord_8 : decode cX3_frameWord 8 = .ok (.aload_n 0, 1) := by decide +kernel
theorem dX3_frameWord_9 : decode cX3_frameWord 9 = .ok (.getfield 44, 3) := by decide +kernel
theorem dX3_frameWord_12 : decode cX3_frameWord 12 = .ok (.getfield 172, 3) := by decide +kernel
theorem dX3_frameWord_15 : decode cX3_frameWord 15 = .ok (.aload_n 0, 1) := by decide +kernel
theorem dX3_frameWord_16 : decode cX3_frameWord 16 = .ok (.getfield 60, 3) := by decide +kernel
theorem dX3_frameWord_19 : decode cX3_frameWord 19 = .ok (.iaload, 1) := by decide +kernel
theorem dX3_frameWord_20 : decode cX3_frameWord 20 = .ok (.ireturn, 1) := by decide +kernel
theorem dX3_frameWord_21 : decode cX3_frameWord 21 = .ok (.aload_n 0, 1) := by decide +kernel
theorem dX3_frameWord_22 : decode cX3_frameWord 22 = .ok (.getfield 60, 3) := by decide +kernel
theorem dX3_frameWord_25 : decode cX3_frameWord 25 = .ok (.iconst 4, 1) := by decide +kernel
theorem dX3_frameWord_26 : decode cX3_frameWord 26 = .ok (.if_icmp .ne 11, 3) := by decide +kernel
theorem dX3_frameWord_29 : decode cX3_frameWord 29 = .ok (.aload_n 0, 1) := by decide +kernel
theorem dX3_frameWord_30 : decode cX3_frameWord 30 = .ok (.getfield 44, 3) := by decide +kernel
theorem dX3_frameWord_33 : decode cX3_frameWord 33 = .ok (.getfield 176, 3) := by decide +kernel
theorem dX3_frameWord_36 : decode cX3_frameWord 36 = .ok (.ireturn, 1) := by decide +kernel
theorem dX3_frameWord_37 : decode cX3_frameWord 37 = .ok (.sipush 23040, 3) := by decide +kernel
theorem dX3_frameWord_40 : decode cX3_frameWord 40 = .ok (.aload_n 0, 1) := by decide +kernel
theorem dX3_frameWord_41 : decode cX3_frameWord 41 = .ok (.getfield 44, 3) := by decide +kernel
theorem dX3_frameWord_44 : decode cX3_frameWord 44 = .ok (.getfield 179, 3) := by decide +kernel
theorem dX3_frameWord_47 : decode cX3_frameWord 47 = .ok (.iadd, 1) := by decide +kernel
theorem dX3_frameWord_48 : decode cX3_frameWord 48 = .ok (.iconst 2, 1) := by decide +kernel
theorem dX3_frameWord_49 : decode cX3_frameWord 49 = .ok (.aload_n 0, 1) := by decide +kernel
theorem dX3_frameWord_50 : decode cX3_frameWord 50 = .ok (.getfield 44, 3) := by decide +kernel
theorem dX3_frameWord_53 : decode cX3_frameWord 53 = .ok (.getfield 182, 3) := by decide +kernel
theorem dX3_frameWord_56 : decode cX3_frameWord 56 = .ok (.imul, 1) := by decide +kernel
theorem dX3_frameWord_57 : decode cX3_frameWord 57 = .ok (.iadd, 1) := by decide +kernel
theorem dX3_frameWord_58 : decode cX3_frameWord 58 = .ok (.aload_n 0, 1) := by decide +kernel
theorem dX3_frameWord_59 : decode cX3_frameWord 59 = .ok (.getfield 77, 3) := by decide +kernel
theorem dX3_frameWord_62 : decode cX3_frameWord 62 = .ok (.ifCond .eq 7, 3) := by decide +kernel
theorem dX3_frameWord_65 : decode cX3_frameWord 65 = .ok (.iconst 4, 1) := by decide +kernel
theorem dX3_frameWord_66 : decode cX3_frameWord 66 = .ok (.goto 4, 3) := by decide +kernel
theorem dX3_frameWord_69 : decode cX3_frameWord 69 = .ok (.iconst 0, 1) := by decide +kernel
theorem dX3_frameWord_70 : decode cX3_frameWord 70 = .ok (.iadd, 1) := by decide +kernel
theorem dX3_frameWord_71 : decode cX3_frameWord 71 = .ok (.ireturn, 1) := by decide +kernel
theorem dX3_chaining_0 : decode cX3_chaining 0 = .ok (.aload_n 0, 1) := by decide +kernel
theorem dX3_chaining_1 : decode cX3_chaining 1 = .ok (.dup, 1) := by decide +kernel
theorem dX3_chaining_2 : decode cX3_chaining 2 = .ok (.getfield 60, 3) := by decide +kernel
theorem dX3_chaining_5 : decode cX3_chaining 5 = .ok (.iconst 1, 1) := by decide +kernel
theorem dX3_chaining_6 : decode cX3_chaining 6 = .ok (.iadd, 1) := by decide +kernel
theorem dX3_chaining_7 : decode cX3_chaining 7 = .ok (.putfield 60, 3) := by decide +kernel
theorem dX3_chaining_10 : decode cX3_chaining 10 = .ok (.aload_n 0, 1) := by decide +kernel
theorem dX3_chaining_11 : decode cX3_chaining 11 = .ok (.getfield 60, 3) := by decide +kernel
theorem dX3_chaining_14 : decode cX3_chaining 14 = .ok (.iconst 2, 1) := by decide +kernel
theorem dX3_chaining_15 : decode cX3_chaining 15 = .ok (.if_icmp .lt 15, 3) := by decide +kernel
theorem dX3_chaining_18 : decode cX3_chaining 18 = .ok (.aload_n 0, 1) := by decide +kernel
theorem dX3_chaining_19 : decode cX3_chaining 19 = .ok (.aload_n 0, 1) := by decide +kernel
theorem dX3_chaining_20 : decode cX3_chaining 20 = .ok (.getfield 12, 3) := by decide +kernel
theorem dX3_chaining_23 : decode cX3_chaining 23 = .ok (.invokevirtual 86, 3) := by decide +kernel
theorem dX3_chaining_26 : decode cX3_chaining 26 = .ok (.iconst 1, 1) := by decide +kernel
theorem dX3_chaining_27 : decode cX3_chaining 27 = .ok (.invokevirtual 168, 3) := by decide +kernel
theorem dX3_chaining_30 : decode cX3_chaining 30 = .ok (.return_, 1) := by decide +kernel
theorem dX3_beginOrUnstack_0 : decode cX3_beginOrUnstack 0 = .ok (.iload_n 1, 1) := by decide +kernel
theorem dX3_beginOrUnstack_1 : decode cX3_beginOrUnstack 1 = .ok (.iconst (-1), 1) := by decide +kernel
theorem dX3_beginOrUnstack_2 : decode cX3_beginOrUnstack 2 = .ok (.if_icmp .ne 9, 3) := by decide +kernel
theorem dX3_beginOrUnstack_5 : decode cX3_beginOrUnstack 5 = .ok (.aload_n 0, 1) := by decide +kernel
theorem dX3_beginOrUnstack_6 : decode cX3_beginOrUnstack 6 = .ok (.iconst 3, 1) := by decide +kernel
theorem dX3_beginOrUnstack_7 : decode cX3_beginOrUnstack 7 = .ok (.invokevirtual 130, 3) := by decide +kernel
theorem dX3_beginOrUnstack_10 : decode cX3_beginOrUnstack 10 = .ok (.return_, 1) := by decide +kernel
theorem dX3_beginOrUnstack_11 : decode cX3_beginOrUnstack 11 = .ok (.aload_n 0, 1) := by decide +kernel
theorem dX3_beginOrUnstack_12 : decode cX3_beginOrUnstack 12 = .ok (.getfield 12, 3) := by decide +kernel
theorem dX3_beginOrUnstack_15 : decode cX3_beginOrUnstack 15 = .ok (.iload_n 1, 1) := by decide +kernel
theorem dX3_beginOrUnstack_16 : decode cX3_beginOrUnstack 16 = .ok (.aload_n 0, 1) := by decide +kernel
theorem dX3_beginOrUnstack_17 : decode cX3_beginOrUnstack 17 = .ok (.getfield 54, 3) := by decide +kernel
theorem dX3_beginOrUnstack_20 : decode cX3_beginOrUnstack 20 = .ok (.invokevirtual 185, 3) := by decide +kernel
theorem dX3_beginOrUnstack_23 : decode cX3_beginOrUnstack 23 = .ok (.istore_n 3, 1) := by decide +kernel
theorem dX3_beginOrUnstack_24 : decode cX3_beginOrUnstack 24 = .ok (.aload_n 0, 1) := by decide +kernel
theorem dX3_beginOrUnstack_25 : decode cX3_beginOrUnstack 25 = .ok (.getfield 44, 3) := by decide +kernel
theorem dX3_beginOrUnstack_28 : decode cX3_beginOrUnstack 28 = .ok (.aload_n 0, 1) := by decide +kernel
theorem dX3_beginOrUnstack_29 : decode cX3_beginOrUnstack 29 = .ok (.getfield 12, 3) := by decide +kernel
theorem dX3_beginOrUnstack_32 : decode cX3_beginOrUnstack 32 = .ok (.getfield 189, 3) := by decide +kernel
theorem dX3_beginOrUnstack_35 : decode cX3_beginOrUnstack 35 = .ok (.iload_n 1, 1) := by decide +kernel
theorem dX3_beginOrUnstack_36 : decode cX3_beginOrUnstack 36 = .ok (.iaload, 1) := by decide +kernel
theorem dX3_beginOrUnstack_37 : decode cX3_beginOrUnstack 37 = .ok (.putfield 176, 3) := by decide +kernel
theorem dX3_beginOrUnstack_40 : decode cX3_beginOrUnstack 40 = .ok (.aload_n 0, 1) := by decide +kernel
theorem dX3_beginOrUnstack_41 : decode cX3_beginOrUnstack 41 = .ok (.getfield 44, 3) := by decide +kernel
theorem dX3_beginOrUnstack_44 : decode cX3_beginOrUnstack 44 = .ok (.iconst 0, 1) := by decide +kernel
theorem dX3_beginOrUnstack_45 : decode cX3_beginOrUnstack 45 = .ok (.putfield 149, 3) := by decide +kernel
theorem dX3_beginOrUnstack_48 : decode cX3_beginOrUnstack 48 = .ok (.aload_n 0, 1) := by decide +kernel
theorem dX3_beginOrUnstack_49 : decode cX3_beginOrUnstack 49 = .ok (.iconst 0, 1) := by decide +kernel
theorem dX3_beginOrUnstack_50 : decode cX3_beginOrUnstack 50 = .ok (.invokevirtual 130, 3) := by decide +kernel
theorem dX3_beginOrUnstack_53 : decode cX3_beginOrUnstack 53 = .ok (.aload_n 0, 1) := by decide +kernel
theorem dX3_beginOrUnstack_54 : decode cX3_beginOrUnstack 54 = .ok (.iload_n 1, 1) := by decide +kernel
theorem dX3_beginOrUnstack_55 : decode cX3_beginOrUnstack 55 = .ok (.putfield 32, 3) := by decide +kernel
theorem dX3_beginOrUnstack_58 : decode cX3_beginOrUnstack 58 = .ok (.aload_n 0, 1) := by decide +kernel
theorem dX3_beginOrUnstack_59 : decode cX3_beginOrUnstack 59 = .ok (.getfield 28, 3) := by decide +kernel
theorem dX3_beginOrUnstack_62 : decode cX3_beginOrUnstack 62 = .ok (.dup, 1) := by decide +kernel
theorem dX3_beginOrUnstack_63 : decode cX3_beginOrUnstack 63 = .ok (.getfield 192, 3) := by decide +kernel
theorem dX3_beginOrUnstack_66 : decode cX3_beginOrUnstack 66 = .ok (.iconst 1, 1) := by decide +kernel
theorem dX3_beginOrUnstack_67 : decode cX3_beginOrUnstack 67 = .ok (.iadd, 1) := by decide +kernel
theorem dX3_beginOrUnstack_68 : decode cX3_beginOrUnstack 68 = .ok (.putfield 192, 3) := by decide +kernel
theorem dX3_beginOrUnstack_71 : decode cX3_beginOrUnstack 71 = .ok (.iload_n 2, 1) := by decide +kernel
theorem dX3_beginOrUnstack_72 : decode cX3_beginOrUnstack 72 = .ok (.iconst 1, 1) := by decide +kernel
theorem dX3_beginOrUnstack_73 : decode cX3_beginOrUnstack 73 = .ok (.if_icmp .ne 19, 3) := by decide +kernel
theorem dX3_beginOrUnstack_76 : decode cX3_beginOrUnstack 76 = .ok (.aload_n 0, 1) := by decide +kernel
theorem dX3_beginOrUnstack_77 : decode cX3_beginOrUnstack 77 = .ok (.getfield 28, 3) := by decide +kernel
theorem dX3_beginOrUnstack_80 : decode cX3_beginOrUnstack 80 = .ok (.dup, 1) := by decide +kernel
theorem dX3_beginOrUnstack_81 : decode cX3_beginOrUnstack 81 = .ok (.getfield 195, 3) := by decide +kernel
theorem dX3_beginOrUnstack_84 : decode cX3_beginOrUnstack 84 = .ok (.iconst 1, 1) := by decide +kernel
theorem dX3_beginOrUnstack_85 : decode cX3_beginOrUnstack 85 = .ok (.iadd, 1) := by decide +kernel
theorem dX3_beginOrUnstack_86 : decode cX3_beginOrUnstack 86 = .ok (.putfield 195, 3) := by decide +kernel
theorem dX3_beginOrUnstack_89 : decode cX3_beginOrUnstack 89 = .ok (.goto 24, 3) := by decide +kernel
theorem dX3_beginOrUnstack_92 : decode cX3_beginOrUnstack 92 = .ok (.iload_n 1, 1) := by decide +kernel
theorem dX3_beginOrUnstack_93 : decode cX3_beginOrUnstack 93 = .ok (.aload_n 0, 1) := by decide +kernel
theorem dX3_beginOrUnstack_94 : decode cX3_beginOrUnstack 94 = .ok (.getfield 36, 3) := by decide +kernel
theorem dX3_beginOrUnstack_97 : decode cX3_beginOrUnstack 97 = .ok (.if_icmp .eq 16, 3) := by decide +kernel
theorem dX3_beginOrUnstack_100 : decode cX3_beginOrUnstack 100 = .ok (.aload_n 0, 1) := by decide +kernel
theorem dX3_beginOrUnstack_101 : decode cX3_beginOrUnstack 101 = .ok (.getfield 28, 3) := by decide +kernel
theorem dX3_beginOrUnstack_104 : decode cX3_beginOrUnstack 104 = .ok (.dup, 1) := by decide +kernel
theorem dX3_beginOrUnstack_105 : decode cX3_beginOrUnstack 105 = .ok (.getfield 198, 3) := by decide +kernel
theorem dX3_beginOrUnstack_108 : decode cX3_beginOrUnstack 108 = .ok (.iconst 1, 1) := by decide +kernel
theorem dX3_beginOrUnstack_109 : decode cX3_beginOrUnstack 109 = .ok (.iadd, 1) := by decide +kernel
theorem dX3_beginOrUnstack_110 : decode cX3_beginOrUnstack 110 = .ok (.putfield 198, 3) := by decide +kernel
theorem dX3_beginOrUnstack_113 : decode cX3_beginOrUnstack 113 = .ok (.aload_n 0, 1) := by decide +kernel
theorem dX3_beginOrUnstack_114 : decode cX3_beginOrUnstack 114 = .ok (.getfield 28, 3) := by decide +kernel
theorem dX3_beginOrUnstack_117 : decode cX3_beginOrUnstack 117 = .ok (.iload_n 2, 1) := by decide +kernel
theorem dX3_beginOrUnstack_118 : decode cX3_beginOrUnstack 118 = .ok (.iload_n 1, 1) := by decide +kernel
theorem dX3_beginOrUnstack_119 : decode cX3_beginOrUnstack 119 = .ok (.aload_n 0, 1) := by decide +kernel
theorem dX3_beginOrUnstack_120 : decode cX3_beginOrUnstack 120 = .ok (.getfield 54, 3) := by decide +kernel
theorem dX3_beginOrUnstack_123 : decode cX3_beginOrUnstack 123 = .ok (.iload_n 3, 1) := by decide +kernel
theorem dX3_beginOrUnstack_124 : decode cX3_beginOrUnstack 124 = .ok (.invokevirtual 145, 3) := by decide +kernel
theorem dX3_beginOrUnstack_127 : decode cX3_beginOrUnstack 127 = .ok (.return_, 1) := by decide +kernel
theorem dX3_unstacking_0 : decode cX3_unstacking 0 = .ok (.aload_n 0, 1) := by decide +kernel
theorem dX3_unstacking_1 : decode cX3_unstacking 1 = .ok (.getfield 44, 3) := by decide +kernel
theorem dX3_unstacking_4 : decode cX3_unstacking 4 = .ok (.invokevirtual 201, 3) := by decide +kernel
theorem dX3_unstacking_7 : decode cX3_unstacking 7 = .ok (.istore_n 1, 1) := by decide +kernel
theorem dX3_unstacking_8 : decode cX3_unstacking 8 = .ok (.iload_n 1, 1) := by decide +kernel
theorem dX3_unstacking_9 : decode cX3_unstacking 9 = .ok (.iconst (-1), 1) := by decide +kernel
theorem dX3_unstacking_10 : decode cX3_unstacking 10 = .ok (.if_icmp .eq 22, 3) := by decide +kernel
theorem dX3_unstacking_13 : decode cX3_unstacking 13 = .ok (.aload_n 0, 1) := by decide +kernel
theorem dX3_unstacking_14 : decode cX3_unstacking 14 = .ok (.iload_n 1, 1) := by decide +kernel
theorem dX3_unstacking_15 : decode cX3_unstacking 15 = .ok (.invokevirtual 155, 3) := by decide +kernel
theorem dX3_unstacking_18 : decode cX3_unstacking 18 = .ok (.aload_n 0, 1) := by decide +kernel
theorem dX3_unstacking_19 : decode cX3_unstacking 19 = .ok (.getfield 57, 3) := by decide +kernel
theorem dX3_unstacking_22 : decode cX3_unstacking 22 = .ok (.iconst 5, 1) := by decide +kernel
theorem dX3_unstacking_23 : decode cX3_unstacking 23 = .ok (.if_icmp .eq 8, 3) := by decide +kernel
theorem dX3_unstacking_26 : decode cX3_unstacking 26 = .ok (.aload_n 0, 1) := by decide +kernel
theorem dX3_unstacking_27 : decode cX3_unstacking 27 = .ok (.iconst 2, 1) := by decide +kernel
theorem dX3_unstacking_28 : decode cX3_unstacking 28 = .ok (.invokevirtual 130, 3) := by decide +kernel
theorem dX3_unstacking_31 : decode cX3_unstacking 31 = .ok (.return_, 1) := by decide +kernel
theorem dX3_unstacking_32 : decode cX3_unstacking 32 = .ok (.aload_n 0, 1) := by decide +kernel
theorem dX3_unstacking_33 : decode cX3_unstacking 33 = .ok (.dup, 1) := by decide +kernel
theorem dX3_unstacking_34 : decode cX3_unstacking 34 = .ok (.getfield 60, 3) := by decide +kernel
theorem dX3_unstacking_37 : decode cX3_unstacking 37 = .ok (.iconst 1, 1) := by decide +kernel
theorem dX3_unstacking_38 : decode cX3_unstacking 38 = .ok (.iadd, 1) := by decide +kernel
theorem dX3_unstacking_39 : decode cX3_unstacking 39 = .ok (.putfield 60, 3) := by decide +kernel
theorem dX3_unstacking_42 : decode cX3_unstacking 42 = .ok (.aload_n 0, 1) := by decide +kernel
theorem dX3_unstacking_43 : decode cX3_unstacking 43 = .ok (.getfield 60, 3) := by decide +kernel
theorem dX3_unstacking_46 : decode cX3_unstacking 46 = .ok (.aload_n 0, 1) := by decide +kernel
theorem dX3_unstacking_47 : decode cX3_unstacking 47 = .ok (.getfield 44, 3) := by decide +kernel
theorem dX3_unstacking_50 : decode cX3_unstacking 50 = .ok (.invokevirtual 204, 3) := by decide +kernel
theorem dX3_unstacking_53 : decode cX3_unstacking 53 = .ok (.if_icmp .lt 7, 3) := by decide +kernel
theorem dX3_unstacking_56 : decode cX3_unstacking 56 = .ok (.aload_n 0, 1) := by decide +kernel
theorem dX3_unstacking_57 : decode cX3_unstacking 57 = .ok (.invokevirtual 207, 3) := by decide +kernel
theorem dX3_unstacking_60 : decode cX3_unstacking 60 = .ok (.return_, 1) := by decide +kernel
theorem dX3_takeBack_0 : decode cX3_takeBack 0 = .ok (.aload_n 0, 1) := by decide +kernel
theorem dX3_takeBack_1 : decode cX3_takeBack 1 = .ok (.getfield 44, 3) := by decide +kernel
theorem dX3_takeBack_4 : decode cX3_takeBack 4 = .ok (.invokevirtual 210, 3) := by decide +kernel
theorem dX3_takeBack_7 : decode cX3_takeBack 7 = .ok (.ifCond .eq 16, 3) := by decide +kernel
theorem dX3_takeBack_10 : decode cX3_takeBack 10 = .ok (.aload_n 0, 1) := by decide +kernel
theorem dX3_takeBack_11 : decode cX3_takeBack 11 = .ok (.getfield 28, 3) := by decide +kernel
theorem dX3_takeBack_14 : decode cX3_takeBack 14 = .ok (.dup, 1) := by decide +kernel
theorem dX3_takeBack_15 : decode cX3_takeBack 15 = .ok (.getfield 213, 3) := by decide +kernel
theorem dX3_takeBack_18 : decode cX3_takeBack 18 = .ok (.iconst 1, 1) := by decide +kernel
theorem dX3_takeBack_19 : decode cX3_takeBack 19 = .ok (.iadd, 1) := by decide +kernel
theorem dX3_takeBack_20 : decode cX3_takeBack 20 = .ok (.putfield 213, 3) := by decide +kernel
theorem dX3_takeBack_23 : decode cX3_takeBack 23 = .ok (.aload_n 0, 1) := by decide +kernel
theorem dX3_takeBack_24 : decode cX3_takeBack 24 = .ok (.iconst 0, 1) := by decide +kernel
theorem dX3_takeBack_25 : decode cX3_takeBack 25 = .ok (.invokevirtual 130, 3) := by decide +kernel
theorem dX3_takeBack_28 : decode cX3_takeBack 28 = .ok (.aload_n 0, 1) := by decide +kernel
theorem dX3_takeBack_29 : decode cX3_takeBack 29 = .ok (.getfield 28, 3) := by decide +kernel
theorem dX3_takeBack_32 : decode cX3_takeBack 32 = .ok (.iconst 5, 1) := by decide +kernel
theorem dX3_takeBack_33 : decode cX3_takeBack 33 = .ok (.aload_n 0, 1) := by decide +kernel
theorem dX3_takeBack_34 : decode cX3_takeBack 34 = .ok (.getfield 12, 3) := by decide +kernel
theorem dX3_takeBack_37 : decode cX3_takeBack 37 = .ok (.invokevirtual 216, 3) := by decide +kernel
theorem dX3_takeBack_40 : decode cX3_takeBack 40 = .ok (.aload_n 0, 1) := by decide +kernel
theorem dX3_takeBack_41 : decode cX3_takeBack 41 = .ok (.getfield 54, 3) := by decide +kernel
theorem dX3_takeBack_44 : decode cX3_takeBack 44 = .ok (.aload_n 0, 1) := by decide +kernel
theorem dX3_takeBack_45 : decode cX3_takeBack 45 = .ok (.getfield 44, 3) := by decide +kernel
theorem dX3_takeBack_48 : decode cX3_takeBack 48 = .ok (.getfield 219, 3) := by decide +kernel
theorem dX3_takeBack_51 : decode cX3_takeBack 51 = .ok (.invokevirtual 145, 3) := by decide +kernel
theorem dX3_takeBack_54 : decode cX3_takeBack 54 = .ok (.return_, 1) := by decide +kernel
theorem dX3_saving_0 : decode cX3_saving 0 = .ok (.aload_n 0, 1) := by decide +kernel
theorem dX3_saving_1 : decode cX3_saving 1 = .ok (.getfield 44, 3) := by decide +kernel
theorem dX3_saving_4 : decode cX3_saving 4 = .ok (.aload_n 0, 1) := by decide +kernel
theorem dX3_saving_5 : decode cX3_saving 5 = .ok (.getfield 60, 3) := by decide +kernel
theorem dX3_saving_8 : decode cX3_saving 8 = .ok (.invokevirtual 222, 3) := by decide +kernel
theorem dX3_saving_11 : decode cX3_saving 11 = .ok (.aload_n 0, 1) := by decide +kernel
theorem dX3_saving_12 : decode cX3_saving 12 = .ok (.dup, 1) := by decide +kernel
theorem dX3_saving_13 : decode cX3_saving 13 = .ok (.getfield 60, 3) := by decide +kernel
theorem dX3_saving_16 : decode cX3_saving 16 = .ok (.iconst 1, 1) := by decide +kernel
theorem dX3_saving_17 : decode cX3_saving 17 = .ok (.iadd, 1) := by decide +kernel
theorem dX3_saving_18 : decode cX3_saving 18 = .ok (.putfield 60, 3) := by decide +kernel
theorem dX3_saving_21 : decode cX3_saving 21 = .ok (.aload_n 0, 1) := by decide +kernel
theorem dX3_saving_22 : decode cX3_saving 22 = .ok (.getfield 60, 3) := by decide +kernel
theorem dX3_saving_25 : decode cX3_saving 25 = .ok (.iconst 4, 1) := by decide +kernel
theorem dX3_saving_26 : decode cX3_saving 26 = .ok (.if_icmp .lt 29, 3) := by decide +kernel
theorem dX3_saving_29 : decode cX3_saving 29 = .ok (.aload_n 0, 1) := by decide +kernel
theorem dX3_saving_30 : decode cX3_saving 30 = .ok (.getfield 44, 3) := by decide +kernel
theorem dX3_saving_33 : decode cX3_saving 33 = .ok (.iconst (-1), 1) := by decide +kernel
theorem dX3_saving_34 : decode cX3_saving 34 = .ok (.putfield 225, 3) := by decide +kernel
theorem dX3_saving_37 : decode cX3_saving 37 = .ok (.aload_n 0, 1) := by decide +kernel
theorem dX3_saving_38 : decode cX3_saving 38 = .ok (.getfield 28, 3) := by decide +kernel
theorem dX3_saving_41 : decode cX3_saving 41 = .ok (.dup, 1) := by decide +kernel
theorem dX3_saving_42 : decode cX3_saving 42 = .ok (.getfield 228, 3) := by decide +kernel
theorem dX3_saving_45 : decode cX3_saving 45 = .ok (.iconst 1, 1) := by decide +kernel
theorem dX3_saving_46 : decode cX3_saving 46 = .ok (.iadd, 1) := by decide +kernel
theorem dX3_saving_47 : decode cX3_saving 47 = .ok (.putfield 228, 3) := by decide +kernel
theorem dX3_saving_50 : decode cX3_saving 50 = .ok (.aload_n 0, 1) := by decide +kernel
theorem dX3_saving_51 : decode cX3_saving 51 = .ok (.iconst 0, 1) := by decide +kernel
theorem dX3_saving_52 : decode cX3_saving 52 = .ok (.invokevirtual 130, 3) := by decide +kernel
theorem dX3_saving_55 : decode cX3_saving 55 = .ok (.return_, 1) := by decide +kernel
theorem dX3_raise_0 : decode cX3_raise 0 = .ok (.aload_n 0, 1) := by decide +kernel
theorem dX3_raise_1 : decode cX3_raise 1 = .ok (.getfield 12, 3) := by decide +kernel
theorem dX3_raise_4 : decode cX3_raise 4 = .ok (.iload_n 1, 1) := by decide +kernel
theorem dX3_raise_5 : decode cX3_raise 5 = .ok (.invokevirtual 231, 3) := by decide +kernel
theorem dX3_raise_8 : decode cX3_raise 8 = .ok (.istore_n 2, 1) := by decide +kernel
theorem dX3_raise_9 : decode cX3_raise 9 = .ok (.aload_n 0, 1) := by decide +kernel
theorem dX3_raise_10 : decode cX3_raise 10 = .ok (.getfield 28, 3) := by decide +kernel
theorem dX3_raise_13 : decode cX3_raise 13 = .ok (.dup, 1) := by decide +kernel
theorem dX3_raise_14 : decode cX3_raise 14 = .ok (.getfield 234, 3) := by decide +kernel
theorem dX3_raise_17 : decode cX3_raise 17 = .ok (.iconst 1, 1) := by decide +kernel
theorem dX3_raise_18 : decode cX3_raise 18 = .ok (.iadd, 1) := by decide +kernel
theorem dX3_raise_19 : decode cX3_raise 19 = .ok (.putfield 234, 3) := by decide +kernel
theorem dX3_raise_22 : decode cX3_raise 22 = .ok (.aload_n 0, 1) := by decide +kernel
theorem dX3_raise_23 : decode cX3_raise 23 = .ok (.getfield 28, 3) := by decide +kernel
theorem dX3_raise_26 : decode cX3_raise 26 = .ok (.iconst 3, 1) := by decide +kernel
theorem dX3_raise_27 : decode cX3_raise 27 = .ok (.iload_n 2, 1) := by decide +kernel
theorem dX3_raise_28 : decode cX3_raise 28 = .ok (.aload_n 0, 1) := by decide +kernel
theorem dX3_raise_29 : decode cX3_raise 29 = .ok (.getfield 54, 3) := by decide +kernel
theorem dX3_raise_32 : decode cX3_raise 32 = .ok (.aload_n 0, 1) := by decide +kernel
theorem dX3_raise_33 : decode cX3_raise 33 = .ok (.getfield 44, 3) := by decide +kernel
theorem dX3_raise_36 : decode cX3_raise 36 = .ok (.getfield 176, 3) := by decide +kernel
theorem dX3_raise_39 : decode cX3_raise 39 = .ok (.invokevirtual 145, 3) := by decide +kernel
theorem dX3_raise_42 : decode cX3_raise 42 = .ok (.iload_n 2, 1) := by decide +kernel
theorem dX3_raise_43 : decode cX3_raise 43 = .ok (.iconst (-1), 1) := by decide +kernel
theorem dX3_raise_44 : decode cX3_raise 44 = .ok (.if_icmp .ne 9, 3) := by decide +kernel
theorem dX3_raise_47 : decode cX3_raise 47 = .ok (.aload_n 0, 1) := by decide +kernel
theorem dX3_raise_48 : decode cX3_raise 48 = .ok (.iconst 5, 1) := by decide +kernel
theorem dX3_raise_49 : decode cX3_raise 49 = .ok (.invokevirtual 130, 3) := by decide +kernel
theorem dX3_raise_52 : decode cX3_raise 52 = .ok (.return_, 1) := by decide +kernel
theorem dX3_raise_53 : decode cX3_raise 53 = .ok (.iload_n 2, 1) := by decide +kernel
theorem dX3_raise_54 : decode cX3_raise 54 = .ok (.bipush 20, 2) := by decide +kernel
theorem dX3_raise_56 : decode cX3_raise 56 = .ok (.if_icmp .ne 16, 3) := by decide +kernel
theorem dX3_raise_59 : decode cX3_raise 59 = .ok (.aload_n 0, 1) := by decide +kernel
theorem dX3_raise_60 : decode cX3_raise 60 = .ok (.getfield 28, 3) := by decide +kernel
theorem dX3_raise_63 : decode cX3_raise 63 = .ok (.dup, 1) := by decide +kernel
theorem dX3_raise_64 : decode cX3_raise 64 = .ok (.getfield 237, 3) := by decide +kernel
theorem dX3_raise_67 : decode cX3_raise 67 = .ok (.iconst 1, 1) := by decide +kernel
theorem dX3_raise_68 : decode cX3_raise 68 = .ok (.iadd, 1) := by decide +kernel
theorem dX3_raise_69 : decode cX3_raise 69 = .ok (.putfield 237, 3) := by decide +kernel
theorem dX3_raise_72 : decode cX3_raise 72 = .ok (.aload_n 0, 1) := by decide +kernel
theorem dX3_raise_73 : decode cX3_raise 73 = .ok (.getfield 12, 3) := by decide +kernel
theorem dX3_raise_76 : decode cX3_raise 76 = .ok (.iload_n 2, 1) := by decide +kernel
theorem dX3_raise_77 : decode cX3_raise 77 = .ok (.aload_n 0, 1) := by decide +kernel
theorem dX3_raise_78 : decode cX3_raise 78 = .ok (.getfield 54, 3) := by decide +kernel
theorem dX3_raise_81 : decode cX3_raise 81 = .ok (.invokevirtual 240, 3) := by decide +kernel
theorem dX3_raise_84 : decode cX3_raise 84 = .ok (.pop, 1) := by decide +kernel
theorem dX3_raise_85 : decode cX3_raise 85 = .ok (.return_, 1) := by decide +kernel
theorem dX3_running_0 : decode cX3_running 0 = .ok (.aload_n 0, 1) := by decide +kernel
theorem dX3_running_1 : decode cX3_running 1 = .ok (.getfield 44, 3) := by decide +kernel
theorem dX3_running_4 : decode cX3_running 4 = .ok (.invokevirtual 244, 3) := by decide +kernel
theorem dX3_running_7 : decode cX3_running 7 = .ok (.ifCond .eq 4, 3) := by decide +kernel
theorem dX3_running_10 : decode cX3_running 10 = .ok (.return_, 1) := by decide +kernel
theorem dX3_running_11 : decode cX3_running 11 = .ok (.aload_n 0, 1) := by decide +kernel
theorem dX3_running_12 : decode cX3_running 12 = .ok (.getfield 44, 3) := by decide +kernel
theorem dX3_running_15 : decode cX3_running 15 = .ok (.iconst 0, 1) := by decide +kernel
theorem dX3_running_16 : decode cX3_running 16 = .ok (.invokevirtual 247, 3) := by decide +kernel
theorem dX3_running_19 : decode cX3_running 19 = .ok (.istore_n 1, 1) := by decide +kernel
theorem dX3_running_20 : decode cX3_running 20 = .ok (.aload_n 0, 1) := by decide +kernel
theorem dX3_running_21 : decode cX3_running 21 = .ok (.getfield 44, 3) := by decide +kernel
theorem dX3_running_24 : decode cX3_running 24 = .ok (.iconst 1, 1) := by decide +kernel
theorem dX3_running_25 : decode cX3_running 25 = .ok (.invokevirtual 247, 3) := by decide +kernel
theorem dX3_running_28 : decode cX3_running 28 = .ok (.istore_n 2, 1) := by decide +kernel
theorem dX3_running_29 : decode cX3_running 29 = .ok (.aload_n 0, 1) := by decide +kernel
theorem dX3_running_30 : decode cX3_running 30 = .ok (.getfield 44, 3) := by decide +kernel
theorem dX3_running_33 : decode cX3_running 33 = .ok (.iconst 2, 1) := by decide +kernel
theorem dX3_running_34 : decode cX3_running 34 = .ok (.invokevirtual 247, 3) := by decide +kernel
theorem dX3_running_37 : decode cX3_running 37 = .ok (.istore_n 3, 1) := by decide +kernel
theorem dX3_running_38 : decode cX3_running 38 = .ok (.aload_n 0, 1) := by decide +kernel
theorem dX3_running_39 : decode cX3_running 39 = .ok (.getfield 44, 3) := by decide +kernel
theorem dX3_running_42 : decode cX3_running 42 = .ok (.iload_n 1, 1) := by decide +kernel
theorem dX3_running_43 : decode cX3_running 43 = .ok (.iload_n 2, 1) := by decide +kernel
theorem dX3_running_44 : decode cX3_running 44 = .ok (.iload_n 3, 1) := by decide +kernel
theorem dX3_running_45 : decode cX3_running 45 = .ok (.invokevirtual 250, 3) := by decide +kernel
theorem dX3_running_48 : decode cX3_running 48 = .ok (.istore 4, 2) := by decide +kernel
theorem dX3_running_50 : decode cX3_running 50 = .ok (.iload_n 1, 1) := by decide +kernel
theorem dX3_running_51 : decode cX3_running 51 = .ok (.bipush 18, 2) := by decide +kernel
theorem dX3_running_53 : decode cX3_running 53 = .ok (.if_icmp .ne 13, 3) := by decide +kernel
theorem dX3_running_56 : decode cX3_running 56 = .ok (.aload_n 0, 1) := by decide +kernel
theorem dX3_running_57 : decode cX3_running 57 = .ok (.getfield 12, 3) := by decide +kernel
theorem dX3_running_60 : decode cX3_running 60 = .ok (.getfield 83, 3) := by decide +kernel
theorem dX3_running_63 : decode cX3_running 63 = .ok (.ifCond .eq 24, 3) := by decide +kernel
theorem dX3_running_66 : decode cX3_running 66 = .ok (.iload_n 1, 1) := by decide +kernel
theorem dX3_running_67 : decode cX3_running 67 = .ok (.bipush 25, 2) := by decide +kernel
theorem dX3_running_69 : decode cX3_running 69 = .ok (.if_icmp .ne 22, 3) := by decide +kernel
theorem dX3_running_72 : decode cX3_running 72 = .ok (.aload_n 0, 1) := by decide +kernel
theorem dX3_running_73 : decode cX3_running 73 = .ok (.getfield 12, 3) := by decide +kernel
theorem dX3_running_76 : decode cX3_running 76 = .ok (.getfield 254, 3) := by decide +kernel
theorem dX3_running_79 : decode cX3_running 79 = .ok (.iload_n 2, 1) := by decide +kernel
theorem dX3_running_80 : decode cX3_running 80 = .ok (.bipush 20, 2) := by decide +kernel
theorem dX3_running_82 : decode cX3_running 82 = .ok (.irem, 1) := by decide +kernel
theorem dX3_running_83 : decode cX3_running 83 = .ok (.baload, 1) := by decide +kernel
theorem dX3_running_84 : decode cX3_running 84 = .ok (.ifCond .eq 7, 3) := by decide +kernel
theorem dX3_running_87 : decode cX3_running 87 = .ok (.bipush 18, 2) := by decide +kernel
theorem dX3_running_89 : decode cX3_running 89 = .ok (.istore 4, 2) := by decide +kernel
theorem dX3_running_91 : decode cX3_running 91 = .ok (.iload 4, 2) := by decide +kernel
theorem dX3_running_93 : decode cX3_running 93 = .ok (.iconst (-1), 1) := by decide +kernel
theorem dX3_running_94 : decode cX3_running 94 = .ok (.if_icmp .eq 10, 3) := by decide +kernel
theorem dX3_running_97 : decode cX3_running 97 = .ok (.aload_n 0, 1) := by decide +kernel
theorem dX3_running_98 : decode cX3_running 98 = .ok (.iload 4, 2) := by decide +kernel
theorem dX3_running_100 : decode cX3_running 100 = .ok (.invokevirtual 155, 3) := by decide +kernel
theorem dX3_running_103 : decode cX3_running 103 = .ok (.return_, 1) := by decide +kernel
theorem dX3_running_104 : decode cX3_running 104 = .ok (.aload_n 0, 1) := by decide +kernel
theorem dX3_running_105 : decode cX3_running 105 = .ok (.getfield 44, 3) := by decide +kernel
theorem dX3_running_108 : decode cX3_running 108 = .ok (.getstatic 258, 3) := by decide +kernel
theorem dX3_running_111 : decode cX3_running 111 = .ok (.iload_n 1, 1) := by decide +kernel
theorem dX3_running_112 : decode cX3_running 112 = .ok (.iaload, 1) := by decide +kernel
theorem dX3_running_113 : decode cX3_running 113 = .ok (.iconst 1, 1) := by decide +kernel
theorem dX3_running_114 : decode cX3_running 114 = .ok (.isub, 1) := by decide +kernel
theorem dX3_running_115 : decode cX3_running 115 = .ok (.putfield 118, 3) := by decide +kernel
theorem dX3_running_118 : decode cX3_running 118 = .ok (.aload_n 0, 1) := by decide +kernel
theorem dX3_running_119 : decode cX3_running 119 = .ok (.getfield 44, 3) := by decide +kernel
theorem dX3_running_122 : decode cX3_running 122 = .ok (.aload_n 0, 1) := by decide +kernel
theorem dX3_running_123 : decode cX3_running 123 = .ok (.getfield 44, 3) := by decide +kernel
theorem dX3_running_126 : decode cX3_running 126 = .ok (.getfield 176, 3) := by decide +kernel
theorem dX3_running_129 : decode cX3_running 129 = .ok (.getstatic 261, 3) := by decide +kernel
theorem dX3_running_132 : decode cX3_running 132 = .ok (.iload_n 1, 1) := by decide +kernel
theorem dX3_running_133 : decode cX3_running 133 = .ok (.iaload, 1) := by decide +kernel
theorem dX3_running_134 : decode cX3_running 134 = .ok (.iadd, 1) := by decide +kernel
theorem dX3_running_135 : decode cX3_running 135 = .ok (.sipush 511, 3) := by decide +kernel
theorem dX3_running_138 : decode cX3_running 138 = .ok (.iand, 1) := by decide +kernel
theorem dX3_running_139 : decode cX3_running 139 = .ok (.putfield 176, 3) := by decide +kernel
theorem dX3_running_142 : decode cX3_running 142 = .ok (.iload_n 1, 1) := by decide +kernel
theorem dX3_running_143 : decode cX3_running 143 = .ok (.bipush 8, 2) := by decide +kernel
theorem dX3_running_145 : decode cX3_running 145 = .ok (.if_icmp .gt 16, 3) := by decide +kernel
theorem dX3_running_148 : decode cX3_running 148 = .ok (.aload_n 0, 1) := by decide +kernel
theorem dX3_running_149 : decode cX3_running 149 = .ok (.getfield 44, 3) := by decide +kernel
theorem dX3_running_152 : decode cX3_running 152 = .ok (.iload_n 1, 1) := by decide +kernel
theorem dX3_running_153 : decode cX3_running 153 = .ok (.iload_n 2, 1) := by decide +kernel
theorem dX3_running_154 : decode cX3_running 154 = .ok (.iload_n 3, 1) := by decide +kernel
theorem dX3_running_155 : decode cX3_running 155 = .ok (.invokevirtual 264, 3) := by decide +kernel
theorem dX3_running_158 : decode cX3_running 158 = .ok (.goto 53, 3) := by decide +kernel
theorem dX3_running_161 : decode cX3_running 161 = .ok (.iload_n 1, 1) := by decide +kernel
theorem dX3_running_162 : decode cX3_running 162 = .ok (.invokestatic 268, 3) := by decide +kernel
theorem dX3_running_165 : decode cX3_running 165 = .ok (.ifCond .eq 16, 3) := by decide +kernel
theorem dX3_running_168 : decode cX3_running 168 = .ok (.aload_n 0, 1) := by decide +kernel
theorem dX3_running_169 : decode cX3_running 169 = .ok (.getfield 44, 3) := by decide +kernel
theorem dX3_running_172 : decode cX3_running 172 = .ok (.iload_n 1, 1) := by decide +kernel
theorem dX3_running_173 : decode cX3_running 173 = .ok (.iload_n 2, 1) := by decide +kernel
theorem dX3_running_174 : decode cX3_running 174 = .ok (.iload_n 3, 1) := by decide +kernel
theorem dX3_running_175 : decode cX3_running 175 = .ok (.invokevirtual 273, 3) := by decide +kernel
theorem dX3_running_178 : decode cX3_running 178 = .ok (.goto 33, 3) := by decide +kernel
theorem dX3_running_181 : decode cX3_running 181 = .ok (.iload_n 1, 1) := by decide +kernel
theorem dX3_running_182 : decode cX3_running 182 = .ok (.bipush 18, 2) := by decide +kernel
theorem dX3_running_184 : decode cX3_running 184 = .ok (.if_icmp .ne 10, 3) := by decide +kernel
theorem dX3_running_187 : decode cX3_running 187 = .ok (.aload_n 0, 1) := by decide +kernel
theorem dX3_running_188 : decode cX3_running 188 = .ok (.invokevirtual 276, 3) := by decide +kernel
theorem dX3_running_191 : decode cX3_running 191 = .ok (.goto 20, 3) := by decide +kernel
theorem dX3_running_194 : decode cX3_running 194 = .ok (.aload_n 0, 1) := by decide +kernel
theorem dX3_running_195 : decode cX3_running 195 = .ok (.getfield 44, 3) := by decide +kernel
theorem dX3_running_198 : decode cX3_running 198 = .ok (.iload_n 1, 1) := by decide +kernel
theorem dX3_running_199 : decode cX3_running 199 = .ok (.iload_n 2, 1) := by decide +kernel
theorem dX3_running_200 : decode cX3_running 200 = .ok (.iload_n 3, 1) := by decide +kernel
theorem dX3_running_201 : decode cX3_running 201 = .ok (.invokevirtual 279, 3) := by decide +kernel
theorem dX3_running_204 : decode cX3_running 204 = .ok (.aload_n 0, 1) := by decide +kernel
theorem dX3_running_205 : decode cX3_running 205 = .ok (.iload_n 1, 1) := by decide +kernel
theorem dX3_running_206 : decode cX3_running 206 = .ok (.iload_n 2, 1) := by decide +kernel
theorem dX3_running_207 : decode cX3_running 207 = .ok (.iload_n 3, 1) := by decide +kernel
theorem dX3_running_208 : decode cX3_running 208 = .ok (.invokevirtual 282, 3) := by decide +kernel
theorem dX3_running_211 : decode cX3_running 211 = .ok (.aload_n 0, 1) := by decide +kernel
theorem dX3_running_212 : decode cX3_running 212 = .ok (.getfield 28, 3) := by decide +kernel
theorem dX3_running_215 : decode cX3_running 215 = .ok (.dup, 1) := by decide +kernel
theorem dX3_running_216 : decode cX3_running 216 = .ok (.getfield 285, 3) := by decide +kernel
theorem dX3_running_219 : decode cX3_running 219 = .ok (.iconst 1, 1) := by decide +kernel
theorem dX3_running_220 : decode cX3_running 220 = .ok (.iadd, 1) := by decide +kernel
theorem dX3_running_221 : decode cX3_running 221 = .ok (.putfield 285, 3) := by decide +kernel
theorem dX3_running_224 : decode cX3_running 224 = .ok (.return_, 1) := by decide +kernel
theorem dX3_govern_0 : decode cX3_govern 0 = .ok (.iload_n 1, 1) := by decide +kernel
theorem dX3_govern_1 : decode cX3_govern 1 = .ok (.tableswitch 193 14 27 #[71, 90, 105, 118, 193, 129, 193, 193, 193, 193, 193, 140, 193, 171], 71) := by decide +kernel
theorem dX3_govern_72 : decode cX3_govern 72 = .ok (.aload_n 0, 1) := by decide +kernel
theorem dX3_govern_73 : decode cX3_govern 73 = .ok (.getfield 12, 3) := by decide +kernel
theorem dX3_govern_76 : decode cX3_govern 76 = .ok (.iload_n 2, 1) := by decide +kernel
theorem dX3_govern_77 : decode cX3_govern 77 = .ok (.bipush 18, 2) := by decide +kernel
theorem dX3_govern_79 : decode cX3_govern 79 = .ok (.irem, 1) := by decide +kernel
theorem dX3_govern_80 : decode cX3_govern 80 = .ok (.aload_n 0, 1) := by decide +kernel
theorem dX3_govern_81 : decode cX3_govern 81 = .ok (.getfield 54, 3) := by decide +kernel
theorem dX3_govern_84 : decode cX3_govern 84 = .ok (.invokevirtual 240, 3) := by decide +kernel
theorem dX3_govern_87 : decode cX3_govern 87 = .ok (.pop, 1) := by decide +kernel
theorem dX3_govern_88 : decode cX3_govern 88 = .ok (.goto 106, 3) := by decide +kernel
theorem dX3_govern_91 : decode cX3_govern 91 = .ok (.aload_n 0, 1) := by decide +kernel
theorem dX3_govern_92 : decode cX3_govern 92 = .ok (.getfield 12, 3) := by decide +kernel
theorem dX3_govern_95 : decode cX3_govern 95 = .ok (.iload_n 2, 1) := by decide +kernel
theorem dX3_govern_96 : decode cX3_govern 96 = .ok (.bipush 18, 2) := by decide +kernel
theorem dX3_govern_98 : decode cX3_govern 98 = .ok (.irem, 1) := by decide +kernel
theorem dX3_govern_99 : decode cX3_govern 99 = .ok (.invokevirtual 288, 3) := by decide +kernel
theorem dX3_govern_102 : decode cX3_govern 102 = .ok (.pop, 1) := by decide +kernel
theorem dX3_govern_103 : decode cX3_govern 103 = .ok (.goto 91, 3) := by decide +kernel
theorem dX3_govern_106 : decode cX3_govern 106 = .ok (.aload_n 0, 1) := by decide +kernel
theorem dX3_govern_107 : decode cX3_govern 107 = .ok (.getfield 12, 3) := by decide +kernel
theorem dX3_govern_110 : decode cX3_govern 110 = .ok (.iload_n 2, 1) := by decide +kernel
theorem dX3_govern_111 : decode cX3_govern 111 = .ok (.iconst 1, 1) := by decide +kernel
theorem dX3_govern_112 : decode cX3_govern 112 = .ok (.iand, 1) := by decide +kernel
theorem dX3_govern_113 : decode cX3_govern 113 = .ok (.putfield 291, 3) := by decide +kernel
theorem dX3_govern_116 : decode cX3_govern 116 = .ok (.goto 78, 3) := by decide +kernel
theorem dX3_govern_119 : decode cX3_govern 119 = .ok (.aload_n 0, 1) := by decide +kernel
theorem dX3_govern_120 : decode cX3_govern 120 = .ok (.getfield 12, 3) := by decide +kernel
theorem dX3_govern_123 : decode cX3_govern 123 = .ok (.iload_n 2, 1) := by decide +kernel
theorem dX3_govern_124 : decode cX3_govern 124 = .ok (.putfield 294, 3) := by decide +kernel
theorem dX3_govern_127 : decode cX3_govern 127 = .ok (.goto 67, 3) := by decide +kernel
theorem dX3_govern_130 : decode cX3_govern 130 = .ok (.aload_n 0, 1) := by decide +kernel
theorem dX3_govern_131 : decode cX3_govern 131 = .ok (.getfield 44, 3) := by decide +kernel
theorem dX3_govern_134 : decode cX3_govern 134 = .ok (.iconst 1, 1) := by decide +kernel
theorem dX3_govern_135 : decode cX3_govern 135 = .ok (.putfield 127, 3) := by decide +kernel
theorem dX3_govern_138 : decode cX3_govern 138 = .ok (.goto 56, 3) := by decide +kernel
theorem dX3_govern_141 : decode cX3_govern 141 = .ok (.aload_n 0, 1) := by decide +kernel
theorem dX3_govern_142 : decode cX3_govern 142 = .ok (.getfield 12, 3) := by decide +kernel
theorem dX3_govern_145 : decode cX3_govern 145 = .ok (.getfield 297, 3) := by decide +kernel
theorem dX3_govern_148 : decode cX3_govern 148 = .ok (.iload_n 2, 1) := by decide +kernel
theorem dX3_govern_149 : decode cX3_govern 149 = .ok (.bipush 20, 2) := by decide +kernel
theorem dX3_govern_151 : decode cX3_govern 151 = .ok (.irem, 1) := by decide +kernel
theorem dX3_govern_152 : decode cX3_govern 152 = .ok (.aload_n 0, 1) := by decide +kernel
theorem dX3_govern_153 : decode cX3_govern 153 = .ok (.getfield 44, 3) := by decide +kernel
theorem dX3_govern_156 : decode cX3_govern 156 = .ok (.getfield 172, 3) := by decide +kernel
theorem dX3_govern_159 : decode cX3_govern 159 = .ok (.iload_n 3, 1) := by decide +kernel
theorem dX3_govern_160 : decode cX3_govern 160 = .ok (.bipush 7, 2) := by decide +kernel
theorem dX3_govern_162 : decode cX3_govern 162 = .ok (.iand, 1) := by decide +kernel
theorem dX3_govern_163 : decode cX3_govern 163 = .ok (.iaload, 1) := by decide +kernel
theorem dX3_govern_164 : decode cX3_govern 164 = .ok (.sipush 255, 3) := by decide +kernel
theorem dX3_govern_167 : decode cX3_govern 167 = .ok (.iand, 1) := by decide +kernel
theorem dX3_govern_168 : decode cX3_govern 168 = .ok (.iastore, 1) := by decide +kernel
theorem dX3_govern_169 : decode cX3_govern 169 = .ok (.goto 25, 3) := by decide +kernel
theorem dX3_govern_172 : decode cX3_govern 172 = .ok (.aload_n 0, 1) := by decide +kernel
theorem dX3_govern_173 : decode cX3_govern 173 = .ok (.getfield 28, 3) := by decide +kernel
theorem dX3_govern_176 : decode cX3_govern 176 = .ok (.aload_n 0, 1) := by decide +kernel
theorem dX3_govern_177 : decode cX3_govern 177 = .ok (.getfield 44, 3) := by decide +kernel
theorem dX3_govern_180 : decode cX3_govern 180 = .ok (.getfield 172, 3) := by decide +kernel
theorem dX3_govern_183 : decode cX3_govern 183 = .ok (.iload_n 2, 1) := by decide +kernel
theorem dX3_govern_184 : decode cX3_govern 184 = .ok (.bipush 7, 2) := by decide +kernel
theorem dX3_govern_186 : decode cX3_govern 186 = .ok (.iand, 1) := by decide +kernel
theorem dX3_govern_187 : decode cX3_govern 187 = .ok (.iaload, 1) := by decide +kernel
theorem dX3_govern_188 : decode cX3_govern 188 = .ok (.invokevirtual 300, 3) := by decide +kernel
theorem dX3_govern_191 : decode cX3_govern 191 = .ok (.goto 3, 3) := by decide +kernel
theorem dX3_govern_194 : decode cX3_govern 194 = .ok (.return_, 1) := by decide +kernel
theorem dX3_endInnermost_0 : decode cX3_endInnermost 0 = .ok (.aload_n 0, 1) := by decide +kernel
theorem dX3_endInnermost_1 : decode cX3_endInnermost 1 = .ok (.getfield 12, 3) := by decide +kernel
theorem dX3_endInnermost_4 : decode cX3_endInnermost 4 = .ok (.invokevirtual 216, 3) := by decide +kernel
theorem dX3_endInnermost_7 : decode cX3_endInnermost 7 = .ok (.istore_n 1, 1) := by decide +kernel
theorem dX3_endInnermost_8 : decode cX3_endInnermost 8 = .ok (.iload_n 1, 1) := by decide +kernel
theorem dX3_endInnermost_9 : decode cX3_endInnermost 9 = .ok (.iconst (-1), 1) := by decide +kernel
theorem dX3_endInnermost_10 : decode cX3_endInnermost 10 = .ok (.if_icmp .ne 4, 3) := by decide +kernel
theorem dX3_endInnermost_13 : decode cX3_endInnermost 13 = .ok (.return_, 1) := by decide +kernel
theorem dX3_endInnermost_14 : decode cX3_endInnermost 14 = .ok (.aload_n 0, 1) := by decide +kernel
theorem dX3_endInnermost_15 : decode cX3_endInnermost 15 = .ok (.getfield 28, 3) := by decide +kernel
theorem dX3_endInnermost_18 : decode cX3_endInnermost 18 = .ok (.iconst 2, 1) := by decide +kernel
theorem dX3_endInnermost_19 : decode cX3_endInnermost 19 = .ok (.iload_n 1, 1) := by decide +kernel
theorem dX3_endInnermost_20 : decode cX3_endInnermost 20 = .ok (.aload_n 0, 1) := by decide +kernel
theorem dX3_endInnermost_21 : decode cX3_endInnermost 21 = .ok (.getfield 54, 3) := by decide +kernel
theorem dX3_endInnermost_24 : decode cX3_endInnermost 24 = .ok (.aload_n 0, 1) := by decide +kernel
theorem dX3_endInnermost_25 : decode cX3_endInnermost 25 = .ok (.getfield 54, 3) := by decide +kernel
theorem dX3_endInnermost_28 : decode cX3_endInnermost 28 = .ok (.aload_n 0, 1) := by decide +kernel
theorem dX3_endInnermost_29 : decode cX3_endInnermost 29 = .ok (.getfield 12, 3) := by decide +kernel
theorem dX3_endInnermost_32 : decode cX3_endInnermost 32 = .ok (.getfield 303, 3) := by decide +kernel
theorem dX3_endInnermost_35 : decode cX3_endInnermost 35 = .ok (.iload_n 1, 1) := by decide +kernel
theorem dX3_endInnermost_36 : decode cX3_endInnermost 36 = .ok (.iaload, 1) := by decide +kernel
theorem dX3_endInnermost_37 : decode cX3_endInnermost 37 = .ok (.isub, 1) := by decide +kernel
theorem dX3_endInnermost_38 : decode cX3_endInnermost 38 = .ok (.invokevirtual 145, 3) := by decide +kernel
theorem dX3_endInnermost_41 : decode cX3_endInnermost 41 = .ok (.aload_n 0, 1) := by decide +kernel
theorem dX3_endInnermost_42 : decode cX3_endInnermost 42 = .ok (.getfield 12, 3) := by decide +kernel
theorem dX3_endInnermost_45 : decode cX3_endInnermost 45 = .ok (.aload_n 0, 1) := by decide +kernel
theorem dX3_endInnermost_46 : decode cX3_endInnermost 46 = .ok (.getfield 54, 3) := by decide +kernel
theorem dX3_endInnermost_49 : decode cX3_endInnermost 49 = .ok (.invokevirtual 306, 3) := by decide +kernel
theorem dX3_endInnermost_52 : decode cX3_endInnermost 52 = .ok (.aload_n 0, 1) := by decide +kernel
theorem dX3_endInnermost_53 : decode cX3_endInnermost 53 = .ok (.aload_n 0, 1) := by decide +kernel
theorem dX3_endInnermost_54 : decode cX3_endInnermost 54 = .ok (.getfield 80, 3) := by decide +kernel
theorem dX3_endInnermost_57 : decode cX3_endInnermost 57 = .ok (.ifCond .ne 18, 3) := by decide +kernel
theorem dX3_endInnermost_60 : decode cX3_endInnermost 60 = .ok (.aload_n 0, 1) := by decide +kernel
theorem dX3_endInnermost_61 : decode cX3_endInnermost 61 = .ok (.getfield 12, 3) := by decide +kernel
theorem dX3_endInnermost_64 : decode cX3_endInnermost 64 = .ok (.invokevirtual 86, 3) := by decide +kernel
theorem dX3_endInnermost_67 : decode cX3_endInnermost 67 = .ok (.iconst (-1), 1) := by decide +kernel
theorem dX3_endInnermost_68 : decode cX3_endInnermost 68 = .ok (.if_icmp .eq 7, 3) := by decide +kernel
theorem dX3_endInnermost_71 : decode cX3_endInnermost 71 = .ok (.iconst 2, 1) := by decide +kernel
theorem dX3_endInnermost_72 : decode cX3_endInnermost 72 = .ok (.goto 4, 3) := by decide +kernel
theorem dX3_endInnermost_75 : decode cX3_endInnermost 75 = .ok (.iconst 3, 1) := by decide +kernel
theorem dX3_endInnermost_76 : decode cX3_endInnermost 76 = .ok (.invokevirtual 130, 3) := by decide +kernel
theorem dX3_endInnermost_79 : decode cX3_endInnermost 79 = .ok (.return_, 1) := by decide +kernel
theorem dX4_isFor_0 : decode cX4_isFor 0 = .ok (.iload_n 0, 1) := by decide +kernel
theorem dX4_isFor_1 : decode cX4_isFor 1 = .ok (.bipush 20, 2) := by decide +kernel
theorem dX4_isFor_3 : decode cX4_isFor 3 = .ok (.if_icmp .lt 13, 3) := by decide +kernel
theorem dX4_isFor_6 : decode cX4_isFor 6 = .ok (.iload_n 0, 1) := by decide +kernel
theorem dX4_isFor_7 : decode cX4_isFor 7 = .ok (.bipush 24, 2) := by decide +kernel
theorem dX4_isFor_9 : decode cX4_isFor 9 = .ok (.if_icmp .gt 7, 3) := by decide +kernel
theorem dX4_isFor_12 : decode cX4_isFor 12 = .ok (.iconst 1, 1) := by decide +kernel
theorem dX4_isFor_13 : decode cX4_isFor 13 = .ok (.goto 4, 3) := by decide +kernel
theorem dX4_isFor_16 : decode cX4_isFor 16 = .ok (.iconst 0, 1) := by decide +kernel
theorem dX4_isFor_17 : decode cX4_isFor 17 = .ok (.ireturn, 1) := by decide +kernel
theorem dX4_isFinite_0 : decode cX4_isFinite 0 = .ok (.iload_n 0, 1) := by decide +kernel
theorem dX4_isFinite_1 : decode cX4_isFinite 1 = .ok (.ldc 9, 2) := by decide +kernel
theorem dX4_isFinite_3 : decode cX4_isFinite 3 = .ok (.iand, 1) := by decide +kernel
theorem dX4_isFinite_4 : decode cX4_isFinite 4 = .ok (.ldc 9, 2) := by decide +kernel
theorem dX4_isFinite_6 : decode cX4_isFinite 6 = .ok (.if_icmp .eq 7, 3) := by decide +kernel
theorem dX4_isFinite_9 : decode cX4_isFinite 9 = .ok (.iconst 1, 1) := by decide +kernel
theorem dX4_isFinite_10 : decode cX4_isFinite 10 = .ok (.goto 4, 3) := by decide +kernel
theorem dX4_isFinite_13 : decode cX4_isFinite 13 = .ok (.iconst 0, 1) := by decide +kernel
theorem dX4_isFinite_14 : decode cX4_isFinite 14 = .ok (.ireturn, 1) := by decide +kernel
theorem dX4_valueOf_0 : decode cX4_valueOf 0 = .ok (.iload_n 0, 1) := by decide +kernel
theorem dX4_valueOf_1 : decode cX4_valueOf 1 = .ok (.ldc 9, 2) := by decide +kernel
theorem dX4_valueOf_3 : decode cX4_valueOf 3 = .ok (.iand, 1) := by decide +kernel
theorem dX4_valueOf_4 : decode cX4_valueOf 4 = .ok (.bipush 23, 2) := by decide +kernel
theorem dX4_valueOf_6 : decode cX4_valueOf 6 = .ok (.ishr, 1) := by decide +kernel
theorem dX4_valueOf_7 : decode cX4_valueOf 7 = .ok (.istore_n 1, 1) := by decide +kernel
theorem dX4_valueOf_8 : decode cX4_valueOf 8 = .ok (.iload_n 0, 1) := by decide +kernel
theorem dX4_valueOf_9 : decode cX4_valueOf 9 = .ok (.ldc 10, 2) := by decide +kernel
theorem dX4_valueOf_11 : decode cX4_valueOf 11 = .ok (.iand, 1) := by decide +kernel
theorem dX4_valueOf_12 : decode cX4_valueOf 12 = .ok (.istore_n 2, 1) := by decide +kernel
theorem dX4_valueOf_13 : decode cX4_valueOf 13 = .ok (.iload_n 1, 1) := by decide +kernel
theorem dX4_valueOf_14 : decode cX4_valueOf 14 = .ok (.ifCond .ne 8, 3) := by decide +kernel
theorem dX4_valueOf_17 : decode cX4_valueOf 17 = .ok (.iload_n 2, 1) := by decide +kernel
theorem dX4_valueOf_18 : decode cX4_valueOf 18 = .ok (.i2f, 1) := by decide +kernel
theorem dX4_valueOf_19 : decode cX4_valueOf 19 = .ok (.goto 8, 3) := by decide +kernel
theorem dX4_valueOf_22 : decode cX4_valueOf 22 = .ok (.iload_n 2, 1) := by decide +kernel
theorem dX4_valueOf_23 : decode cX4_valueOf 23 = .ok (.ldc 11, 2) := by decide +kernel
theorem dX4_valueOf_25 : decode cX4_valueOf 25 = .ok (.iadd, 1) := by decide +kernel
theorem dX4_valueOf_26 : decode cX4_valueOf 26 = .ok (.i2f, 1) := by decide +kernel
theorem dX4_valueOf_27 : decode cX4_valueOf 27 = .ok (.fstore_n 3, 1) := by decide +kernel
theorem dX4_valueOf_28 : decode cX4_valueOf 28 = .ok (.iload_n 1, 1) := by decide +kernel
theorem dX4_valueOf_29 : decode cX4_valueOf 29 = .ok (.ifCond .ne 7, 3) := by decide +kernel
theorem dX4_valueOf_32 : decode cX4_valueOf 32 = .ok (.iconst 1, 1) := by decide +kernel
theorem dX4_valueOf_33 : decode cX4_valueOf 33 = .ok (.goto 4, 3) := by decide +kernel
theorem dX4_valueOf_36 : decode cX4_valueOf 36 = .ok (.iload_n 1, 1) := by decide +kernel
theorem dX4_valueOf_37 : decode cX4_valueOf 37 = .ok (.sipush 150, 3) := by decide +kernel
theorem dX4_valueOf_40 : decode cX4_valueOf 40 = .ok (.isub, 1) := by decide +kernel
theorem dX4_valueOf_41 : decode cX4_valueOf 41 = .ok (.istore 4, 2) := by decide +kernel
theorem dX4_valueOf_43 : decode cX4_valueOf 43 = .ok (.iload 4, 2) := by decide +kernel
theorem dX4_valueOf_45 : decode cX4_valueOf 45 = .ok (.ifCond .ge 9, 3) := by decide +kernel
theorem dX4_valueOf_48 : decode cX4_valueOf 48 = .ok (.iload 4, 2) := by decide +kernel
theorem dX4_valueOf_50 : decode cX4_valueOf 50 = .ok (.ineg, 1) := by decide +kernel
theorem dX4_valueOf_51 : decode cX4_valueOf 51 = .ok (.goto 5, 3) := by decide +kernel
theorem dX4_valueOf_54 : decode cX4_valueOf 54 = .ok (.iload 4, 2) := by decide +kernel
theorem dX4_valueOf_56 : decode cX4_valueOf 56 = .ok (.istore 5, 2) := by decide +kernel
theorem dX4_valueOf_58 : decode cX4_valueOf 58 = .ok (.iload 4, 2) := by decide +kernel
theorem dX4_valueOf_60 : decode cX4_valueOf 60 = .ok (.ifCond .ge 8, 3) := by decide +kernel
theorem dX4_valueOf_63 : decode cX4_valueOf 63 = .ok (.ldc 12, 2) := by decide +kernel
theorem dX4_valueOf_65 : decode cX4_valueOf 65 = .ok (.goto 4, 3) := by decide +kernel
theorem dX4_valueOf_68 : decode cX4_valueOf 68 = .ok (.fconst 2, 1) := by decide +kernel
theorem dX4_valueOf_69 : decode cX4_valueOf 69 = .ok (.fstore 6, 2) := by decide +kernel
theorem dX4_valueOf_71 : decode cX4_valueOf 71 = .ok (.iconst 0, 1) := by decide +kernel
theorem dX4_valueOf_72 : decode cX4_valueOf 72 = .ok (.istore 7, 2) := by decide +kernel
theorem dX4_valueOf_74 : decode cX4_valueOf 74 = .ok (.iload 7, 2) := by decide +kernel
theorem dX4_valueOf_76 : decode cX4_valueOf 76 = .ok (.bipush 8, 2) := by decide +kernel
theorem dX4_valueOf_78 : decode cX4_valueOf 78 = .ok (.if_icmp .ge 45, 3) := by decide +kernel
theorem dX4_valueOf_81 : decode cX4_valueOf 81 = .ok (.iload 5, 2) := by decide +kernel
theorem dX4_valueOf_83 : decode cX4_valueOf 83 = .ok (.iload 7, 2) := by decide +kernel
theorem dX4_valueOf_85 : decode cX4_valueOf 85 = .ok (.ishr, 1) := by decide +kernel
theorem dX4_valueOf_86 : decode cX4_valueOf 86 = .ok (.ifCond .eq 37, 3) := by decide +kernel
theorem dX4_valueOf_89 : decode cX4_valueOf 89 = .ok (.iload 7, 2) := by decide +kernel
theorem dX4_valueOf_91 : decode cX4_valueOf 91 = .ok (.ifCond .le 10, 3) := by decide +kernel
theorem dX4_valueOf_94 : decode cX4_valueOf 94 = .ok (.fload 6, 2) := by decide +kernel
theorem dX4_valueOf_96 : decode cX4_valueOf 96 = .ok (.fload 6, 2) := by decide +kernel
theorem dX4_valueOf_98 : decode cX4_valueOf 98 = .ok (.fmul, 1) := by decide +kernel
theorem dX4_valueOf_99 : decode cX4_valueOf 99 = .ok (.fstore 6, 2) := by decide +kernel
theorem dX4_valueOf_101 : decode cX4_valueOf 101 = .ok (.iload 5, 2) := by decide +kernel
theorem dX4_valueOf_103 : decode cX4_valueOf 103 = .ok (.iload 7, 2) := by decide +kernel
theorem dX4_valueOf_105 : decode cX4_valueOf 105 = .ok (.ishr, 1) := by decide +kernel
theorem dX4_valueOf_106 : decode cX4_valueOf 106 = .ok (.iconst 1, 1) := by decide +kernel
theorem dX4_valueOf_107 : decode cX4_valueOf 107 = .ok (.iand, 1) := by decide +kernel
theorem dX4_valueOf_108 : decode cX4_valueOf 108 = .ok (.iconst 1, 1) := by decide +kernel
theorem dX4_valueOf_109 : decode cX4_valueOf 109 = .ok (.if_icmp .ne 8, 3) := by decide +kernel
theorem dX4_valueOf_112 : decode cX4_valueOf 112 = .ok (.fload_n 3, 1) := by decide +kernel
theorem dX4_valueOf_113 : decode cX4_valueOf 113 = .ok (.fload 6, 2) := by decide +kernel
theorem dX4_valueOf_115 : decode cX4_valueOf 115 = .ok (.fmul, 1) := by decide +kernel
theorem dX4_valueOf_116 : decode cX4_valueOf 116 = .ok (.fstore_n 3, 1) := by decide +kernel
theorem dX4_valueOf_117 : decode cX4_valueOf 117 = .ok (.iinc 7 1, 3) := by decide +kernel
theorem dX4_valueOf_120 : decode cX4_valueOf 120 = .ok (.goto (-46), 3) := by decide +kernel
theorem dX4_valueOf_123 : decode cX4_valueOf 123 = .ok (.iload_n 0, 1) := by decide +kernel
theorem dX4_valueOf_124 : decode cX4_valueOf 124 = .ok (.ifCond .ge 9, 3) := by decide +kernel
theorem dX4_valueOf_127 : decode cX4_valueOf 127 = .ok (.fconst 0, 1) := by decide +kernel
theorem dX4_valueOf_128 : decode cX4_valueOf 128 = .ok (.fload_n 3, 1) := by decide +kernel
theorem dX4_valueOf_129 : decode cX4_valueOf 129 = .ok (.fsub, 1) := by decide +kernel
theorem dX4_valueOf_130 : decode cX4_valueOf 130 = .ok (.goto 4, 3) := by decide +kernel
theorem dX4_valueOf_133 : decode cX4_valueOf 133 = .ok (.fload_n 3, 1) := by decide +kernel
theorem dX4_valueOf_134 : decode cX4_valueOf 134 = .ok (.freturn, 1) := by decide +kernel
theorem dX4_bitsOf_0 : decode cX4_bitsOf 0 = .ok (.fload_n 0, 1) := by decide +kernel
theorem dX4_bitsOf_1 : decode cX4_bitsOf 1 = .ok (.fconst 0, 1) := by decide +kernel
theorem dX4_bitsOf_2 : decode cX4_bitsOf 2 = .ok (.fcmp .g, 1) := by decide +kernel
theorem dX4_bitsOf_3 : decode cX4_bitsOf 3 = .ok (.ifCond .ge 8, 3) := by decide +kernel
theorem dX4_bitsOf_6 : decode cX4_bitsOf 6 = .ok (.ldc 13, 2) := by decide +kernel
theorem dX4_bitsOf_8 : decode cX4_bitsOf 8 = .ok (.goto 4, 3) := by decide +kernel
theorem dX4_bitsOf_11 : decode cX4_bitsOf 11 = .ok (.iconst 0, 1) := by decide +kernel
theorem dX4_bitsOf_12 : decode cX4_bitsOf 12 = .ok (.istore_n 1, 1) := by decide +kernel
theorem dX4_bitsOf_13 : decode cX4_bitsOf 13 = .ok (.fload_n 0, 1) := by decide +kernel
theorem dX4_bitsOf_14 : decode cX4_bitsOf 14 = .ok (.fconst 0, 1) := by decide +kernel
theorem dX4_bitsOf_15 : decode cX4_bitsOf 15 = .ok (.fcmp .g, 1) := by decide +kernel
theorem dX4_bitsOf_16 : decode cX4_bitsOf 16 = .ok (.ifCond .ge 9, 3) := by decide +kernel
theorem dX4_bitsOf_19 : decode cX4_bitsOf 19 = .ok (.fconst 0, 1) := by decide +kernel
theorem dX4_bitsOf_20 : decode cX4_bitsOf 20 = .ok (.fload_n 0, 1) := by decide +kernel
theorem dX4_bitsOf_21 : decode cX4_bitsOf 21 = .ok (.fsub, 1) := by decide +kernel
theorem dX4_bitsOf_22 : decode cX4_bitsOf 22 = .ok (.goto 4, 3) := by decide +kernel
theorem dX4_bitsOf_25 : decode cX4_bitsOf 25 = .ok (.fload_n 0, 1) := by decide +kernel
theorem dX4_bitsOf_26 : decode cX4_bitsOf 26 = .ok (.fstore_n 2, 1) := by decide +kernel
theorem dX4_bitsOf_27 : decode cX4_bitsOf 27 = .ok (.fload_n 2, 1) := by decide +kernel
theorem dX4_bitsOf_28 : decode cX4_bitsOf 28 = .ok (.ldc 14, 2) := by decide +kernel
theorem dX4_bitsOf_30 : decode cX4_bitsOf 30 = .ok (.fcmp .l, 1) := by decide +kernel
theorem dX4_bitsOf_31 : decode cX4_bitsOf 31 = .ok (.ifCond .le 8, 3) := by decide +kernel
theorem dX4_bitsOf_34 : decode cX4_bitsOf 34 = .ok (.iload_n 1, 1) := by decide +kernel
theorem dX4_bitsOf_35 : decode cX4_bitsOf 35 = .ok (.ldc 9, 2) := by decide +kernel
theorem dX4_bitsOf_37 : decode cX4_bitsOf 37 = .ok (.ior, 1) := by decide +kernel
theorem dX4_bitsOf_38 : decode cX4_bitsOf 38 = .ok (.ireturn, 1) := by decide +kernel
theorem dX4_bitsOf_39 : decode cX4_bitsOf 39 = .ok (.fload_n 2, 1) := by decide +kernel
theorem dX4_bitsOf_40 : decode cX4_bitsOf 40 = .ok (.ldc 15, 2) := by decide +kernel
theorem dX4_bitsOf_42 : decode cX4_bitsOf 42 = .ok (.fcmp .g, 1) := by decide +kernel
theorem dX4_bitsOf_43 : decode cX4_bitsOf 43 = .ok (.ifCond .ge 14, 3) := by decide +kernel
theorem dX4_bitsOf_46 : decode cX4_bitsOf 46 = .ok (.iload_n 1, 1) := by decide +kernel
theorem dX4_bitsOf_47 : decode cX4_bitsOf 47 = .ok (.fload_n 2, 1) := by decide +kernel
theorem dX4_bitsOf_48 : decode cX4_bitsOf 48 = .ok (.ldc 16, 2) := by decide +kernel
theorem dX4_bitsOf_50 : decode cX4_bitsOf 50 = .ok (.fmul, 1) := by decide +kernel
theorem dX4_bitsOf_51 : decode cX4_bitsOf 51 = .ok (.ldc 17, 2) := by decide +kernel
theorem dX4_bitsOf_53 : decode cX4_bitsOf 53 = .ok (.fmul, 1) := by decide +kernel
theorem dX4_bitsOf_54 : decode cX4_bitsOf 54 = .ok (.f2i, 1) := by decide +kernel
theorem dX4_bitsOf_55 : decode cX4_bitsOf 55 = .ok (.ior, 1) := by decide +kernel
theorem dX4_bitsOf_56 : decode cX4_bitsOf 56 = .ok (.ireturn, 1) := by decide +kernel
theorem dX4_bitsOf_57 : decode cX4_bitsOf 57 = .ok (.sipush 150, 3) := by decide +kernel
theorem dX4_bitsOf_60 : decode cX4_bitsOf 60 = .ok (.istore_n 3, 1) := by decide +kernel
theorem dX4_bitsOf_61 : decode cX4_bitsOf 61 = .ok (.iconst 0, 1) := by decide +kernel
theorem dX4_bitsOf_62 : decode cX4_bitsOf 62 = .ok (.istore 4, 2) := by decide +kernel
theorem dX4_bitsOf_64 : decode cX4_bitsOf 64 = .ok (.iload 4, 2) := by decide +kernel
theorem dX4_bitsOf_66 : decode cX4_bitsOf 66 = .ok (.bipush 8, 2) := by decide +kernel
theorem dX4_bitsOf_68 : decode cX4_bitsOf 68 = .ok (.if_icmp .ge 24, 3) := by decide +kernel
theorem dX4_bitsOf_71 : decode cX4_bitsOf 71 = .ok (.fload_n 2, 1) := by decide +kernel
theorem dX4_bitsOf_72 : decode cX4_bitsOf 72 = .ok (.ldc 18, 2) := by decide +kernel
theorem dX4_bitsOf_74 : decode cX4_bitsOf 74 = .ok (.fcmp .l, 1) := by decide +kernel
theorem dX4_bitsOf_75 : decode cX4_bitsOf 75 = .ok (.ifCond .lt 17, 3) := by decide +kernel
theorem dX4_bitsOf_78 : decode cX4_bitsOf 78 = .ok (.fload_n 2, 1) := by decide +kernel
theorem dX4_bitsOf_79 : decode cX4_bitsOf 79 = .ok (.ldc 19, 2) := by decide +kernel
theorem dX4_bitsOf_81 : decode cX4_bitsOf 81 = .ok (.fmul, 1) := by decide +kernel
theorem dX4_bitsOf_82 : decode cX4_bitsOf 82 = .ok (.fstore_n 2, 1) := by decide +kernel
theorem dX4_bitsOf_83 : decode cX4_bitsOf 83 = .ok (.iinc 3 16, 3) := by decide +kernel
theorem dX4_bitsOf_86 : decode cX4_bitsOf 86 = .ok (.iinc 4 1, 3) := by decide +kernel
theorem dX4_bitsOf_89 : decode cX4_bitsOf 89 = .ok (.goto (-25), 3) := by decide +kernel
theorem dX4_bitsOf_92 : decode cX4_bitsOf 92 = .ok (.iconst 0, 1) := by decide +kernel
theorem dX4_bitsOf_93 : decode cX4_bitsOf 93 = .ok (.istore 4, 2) := by decide +kernel
theorem dX4_bitsOf_95 : decode cX4_bitsOf 95 = .ok (.iload 4, 2) := by decide +kernel
theorem dX4_bitsOf_97 : decode cX4_bitsOf 97 = .ok (.bipush 9, 2) := by decide +kernel
theorem dX4_bitsOf_99 : decode cX4_bitsOf 99 = .ok (.if_icmp .ge 24, 3) := by decide +kernel
theorem dX4_bitsOf_102 : decode cX4_bitsOf 102 = .ok (.fload_n 2, 1) := by decide +kernel
theorem dX4_bitsOf_103 : decode cX4_bitsOf 103 = .ok (.ldc 20, 2) := by decide +kernel
theorem dX4_bitsOf_105 : decode cX4_bitsOf 105 = .ok (.fcmp .g, 1) := by decide +kernel
theorem dX4_bitsOf_106 : decode cX4_bitsOf 106 = .ok (.ifCond .ge 17, 3) := by decide +kernel
theorem dX4_bitsOf_109 : decode cX4_bitsOf 109 = .ok (.fload_n 2, 1) := by decide +kernel
theorem dX4_bitsOf_110 : decode cX4_bitsOf 110 = .ok (.ldc 21, 2) := by decide +kernel
theorem dX4_bitsOf_112 : decode cX4_bitsOf 112 = .ok (.fmul, 1) := by decide +kernel
theorem dX4_bitsOf_113 : decode cX4_bitsOf 113 = .ok (.fstore_n 2, 1) := by decide +kernel
theorem dX4_bitsOf_114 : decode cX4_bitsOf 114 = .ok (.iinc 3 (-16), 3) := by decide +kernel
theorem dX4_bitsOf_117 : decode cX4_bitsOf 117 = .ok (.iinc 4 1, 3) := by decide +kernel
theorem dX4_bitsOf_120 : decode cX4_bitsOf 120 = .ok (.goto (-25), 3) := by decide +kernel
theorem dX4_bitsOf_123 : decode cX4_bitsOf 123 = .ok (.iconst 0, 1) := by decide +kernel
theorem dX4_bitsOf_124 : decode cX4_bitsOf 124 = .ok (.istore 4, 2) := by decide +kernel
theorem dX4_bitsOf_126 : decode cX4_bitsOf 126 = .ok (.iload 4, 2) := by decide +kernel
theorem dX4_bitsOf_128 : decode cX4_bitsOf 128 = .ok (.bipush 16, 2) := by decide +kernel
theorem dX4_bitsOf_130 : decode cX4_bitsOf 130 = .ok (.if_icmp .ge 24, 3) := by decide +kernel
theorem dX4_bitsOf_133 : decode cX4_bitsOf 133 = .ok (.fload_n 2, 1) := by decide +kernel
theorem dX4_bitsOf_134 : decode cX4_bitsOf 134 = .ok (.ldc 22, 2) := by decide +kernel
theorem dX4_bitsOf_136 : decode cX4_bitsOf 136 = .ok (.fcmp .l, 1) := by decide +kernel
theorem dX4_bitsOf_137 : decode cX4_bitsOf 137 = .ok (.ifCond .lt 17, 3) := by decide +kernel
theorem dX4_bitsOf_140 : decode cX4_bitsOf 140 = .ok (.fload_n 2, 1) := by decide +kernel
theorem dX4_bitsOf_141 : decode cX4_bitsOf 141 = .ok (.ldc 12, 2) := by decide +kernel
theorem dX4_bitsOf_143 : decode cX4_bitsOf 143 = .ok (.fmul, 1) := by decide +kernel
theorem dX4_bitsOf_144 : decode cX4_bitsOf 144 = .ok (.fstore_n 2, 1) := by decide +kernel
theorem dX4_bitsOf_145 : decode cX4_bitsOf 145 = .ok (.iinc 3 1, 3) := by decide +kernel
theorem dX4_bitsOf_148 : decode cX4_bitsOf 148 = .ok (.iinc 4 1, 3) := by decide +kernel
theorem dX4_bitsOf_151 : decode cX4_bitsOf 151 = .ok (.goto (-25), 3) := by decide +kernel
theorem dX4_bitsOf_154 : decode cX4_bitsOf 154 = .ok (.iconst 0, 1) := by decide +kernel
theorem dX4_bitsOf_155 : decode cX4_bitsOf 155 = .ok (.istore 4, 2) := by decide +kernel
theorem dX4_bitsOf_157 : decode cX4_bitsOf 157 = .ok (.iload 4, 2) := by decide +kernel
theorem dX4_bitsOf_159 : decode cX4_bitsOf 159 = .ok (.bipush 16, 2) := by decide +kernel
theorem dX4_bitsOf_161 : decode cX4_bitsOf 161 = .ok (.if_icmp .ge 23, 3) := by decide +kernel
theorem dX4_bitsOf_164 : decode cX4_bitsOf 164 = .ok (.fload_n 2, 1) := by decide +kernel
theorem dX4_bitsOf_165 : decode cX4_bitsOf 165 = .ok (.ldc 23, 2) := by decide +kernel
theorem dX4_bitsOf_167 : decode cX4_bitsOf 167 = .ok (.fcmp .g, 1) := by decide +kernel
theorem dX4_bitsOf_168 : decode cX4_bitsOf 168 = .ok (.ifCond .ge 16, 3) := by decide +kernel
theorem dX4_bitsOf_171 : decode cX4_bitsOf 171 = .ok (.fload_n 2, 1) := by decide +kernel
theorem dX4_bitsOf_172 : decode cX4_bitsOf 172 = .ok (.fconst 2, 1) := by decide +kernel
theorem dX4_bitsOf_173 : decode cX4_bitsOf 173 = .ok (.fmul, 1) := by decide +kernel
theorem dX4_bitsOf_174 : decode cX4_bitsOf 174 = .ok (.fstore_n 2, 1) := by decide +kernel
theorem dX4_bitsOf_175 : decode cX4_bitsOf 175 = .ok (.iinc 3 (-1), 3) := by decide +kernel
theorem dX4_bitsOf_178 : decode cX4_bitsOf 178 = .ok (.iinc 4 1, 3) := by decide +kernel
theorem dX4_bitsOf_181 : decode cX4_bitsOf 181 = .ok (.goto (-24), 3) := by decide +kernel
theorem dX4_bitsOf_184 : decode cX4_bitsOf 184 = .ok (.iload_n 1, 1) := by decide +kernel
theorem dX4_bitsOf_185 : decode cX4_bitsOf 185 = .ok (.iload_n 3, 1) := by decide +kernel
theorem dX4_bitsOf_186 : decode cX4_bitsOf 186 = .ok (.bipush 23, 2) := by decide +kernel
theorem dX4_bitsOf_188 : decode cX4_bitsOf 188 = .ok (.ishl, 1) := by decide +kernel
theorem dX4_bitsOf_189 : decode cX4_bitsOf 189 = .ok (.ior, 1) := by decide +kernel
theorem dX4_bitsOf_190 : decode cX4_bitsOf 190 = .ok (.fload_n 2, 1) := by decide +kernel
theorem dX4_bitsOf_191 : decode cX4_bitsOf 191 = .ok (.f2i, 1) := by decide +kernel
theorem dX4_bitsOf_192 : decode cX4_bitsOf 192 = .ok (.ldc 11, 2) := by decide +kernel
theorem dX4_bitsOf_194 : decode cX4_bitsOf 194 = .ok (.isub, 1) := by decide +kernel
theorem dX4_bitsOf_195 : decode cX4_bitsOf 195 = .ok (.ior, 1) := by decide +kernel
theorem dX4_bitsOf_196 : decode cX4_bitsOf 196 = .ok (.ireturn, 1) := by decide +kernel
theorem dX4_sum_0 : decode cX4_sum 0 = .ok (.iload_n 0, 1) := by decide +kernel
theorem dX4_sum_1 : decode cX4_sum 1 = .ok (.iload_n 1, 1) := by decide +kernel
theorem dX4_sum_2 : decode cX4_sum 2 = .ok (.ior, 1) := by decide +kernel
theorem dX4_sum_3 : decode cX4_sum 3 = .ok (.ldc 24, 2) := by decide +kernel
theorem dX4_sum_5 : decode cX4_sum 5 = .ok (.iand, 1) := by decide +kernel
theorem dX4_sum_6 : decode cX4_sum 6 = .ok (.ifCond .ne 7, 3) := by decide +kernel
theorem dX4_sum_9 : decode cX4_sum 9 = .ok (.iload_n 0, 1) := by decide +kernel
theorem dX4_sum_10 : decode cX4_sum 10 = .ok (.iload_n 1, 1) := by decide +kernel
theorem dX4_sum_11 : decode cX4_sum 11 = .ok (.iand, 1) := by decide +kernel
theorem dX4_sum_12 : decode cX4_sum 12 = .ok (.ireturn, 1) := by decide +kernel
theorem dX4_sum_13 : decode cX4_sum 13 = .ok (.iload_n 0, 1) := by decide +kernel
theorem dX4_sum_14 : decode cX4_sum 14 = .ok (.invokestatic 25, 3) := by decide +kernel
theorem dX4_sum_17 : decode cX4_sum 17 = .ok (.iload_n 1, 1) := by decide +kernel
theorem dX4_sum_18 : decode cX4_sum 18 = .ok (.invokestatic 25, 3) := by decide +kernel
theorem dX4_sum_21 : decode cX4_sum 21 = .ok (.fadd, 1) := by decide +kernel
theorem dX4_sum_22 : decode cX4_sum 22 = .ok (.invokestatic 29, 3) := by decide +kernel
theorem dX4_sum_25 : decode cX4_sum 25 = .ok (.ireturn, 1) := by decide +kernel
theorem dX4_product_0 : decode cX4_product 0 = .ok (.iload_n 0, 1) := by decide +kernel
theorem dX4_product_1 : decode cX4_product 1 = .ok (.iload_n 1, 1) := by decide +kernel
theorem dX4_product_2 : decode cX4_product 2 = .ok (.ixor, 1) := by decide +kernel
theorem dX4_product_3 : decode cX4_product 3 = .ok (.ldc 13, 2) := by decide +kernel
theorem dX4_product_5 : decode cX4_product 5 = .ok (.iand, 1) := by decide +kernel
theorem dX4_product_6 : decode cX4_product 6 = .ok (.iload_n 0, 1) := by decide +kernel
theorem dX4_product_7 : decode cX4_product 7 = .ok (.ldc 24, 2) := by decide +kernel
theorem dX4_product_9 : decode cX4_product 9 = .ok (.iand, 1) := by decide +kernel
theorem dX4_product_10 : decode cX4_product 10 = .ok (.invokestatic 25, 3) := by decide +kernel
theorem dX4_product_13 : decode cX4_product 13 = .ok (.iload_n 1, 1) := by decide +kernel
theorem dX4_product_14 : decode cX4_product 14 = .ok (.ldc 24, 2) := by decide +kernel
theorem dX4_product_16 : decode cX4_product 16 = .ok (.iand, 1) := by decide +kernel
theorem dX4_product_17 : decode cX4_product 17 = .ok (.invokestatic 25, 3) := by decide +kernel
theorem dX4_product_20 : decode cX4_product 20 = .ok (.fmul, 1) := by decide +kernel
theorem dX4_product_21 : decode cX4_product 21 = .ok (.invokestatic 29, 3) := by decide +kernel
theorem dX4_product_24 : decode cX4_product 24 = .ok (.ior, 1) := by decide +kernel
theorem dX4_product_25 : decode cX4_product 25 = .ok (.ireturn, 1) := by decide +kernel
theorem dX5_init_0 : decode cX5_init 0 = .ok (.aload_n 0, 1) := by decide +kernel
theorem dX5_init_1 : decode cX5_init 1 = .ok (.invokespecial 3, 3) := by decide +kernel
theorem dX5_init_4 : decode cX5_init 4 = .ok (.aload_n 0, 1) := by decide +kernel
theorem dX5_init_5 : decode cX5_init 5 = .ok (.bipush 21, 2) := by decide +kernel
theorem dX5_init_7 : decode cX5_init 7 = .ok (.newarray .int, 2) := by decide +kernel
theorem dX5_init_9 : decode cX5_init 9 = .ok (.putfield 9, 3) := by decide +kernel
theorem dX5_init_12 : decode cX5_init 12 = .ok (.aload_n 0, 1) := by decide +kernel
theorem dX5_init_13 : decode cX5_init 13 = .ok (.bipush 21, 2) := by decide +kernel
theorem dX5_init_15 : decode cX5_init 15 = .ok (.newarray .int, 2) := by decide +kernel
theorem dX5_init_17 : decode cX5_init 17 = .ok (.putfield 15, 3) := by decide +kernel
theorem dX5_init_20 : decode cX5_init 20 = .ok (.aload_n 0, 1) := by decide +kernel
theorem dX5_init_21 : decode cX5_init 21 = .ok (.bipush 21, 2) := by decide +kernel
theorem dX5_init_23 : decode cX5_init 23 = .ok (.newarray .boolean, 2) := by decide +kernel
theorem dX5_init_25 : decode cX5_init 25 = .ok (.putfield 18, 3) := by decide +kernel
theorem dX5_init_28 : decode cX5_init 28 = .ok (.aload_n 0, 1) := by decide +kernel
theorem dX5_init_29 : decode cX5_init 29 = .ok (.bipush 21, 2) := by decide +kernel
theorem dX5_init_31 : decode cX5_init 31 = .ok (.newarray .boolean, 2) := by decide +kernel
theorem dX5_init_33 : decode cX5_init 33 = .ok (.putfield 22, 3) := by decide +kernel
theorem dX5_init_36 : decode cX5_init 36 = .ok (.aload_n 0, 1) := by decide +kernel
theorem dX5_init_37 : decode cX5_init 37 = .ok (.bipush 21, 2) := by decide +kernel
theorem dX5_init_39 : decode cX5_init 39 = .ok (.newarray .boolean, 2) := by decide +kernel
theorem dX5_init_41 : decode cX5_init 41 = .ok (.putfield 25, 3) := by decide +kernel
theorem dX5_init_44 : decode cX5_init 44 = .ok (.aload_n 0, 1) := by decide +kernel
theorem dX5_init_45 : decode cX5_init 45 = .ok (.bipush 21, 2) := by decide +kernel
theorem dX5_init_47 : decode cX5_init 47 = .ok (.newarray .boolean, 2) := by decide +kernel
theorem dX5_init_49 : decode cX5_init 49 = .ok (.putfield 28, 3) := by decide +kernel
theorem dX5_init_52 : decode cX5_init 52 = .ok (.aload_n 0, 1) := by decide +kernel
theorem dX5_init_53 : decode cX5_init 53 = .ok (.bipush 21, 2) := by decide +kernel
theorem dX5_init_55 : decode cX5_init 55 = .ok (.newarray .int, 2) := by decide +kernel
theorem dX5_init_57 : decode cX5_init 57 = .ok (.putfield 31, 3) := by decide +kernel
theorem dX5_init_60 : decode cX5_init 60 = .ok (.aload_n 0, 1) := by decide +kernel
theorem dX5_init_61 : decode cX5_init 61 = .ok (.bipush 21, 2) := by decide +kernel
theorem dX5_init_63 : decode cX5_init 63 = .ok (.newarray .int, 2) := by decide +kernel
theorem dX5_init_65 : decode cX5_init 65 = .ok (.putfield 34, 3) := by decide +kernel
theorem dX5_init_68 : decode cX5_init 68 = .ok (.aload_n 0, 1) := by decide +kernel
theorem dX5_init_69 : decode cX5_init 69 = .ok (.bipush 21, 2) := by decide +kernel
theorem dX5_init_71 : decode cX5_init 71 = .ok (.newarray .int, 2) := by decide +kernel
theorem dX5_init_73 : decode cX5_init 73 = .ok (.putfield 37, 3) := by decide +kernel
theorem dX5_init_76 : decode cX5_init 76 = .ok (.aload_n 0, 1) := by decide +kernel
theorem dX5_init_77 : decode cX5_init 77 = .ok (.bipush 21, 2) := by decide +kernel
theorem dX5_init_79 : decode cX5_init 79 = .ok (.newarray .int, 2) := by decide +kernel
theorem dX5_init_81 : decode cX5_init 81 = .ok (.putfield 40, 3) := by decide +kernel
theorem dX5_init_84 : decode cX5_init 84 = .ok (.aload_n 0, 1) := by decide +kernel
theorem dX5_init_85 : decode cX5_init 85 = .ok (.getfield 9, 3) := by decide +kernel
theorem dX5_init_88 : decode cX5_init 88 = .ok (.sipush 255, 3) := by decide +kernel
theorem dX5_init_91 : decode cX5_init 91 = .ok (.invokestatic 43, 3) := by decide +kernel
theorem dX5_init_94 : decode cX5_init 94 = .ok (.aload_n 0, 1) := by decide +kernel
theorem dX5_init_95 : decode cX5_init 95 = .ok (.getfield 9, 3) := by decide +kernel
theorem dX5_init_98 : decode cX5_init 98 = .ok (.bipush 20, 2) := by decide +kernel
theorem dX5_init_100 : decode cX5_init 100 = .ok (.iconst (-1), 1) := by decide +kernel
theorem dX5_init_101 : decode cX5_init 101 = .ok (.iastore, 1) := by decide +kernel
theorem dX5_init_102 : decode cX5_init 102 = .ok (.aload_n 0, 1) := by decide +kernel
theorem dX5_init_103 : decode cX5_init 103 = .ok (.getfield 37, 3) := by decide +kernel
theorem dX5_init_106 : decode cX5_init 106 = .ok (.iconst (-1), 1) := by decide +kernel
theorem dX5_init_107 : decode cX5_init 107 = .ok (.invokestatic 43, 3) := by decide +kernel
theorem dX5_init_110 : decode cX5_init 110 = .ok (.aload_n 0, 1) := by decide +kernel
theorem dX5_init_111 : decode cX5_init 111 = .ok (.getfield 18, 3) := by decide +kernel
theorem dX5_init_114 : decode cX5_init 114 = .ok (.bipush 20, 2) := by decide +kernel
theorem dX5_init_116 : decode cX5_init 116 = .ok (.iconst 1, 1) := by decide +kernel
theorem dX5_init_117 : decode cX5_init 117 = .ok (.bastore, 1) := by decide +kernel
theorem dX5_init_118 : decode cX5_init 118 = .ok (.return_, 1) := by decide +kernel
theorem dX5_restart_0 : decode cX5_restart 0 = .ok (.iconst 0, 1) := by decide +kernel
theorem dX5_restart_1 : decode cX5_restart 1 = .ok (.istore_n 1, 1) := by decide +kernel
theorem dX5_restart_2 : decode cX5_restart 2 = .ok (.iload_n 1, 1) := by decide +kernel
theorem dX5_restart_3 : decode cX5_restart 3 = .ok (.bipush 21, 2) := by decide +kernel
theorem dX5_restart_5 : decode cX5_restart 5 = .ok (.if_icmp .ge 37, 3) := by decide +kernel
theorem dX5_restart_8 : decode cX5_restart 8 = .ok (.aload_n 0, 1) := by decide +kernel
theorem dX5_restart_9 : decode cX5_restart 9 = .ok (.getfield 22, 3) := by decide +kernel
theorem dX5_restart_12 : decode cX5_restart 12 = .ok (.iload_n 1, 1) := by decide +kernel
theorem dX5_restart_13 : decode cX5_restart 13 = .ok (.iconst 0, 1) := by decide +kernel
theorem dX5_restart_14 : decode cX5_restart 14 = .ok (.bastore, 1) := by decide +kernel
theorem dX5_restart_15 : decode cX5_restart 15 = .ok (.aload_n 0, 1) := by decide +kernel
theorem dX5_restart_16 : decode cX5_restart 16 = .ok (.getfield 25, 3) := by decide +kernel
theorem dX5_restart_19 : decode cX5_restart 19 = .ok (.iload_n 1, 1) := by decide +kernel
theorem dX5_restart_20 : decode cX5_restart 20 = .ok (.iconst 0, 1) := by decide +kernel
theorem dX5_restart_21 : decode cX5_restart 21 = .ok (.bastore, 1) := by decide +kernel
theorem dX5_restart_22 : decode cX5_restart 22 = .ok (.aload_n 0, 1) := by decide +kernel
theorem dX5_restart_23 : decode cX5_restart 23 = .ok (.getfield 28, 3) := by decide +kernel
theorem dX5_restart_26 : decode cX5_restart 26 = .ok (.iload_n 1, 1) := by decide +kernel
theorem dX5_restart_27 : decode cX5_restart 27 = .ok (.iconst 0, 1) := by decide +kernel
theorem dX5_restart_28 : decode cX5_restart 28 = .ok (.bastore, 1) := by decide +kernel
theorem dX5_restart_29 : decode cX5_restart 29 = .ok (.aload_n 0, 1) := by decide +kernel
theorem dX5_restart_30 : decode cX5_restart 30 = .ok (.getfield 37, 3) := by decide +kernel
theorem dX5_restart_33 : decode cX5_restart 33 = .ok (.iload_n 1, 1) := by decide +kernel
theorem dX5_restart_34 : decode cX5_restart 34 = .ok (.iconst (-1), 1) := by decide +kernel
theorem dX5_restart_35 : decode cX5_restart 35 = .ok (.iastore, 1) := by decide +kernel
theorem dX5_restart_36 : decode cX5_restart 36 = .ok (.iinc 1 1, 3) := by decide +kernel
theorem dX5_restart_39 : decode cX5_restart 39 = .ok (.goto (-37), 3) := by decide +kernel
theorem dX5_restart_42 : decode cX5_restart 42 = .ok (.aload_n 0, 1) := by decide +kernel
theorem dX5_restart_43 : decode cX5_restart 43 = .ok (.iconst 0, 1) := by decide +kernel
theorem dX5_restart_44 : decode cX5_restart 44 = .ok (.putfield 49, 3) := by decide +kernel
theorem dX5_restart_47 : decode cX5_restart 47 = .ok (.aload_n 0, 1) := by decide +kernel
theorem dX5_restart_48 : decode cX5_restart 48 = .ok (.iconst 0, 1) := by decide +kernel
theorem dX5_restart_49 : decode cX5_restart 49 = .ok (.putfield 53, 3) := by decide +kernel
theorem dX5_restart_52 : decode cX5_restart 52 = .ok (.aload_n 0, 1) := by decide +kernel
theorem dX5_restart_53 : decode cX5_restart 53 = .ok (.iconst 0, 1) := by decide +kernel
theorem dX5_restart_54 : decode cX5_restart 54 = .ok (.putfield 56, 3) := by decide +kernel
theorem dX5_restart_57 : decode cX5_restart 57 = .ok (.aload_n 0, 1) := by decide +kernel
theorem dX5_restart_58 : decode cX5_restart 58 = .ok (.iconst 0, 1) := by decide +kernel
theorem dX5_restart_59 : decode cX5_restart 59 = .ok (.putfield 59, 3) := by decide +kernel
theorem dX5_restart_62 : decode cX5_restart 62 = .ok (.aload_n 0, 1) := by decide +kernel
theorem dX5_restart_63 : decode cX5_restart 63 = .ok (.iconst 0, 1) := by decide +kernel
theorem dX5_restart_64 : decode cX5_restart 64 = .ok (.putfield 62, 3) := by decide +kernel
theorem dX5_restart_67 : decode cX5_restart 67 = .ok (.return_, 1) := by decide +kernel
theorem dX5_copyFrom_0 : decode cX5_copyFrom 0 = .ok (.iconst 0, 1) := by decide +kernel
theorem dX5_copyFrom_1 : decode cX5_copyFrom 1 = .ok (.istore_n 2, 1) := by decide +kernel
theorem dX5_copyFrom_2 : decode cX5_copyFrom 2 = .ok (.iload_n 2, 1) := by decide +kernel
theorem dX5_copyFrom_3 : decode cX5_copyFrom 3 = .ok (.bipush 21, 2) := by decide +kernel
theorem dX5_copyFrom_5 : decode cX5_copyFrom 5 = .ok (.if_icmp .ge 93, 3) := by decide +kernel
theorem dX5_copyFrom_8 : decode cX5_copyFrom 8 = .ok (.aload_n 0, 1) := by decide +kernel
theorem dX5_copyFrom_9 : decode cX5_copyFrom 9 = .ok (.getfield 9, 3) := by decide +kernel
theorem dX5_copyFrom_12 : decode cX5_copyFrom 12 = .ok (.iload_n 2, 1) := by decide +kernel
theorem dX5_copyFrom_13 : decode cX5_copyFrom 13 = .ok (.aload_n 1, 1) := by decide +kernel
theorem dX5_copyFrom_14 : decode cX5_copyFrom 14 = .ok (.getfield 9, 3) := by decide +kernel
theorem dX5_copyFrom_17 : decode cX5_copyFrom 17 = .ok (.iload_n 2, 1) := by decide +kernel
theorem dX5_copyFrom_18 : decode cX5_copyFrom 18 = .ok (.iaload, 1) := by decide +kernel
theorem dX5_copyFrom_19 : decode cX5_copyFrom 19 = .ok (.iastore, 1) := by decide +kernel
theorem dX5_copyFrom_20 : decode cX5_copyFrom 20 = .ok (.aload_n 0, 1) := by decide +kernel
theorem dX5_copyFrom_21 : decode cX5_copyFrom 21 = .ok (.getfield 15, 3) := by decide +kernel
theorem dX5_copyFrom_24 : decode cX5_copyFrom 24 = .ok (.iload_n 2, 1) := by decide +kernel
theorem dX5_copyFrom_25 : decode cX5_copyFrom 25 = .ok (.aload_n 1, 1) := by decide +kernel
theorem dX5_copyFrom_26 : decode cX5_copyFrom 26 = .ok (.getfield 15, 3) := by decide +kernel
theorem dX5_copyFrom_29 : decode cX5_copyFrom 29 = .ok (.iload_n 2, 1) := by decide +kernel
theorem dX5_copyFrom_30 : decode cX5_copyFrom 30 = .ok (.iaload, 1) := by decide +kernel
theorem dX5_copyFrom_31 : decode cX5_copyFrom 31 = .ok (.iastore, 1) := by decide +kernel
theorem dX5_copyFrom_32 : decode cX5_copyFrom 32 = .ok (.aload_n 0, 1) := by decide +kernel
theorem dX5_copyFrom_33 : decode cX5_copyFrom 33 = .ok (.getfield 18, 3) := by decide +kernel
theorem dX5_copyFrom_36 : decode cX5_copyFrom 36 = .ok (.iload_n 2, 1) := by decide +kernel
theorem dX5_copyFrom_37 : decode cX5_copyFrom 37 = .ok (.aload_n 1, 1) := by decide +kernel
theorem dX5_copyFrom_38 : decode cX5_copyFrom 38 = .ok (.getfield 18, 3) := by decide +kernel
theorem dX5_copyFrom_41 : decode cX5_copyFrom 41 = .ok (.iload_n 2, 1) := by decide +kernel
theorem dX5_copyFrom_42 : decode cX5_copyFrom 42 = .ok (.baload, 1) := by decide +kernel
theorem dX5_copyFrom_43 : decode cX5_copyFrom 43 = .ok (.bastore, 1) := by decide +kernel
theorem dX5_copyFrom_44 : decode cX5_copyFrom 44 = .ok (.aload_n 0, 1) := by decide +kernel
theorem dX5_copyFrom_45 : decode cX5_copyFrom 45 = .ok (.getfield 22, 3) := by decide +kernel
theorem dX5_copyFrom_48 : decode cX5_copyFrom 48 = .ok (.iload_n 2, 1) := by decide +kernel
theorem dX5_copyFrom_49 : decode cX5_copyFrom 49 = .ok (.aload_n 1, 1) := by decide +kernel
theorem dX5_copyFrom_50 : decode cX5_copyFrom 50 = .ok (.getfield 22, 3) := by decide +kernel
theorem dX5_copyFrom_53 : decode cX5_copyFrom 53 = .ok (.iload_n 2, 1) := by decide +kernel
theorem dX5_copyFrom_54 : decode cX5_copyFrom 54 = .ok (.baload, 1) := by decide +kernel
theorem dX5_copyFrom_55 : decode cX5_copyFrom 55 = .ok (.bastore, 1) := by decide +kernel
theorem dX5_copyFrom_56 : decode cX5_copyFrom 56 = .ok (.aload_n 0, 1) := by decide +kernel
theorem dX5_copyFrom_57 : decode cX5_copyFrom 57 = .ok (.getfield 25, 3) := by decide +kernel
theorem dX5_copyFrom_60 : decode cX5_copyFrom 60 = .ok (.iload_n 2, 1) := by decide +kernel
theorem dX5_copyFrom_61 : decode cX5_copyFrom 61 = .ok (.aload_n 1, 1) := by decide +kernel
theorem dX5_copyFrom_62 : decode cX5_copyFrom 62 = .ok (.getfield 25, 3) := by decide +kernel
theorem dX5_copyFrom_65 : decode cX5_copyFrom 65 = .ok (.iload_n 2, 1) := by decide +kernel
theorem dX5_copyFrom_66 : decode cX5_copyFrom 66 = .ok (.baload, 1) := by decide +kernel
theorem dX5_copyFrom_67 : decode cX5_copyFrom 67 = .ok (.bastore, 1) := by decide +kernel
theorem dX5_copyFrom_68 : decode cX5_copyFrom 68 = .ok (.aload_n 0, 1) := by decide +kernel
theorem dX5_copyFrom_69 : decode cX5_copyFrom 69 = .ok (.getfield 28, 3) := by decide +kernel
theorem dX5_copyFrom_72 : decode cX5_copyFrom 72 = .ok (.iload_n 2, 1) := by decide +kernel
theorem dX5_copyFrom_73 : decode cX5_copyFrom 73 = .ok (.aload_n 1, 1) := by decide +kernel
theorem dX5_copyFrom_74 : decode cX5_copyFrom 74 = .ok (.getfield 28, 3) := by decide +kernel
theorem dX5_copyFrom_77 : decode cX5_copyFrom 77 = .ok (.iload_n 2, 1) := by decide +kernel
theorem dX5_copyFrom_78 : decode cX5_copyFrom 78 = .ok (.baload, 1) := by decide +kernel
theorem dX5_copyFrom_79 : decode cX5_copyFrom 79 = .ok (.bastore, 1) := by decide +kernel
theorem dX5_copyFrom_80 : decode cX5_copyFrom 80 = .ok (.aload_n 0, 1) := by decide +kernel
theorem dX5_copyFrom_81 : decode cX5_copyFrom 81 = .ok (.getfield 40, 3) := by decide +kernel
theorem dX5_copyFrom_84 : decode cX5_copyFrom 84 = .ok (.iload_n 2, 1) := by decide +kernel
theorem dX5_copyFrom_85 : decode cX5_copyFrom 85 = .ok (.aload_n 1, 1) := by decide +kernel
theorem dX5_copyFrom_86 : decode cX5_copyFrom 86 = .ok (.getfield 40, 3) := by decide +kernel
theorem dX5_copyFrom_89 : decode cX5_copyFrom 89 = .ok (.iload_n 2, 1) := by decide +kernel
theorem dX5_copyFrom_90 : decode cX5_copyFrom 90 = .ok (.iaload, 1) := by decide +kernel
theorem dX5_copyFrom_91 : decode cX5_copyFrom 91 = .ok (.iastore, 1) := by decide +kernel
theorem dX5_copyFrom_92 : decode cX5_copyFrom 92 = .ok (.iinc 2 1, 3) := by decide +kernel
theorem dX5_copyFrom_95 : decode cX5_copyFrom 95 = .ok (.goto (-93), 3) := by decide +kernel
theorem dX5_copyFrom_98 : decode cX5_copyFrom 98 = .ok (.aload_n 0, 1) := by decide +kernel
theorem dX5_copyFrom_99 : decode cX5_copyFrom 99 = .ok (.aload_n 1, 1) := by decide +kernel
theorem dX5_copyFrom_100 : decode cX5_copyFrom 100 = .ok (.getfield 49, 3) := by decide +kernel
theorem dX5_copyFrom_103 : decode cX5_copyFrom 103 = .ok (.putfield 49, 3) := by decide +kernel
theorem dX5_copyFrom_106 : decode cX5_copyFrom 106 = .ok (.aload_n 0, 1) := by decide +kernel
theorem dX5_copyFrom_107 : decode cX5_copyFrom 107 = .ok (.aload_n 1, 1) := by decide +kernel
theorem dX5_copyFrom_108 : decode cX5_copyFrom 108 = .ok (.getfield 65, 3) := by decide +kernel
theorem dX5_copyFrom_111 : decode cX5_copyFrom 111 = .ok (.putfield 65, 3) := by decide +kernel
theorem dX5_copyFrom_114 : decode cX5_copyFrom 114 = .ok (.aload_n 0, 1) := by decide +kernel
theorem dX5_copyFrom_115 : decode cX5_copyFrom 115 = .ok (.aload_n 1, 1) := by decide +kernel
theorem dX5_copyFrom_116 : decode cX5_copyFrom 116 = .ok (.getfield 56, 3) := by decide +kernel
theorem dX5_copyFrom_119 : decode cX5_copyFrom 119 = .ok (.putfield 56, 3) := by decide +kernel
theorem dX5_copyFrom_122 : decode cX5_copyFrom 122 = .ok (.aload_n 0, 1) := by decide +kernel
theorem dX5_copyFrom_123 : decode cX5_copyFrom 123 = .ok (.aload_n 1, 1) := by decide +kernel
theorem dX5_copyFrom_124 : decode cX5_copyFrom 124 = .ok (.getfield 59, 3) := by decide +kernel
theorem dX5_copyFrom_127 : decode cX5_copyFrom 127 = .ok (.putfield 59, 3) := by decide +kernel
theorem dX5_copyFrom_130 : decode cX5_copyFrom 130 = .ok (.return_, 1) := by decide +kernel
theorem dX5_groupBy_0 : decode cX5_groupBy 0 = .ok (.aload_n 0, 1) := by decide +kernel
theorem dX5_groupBy_1 : decode cX5_groupBy 1 = .ok (.getfield 9, 3) := by decide +kernel
theorem dX5_groupBy_4 : decode cX5_groupBy 4 = .ok (.iload_n 1, 1) := by decide +kernel
theorem dX5_groupBy_5 : decode cX5_groupBy 5 = .ok (.iaload, 1) := by decide +kernel
theorem dX5_groupBy_6 : decode cX5_groupBy 6 = .ok (.iload_n 2, 1) := by decide +kernel
theorem dX5_groupBy_7 : decode cX5_groupBy 7 = .ok (.ishr, 1) := by decide +kernel
theorem dX5_groupBy_8 : decode cX5_groupBy 8 = .ok (.ireturn, 1) := by decide +kernel
theorem dX5_subOf_0 : decode cX5_subOf 0 = .ok (.iload_n 1, 1) := by decide +kernel
theorem dX5_subOf_1 : decode cX5_subOf 1 = .ok (.bipush 20, 2) := by decide +kernel
theorem dX5_subOf_3 : decode cX5_subOf 3 = .ok (.if_icmp .ne 7, 3) := by decide +kernel
theorem dX5_subOf_6 : decode cX5_subOf 6 = .ok (.iconst 0, 1) := by decide +kernel
theorem dX5_subOf_7 : decode cX5_subOf 7 = .ok (.goto 18, 3) := by decide +kernel
theorem dX5_subOf_10 : decode cX5_subOf 10 = .ok (.aload_n 0, 1) := by decide +kernel
theorem dX5_subOf_11 : decode cX5_subOf 11 = .ok (.getfield 9, 3) := by decide +kernel
theorem dX5_subOf_14 : decode cX5_subOf 14 = .ok (.iload_n 1, 1) := by decide +kernel
theorem dX5_subOf_15 : decode cX5_subOf 15 = .ok (.iaload, 1) := by decide +kernel
theorem dX5_subOf_16 : decode cX5_subOf 16 = .ok (.iconst 1, 1) := by decide +kernel
theorem dX5_subOf_17 : decode cX5_subOf 17 = .ok (.aload_n 0, 1) := by decide +kernel
theorem dX5_subOf_18 : decode cX5_subOf 18 = .ok (.getfield 65, 3) := by decide +kernel
theorem dX5_subOf_21 : decode cX5_subOf 21 = .ok (.ishl, 1) := by decide +kernel
theorem dX5_subOf_22 : decode cX5_subOf 22 = .ok (.iconst 1, 1) := by decide +kernel
theorem dX5_subOf_23 : decode cX5_subOf 23 = .ok (.isub, 1) := by decide +kernel
theorem dX5_subOf_24 : decode cX5_subOf 24 = .ok (.iand, 1) := by decide +kernel
theorem dX5_subOf_25 : decode cX5_subOf 25 = .ok (.ireturn, 1) := by decide +kernel
theorem dX5_limitBy_0 : decode cX5_limitBy 0 = .ok (.iload_n 2, 1) := by decide +kernel
theorem dX5_limitBy_1 : decode cX5_limitBy 1 = .ok (.iconst 1, 1) := by decide +kernel
theorem dX5_limitBy_2 : decode cX5_limitBy 2 = .ok (.if_icmp .ne 7, 3) := by decide +kernel
theorem dX5_limitBy_5 : decode cX5_limitBy 5 = .ok (.iconst 0, 1) := by decide +kernel
theorem dX5_limitBy_6 : decode cX5_limitBy 6 = .ok (.goto 6, 3) := by decide +kernel
theorem dX5_limitBy_9 : decode cX5_limitBy 9 = .ok (.sipush 256, 3) := by decide +kernel
theorem dX5_limitBy_12 : decode cX5_limitBy 12 = .ok (.istore_n 3, 1) := by decide +kernel
theorem dX5_limitBy_13 : decode cX5_limitBy 13 = .ok (.aload_n 0, 1) := by decide +kernel
theorem dX5_limitBy_14 : decode cX5_limitBy 14 = .ok (.getfield 56, 3) := by decide +kernel
theorem dX5_limitBy_17 : decode cX5_limitBy 17 = .ok (.ifCond .eq 20, 3) := by decide +kernel
theorem dX5_limitBy_20 : decode cX5_limitBy 20 = .ok (.aload_n 0, 1) := by decide +kernel
theorem dX5_limitBy_21 : decode cX5_limitBy 21 = .ok (.getfield 56, 3) := by decide +kernel
theorem dX5_limitBy_24 : decode cX5_limitBy 24 = .ok (.iload_n 1, 1) := by decide +kernel
theorem dX5_limitBy_25 : decode cX5_limitBy 25 = .ok (.ishr, 1) := by decide +kernel
theorem dX5_limitBy_26 : decode cX5_limitBy 26 = .ok (.iload_n 3, 1) := by decide +kernel
theorem dX5_limitBy_27 : decode cX5_limitBy 27 = .ok (.if_icmp .ge 10, 3) := by decide +kernel
theorem dX5_limitBy_30 : decode cX5_limitBy 30 = .ok (.aload_n 0, 1) := by decide +kernel
theorem dX5_limitBy_31 : decode cX5_limitBy 31 = .ok (.getfield 56, 3) := by decide +kernel
theorem dX5_limitBy_34 : decode cX5_limitBy 34 = .ok (.iload_n 1, 1) := by decide +kernel
theorem dX5_limitBy_35 : decode cX5_limitBy 35 = .ok (.ishr, 1) := by decide +kernel
theorem dX5_limitBy_36 : decode cX5_limitBy 36 = .ok (.istore_n 3, 1) := by decide +kernel
theorem dX5_limitBy_37 : decode cX5_limitBy 37 = .ok (.iconst 0, 1) := by decide +kernel
theorem dX5_limitBy_38 : decode cX5_limitBy 38 = .ok (.istore 4, 2) := by decide +kernel
theorem dX5_limitBy_40 : decode cX5_limitBy 40 = .ok (.iload 4, 2) := by decide +kernel
theorem dX5_limitBy_42 : decode cX5_limitBy 42 = .ok (.aload_n 0, 1) := by decide +kernel
theorem dX5_limitBy_43 : decode cX5_limitBy 43 = .ok (.getfield 49, 3) := by decide +kernel
theorem dX5_limitBy_46 : decode cX5_limitBy 46 = .ok (.if_icmp .ge 38, 3) := by decide +kernel
theorem dX5_limitBy_49 : decode cX5_limitBy 49 = .ok (.aload_n 0, 1) := by decide +kernel
theorem dX5_limitBy_50 : decode cX5_limitBy 50 = .ok (.getfield 9, 3) := by decide +kernel
theorem dX5_limitBy_53 : decode cX5_limitBy 53 = .ok (.aload_n 0, 1) := by decide +kernel
theorem dX5_limitBy_54 : decode cX5_limitBy 54 = .ok (.getfield 40, 3) := by decide +kernel
theorem dX5_limitBy_57 : decode cX5_limitBy 57 = .ok (.iload 4, 2) := by decide +kernel
theorem dX5_limitBy_59 : decode cX5_limitBy 59 = .ok (.iaload, 1) := by decide +kernel
theorem dX5_limitBy_60 : decode cX5_limitBy 60 = .ok (.iaload, 1) := by decide +kernel
theorem dX5_limitBy_61 : decode cX5_limitBy 61 = .ok (.iload_n 1, 1) := by decide +kernel
theorem dX5_limitBy_62 : decode cX5_limitBy 62 = .ok (.ishr, 1) := by decide +kernel
theorem dX5_limitBy_63 : decode cX5_limitBy 63 = .ok (.istore 5, 2) := by decide +kernel
theorem dX5_limitBy_65 : decode cX5_limitBy 65 = .ok (.iload 5, 2) := by decide +kernel
theorem dX5_limitBy_67 : decode cX5_limitBy 67 = .ok (.iload_n 3, 1) := by decide +kernel
theorem dX5_limitBy_68 : decode cX5_limitBy 68 = .ok (.if_icmp .ge 8, 3) := by decide +kernel
theorem dX5_limitBy_71 : decode cX5_limitBy 71 = .ok (.iload 5, 2) := by decide +kernel
theorem dX5_limitBy_73 : decode cX5_limitBy 73 = .ok (.goto 4, 3) := by decide +kernel
theorem dX5_limitBy_76 : decode cX5_limitBy 76 = .ok (.iload_n 3, 1) := by decide +kernel
theorem dX5_limitBy_77 : decode cX5_limitBy 77 = .ok (.istore_n 3, 1) := by decide +kernel
theorem dX5_limitBy_78 : decode cX5_limitBy 78 = .ok (.iinc 4 1, 3) := by decide +kernel
theorem dX5_limitBy_81 : decode cX5_limitBy 81 = .ok (.goto (-41), 3) := by decide +kernel
theorem dX5_limitBy_84 : decode cX5_limitBy 84 = .ok (.iload_n 3, 1) := by decide +kernel
theorem dX5_limitBy_85 : decode cX5_limitBy 85 = .ok (.ireturn, 1) := by decide +kernel
theorem dX5_limit_0 : decode cX5_limit 0 = .ok (.aload_n 0, 1) := by decide +kernel
theorem dX5_limit_1 : decode cX5_limit 1 = .ok (.aload_n 0, 1) := by decide +kernel
theorem dX5_limit_2 : decode cX5_limit 2 = .ok (.getfield 65, 3) := by decide +kernel
theorem dX5_limit_5 : decode cX5_limit 5 = .ok (.aload_n 0, 1) := by decide +kernel
theorem dX5_limit_6 : decode cX5_limit 6 = .ok (.getfield 59, 3) := by decide +kernel
theorem dX5_limit_9 : decode cX5_limit 9 = .ok (.invokevirtual 68, 3) := by decide +kernel
theorem dX5_limit_12 : decode cX5_limit 12 = .ok (.ireturn, 1) := by decide +kernel
theorem dX5_can_0 : decode cX5_can 0 = .ok (.aload_n 0, 1) := by decide +kernel
theorem dX5_can_1 : decode cX5_can 1 = .ok (.getfield 22, 3) := by decide +kernel
theorem dX5_can_4 : decode cX5_can 4 = .ok (.iload_n 1, 1) := by decide +kernel
theorem dX5_can_5 : decode cX5_can 5 = .ok (.baload, 1) := by decide +kernel
theorem dX5_can_6 : decode cX5_can 6 = .ok (.ifCond .eq 42, 3) := by decide +kernel
theorem dX5_can_9 : decode cX5_can 9 = .ok (.aload_n 0, 1) := by decide +kernel
theorem dX5_can_10 : decode cX5_can 10 = .ok (.getfield 18, 3) := by decide +kernel
theorem dX5_can_13 : decode cX5_can 13 = .ok (.iload_n 1, 1) := by decide +kernel
theorem dX5_can_14 : decode cX5_can 14 = .ok (.baload, 1) := by decide +kernel
theorem dX5_can_15 : decode cX5_can 15 = .ok (.ifCond .eq 33, 3) := by decide +kernel
theorem dX5_can_18 : decode cX5_can 18 = .ok (.aload_n 0, 1) := by decide +kernel
theorem dX5_can_19 : decode cX5_can 19 = .ok (.getfield 9, 3) := by decide +kernel
theorem dX5_can_22 : decode cX5_can 22 = .ok (.iload_n 1, 1) := by decide +kernel
theorem dX5_can_23 : decode cX5_can 23 = .ok (.iaload, 1) := by decide +kernel
theorem dX5_can_24 : decode cX5_can 24 = .ok (.aload_n 0, 1) := by decide +kernel
theorem dX5_can_25 : decode cX5_can 25 = .ok (.getfield 65, 3) := by decide +kernel
theorem dX5_can_28 : decode cX5_can 28 = .ok (.ishr, 1) := by decide +kernel
theorem dX5_can_29 : decode cX5_can 29 = .ok (.aload_n 0, 1) := by decide +kernel
theorem dX5_can_30 : decode cX5_can 30 = .ok (.aload_n 0, 1) := by decide +kernel
theorem dX5_can_31 : decode cX5_can 31 = .ok (.getfield 65, 3) := by decide +kernel
theorem dX5_can_34 : decode cX5_can 34 = .ok (.aload_n 0, 1) := by decide +kernel
theorem dX5_can_35 : decode cX5_can 35 = .ok (.getfield 59, 3) := by decide +kernel
theorem dX5_can_38 : decode cX5_can 38 = .ok (.invokevirtual 68, 3) := by decide +kernel
theorem dX5_can_41 : decode cX5_can 41 = .ok (.if_icmp .ge 7, 3) := by decide +kernel
theorem dX5_can_44 : decode cX5_can 44 = .ok (.iconst 1, 1) := by decide +kernel
theorem dX5_can_45 : decode cX5_can 45 = .ok (.goto 4, 3) := by decide +kernel
theorem dX5_can_48 : decode cX5_can 48 = .ok (.iconst 0, 1) := by decide +kernel
theorem dX5_can_49 : decode cX5_can 49 = .ok (.ireturn, 1) := by decide +kernel
theorem dX5_nextBy_0 : decode cX5_nextBy 0 = .ok (.aload_n 0, 1) := by decide +kernel
theorem dX5_nextBy_1 : decode cX5_nextBy 1 = .ok (.aload_n 0, 1) := by decide +kernel
theorem dX5_nextBy_2 : decode cX5_nextBy 2 = .ok (.getfield 65, 3) := by decide +kernel
theorem dX5_nextBy_5 : decode cX5_nextBy 5 = .ok (.iload_n 1, 1) := by decide +kernel
theorem dX5_nextBy_6 : decode cX5_nextBy 6 = .ok (.invokevirtual 68, 3) := by decide +kernel
theorem dX5_nextBy_9 : decode cX5_nextBy 9 = .ok (.istore_n 2, 1) := by decide +kernel
theorem dX5_nextBy_10 : decode cX5_nextBy 10 = .ok (.iconst (-1), 1) := by decide +kernel
theorem dX5_nextBy_11 : decode cX5_nextBy 11 = .ok (.istore_n 3, 1) := by decide +kernel
theorem dX5_nextBy_12 : decode cX5_nextBy 12 = .ok (.iconst 0, 1) := by decide +kernel
theorem dX5_nextBy_13 : decode cX5_nextBy 13 = .ok (.istore 4, 2) := by decide +kernel
theorem dX5_nextBy_15 : decode cX5_nextBy 15 = .ok (.iload 4, 2) := by decide +kernel
theorem dX5_nextBy_17 : decode cX5_nextBy 17 = .ok (.bipush 21, 2) := by decide +kernel
theorem dX5_nextBy_19 : decode cX5_nextBy 19 = .ok (.if_icmp .ge 63, 3) := by decide +kernel
theorem dX5_nextBy_22 : decode cX5_nextBy 22 = .ok (.aload_n 0, 1) := by decide +kernel
theorem dX5_nextBy_23 : decode cX5_nextBy 23 = .ok (.getfield 22, 3) := by decide +kernel
theorem dX5_nextBy_26 : decode cX5_nextBy 26 = .ok (.iload 4, 2) := by decide +kernel
theorem dX5_nextBy_28 : decode cX5_nextBy 28 = .ok (.baload, 1) := by decide +kernel
theorem dX5_nextBy_29 : decode cX5_nextBy 29 = .ok (.ifCond .eq 47, 3) := by decide +kernel
theorem dX5_nextBy_32 : decode cX5_nextBy 32 = .ok (.aload_n 0, 1) := by decide +kernel
theorem dX5_nextBy_33 : decode cX5_nextBy 33 = .ok (.getfield 18, 3) := by decide +kernel
theorem dX5_nextBy_36 : decode cX5_nextBy 36 = .ok (.iload 4, 2) := by decide +kernel
theorem dX5_nextBy_38 : decode cX5_nextBy 38 = .ok (.baload, 1) := by decide +kernel
theorem dX5_nextBy_39 : decode cX5_nextBy 39 = .ok (.ifCond .eq 37, 3) := by decide +kernel
theorem dX5_nextBy_42 : decode cX5_nextBy 42 = .ok (.aload_n 0, 1) := by decide +kernel
theorem dX5_nextBy_43 : decode cX5_nextBy 43 = .ok (.getfield 9, 3) := by decide +kernel
theorem dX5_nextBy_46 : decode cX5_nextBy 46 = .ok (.iload 4, 2) := by decide +kernel
theorem dX5_nextBy_48 : decode cX5_nextBy 48 = .ok (.iaload, 1) := by decide +kernel
theorem dX5_nextBy_49 : decode cX5_nextBy 49 = .ok (.aload_n 0, 1) := by decide +kernel
theorem dX5_nextBy_50 : decode cX5_nextBy 50 = .ok (.getfield 65, 3) := by decide +kernel
theorem dX5_nextBy_53 : decode cX5_nextBy 53 = .ok (.ishr, 1) := by decide +kernel
theorem dX5_nextBy_54 : decode cX5_nextBy 54 = .ok (.iload_n 2, 1) := by decide +kernel
theorem dX5_nextBy_55 : decode cX5_nextBy 55 = .ok (.if_icmp .ge 21, 3) := by decide +kernel
theorem dX5_nextBy_58 : decode cX5_nextBy 58 = .ok (.iload_n 3, 1) := by decide +kernel
theorem dX5_nextBy_59 : decode cX5_nextBy 59 = .ok (.iconst (-1), 1) := by decide +kernel
theorem dX5_nextBy_60 : decode cX5_nextBy 60 = .ok (.if_icmp .eq 13, 3) := by decide +kernel
theorem dX5_nextBy_63 : decode cX5_nextBy 63 = .ok (.aload_n 0, 1) := by decide +kernel
theorem dX5_nextBy_64 : decode cX5_nextBy 64 = .ok (.iload 4, 2) := by decide +kernel
theorem dX5_nextBy_66 : decode cX5_nextBy 66 = .ok (.iload_n 3, 1) := by decide +kernel
theorem dX5_nextBy_67 : decode cX5_nextBy 67 = .ok (.invokevirtual 72, 3) := by decide +kernel
theorem dX5_nextBy_70 : decode cX5_nextBy 70 = .ok (.ifCond .eq 6, 3) := by decide +kernel
theorem dX5_nextBy_73 : decode cX5_nextBy 73 = .ok (.iload 4, 2) := by decide +kernel
theorem dX5_nextBy_75 : decode cX5_nextBy 75 = .ok (.istore_n 3, 1) := by decide +kernel
theorem dX5_nextBy_76 : decode cX5_nextBy 76 = .ok (.iinc 4 1, 3) := by decide +kernel
theorem dX5_nextBy_79 : decode cX5_nextBy 79 = .ok (.goto (-64), 3) := by decide +kernel
theorem dX5_nextBy_82 : decode cX5_nextBy 82 = .ok (.iload_n 3, 1) := by decide +kernel
theorem dX5_nextBy_83 : decode cX5_nextBy 83 = .ok (.ireturn, 1) := by decide +kernel
theorem dX5_next_0 : decode cX5_next 0 = .ok (.aload_n 0, 1) := by decide +kernel
theorem dX5_next_1 : decode cX5_next 1 = .ok (.aload_n 0, 1) := by decide +kernel
theorem dX5_next_2 : decode cX5_next 2 = .ok (.getfield 59, 3) := by decide +kernel
theorem dX5_next_5 : decode cX5_next 5 = .ok (.invokevirtual 76, 3) := by decide +kernel
theorem dX5_next_8 : decode cX5_next 8 = .ok (.ireturn, 1) := by decide +kernel
theorem dX5_precedes_0 : decode cX5_precedes 0 = .ok (.aload_n 0, 1) := by decide +kernel
theorem dX5_precedes_1 : decode cX5_precedes 1 = .ok (.getfield 9, 3) := by decide +kernel
theorem dX5_precedes_4 : decode cX5_precedes 4 = .ok (.iload_n 1, 1) := by decide +kernel
theorem dX5_precedes_5 : decode cX5_precedes 5 = .ok (.iaload, 1) := by decide +kernel
theorem dX5_precedes_6 : decode cX5_precedes 6 = .ok (.aload_n 0, 1) := by decide +kernel
theorem dX5_precedes_7 : decode cX5_precedes 7 = .ok (.getfield 9, 3) := by decide +kernel
theorem dX5_precedes_10 : decode cX5_precedes 10 = .ok (.iload_n 2, 1) := by decide +kernel
theorem dX5_precedes_11 : decode cX5_precedes 11 = .ok (.iaload, 1) := by decide +kernel
theorem dX5_precedes_12 : decode cX5_precedes 12 = .ok (.if_icmp .eq 26, 3) := by decide +kernel
theorem dX5_precedes_15 : decode cX5_precedes 15 = .ok (.aload_n 0, 1) := by decide +kernel
theorem dX5_precedes_16 : decode cX5_precedes 16 = .ok (.getfield 9, 3) := by decide +kernel
theorem dX5_precedes_19 : decode cX5_precedes 19 = .ok (.iload_n 1, 1) := by decide +kernel
theorem dX5_precedes_20 : decode cX5_precedes 20 = .ok (.iaload, 1) := by decide +kernel
theorem dX5_precedes_21 : decode cX5_precedes 21 = .ok (.aload_n 0, 1) := by decide +kernel
theorem dX5_precedes_22 : decode cX5_precedes 22 = .ok (.getfield 9, 3) := by decide +kernel
theorem dX5_precedes_25 : decode cX5_precedes 25 = .ok (.iload_n 2, 1) := by decide +kernel
theorem dX5_precedes_26 : decode cX5_precedes 26 = .ok (.iaload, 1) := by decide +kernel
theorem dX5_precedes_27 : decode cX5_precedes 27 = .ok (.if_icmp .ge 7, 3) := by decide +kernel
theorem dX5_precedes_30 : decode cX5_precedes 30 = .ok (.iconst 1, 1) := by decide +kernel
theorem dX5_precedes_31 : decode cX5_precedes 31 = .ok (.goto 17, 3) := by decide +kernel
theorem dX5_precedes_34 : decode cX5_precedes 34 = .ok (.iconst 0, 1) := by decide +kernel
theorem dX5_precedes_35 : decode cX5_precedes 35 = .ok (.goto 13, 3) := by decide +kernel
theorem dX5_precedes_38 : decode cX5_precedes 38 = .ok (.iload_n 1, 1) := by decide +kernel
theorem dX5_precedes_39 : decode cX5_precedes 39 = .ok (.iload_n 2, 1) := by decide +kernel
theorem dX5_precedes_40 : decode cX5_precedes 40 = .ok (.if_icmp .ge 7, 3) := by decide +kernel
theorem dX5_precedes_43 : decode cX5_precedes 43 = .ok (.iconst 1, 1) := by decide +kernel
theorem dX5_precedes_44 : decode cX5_precedes 44 = .ok (.goto 4, 3) := by decide +kernel
theorem dX5_precedes_47 : decode cX5_precedes 47 = .ok (.iconst 0, 1) := by decide +kernel
theorem dX5_precedes_48 : decode cX5_precedes 48 = .ok (.ireturn, 1) := by decide +kernel
theorem dX5_request_0 : decode cX5_request 0 = .ok (.aload_n 0, 1) := by decide +kernel
theorem dX5_request_1 : decode cX5_request 1 = .ok (.getfield 22, 3) := by decide +kernel
theorem dX5_request_4 : decode cX5_request 4 = .ok (.iload_n 1, 1) := by decide +kernel
theorem dX5_request_5 : decode cX5_request 5 = .ok (.baload, 1) := by decide +kernel
theorem dX5_request_6 : decode cX5_request 6 = .ok (.ifCond .eq 15, 3) := by decide +kernel
theorem dX5_request_9 : decode cX5_request 9 = .ok (.aload_n 0, 1) := by decide +kernel
theorem dX5_request_10 : decode cX5_request 10 = .ok (.dup, 1) := by decide +kernel
theorem dX5_request_11 : decode cX5_request 11 = .ok (.getfield 62, 3) := by decide +kernel
theorem dX5_request_14 : decode cX5_request 14 = .ok (.iconst 1, 1) := by decide +kernel
theorem dX5_request_15 : decode cX5_request 15 = .ok (.iadd, 1) := by decide +kernel
theorem dX5_request_16 : decode cX5_request 16 = .ok (.putfield 62, 3) := by decide +kernel
theorem dX5_request_19 : decode cX5_request 19 = .ok (.iconst 0, 1) := by decide +kernel
theorem dX5_request_20 : decode cX5_request 20 = .ok (.ireturn, 1) := by decide +kernel
theorem dX5_request_21 : decode cX5_request 21 = .ok (.aload_n 0, 1) := by decide +kernel
theorem dX5_request_22 : decode cX5_request 22 = .ok (.getfield 22, 3) := by decide +kernel
theorem dX5_request_25 : decode cX5_request 25 = .ok (.iload_n 1, 1) := by decide +kernel
theorem dX5_request_26 : decode cX5_request 26 = .ok (.iconst 1, 1) := by decide +kernel
theorem dX5_request_27 : decode cX5_request 27 = .ok (.bastore, 1) := by decide +kernel
theorem dX5_request_28 : decode cX5_request 28 = .ok (.aload_n 0, 1) := by decide +kernel
theorem dX5_request_29 : decode cX5_request 29 = .ok (.getfield 31, 3) := by decide +kernel
theorem dX5_request_32 : decode cX5_request 32 = .ok (.iload_n 1, 1) := by decide +kernel
theorem dX5_request_33 : decode cX5_request 33 = .ok (.iload_n 2, 1) := by decide +kernel
theorem dX5_request_34 : decode cX5_request 34 = .ok (.iastore, 1) := by decide +kernel
theorem dX5_request_35 : decode cX5_request 35 = .ok (.iconst 1, 1) := by decide +kernel
theorem dX5_request_36 : decode cX5_request 36 = .ok (.ireturn, 1) := by decide +kernel
theorem dX5_withdraw_0 : decode cX5_withdraw 0 = .ok (.aload_n 0, 1) := by decide +kernel
theorem dX5_withdraw_1 : decode cX5_withdraw 1 = .ok (.getfield 22, 3) := by decide +kernel
theorem dX5_withdraw_4 : decode cX5_withdraw 4 = .ok (.iload_n 1, 1) := by decide +kernel
theorem dX5_withdraw_5 : decode cX5_withdraw 5 = .ok (.baload, 1) := by decide +kernel
theorem dX5_withdraw_6 : decode cX5_withdraw 6 = .ok (.ifCond .eq 12, 3) := by decide +kernel
theorem dX5_withdraw_9 : decode cX5_withdraw 9 = .ok (.aload_n 0, 1) := by decide +kernel
theorem dX5_withdraw_10 : decode cX5_withdraw 10 = .ok (.getfield 28, 3) := by decide +kernel
theorem dX5_withdraw_13 : decode cX5_withdraw 13 = .ok (.iload_n 1, 1) := by decide +kernel
theorem dX5_withdraw_14 : decode cX5_withdraw 14 = .ok (.baload, 1) := by decide +kernel
theorem dX5_withdraw_15 : decode cX5_withdraw 15 = .ok (.ifCond .eq 5, 3) := by decide +kernel
theorem dX5_withdraw_18 : decode cX5_withdraw 18 = .ok (.iconst 0, 1) := by decide +kernel
theorem dX5_withdraw_19 : decode cX5_withdraw 19 = .ok (.ireturn, 1) := by decide +kernel
theorem dX5_withdraw_20 : decode cX5_withdraw 20 = .ok (.aload_n 0, 1) := by decide +kernel
theorem dX5_withdraw_21 : decode cX5_withdraw 21 = .ok (.getfield 22, 3) := by decide +kernel
theorem dX5_withdraw_24 : decode cX5_withdraw 24 = .ok (.iload_n 1, 1) := by decide +kernel
theorem dX5_withdraw_25 : decode cX5_withdraw 25 = .ok (.iconst 0, 1) := by decide +kernel
theorem dX5_withdraw_26 : decode cX5_withdraw 26 = .ok (.bastore, 1) := by decide +kernel
theorem dX5_withdraw_27 : decode cX5_withdraw 27 = .ok (.iconst 1, 1) := by decide +kernel
theorem dX5_withdraw_28 : decode cX5_withdraw 28 = .ok (.ireturn, 1) := by decide +kernel
theorem dX5_takerOf_0 : decode cX5_takerOf 0 = .ok (.aload_n 0, 1) := by decide +kernel
theorem dX5_takerOf_1 : decode cX5_takerOf 1 = .ok (.getfield 18, 3) := by decide +kernel
theorem dX5_takerOf_4 : decode cX5_takerOf 4 = .ok (.iload_n 1, 1) := by decide +kernel
theorem dX5_takerOf_5 : decode cX5_takerOf 5 = .ok (.baload, 1) := by decide +kernel
theorem dX5_takerOf_6 : decode cX5_takerOf 6 = .ok (.ifCond .eq 31, 3) := by decide +kernel
theorem dX5_takerOf_9 : decode cX5_takerOf 9 = .ok (.aload_n 0, 1) := by decide +kernel
theorem dX5_takerOf_10 : decode cX5_takerOf 10 = .ok (.getfield 9, 3) := by decide +kernel
theorem dX5_takerOf_13 : decode cX5_takerOf 13 = .ok (.iload_n 1, 1) := by decide +kernel
theorem dX5_takerOf_14 : decode cX5_takerOf 14 = .ok (.iaload, 1) := by decide +kernel
theorem dX5_takerOf_15 : decode cX5_takerOf 15 = .ok (.aload_n 0, 1) := by decide +kernel
theorem dX5_takerOf_16 : decode cX5_takerOf 16 = .ok (.getfield 65, 3) := by decide +kernel
theorem dX5_takerOf_19 : decode cX5_takerOf 19 = .ok (.ishr, 1) := by decide +kernel
theorem dX5_takerOf_20 : decode cX5_takerOf 20 = .ok (.aload_n 0, 1) := by decide +kernel
theorem dX5_takerOf_21 : decode cX5_takerOf 21 = .ok (.aload_n 0, 1) := by decide +kernel
theorem dX5_takerOf_22 : decode cX5_takerOf 22 = .ok (.getfield 65, 3) := by decide +kernel
theorem dX5_takerOf_25 : decode cX5_takerOf 25 = .ok (.aload_n 0, 1) := by decide +kernel
theorem dX5_takerOf_26 : decode cX5_takerOf 26 = .ok (.getfield 59, 3) := by decide +kernel
theorem dX5_takerOf_29 : decode cX5_takerOf 29 = .ok (.invokevirtual 68, 3) := by decide +kernel
theorem dX5_takerOf_32 : decode cX5_takerOf 32 = .ok (.if_icmp .ge 5, 3) := by decide +kernel
theorem dX5_takerOf_35 : decode cX5_takerOf 35 = .ok (.iload_n 1, 1) := by decide +kernel
theorem dX5_takerOf_36 : decode cX5_takerOf 36 = .ok (.ireturn, 1) := by decide +kernel
theorem dX5_takerOf_37 : decode cX5_takerOf 37 = .ok (.aload_n 0, 1) := by decide +kernel
theorem dX5_takerOf_38 : decode cX5_takerOf 38 = .ok (.getfield 25, 3) := by decide +kernel
theorem dX5_takerOf_41 : decode cX5_takerOf 41 = .ok (.bipush 20, 2) := by decide +kernel
theorem dX5_takerOf_43 : decode cX5_takerOf 43 = .ok (.baload, 1) := by decide +kernel
theorem dX5_takerOf_44 : decode cX5_takerOf 44 = .ok (.ifCond .eq 7, 3) := by decide +kernel
theorem dX5_takerOf_47 : decode cX5_takerOf 47 = .ok (.iconst (-1), 1) := by decide +kernel
theorem dX5_takerOf_48 : decode cX5_takerOf 48 = .ok (.goto 5, 3) := by decide +kernel
theorem dX5_takerOf_51 : decode cX5_takerOf 51 = .ok (.bipush 20, 2) := by decide +kernel
theorem dX5_takerOf_53 : decode cX5_takerOf 53 = .ok (.ireturn, 1) := by decide +kernel
theorem dX5_start_0 : decode cX5_start 0 = .ok (.iload_n 2, 1) := by decide +kernel
theorem dX5_start_1 : decode cX5_start 1 = .ok (.aload_n 0, 1) := by decide +kernel
theorem dX5_start_2 : decode cX5_start 2 = .ok (.getfield 31, 3) := by decide +kernel
theorem dX5_start_5 : decode cX5_start 5 = .ok (.iload_n 1, 1) := by decide +kernel
theorem dX5_start_6 : decode cX5_start 6 = .ok (.iaload, 1) := by decide +kernel
theorem dX5_start_7 : decode cX5_start 7 = .ok (.isub, 1) := by decide +kernel
theorem dX5_start_8 : decode cX5_start 8 = .ok (.istore_n 3, 1) := by decide +kernel
theorem dX5_start_9 : decode cX5_start 9 = .ok (.aload_n 0, 1) := by decide +kernel
theorem dX5_start_10 : decode cX5_start 10 = .ok (.getfield 22, 3) := by decide +kernel
theorem dX5_start_13 : decode cX5_start 13 = .ok (.iload_n 1, 1) := by decide +kernel
theorem dX5_start_14 : decode cX5_start 14 = .ok (.iconst 0, 1) := by decide +kernel
theorem dX5_start_15 : decode cX5_start 15 = .ok (.bastore, 1) := by decide +kernel
theorem dX5_start_16 : decode cX5_start 16 = .ok (.aload_n 0, 1) := by decide +kernel
theorem dX5_start_17 : decode cX5_start 17 = .ok (.getfield 25, 3) := by decide +kernel
theorem dX5_start_20 : decode cX5_start 20 = .ok (.iload_n 1, 1) := by decide +kernel
theorem dX5_start_21 : decode cX5_start 21 = .ok (.iconst 1, 1) := by decide +kernel
theorem dX5_start_22 : decode cX5_start 22 = .ok (.bastore, 1) := by decide +kernel
theorem dX5_start_23 : decode cX5_start 23 = .ok (.aload_n 0, 1) := by decide +kernel
theorem dX5_start_24 : decode cX5_start 24 = .ok (.getfield 34, 3) := by decide +kernel
theorem dX5_start_27 : decode cX5_start 27 = .ok (.iload_n 1, 1) := by decide +kernel
theorem dX5_start_28 : decode cX5_start 28 = .ok (.iload_n 2, 1) := by decide +kernel
theorem dX5_start_29 : decode cX5_start 29 = .ok (.iastore, 1) := by decide +kernel
theorem dX5_start_30 : decode cX5_start 30 = .ok (.aload_n 0, 1) := by decide +kernel
theorem dX5_start_31 : decode cX5_start 31 = .ok (.getfield 37, 3) := by decide +kernel
theorem dX5_start_34 : decode cX5_start 34 = .ok (.iload_n 1, 1) := by decide +kernel
theorem dX5_start_35 : decode cX5_start 35 = .ok (.aload_n 0, 1) := by decide +kernel
theorem dX5_start_36 : decode cX5_start 36 = .ok (.getfield 37, 3) := by decide +kernel
theorem dX5_start_39 : decode cX5_start 39 = .ok (.iload_n 1, 1) := by decide +kernel
theorem dX5_start_40 : decode cX5_start 40 = .ok (.iaload, 1) := by decide +kernel
theorem dX5_start_41 : decode cX5_start 41 = .ok (.iload_n 3, 1) := by decide +kernel
theorem dX5_start_42 : decode cX5_start 42 = .ok (.invokestatic 80, 3) := by decide +kernel
theorem dX5_start_45 : decode cX5_start 45 = .ok (.iastore, 1) := by decide +kernel
theorem dX5_start_46 : decode cX5_start 46 = .ok (.aload_n 0, 1) := by decide +kernel
theorem dX5_start_47 : decode cX5_start 47 = .ok (.getfield 49, 3) := by decide +kernel
theorem dX5_start_50 : decode cX5_start 50 = .ok (.bipush 21, 2) := by decide +kernel
theorem dX5_start_52 : decode cX5_start 52 = .ok (.if_icmp .ge 23, 3) := by decide +kernel
theorem dX5_start_55 : decode cX5_start 55 = .ok (.aload_n 0, 1) := by decide +kernel
theorem dX5_start_56 : decode cX5_start 56 = .ok (.getfield 40, 3) := by decide +kernel
theorem dX5_start_59 : decode cX5_start 59 = .ok (.aload_n 0, 1) := by decide +kernel
theorem dX5_start_60 : decode cX5_start 60 = .ok (.getfield 49, 3) := by decide +kernel
theorem dX5_start_63 : decode cX5_start 63 = .ok (.iload_n 1, 1) := by decide +kernel
theorem dX5_start_64 : decode cX5_start 64 = .ok (.iastore, 1) := by decide +kernel
theorem dX5_start_65 : decode cX5_start 65 = .ok (.aload_n 0, 1) := by decide +kernel
theorem dX5_start_66 : decode cX5_start 66 = .ok (.dup, 1) := by decide +kernel
theorem dX5_start_67 : decode cX5_start 67 = .ok (.getfield 49, 3) := by decide +kernel
theorem dX5_start_70 : decode cX5_start 70 = .ok (.iconst 1, 1) := by decide +kernel
theorem dX5_start_71 : decode cX5_start 71 = .ok (.iadd, 1) := by decide +kernel
theorem dX5_start_72 : decode cX5_start 72 = .ok (.putfield 49, 3) := by decide +kernel
theorem dX5_start_75 : decode cX5_start 75 = .ok (.aload_n 0, 1) := by decide +kernel
theorem dX5_start_76 : decode cX5_start 76 = .ok (.aload_n 0, 1) := by decide +kernel
theorem dX5_start_77 : decode cX5_start 77 = .ok (.getfield 53, 3) := by decide +kernel
theorem dX5_start_80 : decode cX5_start 80 = .ok (.aload_n 0, 1) := by decide +kernel
theorem dX5_start_81 : decode cX5_start 81 = .ok (.getfield 49, 3) := by decide +kernel
theorem dX5_start_84 : decode cX5_start 84 = .ok (.invokestatic 80, 3) := by decide +kernel
theorem dX5_start_87 : decode cX5_start 87 = .ok (.putfield 53, 3) := by decide +kernel
theorem dX5_start_90 : decode cX5_start 90 = .ok (.iload_n 3, 1) := by decide +kernel
theorem dX5_start_91 : decode cX5_start 91 = .ok (.ireturn, 1) := by decide +kernel
theorem dX5_innermost_0 : decode cX5_innermost 0 = .ok (.aload_n 0, 1) := by decide +kernel
theorem dX5_innermost_1 : decode cX5_innermost 1 = .ok (.getfield 49, 3) := by decide +kernel
theorem dX5_innermost_4 : decode cX5_innermost 4 = .ok (.ifCond .le 17, 3) := by decide +kernel
theorem dX5_innermost_7 : decode cX5_innermost 7 = .ok (.aload_n 0, 1) := by decide +kernel
theorem dX5_innermost_8 : decode cX5_innermost 8 = .ok (.getfield 40, 3) := by decide +kernel
theorem dX5_innermost_11 : decode cX5_innermost 11 = .ok (.aload_n 0, 1) := by decide +kernel
theorem dX5_innermost_12 : decode cX5_innermost 12 = .ok (.getfield 49, 3) := by decide +kernel
theorem dX5_innermost_15 : decode cX5_innermost 15 = .ok (.iconst 1, 1) := by decide +kernel
theorem dX5_innermost_16 : decode cX5_innermost 16 = .ok (.isub, 1) := by decide +kernel
theorem dX5_innermost_17 : decode cX5_innermost 17 = .ok (.iaload, 1) := by decide +kernel
theorem dX5_innermost_18 : decode cX5_innermost 18 = .ok (.goto 4, 3) := by decide +kernel
theorem dX5_innermost_21 : decode cX5_innermost 21 = .ok (.iconst (-1), 1) := by decide +kernel
theorem dX5_innermost_22 : decode cX5_innermost 22 = .ok (.ireturn, 1) := by decide +kernel
theorem dX5_endInnermost_0 : decode cX5_endInnermost 0 = .ok (.aload_n 0, 1) := by decide +kernel
theorem dX5_endInnermost_1 : decode cX5_endInnermost 1 = .ok (.invokevirtual 85, 3) := by decide +kernel
theorem dX5_endInnermost_4 : decode cX5_endInnermost 4 = .ok (.istore_n 2, 1) := by decide +kernel
theorem dX5_endInnermost_5 : decode cX5_endInnermost 5 = .ok (.iload_n 2, 1) := by decide +kernel
theorem dX5_endInnermost_6 : decode cX5_endInnermost 6 = .ok (.iconst (-1), 1) := by decide +kernel
theorem dX5_endInnermost_7 : decode cX5_endInnermost 7 = .ok (.if_icmp .ne 4, 3) := by decide +kernel
theorem dX5_endInnermost_10 : decode cX5_endInnermost 10 = .ok (.return_, 1) := by decide +kernel
theorem dX5_endInnermost_11 : decode cX5_endInnermost 11 = .ok (.aload_n 0, 1) := by decide +kernel
theorem dX5_endInnermost_12 : decode cX5_endInnermost 12 = .ok (.getfield 25, 3) := by decide +kernel
theorem dX5_endInnermost_15 : decode cX5_endInnermost 15 = .ok (.iload_n 2, 1) := by decide +kernel
theorem dX5_endInnermost_16 : decode cX5_endInnermost 16 = .ok (.iconst 0, 1) := by decide +kernel
theorem dX5_endInnermost_17 : decode cX5_endInnermost 17 = .ok (.bastore, 1) := by decide +kernel
theorem dX5_endInnermost_18 : decode cX5_endInnermost 18 = .ok (.aload_n 0, 1) := by decide +kernel
theorem dX5_endInnermost_19 : decode cX5_endInnermost 19 = .ok (.dup, 1) := by decide +kernel
theorem dX5_endInnermost_20 : decode cX5_endInnermost 20 = .ok (.getfield 49, 3) := by decide +kernel
theorem dX5_endInnermost_23 : decode cX5_endInnermost 23 = .ok (.iconst 1, 1) := by decide +kernel
theorem dX5_endInnermost_24 : decode cX5_endInnermost 24 = .ok (.isub, 1) := by decide +kernel
theorem dX5_endInnermost_25 : decode cX5_endInnermost 25 = .ok (.putfield 49, 3) := by decide +kernel
theorem dX5_endInnermost_28 : decode cX5_endInnermost 28 = .ok (.aload_n 0, 1) := by decide +kernel
theorem dX5_endInnermost_29 : decode cX5_endInnermost 29 = .ok (.getfield 28, 3) := by decide +kernel
theorem dX5_endInnermost_32 : decode cX5_endInnermost 32 = .ok (.iload_n 2, 1) := by decide +kernel
theorem dX5_endInnermost_33 : decode cX5_endInnermost 33 = .ok (.baload, 1) := by decide +kernel
theorem dX5_endInnermost_34 : decode cX5_endInnermost 34 = .ok (.ifCond .eq 10, 3) := by decide +kernel
theorem dX5_endInnermost_37 : decode cX5_endInnermost 37 = .ok (.aload_n 0, 1) := by decide +kernel
theorem dX5_endInnermost_38 : decode cX5_endInnermost 38 = .ok (.iload_n 2, 1) := by decide +kernel
theorem dX5_endInnermost_39 : decode cX5_endInnermost 39 = .ok (.iload_n 1, 1) := by decide +kernel
theorem dX5_endInnermost_40 : decode cX5_endInnermost 40 = .ok (.invokevirtual 89, 3) := by decide +kernel
theorem dX5_endInnermost_43 : decode cX5_endInnermost 43 = .ok (.pop, 1) := by decide +kernel
theorem dX5_endInnermost_44 : decode cX5_endInnermost 44 = .ok (.return_, 1) := by decide +kernel
theorem dX6_init_0 : decode cX6_init 0 = .ok (.aload_n 0, 1) := by decide +kernel
theorem dX6_init_1 : decode cX6_init 1 = .ok (.invokespecial 3, 3) := by decide +kernel
theorem dX6_init_4 : decode cX6_init 4 = .ok (.aload_n 0, 1) := by decide +kernel
theorem dX6_init_5 : decode cX6_init 5 = .ok (.sipush 512, 3) := by decide +kernel
theorem dX6_init_8 : decode cX6_init 8 = .ok (.newarray .int, 2) := by decide +kernel
theorem dX6_init_10 : decode cX6_init 10 = .ok (.putfield 9, 3) := by decide +kernel
theorem dX6_init_13 : decode cX6_init 13 = .ok (.aload_n 0, 1) := by decide +kernel
theorem dX6_init_14 : decode cX6_init 14 = .ok (.sipush 512, 3) := by decide +kernel
theorem dX6_init_17 : decode cX6_init 17 = .ok (.newarray .int, 2) := by decide +kernel
theorem dX6_init_19 : decode cX6_init 19 = .ok (.putfield 15, 3) := by decide +kernel
theorem dX6_init_22 : decode cX6_init 22 = .ok (.aload_n 0, 1) := by decide +kernel
theorem dX6_init_23 : decode cX6_init 23 = .ok (.bipush 21, 2) := by decide +kernel
theorem dX6_init_25 : decode cX6_init 25 = .ok (.newarray .int, 2) := by decide +kernel
theorem dX6_init_27 : decode cX6_init 27 = .ok (.putfield 18, 3) := by decide +kernel
theorem dX6_init_30 : decode cX6_init 30 = .ok (.aload_n 0, 1) := by decide +kernel
theorem dX6_init_31 : decode cX6_init 31 = .ok (.sipush 512, 3) := by decide +kernel
theorem dX6_init_34 : decode cX6_init 34 = .ok (.newarray .int, 2) := by decide +kernel
theorem dX6_init_36 : decode cX6_init 36 = .ok (.putfield 21, 3) := by decide +kernel
theorem dX6_init_39 : decode cX6_init 39 = .ok (.aload_n 0, 1) := by decide +kernel
theorem dX6_init_40 : decode cX6_init 40 = .ok (.sipush 512, 3) := by decide +kernel
theorem dX6_init_43 : decode cX6_init 43 = .ok (.newarray .int, 2) := by decide +kernel
theorem dX6_init_45 : decode cX6_init 45 = .ok (.putfield 24, 3) := by decide +kernel
theorem dX6_init_48 : decode cX6_init 48 = .ok (.aload_n 0, 1) := by decide +kernel
theorem dX6_init_49 : decode cX6_init 49 = .ok (.aload_n 1, 1) := by decide +kernel
theorem dX6_init_50 : decode cX6_init 50 = .ok (.putfield 27, 3) := by decide +kernel
theorem dX6_init_53 : decode cX6_init 53 = .ok (.return_, 1) := by decide +kernel
theorem dX6_survey_0 : decode cX6_survey 0 = .ok (.aload_n 0, 1) := by decide +kernel
theorem dX6_survey_1 : decode cX6_survey 1 = .ok (.getfield 9, 3) := by decide +kernel
theorem dX6_survey_4 : decode cX6_survey 4 = .ok (.iconst 0, 1) := by decide +kernel
theorem dX6_survey_5 : decode cX6_survey 5 = .ok (.invokestatic 30, 3) := by decide +kernel
theorem dX6_survey_8 : decode cX6_survey 8 = .ok (.aload_n 0, 1) := by decide +kernel
theorem dX6_survey_9 : decode cX6_survey 9 = .ok (.iconst 0, 1) := by decide +kernel
theorem dX6_survey_10 : decode cX6_survey 10 = .ok (.putfield 36, 3) := by decide +kernel
theorem dX6_survey_13 : decode cX6_survey 13 = .ok (.aload_n 0, 1) := by decide +kernel
theorem dX6_survey_14 : decode cX6_survey 14 = .ok (.iload_n 1, 1) := by decide +kernel
theorem dX6_survey_15 : decode cX6_survey 15 = .ok (.invokevirtual 40, 3) := by decide +kernel
theorem dX6_survey_18 : decode cX6_survey 18 = .ok (.iconst 0, 1) := by decide +kernel
theorem dX6_survey_19 : decode cX6_survey 19 = .ok (.istore_n 2, 1) := by decide +kernel
theorem dX6_survey_20 : decode cX6_survey 20 = .ok (.iload_n 2, 1) := by decide +kernel
theorem dX6_survey_21 : decode cX6_survey 21 = .ok (.sipush 1536, 3) := by decide +kernel
theorem dX6_survey_24 : decode cX6_survey 24 = .ok (.if_icmp .ge 133, 3) := by decide +kernel
theorem dX6_survey_27 : decode cX6_survey 27 = .ok (.aload_n 0, 1) := by decide +kernel
theorem dX6_survey_28 : decode cX6_survey 28 = .ok (.getfield 36, 3) := by decide +kernel
theorem dX6_survey_31 : decode cX6_survey 31 = .ok (.ifCond .le 126, 3) := by decide +kernel
theorem dX6_survey_34 : decode cX6_survey 34 = .ok (.aload_n 0, 1) := by decide +kernel
theorem dX6_survey_35 : decode cX6_survey 35 = .ok (.getfield 15, 3) := by decide +kernel
theorem dX6_survey_38 : decode cX6_survey 38 = .ok (.aload_n 0, 1) := by decide +kernel
theorem dX6_survey_39 : decode cX6_survey 39 = .ok (.getfield 36, 3) := by decide +kernel
theorem dX6_survey_42 : decode cX6_survey 42 = .ok (.iconst 1, 1) := by decide +kernel
theorem dX6_survey_43 : decode cX6_survey 43 = .ok (.isub, 1) := by decide +kernel
theorem dX6_survey_44 : decode cX6_survey 44 = .ok (.iaload, 1) := by decide +kernel
theorem dX6_survey_45 : decode cX6_survey 45 = .ok (.istore_n 3, 1) := by decide +kernel
theorem dX6_survey_46 : decode cX6_survey 46 = .ok (.aload_n 0, 1) := by decide +kernel
theorem dX6_survey_47 : decode cX6_survey 47 = .ok (.iload_n 3, 1) := by decide +kernel
theorem dX6_survey_48 : decode cX6_survey 48 = .ok (.invokevirtual 44, 3) := by decide +kernel
theorem dX6_survey_51 : decode cX6_survey 51 = .ok (.istore 4, 2) := by decide +kernel
theorem dX6_survey_53 : decode cX6_survey 53 = .ok (.aload_n 0, 1) := by decide +kernel
theorem dX6_survey_54 : decode cX6_survey 54 = .ok (.iload_n 3, 1) := by decide +kernel
theorem dX6_survey_55 : decode cX6_survey 55 = .ok (.invokevirtual 48, 3) := by decide +kernel
theorem dX6_survey_58 : decode cX6_survey 58 = .ok (.istore 5, 2) := by decide +kernel
theorem dX6_survey_60 : decode cX6_survey 60 = .ok (.aload_n 0, 1) := by decide +kernel
theorem dX6_survey_61 : decode cX6_survey 61 = .ok (.getfield 27, 3) := by decide +kernel
theorem dX6_survey_64 : decode cX6_survey 64 = .ok (.iload_n 3, 1) := by decide +kernel
theorem dX6_survey_65 : decode cX6_survey 65 = .ok (.iaload, 1) := by decide +kernel
theorem dX6_survey_66 : decode cX6_survey 66 = .ok (.invokestatic 51, 3) := by decide +kernel
theorem dX6_survey_69 : decode cX6_survey 69 = .ok (.ifCond .ne 23, 3) := by decide +kernel
theorem dX6_survey_72 : decode cX6_survey 72 = .ok (.aload_n 0, 1) := by decide +kernel
theorem dX6_survey_73 : decode cX6_survey 73 = .ok (.iload 4, 2) := by decide +kernel
theorem dX6_survey_75 : decode cX6_survey 75 = .ok (.iconst 1, 1) := by decide +kernel
theorem dX6_survey_76 : decode cX6_survey 76 = .ok (.invokevirtual 55, 3) := by decide +kernel
theorem dX6_survey_79 : decode cX6_survey 79 = .ok (.ifCond .ne 13, 3) := by decide +kernel
theorem dX6_survey_82 : decode cX6_survey 82 = .ok (.aload_n 0, 1) := by decide +kernel
theorem dX6_survey_83 : decode cX6_survey 83 = .ok (.iload 5, 2) := by decide +kernel
theorem dX6_survey_85 : decode cX6_survey 85 = .ok (.iconst 1, 1) := by decide +kernel
theorem dX6_survey_86 : decode cX6_survey 86 = .ok (.invokevirtual 55, 3) := by decide +kernel
theorem dX6_survey_89 : decode cX6_survey 89 = .ok (.ifCond .eq 5, 3) := by decide +kernel
theorem dX6_survey_92 : decode cX6_survey 92 = .ok (.iconst 0, 1) := by decide +kernel
theorem dX6_survey_93 : decode cX6_survey 93 = .ok (.ireturn, 1) := by decide +kernel
theorem dX6_survey_94 : decode cX6_survey 94 = .ok (.aload_n 0, 1) := by decide +kernel
theorem dX6_survey_95 : decode cX6_survey 95 = .ok (.iload 4, 2) := by decide +kernel
theorem dX6_survey_97 : decode cX6_survey 97 = .ok (.iconst 0, 1) := by decide +kernel
theorem dX6_survey_98 : decode cX6_survey 98 = .ok (.invokevirtual 55, 3) := by decide +kernel
theorem dX6_survey_101 : decode cX6_survey 101 = .ok (.ifCond .eq 12, 3) := by decide +kernel
theorem dX6_survey_104 : decode cX6_survey 104 = .ok (.aload_n 0, 1) := by decide +kernel
theorem dX6_survey_105 : decode cX6_survey 105 = .ok (.iload 4, 2) := by decide +kernel
theorem dX6_survey_107 : decode cX6_survey 107 = .ok (.invokevirtual 40, 3) := by decide +kernel
theorem dX6_survey_110 : decode cX6_survey 110 = .ok (.goto 41, 3) := by decide +kernel
theorem dX6_survey_113 : decode cX6_survey 113 = .ok (.aload_n 0, 1) := by decide +kernel
theorem dX6_survey_114 : decode cX6_survey 114 = .ok (.iload 5, 2) := by decide +kernel
theorem dX6_survey_116 : decode cX6_survey 116 = .ok (.iconst 0, 1) := by decide +kernel
theorem dX6_survey_117 : decode cX6_survey 117 = .ok (.invokevirtual 55, 3) := by decide +kernel
theorem dX6_survey_120 : decode cX6_survey 120 = .ok (.ifCond .eq 12, 3) := by decide +kernel
theorem dX6_survey_123 : decode cX6_survey 123 = .ok (.aload_n 0, 1) := by decide +kernel
theorem dX6_survey_124 : decode cX6_survey 124 = .ok (.iload 5, 2) := by decide +kernel
theorem dX6_survey_126 : decode cX6_survey 126 = .ok (.invokevirtual 40, 3) := by decide +kernel
theorem dX6_survey_129 : decode cX6_survey 129 = .ok (.goto 22, 3) := by decide +kernel
theorem dX6_survey_132 : decode cX6_survey 132 = .ok (.aload_n 0, 1) := by decide +kernel
theorem dX6_survey_133 : decode cX6_survey 133 = .ok (.iload_n 3, 1) := by decide +kernel
theorem dX6_survey_134 : decode cX6_survey 134 = .ok (.iload 4, 2) := by decide +kernel
theorem dX6_survey_136 : decode cX6_survey 136 = .ok (.iload 5, 2) := by decide +kernel
theorem dX6_survey_138 : decode cX6_survey 138 = .ok (.invokevirtual 59, 3) := by decide +kernel
theorem dX6_survey_141 : decode cX6_survey 141 = .ok (.aload_n 0, 1) := by decide +kernel
theorem dX6_survey_142 : decode cX6_survey 142 = .ok (.dup, 1) := by decide +kernel
theorem dX6_survey_143 : decode cX6_survey 143 = .ok (.getfield 36, 3) := by decide +kernel
theorem dX6_survey_146 : decode cX6_survey 146 = .ok (.iconst 1, 1) := by decide +kernel
theorem dX6_survey_147 : decode cX6_survey 147 = .ok (.isub, 1) := by decide +kernel
theorem dX6_survey_148 : decode cX6_survey 148 = .ok (.putfield 36, 3) := by decide +kernel
theorem dX6_survey_151 : decode cX6_survey 151 = .ok (.iinc 2 1, 3) := by decide +kernel
theorem dX6_survey_154 : decode cX6_survey 154 = .ok (.goto (-134), 3) := by decide +kernel
theorem dX6_survey_157 : decode cX6_survey 157 = .ok (.aload_n 0, 1) := by decide +kernel
theorem dX6_survey_158 : decode cX6_survey 158 = .ok (.getfield 36, 3) := by decide +kernel
theorem dX6_survey_161 : decode cX6_survey 161 = .ok (.ifCond .ne 7, 3) := by decide +kernel
theorem dX6_survey_164 : decode cX6_survey 164 = .ok (.iconst 1, 1) := by decide +kernel
theorem dX6_survey_165 : decode cX6_survey 165 = .ok (.goto 4, 3) := by decide +kernel
theorem dX6_survey_168 : decode cX6_survey 168 = .ok (.iconst 0, 1) := by decide +kernel
theorem dX6_survey_169 : decode cX6_survey 169 = .ok (.ireturn, 1) := by decide +kernel
theorem dX6_stepOn_0 : decode cX6_stepOn 0 = .ok (.aload_n 0, 1) := by decide +kernel
theorem dX6_stepOn_1 : decode cX6_stepOn 1 = .ok (.getfield 36, 3) := by decide +kernel
theorem dX6_stepOn_4 : decode cX6_stepOn 4 = .ok (.sipush 512, 3) := by decide +kernel
theorem dX6_stepOn_7 : decode cX6_stepOn 7 = .ok (.if_icmp .ge 30, 3) := by decide +kernel
theorem dX6_stepOn_10 : decode cX6_stepOn 10 = .ok (.aload_n 0, 1) := by decide +kernel
theorem dX6_stepOn_11 : decode cX6_stepOn 11 = .ok (.getfield 9, 3) := by decide +kernel
theorem dX6_stepOn_14 : decode cX6_stepOn 14 = .ok (.iload_n 1, 1) := by decide +kernel
theorem dX6_stepOn_15 : decode cX6_stepOn 15 = .ok (.iconst 1, 1) := by decide +kernel
theorem dX6_stepOn_16 : decode cX6_stepOn 16 = .ok (.iastore, 1) := by decide +kernel
theorem dX6_stepOn_17 : decode cX6_stepOn 17 = .ok (.aload_n 0, 1) := by decide +kernel
theorem dX6_stepOn_18 : decode cX6_stepOn 18 = .ok (.getfield 15, 3) := by decide +kernel
theorem dX6_stepOn_21 : decode cX6_stepOn 21 = .ok (.aload_n 0, 1) := by decide +kernel
theorem dX6_stepOn_22 : decode cX6_stepOn 22 = .ok (.getfield 36, 3) := by decide +kernel
theorem dX6_stepOn_25 : decode cX6_stepOn 25 = .ok (.iload_n 1, 1) := by decide +kernel
theorem dX6_stepOn_26 : decode cX6_stepOn 26 = .ok (.iastore, 1) := by decide +kernel
theorem dX6_stepOn_27 : decode cX6_stepOn 27 = .ok (.aload_n 0, 1) := by decide +kernel
theorem dX6_stepOn_28 : decode cX6_stepOn 28 = .ok (.dup, 1) := by decide +kernel
theorem dX6_stepOn_29 : decode cX6_stepOn 29 = .ok (.getfield 36, 3) := by decide +kernel
theorem dX6_stepOn_32 : decode cX6_stepOn 32 = .ok (.iconst 1, 1) := by decide +kernel
theorem dX6_stepOn_33 : decode cX6_stepOn 33 = .ok (.iadd, 1) := by decide +kernel
theorem dX6_stepOn_34 : decode cX6_stepOn 34 = .ok (.putfield 36, 3) := by decide +kernel
theorem dX6_stepOn_37 : decode cX6_stepOn 37 = .ok (.return_, 1) := by decide +kernel
theorem dX6_isMarked_0 : decode cX6_isMarked 0 = .ok (.iload_n 1, 1) := by decide +kernel
theorem dX6_isMarked_1 : decode cX6_isMarked 1 = .ok (.iconst (-1), 1) := by decide +kernel
theorem dX6_isMarked_2 : decode cX6_isMarked 2 = .ok (.if_icmp .eq 17, 3) := by decide +kernel
theorem dX6_isMarked_5 : decode cX6_isMarked 5 = .ok (.aload_n 0, 1) := by decide +kernel
theorem dX6_isMarked_6 : decode cX6_isMarked 6 = .ok (.getfield 9, 3) := by decide +kernel
theorem dX6_isMarked_9 : decode cX6_isMarked 9 = .ok (.iload_n 1, 1) := by decide +kernel
theorem dX6_isMarked_10 : decode cX6_isMarked 10 = .ok (.iaload, 1) := by decide +kernel
theorem dX6_isMarked_11 : decode cX6_isMarked 11 = .ok (.iload_n 2, 1) := by decide +kernel
theorem dX6_isMarked_12 : decode cX6_isMarked 12 = .ok (.if_icmp .ne 7, 3) := by decide +kernel
theorem dX6_isMarked_15 : decode cX6_isMarked 15 = .ok (.iconst 1, 1) := by decide +kernel
theorem dX6_isMarked_16 : decode cX6_isMarked 16 = .ok (.goto 4, 3) := by decide +kernel
theorem dX6_isMarked_19 : decode cX6_isMarked 19 = .ok (.iconst 0, 1) := by decide +kernel
theorem dX6_isMarked_20 : decode cX6_isMarked 20 = .ok (.ireturn, 1) := by decide +kernel
theorem dX6_isOpenEnd_0 : decode cX6_isOpenEnd 0 = .ok (.iload_n 0, 1) := by decide +kernel
theorem dX6_isOpenEnd_1 : decode cX6_isOpenEnd 1 = .ok (.iconst 1, 1) := by decide +kernel
theorem dX6_isOpenEnd_2 : decode cX6_isOpenEnd 2 = .ok (.if_icmp .lt 15, 3) := by decide +kernel
theorem dX6_isOpenEnd_5 : decode cX6_isOpenEnd 5 = .ok (.iload_n 0, 1) := by decide +kernel
theorem dX6_isOpenEnd_6 : decode cX6_isOpenEnd 6 = .ok (.bipush 29, 2) := by decide +kernel
theorem dX6_isOpenEnd_8 : decode cX6_isOpenEnd 8 = .ok (.if_icmp .gt 9, 3) := by decide +kernel
theorem dX6_isOpenEnd_11 : decode cX6_isOpenEnd 11 = .ok (.iload_n 0, 1) := by decide +kernel
theorem dX6_isOpenEnd_12 : decode cX6_isOpenEnd 12 = .ok (.bipush 19, 2) := by decide +kernel
theorem dX6_isOpenEnd_14 : decode cX6_isOpenEnd 14 = .ok (.if_icmp .ne 7, 3) := by decide +kernel
theorem dX6_isOpenEnd_17 : decode cX6_isOpenEnd 17 = .ok (.iconst 1, 1) := by decide +kernel
theorem dX6_isOpenEnd_18 : decode cX6_isOpenEnd 18 = .ok (.goto 4, 3) := by decide +kernel
theorem dX6_isOpenEnd_21 : decode cX6_isOpenEnd 21 = .ok (.iconst 0, 1) := by decide +kernel
theorem dX6_isOpenEnd_22 : decode cX6_isOpenEnd 22 = .ok (.ireturn, 1) := by decide +kernel
theorem dX6_placeBehind_0 : decode cX6_placeBehind 0 = .ok (.aload_n 0, 1) := by decide +kernel
theorem dX6_placeBehind_1 : decode cX6_placeBehind 1 = .ok (.getfield 27, 3) := by decide +kernel
theorem dX6_placeBehind_4 : decode cX6_placeBehind 4 = .ok (.iload_n 1, 1) := by decide +kernel
theorem dX6_placeBehind_5 : decode cX6_placeBehind 5 = .ok (.iaload, 1) := by decide +kernel
theorem dX6_placeBehind_6 : decode cX6_placeBehind 6 = .ok (.istore_n 2, 1) := by decide +kernel
theorem dX6_placeBehind_7 : decode cX6_placeBehind 7 = .ok (.iload_n 2, 1) := by decide +kernel
theorem dX6_placeBehind_8 : decode cX6_placeBehind 8 = .ok (.invokestatic 51, 3) := by decide +kernel
theorem dX6_placeBehind_11 : decode cX6_placeBehind 11 = .ok (.ifCond .ne 15, 3) := by decide +kernel
theorem dX6_placeBehind_14 : decode cX6_placeBehind 14 = .ok (.iload_n 2, 1) := by decide +kernel
theorem dX6_placeBehind_15 : decode cX6_placeBehind 15 = .ok (.bipush 11, 2) := by decide +kernel
theorem dX6_placeBehind_17 : decode cX6_placeBehind 17 = .ok (.if_icmp .eq 9, 3) := by decide +kernel
theorem dX6_placeBehind_20 : decode cX6_placeBehind 20 = .ok (.iload_n 2, 1) := by decide +kernel
theorem dX6_placeBehind_21 : decode cX6_placeBehind 21 = .ok (.bipush 18, 2) := by decide +kernel
theorem dX6_placeBehind_23 : decode cX6_placeBehind 23 = .ok (.if_icmp .ne 5, 3) := by decide +kernel
theorem dX6_placeBehind_26 : decode cX6_placeBehind 26 = .ok (.iconst (-1), 1) := by decide +kernel
theorem dX6_placeBehind_27 : decode cX6_placeBehind 27 = .ok (.ireturn, 1) := by decide +kernel
theorem dX6_placeBehind_28 : decode cX6_placeBehind 28 = .ok (.iload_n 1, 1) := by decide +kernel
theorem dX6_placeBehind_29 : decode cX6_placeBehind 29 = .ok (.getstatic 63, 3) := by decide +kernel
theorem dX6_placeBehind_32 : decode cX6_placeBehind 32 = .ok (.iload_n 2, 1) := by decide +kernel
theorem dX6_placeBehind_33 : decode cX6_placeBehind 33 = .ok (.iaload, 1) := by decide +kernel
theorem dX6_placeBehind_34 : decode cX6_placeBehind 34 = .ok (.iadd, 1) := by decide +kernel
theorem dX6_placeBehind_35 : decode cX6_placeBehind 35 = .ok (.sipush 511, 3) := by decide +kernel
theorem dX6_placeBehind_38 : decode cX6_placeBehind 38 = .ok (.iand, 1) := by decide +kernel
theorem dX6_placeBehind_39 : decode cX6_placeBehind 39 = .ok (.ireturn, 1) := by decide +kernel
theorem dX6_placeTold_0 : decode cX6_placeTold 0 = .ok (.aload_n 0, 1) := by decide +kernel
theorem dX6_placeTold_1 : decode cX6_placeTold 1 = .ok (.getfield 27, 3) := by decide +kernel
theorem dX6_placeTold_4 : decode cX6_placeTold 4 = .ok (.iload_n 1, 1) := by decide +kernel
theorem dX6_placeTold_5 : decode cX6_placeTold 5 = .ok (.iaload, 1) := by decide +kernel
theorem dX6_placeTold_6 : decode cX6_placeTold 6 = .ok (.bipush 11, 2) := by decide +kernel
theorem dX6_placeTold_8 : decode cX6_placeTold 8 = .ok (.if_icmp .lt 14, 3) := by decide +kernel
theorem dX6_placeTold_11 : decode cX6_placeTold 11 = .ok (.aload_n 0, 1) := by decide +kernel
theorem dX6_placeTold_12 : decode cX6_placeTold 12 = .ok (.getfield 27, 3) := by decide +kernel
theorem dX6_placeTold_15 : decode cX6_placeTold 15 = .ok (.iload_n 1, 1) := by decide +kernel
theorem dX6_placeTold_16 : decode cX6_placeTold 16 = .ok (.iaload, 1) := by decide +kernel
theorem dX6_placeTold_17 : decode cX6_placeTold 17 = .ok (.bipush 13, 2) := by decide +kernel
theorem dX6_placeTold_19 : decode cX6_placeTold 19 = .ok (.if_icmp .le 5, 3) := by decide +kernel
theorem dX6_placeTold_22 : decode cX6_placeTold 22 = .ok (.iconst (-1), 1) := by decide +kernel
theorem dX6_placeTold_23 : decode cX6_placeTold 23 = .ok (.ireturn, 1) := by decide +kernel
theorem dX6_placeTold_24 : decode cX6_placeTold 24 = .ok (.sipush 256, 3) := by decide +kernel
theorem dX6_placeTold_27 : decode cX6_placeTold 27 = .ok (.aload_n 0, 1) := by decide +kernel
theorem dX6_placeTold_28 : decode cX6_placeTold 28 = .ok (.getfield 27, 3) := by decide +kernel
theorem dX6_placeTold_31 : decode cX6_placeTold 31 = .ok (.iload_n 1, 1) := by decide +kernel
theorem dX6_placeTold_32 : decode cX6_placeTold 32 = .ok (.iconst 1, 1) := by decide +kernel
theorem dX6_placeTold_33 : decode cX6_placeTold 33 = .ok (.iadd, 1) := by decide +kernel
theorem dX6_placeTold_34 : decode cX6_placeTold 34 = .ok (.sipush 511, 3) := by decide +kernel
theorem dX6_placeTold_37 : decode cX6_placeTold 37 = .ok (.iand, 1) := by decide +kernel
theorem dX6_placeTold_38 : decode cX6_placeTold 38 = .ok (.iaload, 1) := by decide +kernel
theorem dX6_placeTold_39 : decode cX6_placeTold 39 = .ok (.imul, 1) := by decide +kernel
theorem dX6_placeTold_40 : decode cX6_placeTold 40 = .ok (.aload_n 0, 1) := by decide +kernel
theorem dX6_placeTold_41 : decode cX6_placeTold 41 = .ok (.getfield 27, 3) := by decide +kernel
theorem dX6_placeTold_44 : decode cX6_placeTold 44 = .ok (.iload_n 1, 1) := by decide +kernel
theorem dX6_placeTold_45 : decode cX6_placeTold 45 = .ok (.iconst 2, 1) := by decide +kernel
theorem dX6_placeTold_46 : decode cX6_placeTold 46 = .ok (.iadd, 1) := by decide +kernel
theorem dX6_placeTold_47 : decode cX6_placeTold 47 = .ok (.sipush 511, 3) := by decide +kernel
theorem dX6_placeTold_50 : decode cX6_placeTold 50 = .ok (.iand, 1) := by decide +kernel
theorem dX6_placeTold_51 : decode cX6_placeTold 51 = .ok (.iaload, 1) := by decide +kernel
theorem dX6_placeTold_52 : decode cX6_placeTold 52 = .ok (.iadd, 1) := by decide +kernel
theorem dX6_placeTold_53 : decode cX6_placeTold 53 = .ok (.sipush 511, 3) := by decide +kernel
theorem dX6_placeTold_56 : decode cX6_placeTold 56 = .ok (.iand, 1) := by decide +kernel
theorem dX6_placeTold_57 : decode cX6_placeTold 57 = .ok (.ireturn, 1) := by decide +kernel
theorem dX6_measure_0 : decode cX6_measure 0 = .ok (.aload_n 0, 1) := by decide +kernel
theorem dX6_measure_1 : decode cX6_measure 1 = .ok (.getfield 27, 3) := by decide +kernel
theorem dX6_measure_4 : decode cX6_measure 4 = .ok (.iload_n 1, 1) := by decide +kernel
theorem dX6_measure_5 : decode cX6_measure 5 = .ok (.iaload, 1) := by decide +kernel
theorem dX6_measure_6 : decode cX6_measure 6 = .ok (.istore 4, 2) := by decide +kernel
theorem dX6_measure_8 : decode cX6_measure 8 = .ok (.iconst 0, 1) := by decide +kernel
theorem dX6_measure_9 : decode cX6_measure 9 = .ok (.istore 5, 2) := by decide +kernel
theorem dX6_measure_11 : decode cX6_measure 11 = .ok (.iconst 0, 1) := by decide +kernel
theorem dX6_measure_12 : decode cX6_measure 12 = .ok (.istore 6, 2) := by decide +kernel
theorem dX6_measure_14 : decode cX6_measure 14 = .ok (.iload_n 2, 1) := by decide +kernel
theorem dX6_measure_15 : decode cX6_measure 15 = .ok (.iconst (-1), 1) := by decide +kernel
theorem dX6_measure_16 : decode cX6_measure 16 = .ok (.if_icmp .eq 19, 3) := by decide +kernel
theorem dX6_measure_19 : decode cX6_measure 19 = .ok (.aload_n 0, 1) := by decide +kernel
theorem dX6_measure_20 : decode cX6_measure 20 = .ok (.getfield 21, 3) := by decide +kernel
theorem dX6_measure_23 : decode cX6_measure 23 = .ok (.iload_n 2, 1) := by decide +kernel
theorem dX6_measure_24 : decode cX6_measure 24 = .ok (.iaload, 1) := by decide +kernel
theorem dX6_measure_25 : decode cX6_measure 25 = .ok (.istore 5, 2) := by decide +kernel
theorem dX6_measure_27 : decode cX6_measure 27 = .ok (.aload_n 0, 1) := by decide +kernel
theorem dX6_measure_28 : decode cX6_measure 28 = .ok (.getfield 24, 3) := by decide +kernel
theorem dX6_measure_31 : decode cX6_measure 31 = .ok (.iload_n 2, 1) := by decide +kernel
theorem dX6_measure_32 : decode cX6_measure 32 = .ok (.iaload, 1) := by decide +kernel
theorem dX6_measure_33 : decode cX6_measure 33 = .ok (.istore 6, 2) := by decide +kernel
theorem dX6_measure_35 : decode cX6_measure 35 = .ok (.iload_n 3, 1) := by decide +kernel
theorem dX6_measure_36 : decode cX6_measure 36 = .ok (.iconst (-1), 1) := by decide +kernel
theorem dX6_measure_37 : decode cX6_measure 37 = .ok (.if_icmp .eq 29, 3) := by decide +kernel
theorem dX6_measure_40 : decode cX6_measure 40 = .ok (.iload 5, 2) := by decide +kernel
theorem dX6_measure_42 : decode cX6_measure 42 = .ok (.aload_n 0, 1) := by decide +kernel
theorem dX6_measure_43 : decode cX6_measure 43 = .ok (.getfield 21, 3) := by decide +kernel
theorem dX6_measure_46 : decode cX6_measure 46 = .ok (.iload_n 3, 1) := by decide +kernel
theorem dX6_measure_47 : decode cX6_measure 47 = .ok (.iaload, 1) := by decide +kernel
theorem dX6_measure_48 : decode cX6_measure 48 = .ok (.invokestatic 66, 3) := by decide +kernel
theorem dX6_measure_51 : decode cX6_measure 51 = .ok (.istore 5, 2) := by decide +kernel
theorem dX6_measure_53 : decode cX6_measure 53 = .ok (.iload 6, 2) := by decide +kernel
theorem dX6_measure_55 : decode cX6_measure 55 = .ok (.aload_n 0, 1) := by decide +kernel
theorem dX6_measure_56 : decode cX6_measure 56 = .ok (.getfield 24, 3) := by decide +kernel
theorem dX6_measure_59 : decode cX6_measure 59 = .ok (.iload_n 3, 1) := by decide +kernel
theorem dX6_measure_60 : decode cX6_measure 60 = .ok (.iaload, 1) := by decide +kernel
theorem dX6_measure_61 : decode cX6_measure 61 = .ok (.invokestatic 66, 3) := by decide +kernel
theorem dX6_measure_64 : decode cX6_measure 64 = .ok (.istore 6, 2) := by decide +kernel
theorem dX6_measure_66 : decode cX6_measure 66 = .ok (.aload_n 0, 1) := by decide +kernel
theorem dX6_measure_67 : decode cX6_measure 67 = .ok (.getfield 21, 3) := by decide +kernel
theorem dX6_measure_70 : decode cX6_measure 70 = .ok (.iload_n 1, 1) := by decide +kernel
theorem dX6_measure_71 : decode cX6_measure 71 = .ok (.iload 5, 2) := by decide +kernel
theorem dX6_measure_73 : decode cX6_measure 73 = .ok (.iload 4, 2) := by decide +kernel
theorem dX6_measure_75 : decode cX6_measure 75 = .ok (.invokestatic 51, 3) := by decide +kernel
theorem dX6_measure_78 : decode cX6_measure 78 = .ok (.ifCond .eq 7, 3) := by decide +kernel
theorem dX6_measure_81 : decode cX6_measure 81 = .ok (.iconst 0, 1) := by decide +kernel
theorem dX6_measure_82 : decode cX6_measure 82 = .ok (.goto 9, 3) := by decide +kernel
theorem dX6_measure_85 : decode cX6_measure 85 = .ok (.getstatic 72, 3) := by decide +kernel
theorem dX6_measure_88 : decode cX6_measure 88 = .ok (.iload 4, 2) := by decide +kernel
theorem dX6_measure_90 : decode cX6_measure 90 = .ok (.iaload, 1) := by decide +kernel
theorem dX6_measure_91 : decode cX6_measure 91 = .ok (.iadd, 1) := by decide +kernel
theorem dX6_measure_92 : decode cX6_measure 92 = .ok (.iastore, 1) := by decide +kernel
theorem dX6_measure_93 : decode cX6_measure 93 = .ok (.aload_n 0, 1) := by decide +kernel
theorem dX6_measure_94 : decode cX6_measure 94 = .ok (.getfield 24, 3) := by decide +kernel
theorem dX6_measure_97 : decode cX6_measure 97 = .ok (.iload_n 1, 1) := by decide +kernel
theorem dX6_measure_98 : decode cX6_measure 98 = .ok (.iconst 0, 1) := by decide +kernel
theorem dX6_measure_99 : decode cX6_measure 99 = .ok (.iload 6, 2) := by decide +kernel
theorem dX6_measure_101 : decode cX6_measure 101 = .ok (.iload 4, 2) := by decide +kernel
theorem dX6_measure_103 : decode cX6_measure 103 = .ok (.bipush 9, 2) := by decide +kernel
theorem dX6_measure_105 : decode cX6_measure 105 = .ok (.if_icmp .ne 7, 3) := by decide +kernel
theorem dX6_measure_108 : decode cX6_measure 108 = .ok (.iconst 1, 1) := by decide +kernel
theorem dX6_measure_109 : decode cX6_measure 109 = .ok (.goto 4, 3) := by decide +kernel
theorem dX6_measure_112 : decode cX6_measure 112 = .ok (.iconst 0, 1) := by decide +kernel
theorem dX6_measure_113 : decode cX6_measure 113 = .ok (.iadd, 1) := by decide +kernel
theorem dX6_measure_114 : decode cX6_measure 114 = .ok (.iload 4, 2) := by decide +kernel
theorem dX6_measure_116 : decode cX6_measure 116 = .ok (.bipush 10, 2) := by decide +kernel
theorem dX6_measure_118 : decode cX6_measure 118 = .ok (.if_icmp .ne 7, 3) := by decide +kernel
theorem dX6_measure_121 : decode cX6_measure 121 = .ok (.iconst 1, 1) := by decide +kernel
theorem dX6_measure_122 : decode cX6_measure 122 = .ok (.goto 4, 3) := by decide +kernel
theorem dX6_measure_125 : decode cX6_measure 125 = .ok (.iconst 0, 1) := by decide +kernel
theorem dX6_measure_126 : decode cX6_measure 126 = .ok (.isub, 1) := by decide +kernel
theorem dX6_measure_127 : decode cX6_measure 127 = .ok (.invokestatic 66, 3) := by decide +kernel
theorem dX6_measure_130 : decode cX6_measure 130 = .ok (.iastore, 1) := by decide +kernel
theorem dX6_measure_131 : decode cX6_measure 131 = .ok (.aload_n 0, 1) := by decide +kernel
theorem dX6_measure_132 : decode cX6_measure 132 = .ok (.getfield 9, 3) := by decide +kernel
theorem dX6_measure_135 : decode cX6_measure 135 = .ok (.iload_n 1, 1) := by decide +kernel
theorem dX6_measure_136 : decode cX6_measure 136 = .ok (.iconst 2, 1) := by decide +kernel
theorem dX6_measure_137 : decode cX6_measure 137 = .ok (.iastore, 1) := by decide +kernel
theorem dX6_measure_138 : decode cX6_measure 138 = .ok (.return_, 1) := by decide +kernel
theorem dX6_roomFor_0 : decode cX6_roomFor 0 = .ok (.iconst 0, 1) := by decide +kernel
theorem dX6_roomFor_1 : decode cX6_roomFor 1 = .ok (.istore_n 3, 1) := by decide +kernel
theorem dX6_roomFor_2 : decode cX6_roomFor 2 = .ok (.iload_n 3, 1) := by decide +kernel
theorem dX6_roomFor_3 : decode cX6_roomFor 3 = .ok (.bipush 21, 2) := by decide +kernel
theorem dX6_roomFor_5 : decode cX6_roomFor 5 = .ok (.if_icmp .ge 50, 3) := by decide +kernel
theorem dX6_roomFor_8 : decode cX6_roomFor 8 = .ok (.aload_n 1, 1) := by decide +kernel
theorem dX6_roomFor_9 : decode cX6_roomFor 9 = .ok (.getfield 75, 3) := by decide +kernel
theorem dX6_roomFor_12 : decode cX6_roomFor 12 = .ok (.iload_n 3, 1) := by decide +kernel
theorem dX6_roomFor_13 : decode cX6_roomFor 13 = .ok (.baload, 1) := by decide +kernel
theorem dX6_roomFor_14 : decode cX6_roomFor 14 = .ok (.ifCond .eq 35, 3) := by decide +kernel
theorem dX6_roomFor_17 : decode cX6_roomFor 17 = .ok (.aload_n 0, 1) := by decide +kernel
theorem dX6_roomFor_18 : decode cX6_roomFor 18 = .ok (.aload_n 1, 1) := by decide +kernel
theorem dX6_roomFor_19 : decode cX6_roomFor 19 = .ok (.getfield 81, 3) := by decide +kernel
theorem dX6_roomFor_22 : decode cX6_roomFor 22 = .ok (.iload_n 3, 1) := by decide +kernel
theorem dX6_roomFor_23 : decode cX6_roomFor 23 = .ok (.iaload, 1) := by decide +kernel
theorem dX6_roomFor_24 : decode cX6_roomFor 24 = .ok (.invokevirtual 84, 3) := by decide +kernel
theorem dX6_roomFor_27 : decode cX6_roomFor 27 = .ok (.ifCond .ne 5, 3) := by decide +kernel
theorem dX6_roomFor_30 : decode cX6_roomFor 30 = .ok (.iconst (-1), 1) := by decide +kernel
theorem dX6_roomFor_31 : decode cX6_roomFor 31 = .ok (.ireturn, 1) := by decide +kernel
theorem dX6_roomFor_32 : decode cX6_roomFor 32 = .ok (.aload_n 0, 1) := by decide +kernel
theorem dX6_roomFor_33 : decode cX6_roomFor 33 = .ok (.getfield 18, 3) := by decide +kernel
theorem dX6_roomFor_36 : decode cX6_roomFor 36 = .ok (.iload_n 3, 1) := by decide +kernel
theorem dX6_roomFor_37 : decode cX6_roomFor 37 = .ok (.aload_n 0, 1) := by decide +kernel
theorem dX6_roomFor_38 : decode cX6_roomFor 38 = .ok (.getfield 24, 3) := by decide +kernel
theorem dX6_roomFor_41 : decode cX6_roomFor 41 = .ok (.aload_n 1, 1) := by decide +kernel
theorem dX6_roomFor_42 : decode cX6_roomFor 42 = .ok (.getfield 81, 3) := by decide +kernel
theorem dX6_roomFor_45 : decode cX6_roomFor 45 = .ok (.iload_n 3, 1) := by decide +kernel
theorem dX6_roomFor_46 : decode cX6_roomFor 46 = .ok (.iaload, 1) := by decide +kernel
theorem dX6_roomFor_47 : decode cX6_roomFor 47 = .ok (.iaload, 1) := by decide +kernel
theorem dX6_roomFor_48 : decode cX6_roomFor 48 = .ok (.iastore, 1) := by decide +kernel
theorem dX6_roomFor_49 : decode cX6_roomFor 49 = .ok (.iinc 3 1, 3) := by decide +kernel
theorem dX6_roomFor_52 : decode cX6_roomFor 52 = .ok (.goto (-50), 3) := by decide +kernel
theorem dX6_roomFor_55 : decode cX6_roomFor 55 = .ok (.iconst 0, 1) := by decide +kernel
theorem dX6_roomFor_56 : decode cX6_roomFor 56 = .ok (.istore_n 3, 1) := by decide +kernel
theorem dX6_roomFor_57 : decode cX6_roomFor 57 = .ok (.iconst 0, 1) := by decide +kernel
theorem dX6_roomFor_58 : decode cX6_roomFor 58 = .ok (.istore 4, 2) := by decide +kernel
theorem dX6_roomFor_60 : decode cX6_roomFor 60 = .ok (.iload 4, 2) := by decide +kernel
theorem dX6_roomFor_62 : decode cX6_roomFor 62 = .ok (.bipush 21, 2) := by decide +kernel
theorem dX6_roomFor_64 : decode cX6_roomFor 64 = .ok (.if_icmp .ge 30, 3) := by decide +kernel
theorem dX6_roomFor_67 : decode cX6_roomFor 67 = .ok (.aload_n 1, 1) := by decide +kernel
theorem dX6_roomFor_68 : decode cX6_roomFor 68 = .ok (.iload 4, 2) := by decide +kernel
theorem dX6_roomFor_70 : decode cX6_roomFor 70 = .ok (.invokestatic 87, 3) := by decide +kernel
theorem dX6_roomFor_73 : decode cX6_roomFor 73 = .ok (.ifCond .eq 15, 3) := by decide +kernel
theorem dX6_roomFor_76 : decode cX6_roomFor 76 = .ok (.iload_n 3, 1) := by decide +kernel
theorem dX6_roomFor_77 : decode cX6_roomFor 77 = .ok (.iload_n 2, 1) := by decide +kernel
theorem dX6_roomFor_78 : decode cX6_roomFor 78 = .ok (.aload_n 0, 1) := by decide +kernel
theorem dX6_roomFor_79 : decode cX6_roomFor 79 = .ok (.aload_n 1, 1) := by decide +kernel
theorem dX6_roomFor_80 : decode cX6_roomFor 80 = .ok (.iload 4, 2) := by decide +kernel
theorem dX6_roomFor_82 : decode cX6_roomFor 82 = .ok (.invokevirtual 91, 3) := by decide +kernel
theorem dX6_roomFor_85 : decode cX6_roomFor 85 = .ok (.iadd, 1) := by decide +kernel
theorem dX6_roomFor_86 : decode cX6_roomFor 86 = .ok (.iadd, 1) := by decide +kernel
theorem dX6_roomFor_87 : decode cX6_roomFor 87 = .ok (.istore_n 3, 1) := by decide +kernel
theorem dX6_roomFor_88 : decode cX6_roomFor 88 = .ok (.iinc 4 1, 3) := by decide +kernel
theorem dX6_roomFor_91 : decode cX6_roomFor 91 = .ok (.goto (-31), 3) := by decide +kernel
theorem dX6_roomFor_94 : decode cX6_roomFor 94 = .ok (.iload_n 3, 1) := by decide +kernel
theorem dX6_roomFor_95 : decode cX6_roomFor 95 = .ok (.ireturn, 1) := by decide +kernel
theorem dX6_isFirstOfGroup_0 : decode cX6_isFirstOfGroup 0 = .ok (.iconst 0, 1) := by decide +kernel
theorem dX6_isFirstOfGroup_1 : decode cX6_isFirstOfGroup 1 = .ok (.istore_n 2, 1) := by decide +kernel
theorem dX6_isFirstOfGroup_2 : decode cX6_isFirstOfGroup 2 = .ok (.iload_n 2, 1) := by decide +kernel
theorem dX6_isFirstOfGroup_3 : decode cX6_isFirstOfGroup 3 = .ok (.iload_n 1, 1) := by decide +kernel
theorem dX6_isFirstOfGroup_4 : decode cX6_isFirstOfGroup 4 = .ok (.if_icmp .ge 20, 3) := by decide +kernel
theorem dX6_isFirstOfGroup_7 : decode cX6_isFirstOfGroup 7 = .ok (.aload_n 0, 1) := by decide +kernel
theorem dX6_isFirstOfGroup_8 : decode cX6_isFirstOfGroup 8 = .ok (.iload_n 2, 1) := by decide +kernel
theorem dX6_isFirstOfGroup_9 : decode cX6_isFirstOfGroup 9 = .ok (.iload_n 1, 1) := by decide +kernel
theorem dX6_isFirstOfGroup_10 : decode cX6_isFirstOfGroup 10 = .ok (.invokestatic 95, 3) := by decide +kernel
theorem dX6_isFirstOfGroup_13 : decode cX6_isFirstOfGroup 13 = .ok (.ifCond .eq 5, 3) := by decide +kernel
theorem dX6_isFirstOfGroup_16 : decode cX6_isFirstOfGroup 16 = .ok (.iconst 0, 1) := by decide +kernel
theorem dX6_isFirstOfGroup_17 : decode cX6_isFirstOfGroup 17 = .ok (.ireturn, 1) := by decide +kernel
theorem dX6_isFirstOfGroup_18 : decode cX6_isFirstOfGroup 18 = .ok (.iinc 2 1, 3) := by decide +kernel
theorem dX6_isFirstOfGroup_21 : decode cX6_isFirstOfGroup 21 = .ok (.goto (-19), 3) := by decide +kernel
theorem dX6_isFirstOfGroup_24 : decode cX6_isFirstOfGroup 24 = .ok (.aload_n 0, 1) := by decide +kernel
theorem dX6_isFirstOfGroup_25 : decode cX6_isFirstOfGroup 25 = .ok (.getfield 75, 3) := by decide +kernel
theorem dX6_isFirstOfGroup_28 : decode cX6_isFirstOfGroup 28 = .ok (.iload_n 1, 1) := by decide +kernel
theorem dX6_isFirstOfGroup_29 : decode cX6_isFirstOfGroup 29 = .ok (.baload, 1) := by decide +kernel
theorem dX6_isFirstOfGroup_30 : decode cX6_isFirstOfGroup 30 = .ok (.ireturn, 1) := by decide +kernel
theorem dX6_mostOfGroup_0 : decode cX6_mostOfGroup 0 = .ok (.iconst 0, 1) := by decide +kernel
theorem dX6_mostOfGroup_1 : decode cX6_mostOfGroup 1 = .ok (.istore_n 3, 1) := by decide +kernel
theorem dX6_mostOfGroup_2 : decode cX6_mostOfGroup 2 = .ok (.iload_n 2, 1) := by decide +kernel
theorem dX6_mostOfGroup_3 : decode cX6_mostOfGroup 3 = .ok (.istore 4, 2) := by decide +kernel
theorem dX6_mostOfGroup_5 : decode cX6_mostOfGroup 5 = .ok (.iload 4, 2) := by decide +kernel
theorem dX6_mostOfGroup_7 : decode cX6_mostOfGroup 7 = .ok (.bipush 21, 2) := by decide +kernel
theorem dX6_mostOfGroup_9 : decode cX6_mostOfGroup 9 = .ok (.if_icmp .ge 31, 3) := by decide +kernel
theorem dX6_mostOfGroup_12 : decode cX6_mostOfGroup 12 = .ok (.aload_n 1, 1) := by decide +kernel
theorem dX6_mostOfGroup_13 : decode cX6_mostOfGroup 13 = .ok (.iload 4, 2) := by decide +kernel
theorem dX6_mostOfGroup_15 : decode cX6_mostOfGroup 15 = .ok (.iload_n 2, 1) := by decide +kernel
theorem dX6_mostOfGroup_16 : decode cX6_mostOfGroup 16 = .ok (.invokestatic 95, 3) := by decide +kernel
theorem dX6_mostOfGroup_19 : decode cX6_mostOfGroup 19 = .ok (.ifCond .eq 15, 3) := by decide +kernel
theorem dX6_mostOfGroup_22 : decode cX6_mostOfGroup 22 = .ok (.iload_n 3, 1) := by decide +kernel
theorem dX6_mostOfGroup_23 : decode cX6_mostOfGroup 23 = .ok (.aload_n 0, 1) := by decide +kernel
theorem dX6_mostOfGroup_24 : decode cX6_mostOfGroup 24 = .ok (.getfield 18, 3) := by decide +kernel
theorem dX6_mostOfGroup_27 : decode cX6_mostOfGroup 27 = .ok (.iload 4, 2) := by decide +kernel
theorem dX6_mostOfGroup_29 : decode cX6_mostOfGroup 29 = .ok (.iaload, 1) := by decide +kernel
theorem dX6_mostOfGroup_30 : decode cX6_mostOfGroup 30 = .ok (.invokestatic 66, 3) := by decide +kernel
theorem dX6_mostOfGroup_33 : decode cX6_mostOfGroup 33 = .ok (.istore_n 3, 1) := by decide +kernel
theorem dX6_mostOfGroup_34 : decode cX6_mostOfGroup 34 = .ok (.iinc 4 1, 3) := by decide +kernel
theorem dX6_mostOfGroup_37 : decode cX6_mostOfGroup 37 = .ok (.goto (-32), 3) := by decide +kernel
theorem dX6_mostOfGroup_40 : decode cX6_mostOfGroup 40 = .ok (.iload_n 3, 1) := by decide +kernel
theorem dX6_mostOfGroup_41 : decode cX6_mostOfGroup 41 = .ok (.ireturn, 1) := by decide +kernel
theorem dX6_areTogether_0 : decode cX6_areTogether 0 = .ok (.aload_n 0, 1) := by decide +kernel
theorem dX6_areTogether_1 : decode cX6_areTogether 1 = .ok (.getfield 75, 3) := by decide +kernel
theorem dX6_areTogether_4 : decode cX6_areTogether 4 = .ok (.iload_n 1, 1) := by decide +kernel
theorem dX6_areTogether_5 : decode cX6_areTogether 5 = .ok (.baload, 1) := by decide +kernel
theorem dX6_areTogether_6 : decode cX6_areTogether 6 = .ok (.ifCond .eq 28, 3) := by decide +kernel
theorem dX6_areTogether_9 : decode cX6_areTogether 9 = .ok (.aload_n 0, 1) := by decide +kernel
theorem dX6_areTogether_10 : decode cX6_areTogether 10 = .ok (.iload_n 1, 1) := by decide +kernel
theorem dX6_areTogether_11 : decode cX6_areTogether 11 = .ok (.aload_n 0, 1) := by decide +kernel
theorem dX6_areTogether_12 : decode cX6_areTogether 12 = .ok (.getfield 99, 3) := by decide +kernel
theorem dX6_areTogether_15 : decode cX6_areTogether 15 = .ok (.invokevirtual 102, 3) := by decide +kernel
theorem dX6_areTogether_18 : decode cX6_areTogether 18 = .ok (.aload_n 0, 1) := by decide +kernel
theorem dX6_areTogether_19 : decode cX6_areTogether 19 = .ok (.iload_n 2, 1) := by decide +kernel
theorem dX6_areTogether_20 : decode cX6_areTogether 20 = .ok (.aload_n 0, 1) := by decide +kernel
theorem dX6_areTogether_21 : decode cX6_areTogether 21 = .ok (.getfield 99, 3) := by decide +kernel
theorem dX6_areTogether_24 : decode cX6_areTogether 24 = .ok (.invokevirtual 102, 3) := by decide +kernel
theorem dX6_areTogether_27 : decode cX6_areTogether 27 = .ok (.if_icmp .ne 7, 3) := by decide +kernel
theorem dX6_areTogether_30 : decode cX6_areTogether 30 = .ok (.iconst 1, 1) := by decide +kernel
theorem dX6_areTogether_31 : decode cX6_areTogether 31 = .ok (.goto 4, 3) := by decide +kernel
theorem dX6_areTogether_34 : decode cX6_areTogether 34 = .ok (.iconst 0, 1) := by decide +kernel
theorem dX6_areTogether_35 : decode cX6_areTogether 35 = .ok (.ireturn, 1) := by decide +kernel
theorem dX7_init_0 : decode cX7_init 0 = .ok (.aload_n 0, 1) := by decide +kernel
theorem dX7_init_1 : decode cX7_init 1 = .ok (.invokespecial 1, 3) := by decide +kernel
theorem dX7_init_4 : decode cX7_init 4 = .ok (.sipush 512, 3) := by decide +kernel
theorem dX7_init_7 : decode cX7_init 7 = .ok (.newarray .int, 2) := by decide +kernel
theorem dX7_init_9 : decode cX7_init 9 = .ok (.astore_n 1, 1) := by decide +kernel
theorem dX7_init_10 : decode cX7_init 10 = .ok (.aload_n 0, 1) := by decide +kernel
theorem dX7_init_11 : decode cX7_init 11 = .ok (.aload_n 1, 1) := by decide +kernel
theorem dX7_init_12 : decode cX7_init 12 = .ok (.putfield 9, 3) := by decide +kernel
theorem dX7_init_15 : decode cX7_init 15 = .ok (.aload_n 0, 1) := by decide +kernel
theorem dX7_init_16 : decode cX7_init 16 = .ok (.new 13, 3) := by decide +kernel
theorem dX7_init_19 : decode cX7_init 19 = .ok (.dup, 1) := by decide +kernel
theorem dX7_init_20 : decode cX7_init 20 = .ok (.aload_n 1, 1) := by decide +kernel
theorem dX7_init_21 : decode cX7_init 21 = .ok (.invokespecial 15, 3) := by decide +kernel
theorem dX7_init_24 : decode cX7_init 24 = .ok (.putfield 18, 3) := by decide +kernel
theorem dX7_init_27 : decode cX7_init 27 = .ok (.aload_n 0, 1) := by decide +kernel
theorem dX7_init_28 : decode cX7_init 28 = .ok (.new 13, 3) := by decide +kernel
theorem dX7_init_31 : decode cX7_init 31 = .ok (.dup, 1) := by decide +kernel
theorem dX7_init_32 : decode cX7_init 32 = .ok (.aload_n 1, 1) := by decide +kernel
theorem dX7_init_33 : decode cX7_init 33 = .ok (.invokespecial 15, 3) := by decide +kernel
theorem dX7_init_36 : decode cX7_init 36 = .ok (.putfield 22, 3) := by decide +kernel
theorem dX7_init_39 : decode cX7_init 39 = .ok (.aload_n 0, 1) := by decide +kernel
theorem dX7_init_40 : decode cX7_init 40 = .ok (.new 25, 3) := by decide +kernel
theorem dX7_init_43 : decode cX7_init 43 = .ok (.dup, 1) := by decide +kernel
theorem dX7_init_44 : decode cX7_init 44 = .ok (.aload_n 1, 1) := by decide +kernel
theorem dX7_init_45 : decode cX7_init 45 = .ok (.invokespecial 27, 3) := by decide +kernel
theorem dX7_init_48 : decode cX7_init 48 = .ok (.putfield 28, 3) := by decide +kernel
theorem dX7_init_51 : decode cX7_init 51 = .ok (.return_, 1) := by decide +kernel
theorem dX7_load_0 : decode cX7_load 0 = .ok (.iload_n 1, 1) := by decide +kernel
theorem dX7_load_1 : decode cX7_load 1 = .ok (.ifCond .lt 10, 3) := by decide +kernel
theorem dX7_load_4 : decode cX7_load 4 = .ok (.iload_n 1, 1) := by decide +kernel
theorem dX7_load_5 : decode cX7_load 5 = .ok (.sipush 504, 3) := by decide +kernel
theorem dX7_load_8 : decode cX7_load 8 = .ok (.if_icmp .le 5, 3) := by decide +kernel
theorem dX7_load_11 : decode cX7_load 11 = .ok (.iconst 0, 1) := by decide +kernel
theorem dX7_load_12 : decode cX7_load 12 = .ok (.ireturn, 1) := by decide +kernel
theorem dX7_load_13 : decode cX7_load 13 = .ok (.iconst 0, 1) := by decide +kernel
theorem dX7_load_14 : decode cX7_load 14 = .ok (.istore 4, 2) := by decide +kernel
theorem dX7_load_16 : decode cX7_load 16 = .ok (.iload 4, 2) := by decide +kernel
theorem dX7_load_18 : decode cX7_load 18 = .ok (.bipush 8, 2) := by decide +kernel
theorem dX7_load_20 : decode cX7_load 20 = .ok (.if_icmp .ge 33, 3) := by decide +kernel
theorem dX7_load_23 : decode cX7_load 23 = .ok (.aload_n 0, 1) := by decide +kernel
theorem dX7_load_24 : decode cX7_load 24 = .ok (.getfield 9, 3) := by decide +kernel
theorem dX7_load_27 : decode cX7_load 27 = .ok (.iload_n 1, 1) := by decide +kernel
theorem dX7_load_28 : decode cX7_load 28 = .ok (.iload 4, 2) := by decide +kernel
theorem dX7_load_30 : decode cX7_load 30 = .ok (.iadd, 1) := by decide +kernel
theorem dX7_load_31 : decode cX7_load 31 = .ok (.lload_n 2, 1) := by decide +kernel
theorem dX7_load_32 : decode cX7_load 32 = .ok (.bipush 56, 2) := by decide +kernel
theorem dX7_load_34 : decode cX7_load 34 = .ok (.bipush 8, 2) := by decide +kernel
theorem dX7_load_36 : decode cX7_load 36 = .ok (.iload 4, 2) := by decide +kernel
theorem dX7_load_38 : decode cX7_load 38 = .ok (.imul, 1) := by decide +kernel
theorem dX7_load_39 : decode cX7_load 39 = .ok (.isub, 1) := by decide +kernel
theorem dX7_load_40 : decode cX7_load 40 = .ok (.lushr, 1) := by decide +kernel
theorem dX7_load_41 : decode cX7_load 41 = .ok (.l2i, 1) := by decide +kernel
theorem dX7_load_42 : decode cX7_load 42 = .ok (.sipush 255, 3) := by decide +kernel
theorem dX7_load_45 : decode cX7_load 45 = .ok (.iand, 1) := by decide +kernel
theorem dX7_load_46 : decode cX7_load 46 = .ok (.iastore, 1) := by decide +kernel
theorem dX7_load_47 : decode cX7_load 47 = .ok (.iinc 4 1, 3) := by decide +kernel
theorem dX7_load_50 : decode cX7_load 50 = .ok (.goto (-34), 3) := by decide +kernel
theorem dX7_load_53 : decode cX7_load 53 = .ok (.iconst 1, 1) := by decide +kernel
theorem dX7_load_54 : decode cX7_load 54 = .ok (.ireturn, 1) := by decide +kernel
theorem dX7_code_0 : decode cX7_code 0 = .ok (.iload_n 1, 1) := by decide +kernel
theorem dX7_code_1 : decode cX7_code 1 = .ok (.invokestatic 32, 3) := by decide +kernel
theorem dX7_code_4 : decode cX7_code 4 = .ok (.ifCond .eq 12, 3) := by decide +kernel
theorem dX7_code_7 : decode cX7_code 7 = .ok (.aload_n 0, 1) := by decide +kernel
theorem dX7_code_8 : decode cX7_code 8 = .ok (.getfield 9, 3) := by decide +kernel
theorem dX7_code_11 : decode cX7_code 11 = .ok (.iload_n 1, 1) := by decide +kernel
theorem dX7_code_12 : decode cX7_code 12 = .ok (.iaload, 1) := by decide +kernel
theorem dX7_code_13 : decode cX7_code 13 = .ok (.goto 4, 3) := by decide +kernel
theorem dX7_code_16 : decode cX7_code 16 = .ok (.iconst (-1), 1) := by decide +kernel
theorem dX7_code_17 : decode cX7_code 17 = .ok (.ireturn, 1) := by decide +kernel
theorem dX7_rank_0 : decode cX7_rank 0 = .ok (.iload_n 1, 1) := by decide +kernel
theorem dX7_rank_1 : decode cX7_rank 1 = .ok (.bipush 20, 2) := by decide +kernel
theorem dX7_rank_3 : decode cX7_rank 3 = .ok (.invokestatic 36, 3) := by decide +kernel
theorem dX7_rank_6 : decode cX7_rank 6 = .ok (.ifCond .eq 29, 3) := by decide +kernel
theorem dX7_rank_9 : decode cX7_rank 9 = .ok (.iload_n 2, 1) := by decide +kernel
theorem dX7_rank_10 : decode cX7_rank 10 = .ok (.ifCond .lt 25, 3) := by decide +kernel
theorem dX7_rank_13 : decode cX7_rank 13 = .ok (.iload_n 2, 1) := by decide +kernel
theorem dX7_rank_14 : decode cX7_rank 14 = .ok (.sipush 255, 3) := by decide +kernel
theorem dX7_rank_17 : decode cX7_rank 17 = .ok (.if_icmp .gt 18, 3) := by decide +kernel
theorem dX7_rank_20 : decode cX7_rank 20 = .ok (.aload_n 0, 1) := by decide +kernel
theorem dX7_rank_21 : decode cX7_rank 21 = .ok (.getfield 18, 3) := by decide +kernel
theorem dX7_rank_24 : decode cX7_rank 24 = .ok (.getfield 40, 3) := by decide +kernel
theorem dX7_rank_27 : decode cX7_rank 27 = .ok (.getfield 44, 3) := by decide +kernel
theorem dX7_rank_30 : decode cX7_rank 30 = .ok (.iload_n 1, 1) := by decide +kernel
theorem dX7_rank_31 : decode cX7_rank 31 = .ok (.baload, 1) := by decide +kernel
theorem dX7_rank_32 : decode cX7_rank 32 = .ok (.ifCond .eq 5, 3) := by decide +kernel
theorem dX7_rank_35 : decode cX7_rank 35 = .ok (.iconst 0, 1) := by decide +kernel
theorem dX7_rank_36 : decode cX7_rank 36 = .ok (.ireturn, 1) := by decide +kernel
theorem dX7_rank_37 : decode cX7_rank 37 = .ok (.aload_n 0, 1) := by decide +kernel
theorem dX7_rank_38 : decode cX7_rank 38 = .ok (.getfield 18, 3) := by decide +kernel
theorem dX7_rank_41 : decode cX7_rank 41 = .ok (.getfield 40, 3) := by decide +kernel
theorem dX7_rank_44 : decode cX7_rank 44 = .ok (.getfield 50, 3) := by decide +kernel
theorem dX7_rank_47 : decode cX7_rank 47 = .ok (.iload_n 1, 1) := by decide +kernel
theorem dX7_rank_48 : decode cX7_rank 48 = .ok (.iload_n 2, 1) := by decide +kernel
theorem dX7_rank_49 : decode cX7_rank 49 = .ok (.iastore, 1) := by decide +kernel
theorem dX7_rank_50 : decode cX7_rank 50 = .ok (.iconst 1, 1) := by decide +kernel
theorem dX7_rank_51 : decode cX7_rank 51 = .ok (.ireturn, 1) := by decide +kernel
theorem dX7_enable_0 : decode cX7_enable 0 = .ok (.iload_n 1, 1) := by decide +kernel
theorem dX7_enable_1 : decode cX7_enable 1 = .ok (.bipush 20, 2) := by decide +kernel
theorem dX7_enable_3 : decode cX7_enable 3 = .ok (.invokestatic 36, 3) := by decide +kernel
theorem dX7_enable_6 : decode cX7_enable 6 = .ok (.ifCond .ne 5, 3) := by decide +kernel
theorem dX7_enable_9 : decode cX7_enable 9 = .ok (.iconst 0, 1) := by decide +kernel
theorem dX7_enable_10 : decode cX7_enable 10 = .ok (.ireturn, 1) := by decide +kernel
theorem dX7_enable_11 : decode cX7_enable 11 = .ok (.aload_n 0, 1) := by decide +kernel
theorem dX7_enable_12 : decode cX7_enable 12 = .ok (.getfield 18, 3) := by decide +kernel
theorem dX7_enable_15 : decode cX7_enable 15 = .ok (.getfield 40, 3) := by decide +kernel
theorem dX7_enable_18 : decode cX7_enable 18 = .ok (.getfield 53, 3) := by decide +kernel
theorem dX7_enable_21 : decode cX7_enable 21 = .ok (.iload_n 1, 1) := by decide +kernel
theorem dX7_enable_22 : decode cX7_enable 22 = .ok (.iload_n 2, 1) := by decide +kernel
theorem dX7_enable_23 : decode cX7_enable 23 = .ok (.bastore, 1) := by decide +kernel
theorem dX7_enable_24 : decode cX7_enable 24 = .ok (.iconst 1, 1) := by decide +kernel
theorem dX7_enable_25 : decode cX7_enable 25 = .ok (.ireturn, 1) := by decide +kernel
theorem dX7_vector_0 : decode cX7_vector 0 = .ok (.iload_n 1, 1) := by decide +kernel
theorem dX7_vector_1 : decode cX7_vector 1 = .ok (.bipush 21, 2) := by decide +kernel
theorem dX7_vector_3 : decode cX7_vector 3 = .ok (.invokestatic 36, 3) := by decide +kernel
theorem dX7_vector_6 : decode cX7_vector 6 = .ok (.ifCond .eq 10, 3) := by decide +kernel
theorem dX7_vector_9 : decode cX7_vector 9 = .ok (.iload_n 2, 1) := by decide +kernel
theorem dX7_vector_10 : decode cX7_vector 10 = .ok (.invokestatic 32, 3) := by decide +kernel
theorem dX7_vector_13 : decode cX7_vector 13 = .ok (.ifCond .ne 5, 3) := by decide +kernel
theorem dX7_vector_16 : decode cX7_vector 16 = .ok (.iconst 0, 1) := by decide +kernel
theorem dX7_vector_17 : decode cX7_vector 17 = .ok (.ireturn, 1) := by decide +kernel
theorem dX7_vector_18 : decode cX7_vector 18 = .ok (.aload_n 0, 1) := by decide +kernel
theorem dX7_vector_19 : decode cX7_vector 19 = .ok (.getfield 18, 3) := by decide +kernel
theorem dX7_vector_22 : decode cX7_vector 22 = .ok (.getfield 40, 3) := by decide +kernel
theorem dX7_vector_25 : decode cX7_vector 25 = .ok (.getfield 56, 3) := by decide +kernel
theorem dX7_vector_28 : decode cX7_vector 28 = .ok (.iload_n 1, 1) := by decide +kernel
theorem dX7_vector_29 : decode cX7_vector 29 = .ok (.iload_n 2, 1) := by decide +kernel
theorem dX7_vector_30 : decode cX7_vector 30 = .ok (.iastore, 1) := by decide +kernel
theorem dX7_vector_31 : decode cX7_vector 31 = .ok (.iconst 1, 1) := by decide +kernel
theorem dX7_vector_32 : decode cX7_vector 32 = .ok (.ireturn, 1) := by decide +kernel
theorem dX7_split_0 : decode cX7_split 0 = .ok (.iload_n 1, 1) := by decide +kernel
theorem dX7_split_1 : decode cX7_split 1 = .ok (.ifCond .lt 22, 3) := by decide +kernel
theorem dX7_split_4 : decode cX7_split 4 = .ok (.iload_n 1, 1) := by decide +kernel
theorem dX7_split_5 : decode cX7_split 5 = .ok (.bipush 7, 2) := by decide +kernel
theorem dX7_split_7 : decode cX7_split 7 = .ok (.if_icmp .gt 16, 3) := by decide +kernel
theorem dX7_split_10 : decode cX7_split 10 = .ok (.aload_n 0, 1) := by decide +kernel
theorem dX7_split_11 : decode cX7_split 11 = .ok (.getfield 18, 3) := by decide +kernel
theorem dX7_split_14 : decode cX7_split 14 = .ok (.getfield 40, 3) := by decide +kernel
theorem dX7_split_17 : decode cX7_split 17 = .ok (.getfield 59, 3) := by decide +kernel
theorem dX7_split_20 : decode cX7_split 20 = .ok (.ifCond .le 5, 3) := by decide +kernel
theorem dX7_split_23 : decode cX7_split 23 = .ok (.iconst 0, 1) := by decide +kernel
theorem dX7_split_24 : decode cX7_split 24 = .ok (.ireturn, 1) := by decide +kernel
theorem dX7_split_25 : decode cX7_split 25 = .ok (.aload_n 0, 1) := by decide +kernel
theorem dX7_split_26 : decode cX7_split 26 = .ok (.getfield 18, 3) := by decide +kernel
theorem dX7_split_29 : decode cX7_split 29 = .ok (.getfield 40, 3) := by decide +kernel
theorem dX7_split_32 : decode cX7_split 32 = .ok (.iload_n 1, 1) := by decide +kernel
theorem dX7_split_33 : decode cX7_split 33 = .ok (.putfield 63, 3) := by decide +kernel
theorem dX7_split_36 : decode cX7_split 36 = .ok (.iconst 1, 1) := by decide +kernel
theorem dX7_split_37 : decode cX7_split 37 = .ok (.ireturn, 1) := by decide +kernel
theorem dX7_hold_0 : decode cX7_hold 0 = .ok (.iload_n 1, 1) := by decide +kernel
theorem dX7_hold_1 : decode cX7_hold 1 = .ok (.bipush 8, 2) := by decide +kernel
theorem dX7_hold_3 : decode cX7_hold 3 = .ok (.if_icmp .lt 25, 3) := by decide +kernel
theorem dX7_hold_6 : decode cX7_hold 6 = .ok (.iload_n 1, 1) := by decide +kernel
theorem dX7_hold_7 : decode cX7_hold 7 = .ok (.bipush 15, 2) := by decide +kernel
theorem dX7_hold_9 : decode cX7_hold 9 = .ok (.if_icmp .gt 19, 3) := by decide +kernel
theorem dX7_hold_12 : decode cX7_hold 12 = .ok (.aload_n 0, 1) := by decide +kernel
theorem dX7_hold_13 : decode cX7_hold 13 = .ok (.getfield 18, 3) := by decide +kernel
theorem dX7_hold_16 : decode cX7_hold 16 = .ok (.getfield 40, 3) := by decide +kernel
theorem dX7_hold_19 : decode cX7_hold 19 = .ok (.getfield 66, 3) := by decide +kernel
theorem dX7_hold_22 : decode cX7_hold 22 = .ok (.iload_n 1, 1) := by decide +kernel
theorem dX7_hold_23 : decode cX7_hold 23 = .ok (.baload, 1) := by decide +kernel
theorem dX7_hold_24 : decode cX7_hold 24 = .ok (.iload_n 2, 1) := by decide +kernel
theorem dX7_hold_25 : decode cX7_hold 25 = .ok (.if_icmp .ne 5, 3) := by decide +kernel
theorem dX7_hold_28 : decode cX7_hold 28 = .ok (.iconst 0, 1) := by decide +kernel
theorem dX7_hold_29 : decode cX7_hold 29 = .ok (.ireturn, 1) := by decide +kernel
theorem dX7_hold_30 : decode cX7_hold 30 = .ok (.aload_n 0, 1) := by decide +kernel
theorem dX7_hold_31 : decode cX7_hold 31 = .ok (.getfield 18, 3) := by decide +kernel
theorem dX7_hold_34 : decode cX7_hold 34 = .ok (.getfield 40, 3) := by decide +kernel
theorem dX7_hold_37 : decode cX7_hold 37 = .ok (.getfield 66, 3) := by decide +kernel
theorem dX7_hold_40 : decode cX7_hold 40 = .ok (.iload_n 1, 1) := by decide +kernel
theorem dX7_hold_41 : decode cX7_hold 41 = .ok (.iload_n 2, 1) := by decide +kernel
theorem dX7_hold_42 : decode cX7_hold 42 = .ok (.bastore, 1) := by decide +kernel
theorem dX7_hold_43 : decode cX7_hold 43 = .ok (.iload_n 2, 1) := by decide +kernel
theorem dX7_hold_44 : decode cX7_hold 44 = .ok (.ifCond .eq 22, 3) := by decide +kernel
theorem dX7_hold_47 : decode cX7_hold 47 = .ok (.aload_n 0, 1) := by decide +kernel
theorem dX7_hold_48 : decode cX7_hold 48 = .ok (.getfield 18, 3) := by decide +kernel
theorem dX7_hold_51 : decode cX7_hold 51 = .ok (.getfield 40, 3) := by decide +kernel
theorem dX7_hold_54 : decode cX7_hold 54 = .ok (.iload_n 1, 1) := by decide +kernel
theorem dX7_hold_55 : decode cX7_hold 55 = .ok (.aload_n 0, 1) := by decide +kernel
theorem dX7_hold_56 : decode cX7_hold 56 = .ok (.getfield 18, 3) := by decide +kernel
theorem dX7_hold_59 : decode cX7_hold 59 = .ok (.getfield 69, 3) := by decide +kernel
theorem dX7_hold_62 : decode cX7_hold 62 = .ok (.invokevirtual 72, 3) := by decide +kernel
theorem dX7_hold_65 : decode cX7_hold 65 = .ok (.pop, 1) := by decide +kernel
theorem dX7_hold_66 : decode cX7_hold 66 = .ok (.iconst 1, 1) := by decide +kernel
theorem dX7_hold_67 : decode cX7_hold 67 = .ok (.ireturn, 1) := by decide +kernel
theorem dX7_pend_0 : decode cX7_pend 0 = .ok (.iload_n 1, 1) := by decide +kernel
theorem dX7_pend_1 : decode cX7_pend 1 = .ok (.bipush 20, 2) := by decide +kernel
theorem dX7_pend_3 : decode cX7_pend 3 = .ok (.invokestatic 36, 3) := by decide +kernel
theorem dX7_pend_6 : decode cX7_pend 6 = .ok (.ifCond .eq 28, 3) := by decide +kernel
theorem dX7_pend_9 : decode cX7_pend 9 = .ok (.aload_n 0, 1) := by decide +kernel
theorem dX7_pend_10 : decode cX7_pend 10 = .ok (.getfield 18, 3) := by decide +kernel
theorem dX7_pend_13 : decode cX7_pend 13 = .ok (.getfield 40, 3) := by decide +kernel
theorem dX7_pend_16 : decode cX7_pend 16 = .ok (.iload_n 1, 1) := by decide +kernel
theorem dX7_pend_17 : decode cX7_pend 17 = .ok (.aload_n 0, 1) := by decide +kernel
theorem dX7_pend_18 : decode cX7_pend 18 = .ok (.getfield 18, 3) := by decide +kernel
theorem dX7_pend_21 : decode cX7_pend 21 = .ok (.getfield 69, 3) := by decide +kernel
theorem dX7_pend_24 : decode cX7_pend 24 = .ok (.invokevirtual 72, 3) := by decide +kernel
theorem dX7_pend_27 : decode cX7_pend 27 = .ok (.ifCond .eq 7, 3) := by decide +kernel
theorem dX7_pend_30 : decode cX7_pend 30 = .ok (.iconst 1, 1) := by decide +kernel
theorem dX7_pend_31 : decode cX7_pend 31 = .ok (.goto 4, 3) := by decide +kernel
theorem dX7_pend_34 : decode cX7_pend 34 = .ok (.iconst 0, 1) := by decide +kernel
theorem dX7_pend_35 : decode cX7_pend 35 = .ok (.ireturn, 1) := by decide +kernel
theorem dX7_clear_0 : decode cX7_clear 0 = .ok (.iload_n 1, 1) := by decide +kernel
theorem dX7_clear_1 : decode cX7_clear 1 = .ok (.bipush 21, 2) := by decide +kernel
theorem dX7_clear_3 : decode cX7_clear 3 = .ok (.invokestatic 36, 3) := by decide +kernel
theorem dX7_clear_6 : decode cX7_clear 6 = .ok (.ifCond .eq 21, 3) := by decide +kernel
theorem dX7_clear_9 : decode cX7_clear 9 = .ok (.aload_n 0, 1) := by decide +kernel
theorem dX7_clear_10 : decode cX7_clear 10 = .ok (.getfield 18, 3) := by decide +kernel
theorem dX7_clear_13 : decode cX7_clear 13 = .ok (.getfield 40, 3) := by decide +kernel
theorem dX7_clear_16 : decode cX7_clear 16 = .ok (.iload_n 1, 1) := by decide +kernel
theorem dX7_clear_17 : decode cX7_clear 17 = .ok (.invokevirtual 75, 3) := by decide +kernel
theorem dX7_clear_20 : decode cX7_clear 20 = .ok (.ifCond .eq 7, 3) := by decide +kernel
theorem dX7_clear_23 : decode cX7_clear 23 = .ok (.iconst 1, 1) := by decide +kernel
theorem dX7_clear_24 : decode cX7_clear 24 = .ok (.goto 4, 3) := by decide +kernel
theorem dX7_clear_27 : decode cX7_clear 27 = .ok (.iconst 0, 1) := by decide +kernel
theorem dX7_clear_28 : decode cX7_clear 28 = .ok (.ireturn, 1) := by decide +kernel
theorem dX7_timer_0 : decode cX7_timer 0 = .ok (.iload_n 1, 1) := by decide +kernel
theorem dX7_timer_1 : decode cX7_timer 1 = .ok (.ifCond .lt 10, 3) := by decide +kernel
theorem dX7_timer_4 : decode cX7_timer 4 = .ok (.iload_n 1, 1) := by decide +kernel
theorem dX7_timer_5 : decode cX7_timer 5 = .ok (.sipush 999, 3) := by decide +kernel
theorem dX7_timer_8 : decode cX7_timer 8 = .ok (.if_icmp .le 5, 3) := by decide +kernel
theorem dX7_timer_11 : decode cX7_timer 11 = .ok (.iconst 0, 1) := by decide +kernel
theorem dX7_timer_12 : decode cX7_timer 12 = .ok (.ireturn, 1) := by decide +kernel
theorem dX7_timer_13 : decode cX7_timer 13 = .ok (.aload_n 0, 1) := by decide +kernel
theorem dX7_timer_14 : decode cX7_timer 14 = .ok (.getfield 18, 3) := by decide +kernel
theorem dX7_timer_17 : decode cX7_timer 17 = .ok (.getfield 78, 3) := by decide +kernel
theorem dX7_timer_20 : decode cX7_timer 20 = .ok (.iload_n 1, 1) := by decide +kernel
theorem dX7_timer_21 : decode cX7_timer 21 = .ok (.putfield 82, 3) := by decide +kernel
theorem dX7_timer_24 : decode cX7_timer 24 = .ok (.aload_n 0, 1) := by decide +kernel
theorem dX7_timer_25 : decode cX7_timer 25 = .ok (.getfield 18, 3) := by decide +kernel
theorem dX7_timer_28 : decode cX7_timer 28 = .ok (.getfield 78, 3) := by decide +kernel
theorem dX7_timer_31 : decode cX7_timer 31 = .ok (.iload_n 1, 1) := by decide +kernel
theorem dX7_timer_32 : decode cX7_timer 32 = .ok (.putfield 87, 3) := by decide +kernel
theorem dX7_timer_35 : decode cX7_timer 35 = .ok (.iconst 1, 1) := by decide +kernel
theorem dX7_timer_36 : decode cX7_timer 36 = .ok (.ireturn, 1) := by decide +kernel
theorem dX7_arrive_0 : decode cX7_arrive 0 = .ok (.iload_n 1, 1) := by decide +kernel
theorem dX7_arrive_1 : decode cX7_arrive 1 = .ok (.bipush 18, 2) := by decide +kernel
theorem dX7_arrive_3 : decode cX7_arrive 3 = .ok (.invokestatic 36, 3) := by decide +kernel
theorem dX7_arrive_6 : decode cX7_arrive 6 = .ok (.ifCond .eq 15, 3) := by decide +kernel
theorem dX7_arrive_9 : decode cX7_arrive 9 = .ok (.iload_n 2, 1) := by decide +kernel
theorem dX7_arrive_10 : decode cX7_arrive 10 = .ok (.iconst 1, 1) := by decide +kernel
theorem dX7_arrive_11 : decode cX7_arrive 11 = .ok (.if_icmp .lt 10, 3) := by decide +kernel
theorem dX7_arrive_14 : decode cX7_arrive 14 = .ok (.iload_n 2, 1) := by decide +kernel
theorem dX7_arrive_15 : decode cX7_arrive 15 = .ok (.sipush 999, 3) := by decide +kernel
theorem dX7_arrive_18 : decode cX7_arrive 18 = .ok (.if_icmp .le 5, 3) := by decide +kernel
theorem dX7_arrive_21 : decode cX7_arrive 21 = .ok (.iconst 0, 1) := by decide +kernel
theorem dX7_arrive_22 : decode cX7_arrive 22 = .ok (.ireturn, 1) := by decide +kernel
theorem dX7_arrive_23 : decode cX7_arrive 23 = .ok (.aload_n 0, 1) := by decide +kernel
theorem dX7_arrive_24 : decode cX7_arrive 24 = .ok (.getfield 18, 3) := by decide +kernel
theorem dX7_arrive_27 : decode cX7_arrive 27 = .ok (.getfield 78, 3) := by decide +kernel
theorem dX7_arrive_30 : decode cX7_arrive 30 = .ok (.iload_n 1, 1) := by decide +kernel
theorem dX7_arrive_31 : decode cX7_arrive 31 = .ok (.aload_n 0, 1) := by decide +kernel
theorem dX7_arrive_32 : decode cX7_arrive 32 = .ok (.getfield 18, 3) := by decide +kernel
theorem dX7_arrive_35 : decode cX7_arrive 35 = .ok (.getfield 69, 3) := by decide +kernel
theorem dX7_arrive_38 : decode cX7_arrive 38 = .ok (.iload_n 2, 1) := by decide +kernel
theorem dX7_arrive_39 : decode cX7_arrive 39 = .ok (.iadd, 1) := by decide +kernel
theorem dX7_arrive_40 : decode cX7_arrive 40 = .ok (.invokevirtual 90, 3) := by decide +kernel
theorem dX7_arrive_43 : decode cX7_arrive 43 = .ok (.ireturn, 1) := by decide +kernel
theorem dX7_run_0 : decode cX7_run 0 = .ok (.iload_n 1, 1) := by decide +kernel
theorem dX7_run_1 : decode cX7_run 1 = .ok (.iconst 1, 1) := by decide +kernel
theorem dX7_run_2 : decode cX7_run 2 = .ok (.if_icmp .lt 10, 3) := by decide +kernel
theorem dX7_run_5 : decode cX7_run 5 = .ok (.iload_n 1, 1) := by decide +kernel
theorem dX7_run_6 : decode cX7_run 6 = .ok (.sipush 200, 3) := by decide +kernel
theorem dX7_run_9 : decode cX7_run 9 = .ok (.if_icmp .le 5, 3) := by decide +kernel
theorem dX7_run_12 : decode cX7_run 12 = .ok (.iconst (-1), 1) := by decide +kernel
theorem dX7_run_13 : decode cX7_run 13 = .ok (.ireturn, 1) := by decide +kernel
theorem dX7_run_14 : decode cX7_run 14 = .ok (.iconst 0, 1) := by decide +kernel
theorem dX7_run_15 : decode cX7_run 15 = .ok (.istore_n 2, 1) := by decide +kernel
theorem dX7_run_16 : decode cX7_run 16 = .ok (.iload_n 2, 1) := by decide +kernel
theorem dX7_run_17 : decode cX7_run 17 = .ok (.iload_n 1, 1) := by decide +kernel
theorem dX7_run_18 : decode cX7_run 18 = .ok (.if_icmp .ge 27, 3) := by decide +kernel
theorem dX7_run_21 : decode cX7_run 21 = .ok (.aload_n 0, 1) := by decide +kernel
theorem dX7_run_22 : decode cX7_run 22 = .ok (.getfield 18, 3) := by decide +kernel
theorem dX7_run_25 : decode cX7_run 25 = .ok (.getfield 93, 3) := by decide +kernel
theorem dX7_run_28 : decode cX7_run 28 = .ok (.iconst 5, 1) := by decide +kernel
theorem dX7_run_29 : decode cX7_run 29 = .ok (.if_icmp .eq 16, 3) := by decide +kernel
theorem dX7_run_32 : decode cX7_run 32 = .ok (.aload_n 0, 1) := by decide +kernel
theorem dX7_run_33 : decode cX7_run 33 = .ok (.getfield 18, 3) := by decide +kernel
theorem dX7_run_36 : decode cX7_run 36 = .ok (.invokevirtual 96, 3) := by decide +kernel
theorem dX7_run_39 : decode cX7_run 39 = .ok (.iinc 2 1, 3) := by decide +kernel
theorem dX7_run_42 : decode cX7_run 42 = .ok (.goto (-26), 3) := by decide +kernel
theorem dX7_run_45 : decode cX7_run 45 = .ok (.iload_n 2, 1) := by decide +kernel
theorem dX7_run_46 : decode cX7_run 46 = .ok (.ireturn, 1) := by decide +kernel
theorem dX7_till_0 : decode cX7_till 0 = .ok (.iload_n 1, 1) := by decide +kernel
theorem dX7_till_1 : decode cX7_till 1 = .ok (.bipush 21, 2) := by decide +kernel
theorem dX7_till_3 : decode cX7_till 3 = .ok (.invokestatic 36, 3) := by decide +kernel
theorem dX7_till_6 : decode cX7_till 6 = .ok (.ifCond .eq 14, 3) := by decide +kernel
theorem dX7_till_9 : decode cX7_till 9 = .ok (.aload_n 0, 1) := by decide +kernel
theorem dX7_till_10 : decode cX7_till 10 = .ok (.getfield 18, 3) := by decide +kernel
theorem dX7_till_13 : decode cX7_till 13 = .ok (.iload_n 1, 1) := by decide +kernel
theorem dX7_till_14 : decode cX7_till 14 = .ok (.invokevirtual 99, 3) := by decide +kernel
theorem dX7_till_17 : decode cX7_till 17 = .ok (.goto 4, 3) := by decide +kernel
theorem dX7_till_20 : decode cX7_till 20 = .ok (.iconst (-1), 1) := by decide +kernel
theorem dX7_till_21 : decode cX7_till 21 = .ok (.ireturn, 1) := by decide +kernel
theorem dX7_reset_0 : decode cX7_reset 0 = .ok (.aload_n 0, 1) := by decide +kernel
theorem dX7_reset_1 : decode cX7_reset 1 = .ok (.getfield 18, 3) := by decide +kernel
theorem dX7_reset_4 : decode cX7_reset 4 = .ok (.getfield 40, 3) := by decide +kernel
theorem dX7_reset_7 : decode cX7_reset 7 = .ok (.getfield 59, 3) := by decide +kernel
theorem dX7_reset_10 : decode cX7_reset 10 = .ok (.istore_n 1, 1) := by decide +kernel
theorem dX7_reset_11 : decode cX7_reset 11 = .ok (.aload_n 0, 1) := by decide +kernel
theorem dX7_reset_12 : decode cX7_reset 12 = .ok (.getfield 18, 3) := by decide +kernel
theorem dX7_reset_15 : decode cX7_reset 15 = .ok (.invokevirtual 103, 3) := by decide +kernel
theorem dX7_reset_18 : decode cX7_reset 18 = .ok (.iload_n 1, 1) := by decide +kernel
theorem dX7_reset_19 : decode cX7_reset 19 = .ok (.ireturn, 1) := by decide +kernel
theorem dX7_reg_0 : decode cX7_reg 0 = .ok (.iload_n 1, 1) := by decide +kernel
theorem dX7_reg_1 : decode cX7_reg 1 = .ok (.bipush 12, 2) := by decide +kernel
theorem dX7_reg_3 : decode cX7_reg 3 = .ok (.invokestatic 36, 3) := by decide +kernel
theorem dX7_reg_6 : decode cX7_reg 6 = .ok (.ifCond .ne 11, 3) := by decide +kernel
theorem dX7_reg_9 : decode cX7_reg 9 = .ok (.new 106, 3) := by decide +kernel
theorem dX7_reg_12 : decode cX7_reg 12 = .ok (.dup, 1) := by decide +kernel
theorem dX7_reg_13 : decode cX7_reg 13 = .ok (.invokespecial 108, 3) := by decide +kernel
theorem dX7_reg_16 : decode cX7_reg 16 = .ok (.athrow, 1) := by decide +kernel
theorem dX7_reg_17 : decode cX7_reg 17 = .ok (.iload_n 1, 1) := by decide +kernel
theorem dX7_reg_18 : decode cX7_reg 18 = .ok (.bipush 8, 2) := by decide +kernel
theorem dX7_reg_20 : decode cX7_reg 20 = .ok (.if_icmp .ge 18, 3) := by decide +kernel
theorem dX7_reg_23 : decode cX7_reg 23 = .ok (.aload_n 0, 1) := by decide +kernel
theorem dX7_reg_24 : decode cX7_reg 24 = .ok (.getfield 18, 3) := by decide +kernel
theorem dX7_reg_27 : decode cX7_reg 27 = .ok (.getfield 109, 3) := by decide +kernel
theorem dX7_reg_30 : decode cX7_reg 30 = .ok (.getfield 113, 3) := by decide +kernel
theorem dX7_reg_33 : decode cX7_reg 33 = .ok (.iload_n 1, 1) := by decide +kernel
theorem dX7_reg_34 : decode cX7_reg 34 = .ok (.iaload, 1) := by decide +kernel
theorem dX7_reg_35 : decode cX7_reg 35 = .ok (.goto 18, 3) := by decide +kernel
theorem dX7_reg_38 : decode cX7_reg 38 = .ok (.aload_n 0, 1) := by decide +kernel
theorem dX7_reg_39 : decode cX7_reg 39 = .ok (.getfield 18, 3) := by decide +kernel
theorem dX7_reg_42 : decode cX7_reg 42 = .ok (.getfield 109, 3) := by decide +kernel
theorem dX7_reg_45 : decode cX7_reg 45 = .ok (.getfield 118, 3) := by decide +kernel
theorem dX7_reg_48 : decode cX7_reg 48 = .ok (.iload_n 1, 1) := by decide +kernel
theorem dX7_reg_49 : decode cX7_reg 49 = .ok (.bipush 8, 2) := by decide +kernel
theorem dX7_reg_51 : decode cX7_reg 51 = .ok (.isub, 1) := by decide +kernel
theorem dX7_reg_52 : decode cX7_reg 52 = .ok (.iaload, 1) := by decide +kernel
theorem dX7_reg_53 : decode cX7_reg 53 = .ok (.ireturn, 1) := by decide +kernel
theorem dX7_word_0 : decode cX7_word 0 = .ok (.iload_n 1, 1) := by decide +kernel
theorem dX7_word_1 : decode cX7_word 1 = .ok (.bipush 96, 2) := by decide +kernel
theorem dX7_word_3 : decode cX7_word 3 = .ok (.invokestatic 36, 3) := by decide +kernel
theorem dX7_word_6 : decode cX7_word 6 = .ok (.ifCond .ne 11, 3) := by decide +kernel
theorem dX7_word_9 : decode cX7_word 9 = .ok (.new 121, 3) := by decide +kernel
theorem dX7_word_12 : decode cX7_word 12 = .ok (.dup, 1) := by decide +kernel
theorem dX7_word_13 : decode cX7_word 13 = .ok (.invokespecial 123, 3) := by decide +kernel
theorem dX7_word_16 : decode cX7_word 16 = .ok (.athrow, 1) := by decide +kernel
theorem dX7_word_17 : decode cX7_word 17 = .ok (.aload_n 0, 1) := by decide +kernel
theorem dX7_word_18 : decode cX7_word 18 = .ok (.getfield 18, 3) := by decide +kernel
theorem dX7_word_21 : decode cX7_word 21 = .ok (.getfield 109, 3) := by decide +kernel
theorem dX7_word_24 : decode cX7_word 24 = .ok (.getfield 124, 3) := by decide +kernel
theorem dX7_word_27 : decode cX7_word 27 = .ok (.iload_n 1, 1) := by decide +kernel
theorem dX7_word_28 : decode cX7_word 28 = .ok (.iaload, 1) := by decide +kernel
theorem dX7_word_29 : decode cX7_word 29 = .ok (.ireturn, 1) := by decide +kernel
theorem dX7_data_0 : decode cX7_data 0 = .ok (.iload_n 1, 1) := by decide +kernel
theorem dX7_data_1 : decode cX7_data 1 = .ok (.bipush 16, 2) := by decide +kernel
theorem dX7_data_3 : decode cX7_data 3 = .ok (.invokestatic 36, 3) := by decide +kernel
theorem dX7_data_6 : decode cX7_data 6 = .ok (.ifCond .ne 11, 3) := by decide +kernel
theorem dX7_data_9 : decode cX7_data 9 = .ok (.new 121, 3) := by decide +kernel
theorem dX7_data_12 : decode cX7_data 12 = .ok (.dup, 1) := by decide +kernel
theorem dX7_data_13 : decode cX7_data 13 = .ok (.invokespecial 123, 3) := by decide +kernel
theorem dX7_data_16 : decode cX7_data 16 = .ok (.athrow, 1) := by decide +kernel
theorem dX7_data_17 : decode cX7_data 17 = .ok (.aload_n 0, 1) := by decide +kernel
theorem dX7_data_18 : decode cX7_data 18 = .ok (.getfield 18, 3) := by decide +kernel
theorem dX7_data_21 : decode cX7_data 21 = .ok (.getfield 109, 3) := by decide +kernel
theorem dX7_data_24 : decode cX7_data 24 = .ok (.getfield 127, 3) := by decide +kernel
theorem dX7_data_27 : decode cX7_data 27 = .ok (.iload_n 1, 1) := by decide +kernel
theorem dX7_data_28 : decode cX7_data 28 = .ok (.iaload, 1) := by decide +kernel
theorem dX7_data_29 : decode cX7_data 29 = .ok (.ireturn, 1) := by decide +kernel
theorem dX7_out_0 : decode cX7_out 0 = .ok (.iload_n 1, 1) := by decide +kernel
theorem dX7_out_1 : decode cX7_out 1 = .ok (.bipush 64, 2) := by decide +kernel
theorem dX7_out_3 : decode cX7_out 3 = .ok (.invokestatic 36, 3) := by decide +kernel
theorem dX7_out_6 : decode cX7_out 6 = .ok (.ifCond .eq 17, 3) := by decide +kernel
theorem dX7_out_9 : decode cX7_out 9 = .ok (.iload_n 1, 1) := by decide +kernel
theorem dX7_out_10 : decode cX7_out 10 = .ok (.aload_n 0, 1) := by decide +kernel
theorem dX7_out_11 : decode cX7_out 11 = .ok (.getfield 18, 3) := by decide +kernel
theorem dX7_out_14 : decode cX7_out 14 = .ok (.getfield 130, 3) := by decide +kernel
theorem dX7_out_17 : decode cX7_out 17 = .ok (.getfield 134, 3) := by decide +kernel
theorem dX7_out_20 : decode cX7_out 20 = .ok (.if_icmp .lt 11, 3) := by decide +kernel
theorem dX7_out_23 : decode cX7_out 23 = .ok (.new 106, 3) := by decide +kernel
theorem dX7_out_26 : decode cX7_out 26 = .ok (.dup, 1) := by decide +kernel
theorem dX7_out_27 : decode cX7_out 27 = .ok (.invokespecial 108, 3) := by decide +kernel
theorem dX7_out_30 : decode cX7_out 30 = .ok (.athrow, 1) := by decide +kernel
theorem dX7_out_31 : decode cX7_out 31 = .ok (.aload_n 0, 1) := by decide +kernel
theorem dX7_out_32 : decode cX7_out 32 = .ok (.getfield 18, 3) := by decide +kernel
theorem dX7_out_35 : decode cX7_out 35 = .ok (.getfield 130, 3) := by decide +kernel
theorem dX7_out_38 : decode cX7_out 38 = .ok (.getfield 139, 3) := by decide +kernel
theorem dX7_out_41 : decode cX7_out 41 = .ok (.iload_n 1, 1) := by decide +kernel
theorem dX7_out_42 : decode cX7_out 42 = .ok (.iaload, 1) := by decide +kernel
theorem dX7_out_43 : decode cX7_out 43 = .ok (.ireturn, 1) := by decide +kernel
theorem dX7_source_0 : decode cX7_source 0 = .ok (.iload_n 1, 1) := by decide +kernel
theorem dX7_source_1 : decode cX7_source 1 = .ok (.bipush 21, 2) := by decide +kernel
theorem dX7_source_3 : decode cX7_source 3 = .ok (.invokestatic 36, 3) := by decide +kernel
theorem dX7_source_6 : decode cX7_source 6 = .ok (.ifCond .ne 6, 3) := by decide +kernel
theorem dX7_source_9 : decode cX7_source 9 = .ok (.bipush (-2), 2) := by decide +kernel
theorem dX7_source_11 : decode cX7_source 11 = .ok (.ireturn, 1) := by decide +kernel
theorem dX7_source_12 : decode cX7_source 12 = .ok (.aload_n 0, 1) := by decide +kernel
theorem dX7_source_13 : decode cX7_source 13 = .ok (.getfield 18, 3) := by decide +kernel
theorem dX7_source_16 : decode cX7_source 16 = .ok (.getfield 40, 3) := by decide +kernel
theorem dX7_source_19 : decode cX7_source 19 = .ok (.astore_n 3, 1) := by decide +kernel
theorem dX7_source_20 : decode cX7_source 20 = .ok (.iload_n 2, 1) := by decide +kernel
theorem dX7_source_21 : decode cX7_source 21 = .ok (.tableswitch 137 0 7 #[47, 54, 61, 76, 91, 106, 121, 131], 47) := by decide +kernel
theorem dX7_source_68 : decode cX7_source 68 = .ok (.aload_n 3, 1) := by decide +kernel
theorem dX7_source_69 : decode cX7_source 69 = .ok (.getfield 50, 3) := by decide +kernel
theorem dX7_source_72 : decode cX7_source 72 = .ok (.iload_n 1, 1) := by decide +kernel
theorem dX7_source_73 : decode cX7_source 73 = .ok (.iaload, 1) := by decide +kernel
theorem dX7_source_74 : decode cX7_source 74 = .ok (.ireturn, 1) := by decide +kernel
theorem dX7_source_75 : decode cX7_source 75 = .ok (.aload_n 3, 1) := by decide +kernel
theorem dX7_source_76 : decode cX7_source 76 = .ok (.getfield 56, 3) := by decide +kernel
theorem dX7_source_79 : decode cX7_source 79 = .ok (.iload_n 1, 1) := by decide +kernel
theorem dX7_source_80 : decode cX7_source 80 = .ok (.iaload, 1) := by decide +kernel
theorem dX7_source_81 : decode cX7_source 81 = .ok (.ireturn, 1) := by decide +kernel
theorem dX7_source_82 : decode cX7_source 82 = .ok (.aload_n 3, 1) := by decide +kernel
theorem dX7_source_83 : decode cX7_source 83 = .ok (.getfield 53, 3) := by decide +kernel
theorem dX7_source_86 : decode cX7_source 86 = .ok (.iload_n 1, 1) := by decide +kernel
theorem dX7_source_87 : decode cX7_source 87 = .ok (.baload, 1) := by decide +kernel
theorem dX7_source_88 : decode cX7_source 88 = .ok (.ifCond .eq 7, 3) := by decide +kernel
theorem dX7_source_91 : decode cX7_source 91 = .ok (.iconst 1, 1) := by decide +kernel
theorem dX7_source_92 : decode cX7_source 92 = .ok (.goto 4, 3) := by decide +kernel
theorem dX7_source_95 : decode cX7_source 95 = .ok (.iconst 0, 1) := by decide +kernel
theorem dX7_source_96 : decode cX7_source 96 = .ok (.ireturn, 1) := by decide +kernel
theorem dX7_source_97 : decode cX7_source 97 = .ok (.aload_n 3, 1) := by decide +kernel
theorem dX7_source_98 : decode cX7_source 98 = .ok (.getfield 142, 3) := by decide +kernel
theorem dX7_source_101 : decode cX7_source 101 = .ok (.iload_n 1, 1) := by decide +kernel
theorem dX7_source_102 : decode cX7_source 102 = .ok (.baload, 1) := by decide +kernel
theorem dX7_source_103 : decode cX7_source 103 = .ok (.ifCond .eq 7, 3) := by decide +kernel
theorem dX7_source_106 : decode cX7_source 106 = .ok (.iconst 1, 1) := by decide +kernel
theorem dX7_source_107 : decode cX7_source 107 = .ok (.goto 4, 3) := by decide +kernel
theorem dX7_source_110 : decode cX7_source 110 = .ok (.iconst 0, 1) := by decide +kernel
theorem dX7_source_111 : decode cX7_source 111 = .ok (.ireturn, 1) := by decide +kernel
theorem dX7_source_112 : decode cX7_source 112 = .ok (.aload_n 3, 1) := by decide +kernel
theorem dX7_source_113 : decode cX7_source 113 = .ok (.getfield 44, 3) := by decide +kernel
theorem dX7_source_116 : decode cX7_source 116 = .ok (.iload_n 1, 1) := by decide +kernel
theorem dX7_source_117 : decode cX7_source 117 = .ok (.baload, 1) := by decide +kernel
theorem dX7_source_118 : decode cX7_source 118 = .ok (.ifCond .eq 7, 3) := by decide +kernel
theorem dX7_source_121 : decode cX7_source 121 = .ok (.iconst 1, 1) := by decide +kernel
theorem dX7_source_122 : decode cX7_source 122 = .ok (.goto 4, 3) := by decide +kernel
theorem dX7_source_125 : decode cX7_source 125 = .ok (.iconst 0, 1) := by decide +kernel
theorem dX7_source_126 : decode cX7_source 126 = .ok (.ireturn, 1) := by decide +kernel
theorem dX7_source_127 : decode cX7_source 127 = .ok (.aload_n 3, 1) := by decide +kernel
theorem dX7_source_128 : decode cX7_source 128 = .ok (.getfield 66, 3) := by decide +kernel
theorem dX7_source_131 : decode cX7_source 131 = .ok (.iload_n 1, 1) := by decide +kernel
theorem dX7_source_132 : decode cX7_source 132 = .ok (.baload, 1) := by decide +kernel
theorem dX7_source_133 : decode cX7_source 133 = .ok (.ifCond .eq 7, 3) := by decide +kernel
theorem dX7_source_136 : decode cX7_source 136 = .ok (.iconst 1, 1) := by decide +kernel
theorem dX7_source_137 : decode cX7_source 137 = .ok (.goto 4, 3) := by decide +kernel
theorem dX7_source_140 : decode cX7_source 140 = .ok (.iconst 0, 1) := by decide +kernel
theorem dX7_source_141 : decode cX7_source 141 = .ok (.ireturn, 1) := by decide +kernel
theorem dX7_source_142 : decode cX7_source 142 = .ok (.aload_n 3, 1) := by decide +kernel
theorem dX7_source_143 : decode cX7_source 143 = .ok (.iload_n 1, 1) := by decide +kernel
theorem dX7_source_144 : decode cX7_source 144 = .ok (.aload_n 3, 1) := by decide +kernel
theorem dX7_source_145 : decode cX7_source 145 = .ok (.getfield 63, 3) := by decide +kernel
theorem dX7_source_148 : decode cX7_source 148 = .ok (.invokevirtual 145, 3) := by decide +kernel
theorem dX7_source_151 : decode cX7_source 151 = .ok (.ireturn, 1) := by decide +kernel
theorem dX7_source_152 : decode cX7_source 152 = .ok (.aload_n 3, 1) := by decide +kernel
theorem dX7_source_153 : decode cX7_source 153 = .ok (.iload_n 1, 1) := by decide +kernel
theorem dX7_source_154 : decode cX7_source 154 = .ok (.invokevirtual 149, 3) := by decide +kernel
theorem dX7_source_157 : decode cX7_source 157 = .ok (.ireturn, 1) := by decide +kernel
theorem dX7_source_158 : decode cX7_source 158 = .ok (.bipush (-2), 2) := by decide +kernel
theorem dX7_source_160 : decode cX7_source 160 = .ok (.ireturn, 1) := by decide +kernel
theorem dX7_nest_0 : decode cX7_nest 0 = .ok (.iload_n 1, 1) := by decide +kernel
theorem dX7_nest_1 : decode cX7_nest 1 = .ok (.aload_n 0, 1) := by decide +kernel
theorem dX7_nest_2 : decode cX7_nest 2 = .ok (.getfield 18, 3) := by decide +kernel
theorem dX7_nest_5 : decode cX7_nest 5 = .ok (.getfield 40, 3) := by decide +kernel
theorem dX7_nest_8 : decode cX7_nest 8 = .ok (.getfield 59, 3) := by decide +kernel
theorem dX7_nest_11 : decode cX7_nest 11 = .ok (.invokestatic 36, 3) := by decide +kernel
theorem dX7_nest_14 : decode cX7_nest 14 = .ok (.ifCond .eq 18, 3) := by decide +kernel
theorem dX7_nest_17 : decode cX7_nest 17 = .ok (.aload_n 0, 1) := by decide +kernel
theorem dX7_nest_18 : decode cX7_nest 18 = .ok (.getfield 18, 3) := by decide +kernel
theorem dX7_nest_21 : decode cX7_nest 21 = .ok (.getfield 40, 3) := by decide +kernel
theorem dX7_nest_24 : decode cX7_nest 24 = .ok (.getfield 152, 3) := by decide +kernel
theorem dX7_nest_27 : decode cX7_nest 27 = .ok (.iload_n 1, 1) := by decide +kernel
theorem dX7_nest_28 : decode cX7_nest 28 = .ok (.iaload, 1) := by decide +kernel
theorem dX7_nest_29 : decode cX7_nest 29 = .ok (.goto 4, 3) := by decide +kernel
theorem dX7_nest_32 : decode cX7_nest 32 = .ok (.iconst (-1), 1) := by decide +kernel
theorem dX7_nest_33 : decode cX7_nest 33 = .ok (.ireturn, 1) := by decide +kernel
theorem dX7_state_0 : decode cX7_state 0 = .ok (.aload_n 0, 1) := by decide +kernel
theorem dX7_state_1 : decode cX7_state 1 = .ok (.getfield 18, 3) := by decide +kernel
theorem dX7_state_4 : decode cX7_state 4 = .ok (.getfield 109, 3) := by decide +kernel
theorem dX7_state_7 : decode cX7_state 7 = .ok (.astore_n 2, 1) := by decide +kernel
theorem dX7_state_8 : decode cX7_state 8 = .ok (.iload_n 1, 1) := by decide +kernel
theorem dX7_state_9 : decode cX7_state 9 = .ok (.tableswitch 217 0 15 #[79, 87, 95, 100, 113, 118, 123, 128, 133, 144, 155, 168, 173, 184, 195, 206], 79) := by decide +kernel
theorem dX7_state_88 : decode cX7_state 88 = .ok (.aload_n 0, 1) := by decide +kernel
theorem dX7_state_89 : decode cX7_state 89 = .ok (.getfield 18, 3) := by decide +kernel
theorem dX7_state_92 : decode cX7_state 92 = .ok (.getfield 93, 3) := by decide +kernel
theorem dX7_state_95 : decode cX7_state 95 = .ok (.ireturn, 1) := by decide +kernel
theorem dX7_state_96 : decode cX7_state 96 = .ok (.aload_n 0, 1) := by decide +kernel
theorem dX7_state_97 : decode cX7_state 97 = .ok (.getfield 18, 3) := by decide +kernel
theorem dX7_state_100 : decode cX7_state 100 = .ok (.getfield 155, 3) := by decide +kernel
theorem dX7_state_103 : decode cX7_state 103 = .ok (.ireturn, 1) := by decide +kernel
theorem dX7_state_104 : decode cX7_state 104 = .ok (.aload_n 2, 1) := by decide +kernel
theorem dX7_state_105 : decode cX7_state 105 = .ok (.getfield 158, 3) := by decide +kernel
theorem dX7_state_108 : decode cX7_state 108 = .ok (.ireturn, 1) := by decide +kernel
theorem dX7_state_109 : decode cX7_state 109 = .ok (.aload_n 2, 1) := by decide +kernel
theorem dX7_state_110 : decode cX7_state 110 = .ok (.getfield 161, 3) := by decide +kernel
theorem dX7_state_113 : decode cX7_state 113 = .ok (.ifCond .eq 7, 3) := by decide +kernel
theorem dX7_state_116 : decode cX7_state 116 = .ok (.iconst 1, 1) := by decide +kernel
theorem dX7_state_117 : decode cX7_state 117 = .ok (.goto 4, 3) := by decide +kernel
theorem dX7_state_120 : decode cX7_state 120 = .ok (.iconst 0, 1) := by decide +kernel
theorem dX7_state_121 : decode cX7_state 121 = .ok (.ireturn, 1) := by decide +kernel
theorem dX7_state_122 : decode cX7_state 122 = .ok (.aload_n 2, 1) := by decide +kernel
theorem dX7_state_123 : decode cX7_state 123 = .ok (.getfield 165, 3) := by decide +kernel
theorem dX7_state_126 : decode cX7_state 126 = .ok (.ireturn, 1) := by decide +kernel
theorem dX7_state_127 : decode cX7_state 127 = .ok (.aload_n 2, 1) := by decide +kernel
theorem dX7_state_128 : decode cX7_state 128 = .ok (.getfield 168, 3) := by decide +kernel
theorem dX7_state_131 : decode cX7_state 131 = .ok (.ireturn, 1) := by decide +kernel
theorem dX7_state_132 : decode cX7_state 132 = .ok (.aload_n 2, 1) := by decide +kernel
theorem dX7_state_133 : decode cX7_state 133 = .ok (.getfield 171, 3) := by decide +kernel
theorem dX7_state_136 : decode cX7_state 136 = .ok (.ireturn, 1) := by decide +kernel
theorem dX7_state_137 : decode cX7_state 137 = .ok (.aload_n 2, 1) := by decide +kernel
theorem dX7_state_138 : decode cX7_state 138 = .ok (.getfield 174, 3) := by decide +kernel
theorem dX7_state_141 : decode cX7_state 141 = .ok (.ireturn, 1) := by decide +kernel
theorem dX7_state_142 : decode cX7_state 142 = .ok (.aload_n 0, 1) := by decide +kernel
theorem dX7_state_143 : decode cX7_state 143 = .ok (.getfield 18, 3) := by decide +kernel
theorem dX7_state_146 : decode cX7_state 146 = .ok (.getfield 40, 3) := by decide +kernel
theorem dX7_state_149 : decode cX7_state 149 = .ok (.getfield 177, 3) := by decide +kernel
theorem dX7_state_152 : decode cX7_state 152 = .ok (.ireturn, 1) := by decide +kernel
theorem dX7_state_153 : decode cX7_state 153 = .ok (.aload_n 0, 1) := by decide +kernel
theorem dX7_state_154 : decode cX7_state 154 = .ok (.getfield 18, 3) := by decide +kernel
theorem dX7_state_157 : decode cX7_state 157 = .ok (.getfield 40, 3) := by decide +kernel
theorem dX7_state_160 : decode cX7_state 160 = .ok (.getfield 180, 3) := by decide +kernel
theorem dX7_state_163 : decode cX7_state 163 = .ok (.ireturn, 1) := by decide +kernel
theorem dX7_state_164 : decode cX7_state 164 = .ok (.aload_n 2, 1) := by decide +kernel
theorem dX7_state_165 : decode cX7_state 165 = .ok (.getfield 183, 3) := by decide +kernel
theorem dX7_state_168 : decode cX7_state 168 = .ok (.ifCond .eq 7, 3) := by decide +kernel
theorem dX7_state_171 : decode cX7_state 171 = .ok (.iconst 1, 1) := by decide +kernel
theorem dX7_state_172 : decode cX7_state 172 = .ok (.goto 4, 3) := by decide +kernel
theorem dX7_state_175 : decode cX7_state 175 = .ok (.iconst 0, 1) := by decide +kernel
theorem dX7_state_176 : decode cX7_state 176 = .ok (.ireturn, 1) := by decide +kernel
theorem dX7_state_177 : decode cX7_state 177 = .ok (.aload_n 2, 1) := by decide +kernel
theorem dX7_state_178 : decode cX7_state 178 = .ok (.getfield 186, 3) := by decide +kernel
theorem dX7_state_181 : decode cX7_state 181 = .ok (.ireturn, 1) := by decide +kernel
theorem dX7_state_182 : decode cX7_state 182 = .ok (.aload_n 0, 1) := by decide +kernel
theorem dX7_state_183 : decode cX7_state 183 = .ok (.getfield 18, 3) := by decide +kernel
theorem dX7_state_186 : decode cX7_state 186 = .ok (.getfield 40, 3) := by decide +kernel
theorem dX7_state_189 : decode cX7_state 189 = .ok (.invokevirtual 189, 3) := by decide +kernel
theorem dX7_state_192 : decode cX7_state 192 = .ok (.ireturn, 1) := by decide +kernel
theorem dX7_state_193 : decode cX7_state 193 = .ok (.aload_n 0, 1) := by decide +kernel
theorem dX7_state_194 : decode cX7_state 194 = .ok (.getfield 18, 3) := by decide +kernel
theorem dX7_state_197 : decode cX7_state 197 = .ok (.getfield 40, 3) := by decide +kernel
theorem dX7_state_200 : decode cX7_state 200 = .ok (.invokevirtual 193, 3) := by decide +kernel
theorem dX7_state_203 : decode cX7_state 203 = .ok (.ireturn, 1) := by decide +kernel
theorem dX7_state_204 : decode cX7_state 204 = .ok (.aload_n 0, 1) := by decide +kernel
theorem dX7_state_205 : decode cX7_state 205 = .ok (.getfield 18, 3) := by decide +kernel
theorem dX7_state_208 : decode cX7_state 208 = .ok (.getfield 40, 3) := by decide +kernel
theorem dX7_state_211 : decode cX7_state 211 = .ok (.getfield 63, 3) := by decide +kernel
theorem dX7_state_214 : decode cX7_state 214 = .ok (.ireturn, 1) := by decide +kernel
theorem dX7_state_215 : decode cX7_state 215 = .ok (.aload_n 0, 1) := by decide +kernel
theorem dX7_state_216 : decode cX7_state 216 = .ok (.getfield 18, 3) := by decide +kernel
theorem dX7_state_219 : decode cX7_state 219 = .ok (.getfield 78, 3) := by decide +kernel
theorem dX7_state_222 : decode cX7_state 222 = .ok (.getfield 87, 3) := by decide +kernel
theorem dX7_state_225 : decode cX7_state 225 = .ok (.ireturn, 1) := by decide +kernel
theorem dX7_state_226 : decode cX7_state 226 = .ok (.bipush (-2), 2) := by decide +kernel
theorem dX7_state_228 : decode cX7_state 228 = .ok (.ireturn, 1) := by decide +kernel
theorem dX7_count_0 : decode cX7_count 0 = .ok (.aload_n 0, 1) := by decide +kernel
theorem dX7_count_1 : decode cX7_count 1 = .ok (.getfield 18, 3) := by decide +kernel
theorem dX7_count_4 : decode cX7_count 4 = .ok (.getfield 130, 3) := by decide +kernel
theorem dX7_count_7 : decode cX7_count 7 = .ok (.astore_n 2, 1) := by decide +kernel
theorem dX7_count_8 : decode cX7_count 8 = .ok (.iload_n 1, 1) := by decide +kernel
theorem dX7_count_9 : decode cX7_count 9 = .ok (.tableswitch 201 0 16 #[83, 91, 96, 101, 106, 111, 116, 121, 126, 131, 142, 147, 158, 169, 180, 191, 196], 83) := by decide +kernel
theorem dX7_count_92 : decode cX7_count 92 = .ok (.aload_n 0, 1) := by decide +kernel
theorem dX7_count_93 : decode cX7_count 93 = .ok (.getfield 18, 3) := by decide +kernel
theorem dX7_count_96 : decode cX7_count 96 = .ok (.getfield 69, 3) := by decide +kernel
theorem dX7_count_99 : decode cX7_count 99 = .ok (.ireturn, 1) := by decide +kernel
theorem dX7_count_100 : decode cX7_count 100 = .ok (.aload_n 2, 1) := by decide +kernel
theorem dX7_count_101 : decode cX7_count 101 = .ok (.getfield 196, 3) := by decide +kernel
theorem dX7_count_104 : decode cX7_count 104 = .ok (.ireturn, 1) := by decide +kernel
theorem dX7_count_105 : decode cX7_count 105 = .ok (.aload_n 2, 1) := by decide +kernel
theorem dX7_count_106 : decode cX7_count 106 = .ok (.getfield 199, 3) := by decide +kernel
theorem dX7_count_109 : decode cX7_count 109 = .ok (.ireturn, 1) := by decide +kernel
theorem dX7_count_110 : decode cX7_count 110 = .ok (.aload_n 2, 1) := by decide +kernel
theorem dX7_count_111 : decode cX7_count 111 = .ok (.getfield 202, 3) := by decide +kernel
theorem dX7_count_114 : decode cX7_count 114 = .ok (.ireturn, 1) := by decide +kernel
theorem dX7_count_115 : decode cX7_count 115 = .ok (.aload_n 2, 1) := by decide +kernel
theorem dX7_count_116 : decode cX7_count 116 = .ok (.getfield 205, 3) := by decide +kernel
theorem dX7_count_119 : decode cX7_count 119 = .ok (.ireturn, 1) := by decide +kernel
theorem dX7_count_120 : decode cX7_count 120 = .ok (.aload_n 2, 1) := by decide +kernel
theorem dX7_count_121 : decode cX7_count 121 = .ok (.getfield 208, 3) := by decide +kernel
theorem dX7_count_124 : decode cX7_count 124 = .ok (.ireturn, 1) := by decide +kernel
theorem dX7_count_125 : decode cX7_count 125 = .ok (.aload_n 2, 1) := by decide +kernel
theorem dX7_count_126 : decode cX7_count 126 = .ok (.getfield 211, 3) := by decide +kernel
theorem dX7_count_129 : decode cX7_count 129 = .ok (.ireturn, 1) := by decide +kernel
theorem dX7_count_130 : decode cX7_count 130 = .ok (.aload_n 2, 1) := by decide +kernel
theorem dX7_count_131 : decode cX7_count 131 = .ok (.getfield 214, 3) := by decide +kernel
theorem dX7_count_134 : decode cX7_count 134 = .ok (.ireturn, 1) := by decide +kernel
theorem dX7_count_135 : decode cX7_count 135 = .ok (.aload_n 2, 1) := by decide +kernel
theorem dX7_count_136 : decode cX7_count 136 = .ok (.getfield 217, 3) := by decide +kernel
theorem dX7_count_139 : decode cX7_count 139 = .ok (.ireturn, 1) := by decide +kernel
theorem dX7_count_140 : decode cX7_count 140 = .ok (.aload_n 0, 1) := by decide +kernel
theorem dX7_count_141 : decode cX7_count 141 = .ok (.getfield 18, 3) := by decide +kernel
theorem dX7_count_144 : decode cX7_count 144 = .ok (.getfield 40, 3) := by decide +kernel
theorem dX7_count_147 : decode cX7_count 147 = .ok (.getfield 220, 3) := by decide +kernel
theorem dX7_count_150 : decode cX7_count 150 = .ok (.ireturn, 1) := by decide +kernel
theorem dX7_count_151 : decode cX7_count 151 = .ok (.aload_n 2, 1) := by decide +kernel
theorem dX7_count_152 : decode cX7_count 152 = .ok (.getfield 223, 3) := by decide +kernel
theorem dX7_count_155 : decode cX7_count 155 = .ok (.ireturn, 1) := by decide +kernel
theorem dX7_count_156 : decode cX7_count 156 = .ok (.aload_n 0, 1) := by decide +kernel
theorem dX7_count_157 : decode cX7_count 157 = .ok (.getfield 18, 3) := by decide +kernel
theorem dX7_count_160 : decode cX7_count 160 = .ok (.getfield 40, 3) := by decide +kernel
theorem dX7_count_163 : decode cX7_count 163 = .ok (.getfield 59, 3) := by decide +kernel
theorem dX7_count_166 : decode cX7_count 166 = .ok (.ireturn, 1) := by decide +kernel
theorem dX7_count_167 : decode cX7_count 167 = .ok (.aload_n 0, 1) := by decide +kernel
theorem dX7_count_168 : decode cX7_count 168 = .ok (.getfield 18, 3) := by decide +kernel
theorem dX7_count_171 : decode cX7_count 171 = .ok (.getfield 40, 3) := by decide +kernel
theorem dX7_count_174 : decode cX7_count 174 = .ok (.getfield 226, 3) := by decide +kernel
theorem dX7_count_177 : decode cX7_count 177 = .ok (.ireturn, 1) := by decide +kernel
theorem dX7_count_178 : decode cX7_count 178 = .ok (.aload_n 0, 1) := by decide +kernel
theorem dX7_count_179 : decode cX7_count 179 = .ok (.getfield 18, 3) := by decide +kernel
theorem dX7_count_182 : decode cX7_count 182 = .ok (.getfield 109, 3) := by decide +kernel
theorem dX7_count_185 : decode cX7_count 185 = .ok (.getfield 229, 3) := by decide +kernel
theorem dX7_count_188 : decode cX7_count 188 = .ok (.ireturn, 1) := by decide +kernel
theorem dX7_count_189 : decode cX7_count 189 = .ok (.aload_n 0, 1) := by decide +kernel
theorem dX7_count_190 : decode cX7_count 190 = .ok (.getfield 18, 3) := by decide +kernel
theorem dX7_count_193 : decode cX7_count 193 = .ok (.getfield 78, 3) := by decide +kernel
theorem dX7_count_196 : decode cX7_count 196 = .ok (.getfield 232, 3) := by decide +kernel
theorem dX7_count_199 : decode cX7_count 199 = .ok (.ireturn, 1) := by decide +kernel
theorem dX7_count_200 : decode cX7_count 200 = .ok (.aload_n 2, 1) := by decide +kernel
theorem dX7_count_201 : decode cX7_count 201 = .ok (.getfield 134, 3) := by decide +kernel
theorem dX7_count_204 : decode cX7_count 204 = .ok (.ireturn, 1) := by decide +kernel
theorem dX7_count_205 : decode cX7_count 205 = .ok (.aload_n 2, 1) := by decide +kernel
theorem dX7_count_206 : decode cX7_count 206 = .ok (.getfield 235, 3) := by decide +kernel
theorem dX7_count_209 : decode cX7_count 209 = .ok (.ireturn, 1) := by decide +kernel
theorem dX7_count_210 : decode cX7_count 210 = .ok (.iconst (-1), 1) := by decide +kernel
theorem dX7_count_211 : decode cX7_count 211 = .ok (.ireturn, 1) := by decide +kernel
theorem dX7_event_0 : decode cX7_event 0 = .ok (.iload_n 1, 1) := by decide +kernel
theorem dX7_event_1 : decode cX7_event 1 = .ok (.aload_n 0, 1) := by decide +kernel
theorem dX7_event_2 : decode cX7_event 2 = .ok (.getfield 18, 3) := by decide +kernel
theorem dX7_event_5 : decode cX7_event 5 = .ok (.getfield 130, 3) := by decide +kernel
theorem dX7_event_8 : decode cX7_event 8 = .ok (.getfield 235, 3) := by decide +kernel
theorem dX7_event_11 : decode cX7_event 11 = .ok (.invokestatic 36, 3) := by decide +kernel
theorem dX7_event_14 : decode cX7_event 14 = .ok (.ifCond .eq 11, 3) := by decide +kernel
theorem dX7_event_17 : decode cX7_event 17 = .ok (.iload_n 2, 1) := by decide +kernel
theorem dX7_event_18 : decode cX7_event 18 = .ok (.iconst 4, 1) := by decide +kernel
theorem dX7_event_19 : decode cX7_event 19 = .ok (.invokestatic 36, 3) := by decide +kernel
theorem dX7_event_22 : decode cX7_event 22 = .ok (.ifCond .ne 11, 3) := by decide +kernel
theorem dX7_event_25 : decode cX7_event 25 = .ok (.new 106, 3) := by decide +kernel
theorem dX7_event_28 : decode cX7_event 28 = .ok (.dup, 1) := by decide +kernel
theorem dX7_event_29 : decode cX7_event 29 = .ok (.invokespecial 108, 3) := by decide +kernel
theorem dX7_event_32 : decode cX7_event 32 = .ok (.athrow, 1) := by decide +kernel
theorem dX7_event_33 : decode cX7_event 33 = .ok (.aload_n 0, 1) := by decide +kernel
theorem dX7_event_34 : decode cX7_event 34 = .ok (.getfield 18, 3) := by decide +kernel
theorem dX7_event_37 : decode cX7_event 37 = .ok (.getfield 130, 3) := by decide +kernel
theorem dX7_event_40 : decode cX7_event 40 = .ok (.iload_n 1, 1) := by decide +kernel
theorem dX7_event_41 : decode cX7_event 41 = .ok (.iload_n 2, 1) := by decide +kernel
theorem dX7_event_42 : decode cX7_event 42 = .ok (.invokevirtual 238, 3) := by decide +kernel
theorem dX7_event_45 : decode cX7_event 45 = .ok (.ireturn, 1) := by decide +kernel
theorem dX7_waited_0 : decode cX7_waited 0 = .ok (.iload_n 1, 1) := by decide +kernel
theorem dX7_waited_1 : decode cX7_waited 1 = .ok (.bipush 21, 2) := by decide +kernel
theorem dX7_waited_3 : decode cX7_waited 3 = .ok (.invokestatic 36, 3) := by decide +kernel
theorem dX7_waited_6 : decode cX7_waited 6 = .ok (.ifCond .eq 18, 3) := by decide +kernel
theorem dX7_waited_9 : decode cX7_waited 9 = .ok (.aload_n 0, 1) := by decide +kernel
theorem dX7_waited_10 : decode cX7_waited 10 = .ok (.getfield 18, 3) := by decide +kernel
theorem dX7_waited_13 : decode cX7_waited 13 = .ok (.getfield 40, 3) := by decide +kernel
theorem dX7_waited_16 : decode cX7_waited 16 = .ok (.getfield 241, 3) := by decide +kernel
theorem dX7_waited_19 : decode cX7_waited 19 = .ok (.iload_n 1, 1) := by decide +kernel
theorem dX7_waited_20 : decode cX7_waited 20 = .ok (.iaload, 1) := by decide +kernel
theorem dX7_waited_21 : decode cX7_waited 21 = .ok (.goto 4, 3) := by decide +kernel
theorem dX7_waited_24 : decode cX7_waited 24 = .ok (.iconst (-1), 1) := by decide +kernel
theorem dX7_waited_25 : decode cX7_waited 25 = .ok (.ireturn, 1) := by decide +kernel
theorem dX7_ahead_0 : decode cX7_ahead 0 = .ok (.iload_n 1, 1) := by decide +kernel
theorem dX7_ahead_1 : decode cX7_ahead 1 = .ok (.bipush 21, 2) := by decide +kernel
theorem dX7_ahead_3 : decode cX7_ahead 3 = .ok (.invokestatic 36, 3) := by decide +kernel
theorem dX7_ahead_6 : decode cX7_ahead 6 = .ok (.ifCond .eq 36, 3) := by decide +kernel
theorem dX7_ahead_9 : decode cX7_ahead 9 = .ok (.iload_n 2, 1) := by decide +kernel
theorem dX7_ahead_10 : decode cX7_ahead 10 = .ok (.bipush 21, 2) := by decide +kernel
theorem dX7_ahead_12 : decode cX7_ahead 12 = .ok (.invokestatic 36, 3) := by decide +kernel
theorem dX7_ahead_15 : decode cX7_ahead 15 = .ok (.ifCond .eq 27, 3) := by decide +kernel
theorem dX7_ahead_18 : decode cX7_ahead 18 = .ok (.iload_n 1, 1) := by decide +kernel
theorem dX7_ahead_19 : decode cX7_ahead 19 = .ok (.iload_n 2, 1) := by decide +kernel
theorem dX7_ahead_20 : decode cX7_ahead 20 = .ok (.if_icmp .eq 22, 3) := by decide +kernel
theorem dX7_ahead_23 : decode cX7_ahead 23 = .ok (.aload_n 0, 1) := by decide +kernel
theorem dX7_ahead_24 : decode cX7_ahead 24 = .ok (.getfield 18, 3) := by decide +kernel
theorem dX7_ahead_27 : decode cX7_ahead 27 = .ok (.getfield 40, 3) := by decide +kernel
theorem dX7_ahead_30 : decode cX7_ahead 30 = .ok (.iload_n 1, 1) := by decide +kernel
theorem dX7_ahead_31 : decode cX7_ahead 31 = .ok (.iload_n 2, 1) := by decide +kernel
theorem dX7_ahead_32 : decode cX7_ahead 32 = .ok (.invokevirtual 244, 3) := by decide +kernel
theorem dX7_ahead_35 : decode cX7_ahead 35 = .ok (.ifCond .eq 7, 3) := by decide +kernel
theorem dX7_ahead_38 : decode cX7_ahead 38 = .ok (.iconst 1, 1) := by decide +kernel
theorem dX7_ahead_39 : decode cX7_ahead 39 = .ok (.goto 4, 3) := by decide +kernel
theorem dX7_ahead_42 : decode cX7_ahead 42 = .ok (.iconst 0, 1) := by decide +kernel
theorem dX7_ahead_43 : decode cX7_ahead 43 = .ok (.ireturn, 1) := by decide +kernel
theorem dX7_splits_0 : decode cX7_splits 0 = .ok (.iload_n 1, 1) := by decide +kernel
theorem dX7_splits_1 : decode cX7_splits 1 = .ok (.bipush 21, 2) := by decide +kernel
theorem dX7_splits_3 : decode cX7_splits 3 = .ok (.invokestatic 36, 3) := by decide +kernel
theorem dX7_splits_6 : decode cX7_splits 6 = .ok (.ifCond .ne 5, 3) := by decide +kernel
theorem dX7_splits_9 : decode cX7_splits 9 = .ok (.iconst (-1), 1) := by decide +kernel
theorem dX7_splits_10 : decode cX7_splits 10 = .ok (.ireturn, 1) := by decide +kernel
theorem dX7_splits_11 : decode cX7_splits 11 = .ok (.iconst 0, 1) := by decide +kernel
theorem dX7_splits_12 : decode cX7_splits 12 = .ok (.istore_n 2, 1) := by decide +kernel
theorem dX7_splits_13 : decode cX7_splits 13 = .ok (.iconst 0, 1) := by decide +kernel
theorem dX7_splits_14 : decode cX7_splits 14 = .ok (.istore_n 3, 1) := by decide +kernel
theorem dX7_splits_15 : decode cX7_splits 15 = .ok (.iload_n 3, 1) := by decide +kernel
theorem dX7_splits_16 : decode cX7_splits 16 = .ok (.bipush 7, 2) := by decide +kernel
theorem dX7_splits_18 : decode cX7_splits 18 = .ok (.if_icmp .gt 51, 3) := by decide +kernel
theorem dX7_splits_21 : decode cX7_splits 21 = .ok (.aload_n 0, 1) := by decide +kernel
theorem dX7_splits_22 : decode cX7_splits 22 = .ok (.getfield 18, 3) := by decide +kernel
theorem dX7_splits_25 : decode cX7_splits 25 = .ok (.getfield 40, 3) := by decide +kernel
theorem dX7_splits_28 : decode cX7_splits 28 = .ok (.iload_n 1, 1) := by decide +kernel
theorem dX7_splits_29 : decode cX7_splits 29 = .ok (.iload_n 3, 1) := by decide +kernel
theorem dX7_splits_30 : decode cX7_splits 30 = .ok (.invokevirtual 145, 3) := by decide +kernel
theorem dX7_splits_33 : decode cX7_splits 33 = .ok (.aload_n 0, 1) := by decide +kernel
theorem dX7_splits_34 : decode cX7_splits 34 = .ok (.getfield 18, 3) := by decide +kernel
theorem dX7_splits_37 : decode cX7_splits 37 = .ok (.getfield 40, 3) := by decide +kernel
theorem dX7_splits_40 : decode cX7_splits 40 = .ok (.iload_n 3, 1) := by decide +kernel
theorem dX7_splits_41 : decode cX7_splits 41 = .ok (.aload_n 0, 1) := by decide +kernel
theorem dX7_splits_42 : decode cX7_splits 42 = .ok (.getfield 18, 3) := by decide +kernel
theorem dX7_splits_45 : decode cX7_splits 45 = .ok (.getfield 40, 3) := by decide +kernel
theorem dX7_splits_48 : decode cX7_splits 48 = .ok (.getfield 177, 3) := by decide +kernel
theorem dX7_splits_51 : decode cX7_splits 51 = .ok (.invokevirtual 247, 3) := by decide +kernel
theorem dX7_splits_54 : decode cX7_splits 54 = .ok (.if_icmp .ge 9, 3) := by decide +kernel
theorem dX7_splits_57 : decode cX7_splits 57 = .ok (.iload_n 2, 1) := by decide +kernel
theorem dX7_splits_58 : decode cX7_splits 58 = .ok (.iconst 1, 1) := by decide +kernel
theorem dX7_splits_59 : decode cX7_splits 59 = .ok (.iload_n 3, 1) := by decide +kernel
theorem dX7_splits_60 : decode cX7_splits 60 = .ok (.ishl, 1) := by decide +kernel
theorem dX7_splits_61 : decode cX7_splits 61 = .ok (.ior, 1) := by decide +kernel
theorem dX7_splits_62 : decode cX7_splits 62 = .ok (.istore_n 2, 1) := by decide +kernel
theorem dX7_splits_63 : decode cX7_splits 63 = .ok (.iinc 3 1, 3) := by decide +kernel
theorem dX7_splits_66 : decode cX7_splits 66 = .ok (.goto (-51), 3) := by decide +kernel
theorem dX7_splits_69 : decode cX7_splits 69 = .ok (.iload_n 2, 1) := by decide +kernel
theorem dX7_splits_70 : decode cX7_splits 70 = .ok (.ireturn, 1) := by decide +kernel
theorem dX7_escalates_0 : decode cX7_escalates 0 = .ok (.iload_n 1, 1) := by decide +kernel
theorem dX7_escalates_1 : decode cX7_escalates 1 = .ok (.bipush 18, 2) := by decide +kernel
theorem dX7_escalates_3 : decode cX7_escalates 3 = .ok (.if_icmp .eq 11, 3) := by decide +kernel
theorem dX7_escalates_6 : decode cX7_escalates 6 = .ok (.iload_n 1, 1) := by decide +kernel
theorem dX7_escalates_7 : decode cX7_escalates 7 = .ok (.bipush 19, 2) := by decide +kernel
theorem dX7_escalates_9 : decode cX7_escalates 9 = .ok (.if_icmp .eq 5, 3) := by decide +kernel
theorem dX7_escalates_12 : decode cX7_escalates 12 = .ok (.iconst (-1), 1) := by decide +kernel
theorem dX7_escalates_13 : decode cX7_escalates 13 = .ok (.ireturn, 1) := by decide +kernel
theorem dX7_escalates_14 : decode cX7_escalates 14 = .ok (.aload_n 0, 1) := by decide +kernel
theorem dX7_escalates_15 : decode cX7_escalates 15 = .ok (.getfield 18, 3) := by decide +kernel
theorem dX7_escalates_18 : decode cX7_escalates 18 = .ok (.getfield 93, 3) := by decide +kernel
theorem dX7_escalates_21 : decode cX7_escalates 21 = .ok (.iconst 5, 1) := by decide +kernel
theorem dX7_escalates_22 : decode cX7_escalates 22 = .ok (.if_icmp .ne 7, 3) := by decide +kernel
theorem dX7_escalates_25 : decode cX7_escalates 25 = .ok (.iconst (-1), 1) := by decide +kernel
theorem dX7_escalates_26 : decode cX7_escalates 26 = .ok (.goto 14, 3) := by decide +kernel
theorem dX7_escalates_29 : decode cX7_escalates 29 = .ok (.aload_n 0, 1) := by decide +kernel
theorem dX7_escalates_30 : decode cX7_escalates 30 = .ok (.getfield 18, 3) := by decide +kernel
theorem dX7_escalates_33 : decode cX7_escalates 33 = .ok (.getfield 40, 3) := by decide +kernel
theorem dX7_escalates_36 : decode cX7_escalates 36 = .ok (.iload_n 1, 1) := by decide +kernel
theorem dX7_escalates_37 : decode cX7_escalates 37 = .ok (.invokevirtual 250, 3) := by decide +kernel
theorem dX7_escalates_40 : decode cX7_escalates 40 = .ok (.istore_n 2, 1) := by decide +kernel
theorem dX7_escalates_41 : decode cX7_escalates 41 = .ok (.iload_n 2, 1) := by decide +kernel
theorem dX7_escalates_42 : decode cX7_escalates 42 = .ok (.iconst (-1), 1) := by decide +kernel
theorem dX7_escalates_43 : decode cX7_escalates 43 = .ok (.if_icmp .ne 8, 3) := by decide +kernel
theorem dX7_escalates_46 : decode cX7_escalates 46 = .ok (.bipush (-2), 2) := by decide +kernel
theorem dX7_escalates_48 : decode cX7_escalates 48 = .ok (.goto 4, 3) := by decide +kernel
theorem dX7_escalates_51 : decode cX7_escalates 51 = .ok (.iload_n 2, 1) := by decide +kernel
theorem dX7_escalates_52 : decode cX7_escalates 52 = .ok (.ireturn, 1) := by decide +kernel
theorem dX7_soon_0 : decode cX7_soon 0 = .ok (.iload_n 1, 1) := by decide +kernel
theorem dX7_soon_1 : decode cX7_soon 1 = .ok (.bipush 21, 2) := by decide +kernel
theorem dX7_soon_3 : decode cX7_soon 3 = .ok (.invokestatic 36, 3) := by decide +kernel
theorem dX7_soon_6 : decode cX7_soon 6 = .ok (.ifCond .ne 5, 3) := by decide +kernel
theorem dX7_soon_9 : decode cX7_soon 9 = .ok (.iconst (-1), 1) := by decide +kernel
theorem dX7_soon_10 : decode cX7_soon 10 = .ok (.ireturn, 1) := by decide +kernel
theorem dX7_soon_11 : decode cX7_soon 11 = .ok (.aload_n 0, 1) := by decide +kernel
theorem dX7_soon_12 : decode cX7_soon 12 = .ok (.getfield 22, 3) := by decide +kernel
theorem dX7_soon_15 : decode cX7_soon 15 = .ok (.aload_n 0, 1) := by decide +kernel
theorem dX7_soon_16 : decode cX7_soon 16 = .ok (.getfield 18, 3) := by decide +kernel
theorem dX7_soon_19 : decode cX7_soon 19 = .ok (.iconst 0, 1) := by decide +kernel
theorem dX7_soon_20 : decode cX7_soon 20 = .ok (.invokevirtual 253, 3) := by decide +kernel
theorem dX7_soon_23 : decode cX7_soon 23 = .ok (.aload_n 0, 1) := by decide +kernel
theorem dX7_soon_24 : decode cX7_soon 24 = .ok (.getfield 22, 3) := by decide +kernel
theorem dX7_soon_27 : decode cX7_soon 27 = .ok (.iload_n 1, 1) := by decide +kernel
theorem dX7_soon_28 : decode cX7_soon 28 = .ok (.invokevirtual 99, 3) := by decide +kernel
theorem dX7_soon_31 : decode cX7_soon 31 = .ok (.ireturn, 1) := by decide +kernel
theorem dX7_order_0 : decode cX7_order 0 = .ok (.iload_n 1, 1) := by decide +kernel
theorem dX7_order_1 : decode cX7_order 1 = .ok (.ifCond .ge 5, 3) := by decide +kernel
theorem dX7_order_4 : decode cX7_order 4 = .ok (.iconst (-1), 1) := by decide +kernel
theorem dX7_order_5 : decode cX7_order 5 = .ok (.ireturn, 1) := by decide +kernel
theorem dX7_order_6 : decode cX7_order 6 = .ok (.aload_n 0, 1) := by decide +kernel
theorem dX7_order_7 : decode cX7_order 7 = .ok (.getfield 22, 3) := by decide +kernel
theorem dX7_order_10 : decode cX7_order 10 = .ok (.aload_n 0, 1) := by decide +kernel
theorem dX7_order_11 : decode cX7_order 11 = .ok (.getfield 18, 3) := by decide +kernel
theorem dX7_order_14 : decode cX7_order 14 = .ok (.iload_n 2, 1) := by decide +kernel
theorem dX7_order_15 : decode cX7_order 15 = .ok (.invokevirtual 253, 3) := by decide +kernel
theorem dX7_order_18 : decode cX7_order 18 = .ok (.iconst 0, 1) := by decide +kernel
theorem dX7_order_19 : decode cX7_order 19 = .ok (.istore_n 3, 1) := by decide +kernel
theorem dX7_order_20 : decode cX7_order 20 = .ok (.iconst 0, 1) := by decide +kernel
theorem dX7_order_21 : decode cX7_order 21 = .ok (.istore 4, 2) := by decide +kernel
theorem dX7_order_23 : decode cX7_order 23 = .ok (.iload 4, 2) := by decide +kernel
theorem dX7_order_25 : decode cX7_order 25 = .ok (.sipush 300, 3) := by decide +kernel
theorem dX7_order_28 : decode cX7_order 28 = .ok (.if_icmp .ge 54, 3) := by decide +kernel
theorem dX7_order_31 : decode cX7_order 31 = .ok (.aload_n 0, 1) := by decide +kernel
theorem dX7_order_32 : decode cX7_order 32 = .ok (.getfield 22, 3) := by decide +kernel
theorem dX7_order_35 : decode cX7_order 35 = .ok (.getfield 93, 3) := by decide +kernel
theorem dX7_order_38 : decode cX7_order 38 = .ok (.iconst 5, 1) := by decide +kernel
theorem dX7_order_39 : decode cX7_order 39 = .ok (.if_icmp .eq 43, 3) := by decide +kernel
theorem dX7_order_42 : decode cX7_order 42 = .ok (.aload_n 0, 1) := by decide +kernel
theorem dX7_order_43 : decode cX7_order 43 = .ok (.getfield 22, 3) := by decide +kernel
theorem dX7_order_46 : decode cX7_order 46 = .ok (.invokevirtual 96, 3) := by decide +kernel
theorem dX7_order_49 : decode cX7_order 49 = .ok (.aload_n 0, 1) := by decide +kernel
theorem dX7_order_50 : decode cX7_order 50 = .ok (.getfield 22, 3) := by decide +kernel
theorem dX7_order_53 : decode cX7_order 53 = .ok (.getfield 257, 3) := by decide +kernel
theorem dX7_order_56 : decode cX7_order 56 = .ok (.iconst (-1), 1) := by decide +kernel
theorem dX7_order_57 : decode cX7_order 57 = .ok (.if_icmp .eq 19, 3) := by decide +kernel
theorem dX7_order_60 : decode cX7_order 60 = .ok (.iload_n 3, 1) := by decide +kernel
theorem dX7_order_61 : decode cX7_order 61 = .ok (.iload_n 1, 1) := by decide +kernel
theorem dX7_order_62 : decode cX7_order 62 = .ok (.if_icmp .ne 11, 3) := by decide +kernel
theorem dX7_order_65 : decode cX7_order 65 = .ok (.aload_n 0, 1) := by decide +kernel
theorem dX7_order_66 : decode cX7_order 66 = .ok (.getfield 22, 3) := by decide +kernel
theorem dX7_order_69 : decode cX7_order 69 = .ok (.getfield 257, 3) := by decide +kernel
theorem dX7_order_72 : decode cX7_order 72 = .ok (.ireturn, 1) := by decide +kernel
theorem dX7_order_73 : decode cX7_order 73 = .ok (.iinc 3 1, 3) := by decide +kernel
theorem dX7_order_76 : decode cX7_order 76 = .ok (.iinc 4 1, 3) := by decide +kernel
theorem dX7_order_79 : decode cX7_order 79 = .ok (.goto (-56), 3) := by decide +kernel
theorem dX7_order_82 : decode cX7_order 82 = .ok (.iconst (-1), 1) := by decide +kernel
theorem dX7_order_83 : decode cX7_order 83 = .ok (.ireturn, 1) := by decide +kernel
theorem dX7_quiet_0 : decode cX7_quiet 0 = .ok (.aload_n 0, 1) := by decide +kernel
theorem dX7_quiet_1 : decode cX7_quiet 1 = .ok (.getfield 22, 3) := by decide +kernel
theorem dX7_quiet_4 : decode cX7_quiet 4 = .ok (.aload_n 0, 1) := by decide +kernel
theorem dX7_quiet_5 : decode cX7_quiet 5 = .ok (.getfield 18, 3) := by decide +kernel
theorem dX7_quiet_8 : decode cX7_quiet 8 = .ok (.iload_n 1, 1) := by decide +kernel
theorem dX7_quiet_9 : decode cX7_quiet 9 = .ok (.invokevirtual 253, 3) := by decide +kernel
theorem dX7_quiet_12 : decode cX7_quiet 12 = .ok (.iconst 0, 1) := by decide +kernel
theorem dX7_quiet_13 : decode cX7_quiet 13 = .ok (.istore_n 2, 1) := by decide +kernel
theorem dX7_quiet_14 : decode cX7_quiet 14 = .ok (.iload_n 2, 1) := by decide +kernel
theorem dX7_quiet_15 : decode cX7_quiet 15 = .ok (.sipush 300, 3) := by decide +kernel
theorem dX7_quiet_18 : decode cX7_quiet 18 = .ok (.if_icmp .gt 39, 3) := by decide +kernel
theorem dX7_quiet_21 : decode cX7_quiet 21 = .ok (.aload_n 0, 1) := by decide +kernel
theorem dX7_quiet_22 : decode cX7_quiet 22 = .ok (.getfield 22, 3) := by decide +kernel
theorem dX7_quiet_25 : decode cX7_quiet 25 = .ok (.getfield 93, 3) := by decide +kernel
theorem dX7_quiet_28 : decode cX7_quiet 28 = .ok (.iconst 5, 1) := by decide +kernel
theorem dX7_quiet_29 : decode cX7_quiet 29 = .ok (.if_icmp .eq 28, 3) := by decide +kernel
theorem dX7_quiet_32 : decode cX7_quiet 32 = .ok (.aload_n 0, 1) := by decide +kernel
theorem dX7_quiet_33 : decode cX7_quiet 33 = .ok (.getfield 22, 3) := by decide +kernel
theorem dX7_quiet_36 : decode cX7_quiet 36 = .ok (.invokevirtual 260, 3) := by decide +kernel
theorem dX7_quiet_39 : decode cX7_quiet 39 = .ok (.ifCond .eq 5, 3) := by decide +kernel
theorem dX7_quiet_42 : decode cX7_quiet 42 = .ok (.iload_n 2, 1) := by decide +kernel
theorem dX7_quiet_43 : decode cX7_quiet 43 = .ok (.ireturn, 1) := by decide +kernel
theorem dX7_quiet_44 : decode cX7_quiet 44 = .ok (.aload_n 0, 1) := by decide +kernel
theorem dX7_quiet_45 : decode cX7_quiet 45 = .ok (.getfield 22, 3) := by decide +kernel
theorem dX7_quiet_48 : decode cX7_quiet 48 = .ok (.invokevirtual 96, 3) := by decide +kernel
theorem dX7_quiet_51 : decode cX7_quiet 51 = .ok (.iinc 2 1, 3) := by decide +kernel
theorem dX7_quiet_54 : decode cX7_quiet 54 = .ok (.goto (-40), 3) := by decide +kernel
theorem dX7_quiet_57 : decode cX7_quiet 57 = .ok (.iconst (-1), 1) := by decide +kernel
theorem dX7_quiet_58 : decode cX7_quiet 58 = .ok (.ireturn, 1) := by decide +kernel
theorem dX7_window_0 : decode cX7_window 0 = .ok (.iload_n 1, 1) := by decide +kernel
theorem dX7_window_1 : decode cX7_window 1 = .ok (.bipush 18, 2) := by decide +kernel
theorem dX7_window_3 : decode cX7_window 3 = .ok (.invokestatic 36, 3) := by decide +kernel
theorem dX7_window_6 : decode cX7_window 6 = .ok (.ifCond .ne 5, 3) := by decide +kernel
theorem dX7_window_9 : decode cX7_window 9 = .ok (.iconst (-1), 1) := by decide +kernel
theorem dX7_window_10 : decode cX7_window 10 = .ok (.ireturn, 1) := by decide +kernel
theorem dX7_window_11 : decode cX7_window 11 = .ok (.iconst 0, 1) := by decide +kernel
theorem dX7_window_12 : decode cX7_window 12 = .ok (.istore_n 2, 1) := by decide +kernel
theorem dX7_window_13 : decode cX7_window 13 = .ok (.iconst 0, 1) := by decide +kernel
theorem dX7_window_14 : decode cX7_window 14 = .ok (.istore_n 3, 1) := by decide +kernel
theorem dX7_window_15 : decode cX7_window 15 = .ok (.iload_n 3, 1) := by decide +kernel
theorem dX7_window_16 : decode cX7_window 16 = .ok (.bipush 20, 2) := by decide +kernel
theorem dX7_window_18 : decode cX7_window 18 = .ok (.if_icmp .ge 81, 3) := by decide +kernel
theorem dX7_window_21 : decode cX7_window 21 = .ok (.aload_n 0, 1) := by decide +kernel
theorem dX7_window_22 : decode cX7_window 22 = .ok (.getfield 22, 3) := by decide +kernel
theorem dX7_window_25 : decode cX7_window 25 = .ok (.aload_n 0, 1) := by decide +kernel
theorem dX7_window_26 : decode cX7_window 26 = .ok (.getfield 18, 3) := by decide +kernel
theorem dX7_window_29 : decode cX7_window 29 = .ok (.iconst 0, 1) := by decide +kernel
theorem dX7_window_30 : decode cX7_window 30 = .ok (.invokevirtual 253, 3) := by decide +kernel
theorem dX7_window_33 : decode cX7_window 33 = .ok (.iconst 0, 1) := by decide +kernel
theorem dX7_window_34 : decode cX7_window 34 = .ok (.istore 4, 2) := by decide +kernel
theorem dX7_window_36 : decode cX7_window 36 = .ok (.iload 4, 2) := by decide +kernel
theorem dX7_window_38 : decode cX7_window 38 = .ok (.iload_n 3, 1) := by decide +kernel
theorem dX7_window_39 : decode cX7_window 39 = .ok (.if_icmp .ge 16, 3) := by decide +kernel
theorem dX7_window_42 : decode cX7_window 42 = .ok (.aload_n 0, 1) := by decide +kernel
theorem dX7_window_43 : decode cX7_window 43 = .ok (.getfield 22, 3) := by decide +kernel
theorem dX7_window_46 : decode cX7_window 46 = .ok (.invokevirtual 96, 3) := by decide +kernel
theorem dX7_window_49 : decode cX7_window 49 = .ok (.iinc 4 1, 3) := by decide +kernel
theorem dX7_window_52 : decode cX7_window 52 = .ok (.goto (-16), 3) := by decide +kernel
theorem dX7_window_55 : decode cX7_window 55 = .ok (.aload_n 0, 1) := by decide +kernel
theorem dX7_window_56 : decode cX7_window 56 = .ok (.getfield 22, 3) := by decide +kernel
theorem dX7_window_59 : decode cX7_window 59 = .ok (.getfield 40, 3) := by decide +kernel
theorem dX7_window_62 : decode cX7_window 62 = .ok (.iload_n 1, 1) := by decide +kernel
theorem dX7_window_63 : decode cX7_window 63 = .ok (.aload_n 0, 1) := by decide +kernel
theorem dX7_window_64 : decode cX7_window 64 = .ok (.getfield 22, 3) := by decide +kernel
theorem dX7_window_67 : decode cX7_window 67 = .ok (.getfield 69, 3) := by decide +kernel
theorem dX7_window_70 : decode cX7_window 70 = .ok (.invokevirtual 72, 3) := by decide +kernel
theorem dX7_window_73 : decode cX7_window 73 = .ok (.pop, 1) := by decide +kernel
theorem dX7_window_74 : decode cX7_window 74 = .ok (.aload_n 0, 1) := by decide +kernel
theorem dX7_window_75 : decode cX7_window 75 = .ok (.getfield 22, 3) := by decide +kernel
theorem dX7_window_78 : decode cX7_window 78 = .ok (.bipush 40, 2) := by decide +kernel
theorem dX7_window_80 : decode cX7_window 80 = .ok (.invokevirtual 264, 3) := by decide +kernel
theorem dX7_window_83 : decode cX7_window 83 = .ok (.iload_n 1, 1) := by decide +kernel
theorem dX7_window_84 : decode cX7_window 84 = .ok (.if_icmp .ne 9, 3) := by decide +kernel
theorem dX7_window_87 : decode cX7_window 87 = .ok (.iload_n 2, 1) := by decide +kernel
theorem dX7_window_88 : decode cX7_window 88 = .ok (.iconst 1, 1) := by decide +kernel
theorem dX7_window_89 : decode cX7_window 89 = .ok (.iload_n 3, 1) := by decide +kernel
theorem dX7_window_90 : decode cX7_window 90 = .ok (.ishl, 1) := by decide +kernel
theorem dX7_window_91 : decode cX7_window 91 = .ok (.ior, 1) := by decide +kernel
theorem dX7_window_92 : decode cX7_window 92 = .ok (.istore_n 2, 1) := by decide +kernel
theorem dX7_window_93 : decode cX7_window 93 = .ok (.iinc 3 1, 3) := by decide +kernel
theorem dX7_window_96 : decode cX7_window 96 = .ok (.goto (-81), 3) := by decide +kernel
theorem dX7_window_99 : decode cX7_window 99 = .ok (.iload_n 2, 1) := by decide +kernel
theorem dX7_window_100 : decode cX7_window 100 = .ok (.ireturn, 1) := by decide +kernel
theorem dX7_keeps_0 : decode cX7_keeps 0 = .ok (.aload_n 0, 1) := by decide +kernel
theorem dX7_keeps_1 : decode cX7_keeps 1 = .ok (.getfield 18, 3) := by decide +kernel
theorem dX7_keeps_4 : decode cX7_keeps 4 = .ok (.getfield 93, 3) := by decide +kernel
theorem dX7_keeps_7 : decode cX7_keeps 7 = .ok (.ifCond .ne 30, 3) := by decide +kernel
theorem dX7_keeps_10 : decode cX7_keeps 10 = .ok (.aload_n 0, 1) := by decide +kernel
theorem dX7_keeps_11 : decode cX7_keeps 11 = .ok (.getfield 18, 3) := by decide +kernel
theorem dX7_keeps_14 : decode cX7_keeps 14 = .ok (.getfield 109, 3) := by decide +kernel
theorem dX7_keeps_17 : decode cX7_keeps 17 = .ok (.getfield 158, 3) := by decide +kernel
theorem dX7_keeps_20 : decode cX7_keeps 20 = .ok (.ifCond .ne 17, 3) := by decide +kernel
theorem dX7_keeps_23 : decode cX7_keeps 23 = .ok (.aload_n 0, 1) := by decide +kernel
theorem dX7_keeps_24 : decode cX7_keeps 24 = .ok (.getfield 18, 3) := by decide +kernel
theorem dX7_keeps_27 : decode cX7_keeps 27 = .ok (.getfield 40, 3) := by decide +kernel
theorem dX7_keeps_30 : decode cX7_keeps 30 = .ok (.invokevirtual 193, 3) := by decide +kernel
theorem dX7_keeps_33 : decode cX7_keeps 33 = .ok (.iconst (-1), 1) := by decide +kernel
theorem dX7_keeps_34 : decode cX7_keeps 34 = .ok (.if_icmp .ne 5, 3) := by decide +kernel
theorem dX7_keeps_37 : decode cX7_keeps 37 = .ok (.iconst (-1), 1) := by decide +kernel
theorem dX7_keeps_38 : decode cX7_keeps 38 = .ok (.ireturn, 1) := by decide +kernel
theorem dX7_keeps_39 : decode cX7_keeps 39 = .ok (.aload_n 0, 1) := by decide +kernel
theorem dX7_keeps_40 : decode cX7_keeps 40 = .ok (.getfield 22, 3) := by decide +kernel
theorem dX7_keeps_43 : decode cX7_keeps 43 = .ok (.aload_n 0, 1) := by decide +kernel
theorem dX7_keeps_44 : decode cX7_keeps 44 = .ok (.getfield 18, 3) := by decide +kernel
theorem dX7_keeps_47 : decode cX7_keeps 47 = .ok (.iconst 0, 1) := by decide +kernel
theorem dX7_keeps_48 : decode cX7_keeps 48 = .ok (.invokevirtual 253, 3) := by decide +kernel
theorem dX7_keeps_51 : decode cX7_keeps 51 = .ok (.aload_n 0, 1) := by decide +kernel
theorem dX7_keeps_52 : decode cX7_keeps 52 = .ok (.getfield 18, 3) := by decide +kernel
theorem dX7_keeps_55 : decode cX7_keeps 55 = .ok (.getfield 40, 3) := by decide +kernel
theorem dX7_keeps_58 : decode cX7_keeps 58 = .ok (.getfield 59, 3) := by decide +kernel
theorem dX7_keeps_61 : decode cX7_keeps 61 = .ok (.istore_n 1, 1) := by decide +kernel
theorem dX7_keeps_62 : decode cX7_keeps 62 = .ok (.iconst 0, 1) := by decide +kernel
theorem dX7_keeps_63 : decode cX7_keeps 63 = .ok (.istore_n 2, 1) := by decide +kernel
theorem dX7_keeps_64 : decode cX7_keeps 64 = .ok (.iconst 0, 1) := by decide +kernel
theorem dX7_keeps_65 : decode cX7_keeps 65 = .ok (.istore_n 3, 1) := by decide +kernel
theorem dX7_keeps_66 : decode cX7_keeps 66 = .ok (.iload_n 3, 1) := by decide +kernel
theorem dX7_keeps_67 : decode cX7_keeps 67 = .ok (.sipush 300, 3) := by decide +kernel
theorem dX7_keeps_70 : decode cX7_keeps 70 = .ok (.if_icmp .ge 105, 3) := by decide +kernel
theorem dX7_keeps_73 : decode cX7_keeps 73 = .ok (.aload_n 0, 1) := by decide +kernel
theorem dX7_keeps_74 : decode cX7_keeps 74 = .ok (.getfield 22, 3) := by decide +kernel
theorem dX7_keeps_77 : decode cX7_keeps 77 = .ok (.getfield 93, 3) := by decide +kernel
theorem dX7_keeps_80 : decode cX7_keeps 80 = .ok (.iconst 5, 1) := by decide +kernel
theorem dX7_keeps_81 : decode cX7_keeps 81 = .ok (.if_icmp .eq 94, 3) := by decide +kernel
theorem dX7_keeps_84 : decode cX7_keeps 84 = .ok (.aload_n 0, 1) := by decide +kernel
theorem dX7_keeps_85 : decode cX7_keeps 85 = .ok (.getfield 22, 3) := by decide +kernel
theorem dX7_keeps_88 : decode cX7_keeps 88 = .ok (.invokevirtual 96, 3) := by decide +kernel
theorem dX7_keeps_91 : decode cX7_keeps 91 = .ok (.iload_n 2, 1) := by decide +kernel
theorem dX7_keeps_92 : decode cX7_keeps 92 = .ok (.ifCond .ne 17, 3) := by decide +kernel
theorem dX7_keeps_95 : decode cX7_keeps 95 = .ok (.aload_n 0, 1) := by decide +kernel
theorem dX7_keeps_96 : decode cX7_keeps 96 = .ok (.getfield 22, 3) := by decide +kernel
theorem dX7_keeps_99 : decode cX7_keeps 99 = .ok (.getfield 40, 3) := by decide +kernel
theorem dX7_keeps_102 : decode cX7_keeps 102 = .ok (.getfield 59, 3) := by decide +kernel
theorem dX7_keeps_105 : decode cX7_keeps 105 = .ok (.iload_n 1, 1) := by decide +kernel
theorem dX7_keeps_106 : decode cX7_keeps 106 = .ok (.if_icmp .le 7, 3) := by decide +kernel
theorem dX7_keeps_109 : decode cX7_keeps 109 = .ok (.iconst 1, 1) := by decide +kernel
theorem dX7_keeps_110 : decode cX7_keeps 110 = .ok (.goto 4, 3) := by decide +kernel
theorem dX7_keeps_113 : decode cX7_keeps 113 = .ok (.iconst 0, 1) := by decide +kernel
theorem dX7_keeps_114 : decode cX7_keeps 114 = .ok (.istore_n 2, 1) := by decide +kernel
theorem dX7_keeps_115 : decode cX7_keeps 115 = .ok (.iload_n 2, 1) := by decide +kernel
theorem dX7_keeps_116 : decode cX7_keeps 116 = .ok (.ifCond .eq 53, 3) := by decide +kernel
theorem dX7_keeps_119 : decode cX7_keeps 119 = .ok (.aload_n 0, 1) := by decide +kernel
theorem dX7_keeps_120 : decode cX7_keeps 120 = .ok (.getfield 22, 3) := by decide +kernel
theorem dX7_keeps_123 : decode cX7_keeps 123 = .ok (.getfield 93, 3) := by decide +kernel
theorem dX7_keeps_126 : decode cX7_keeps 126 = .ok (.ifCond .ne 43, 3) := by decide +kernel
theorem dX7_keeps_129 : decode cX7_keeps 129 = .ok (.aload_n 0, 1) := by decide +kernel
theorem dX7_keeps_130 : decode cX7_keeps 130 = .ok (.getfield 22, 3) := by decide +kernel
theorem dX7_keeps_133 : decode cX7_keeps 133 = .ok (.getfield 40, 3) := by decide +kernel
theorem dX7_keeps_136 : decode cX7_keeps 136 = .ok (.getfield 59, 3) := by decide +kernel
theorem dX7_keeps_139 : decode cX7_keeps 139 = .ok (.iload_n 1, 1) := by decide +kernel
theorem dX7_keeps_140 : decode cX7_keeps 140 = .ok (.if_icmp .ne 29, 3) := by decide +kernel
theorem dX7_keeps_143 : decode cX7_keeps 143 = .ok (.aload_n 0, 1) := by decide +kernel
theorem dX7_keeps_144 : decode cX7_keeps 144 = .ok (.getfield 22, 3) := by decide +kernel
theorem dX7_keeps_147 : decode cX7_keeps 147 = .ok (.getfield 109, 3) := by decide +kernel
theorem dX7_keeps_150 : decode cX7_keeps 150 = .ok (.aload_n 0, 1) := by decide +kernel
theorem dX7_keeps_151 : decode cX7_keeps 151 = .ok (.getfield 18, 3) := by decide +kernel
theorem dX7_keeps_154 : decode cX7_keeps 154 = .ok (.getfield 109, 3) := by decide +kernel
theorem dX7_keeps_157 : decode cX7_keeps 157 = .ok (.invokevirtual 267, 3) := by decide +kernel
theorem dX7_keeps_160 : decode cX7_keeps 160 = .ok (.ifCond .eq 7, 3) := by decide +kernel
theorem dX7_keeps_163 : decode cX7_keeps 163 = .ok (.iconst 1, 1) := by decide +kernel
theorem dX7_keeps_164 : decode cX7_keeps 164 = .ok (.goto 4, 3) := by decide +kernel
theorem dX7_keeps_167 : decode cX7_keeps 167 = .ok (.iconst 0, 1) := by decide +kernel
theorem dX7_keeps_168 : decode cX7_keeps 168 = .ok (.ireturn, 1) := by decide +kernel
theorem dX7_keeps_169 : decode cX7_keeps 169 = .ok (.iinc 3 1, 3) := by decide +kernel
theorem dX7_keeps_172 : decode cX7_keeps 172 = .ok (.goto (-106), 3) := by decide +kernel
theorem dX7_keeps_175 : decode cX7_keeps 175 = .ok (.iconst (-1), 1) := by decide +kernel
theorem dX7_keeps_176 : decode cX7_keeps 176 = .ok (.ireturn, 1) := by decide +kernel
theorem dX7_cost_0 : decode cX7_cost 0 = .ok (.iload_n 1, 1) := by decide +kernel
theorem dX7_cost_1 : decode cX7_cost 1 = .ok (.bipush 21, 2) := by decide +kernel
theorem dX7_cost_3 : decode cX7_cost 3 = .ok (.invokestatic 36, 3) := by decide +kernel
theorem dX7_cost_6 : decode cX7_cost 6 = .ok (.ifCond .ne 5, 3) := by decide +kernel
theorem dX7_cost_9 : decode cX7_cost 9 = .ok (.iconst (-1), 1) := by decide +kernel
theorem dX7_cost_10 : decode cX7_cost 10 = .ok (.ireturn, 1) := by decide +kernel
theorem dX7_cost_11 : decode cX7_cost 11 = .ok (.aload_n 0, 1) := by decide +kernel
theorem dX7_cost_12 : decode cX7_cost 12 = .ok (.getfield 18, 3) := by decide +kernel
theorem dX7_cost_15 : decode cX7_cost 15 = .ok (.getfield 40, 3) := by decide +kernel
theorem dX7_cost_18 : decode cX7_cost 18 = .ok (.getfield 56, 3) := by decide +kernel
theorem dX7_cost_21 : decode cX7_cost 21 = .ok (.iload_n 1, 1) := by decide +kernel
theorem dX7_cost_22 : decode cX7_cost 22 = .ok (.iaload, 1) := by decide +kernel
theorem dX7_cost_23 : decode cX7_cost 23 = .ok (.istore_n 2, 1) := by decide +kernel
theorem dX7_cost_24 : decode cX7_cost 24 = .ok (.aload_n 0, 1) := by decide +kernel
theorem dX7_cost_25 : decode cX7_cost 25 = .ok (.getfield 28, 3) := by decide +kernel
theorem dX7_cost_28 : decode cX7_cost 28 = .ok (.iload_n 2, 1) := by decide +kernel
theorem dX7_cost_29 : decode cX7_cost 29 = .ok (.invokevirtual 271, 3) := by decide +kernel
theorem dX7_cost_32 : decode cX7_cost 32 = .ok (.ifCond .eq 15, 3) := by decide +kernel
theorem dX7_cost_35 : decode cX7_cost 35 = .ok (.aload_n 0, 1) := by decide +kernel
theorem dX7_cost_36 : decode cX7_cost 36 = .ok (.getfield 28, 3) := by decide +kernel
theorem dX7_cost_39 : decode cX7_cost 39 = .ok (.getfield 274, 3) := by decide +kernel
theorem dX7_cost_42 : decode cX7_cost 42 = .ok (.iload_n 2, 1) := by decide +kernel
theorem dX7_cost_43 : decode cX7_cost 43 = .ok (.iaload, 1) := by decide +kernel
theorem dX7_cost_44 : decode cX7_cost 44 = .ok (.goto 4, 3) := by decide +kernel
theorem dX7_cost_47 : decode cX7_cost 47 = .ok (.iconst (-1), 1) := by decide +kernel
theorem dX7_cost_48 : decode cX7_cost 48 = .ok (.ireturn, 1) := by decide +kernel
theorem dX7_pushes_0 : decode cX7_pushes 0 = .ok (.iload_n 1, 1) := by decide +kernel
theorem dX7_pushes_1 : decode cX7_pushes 1 = .ok (.bipush 21, 2) := by decide +kernel
theorem dX7_pushes_3 : decode cX7_pushes 3 = .ok (.invokestatic 36, 3) := by decide +kernel
theorem dX7_pushes_6 : decode cX7_pushes 6 = .ok (.ifCond .ne 5, 3) := by decide +kernel
theorem dX7_pushes_9 : decode cX7_pushes 9 = .ok (.iconst (-1), 1) := by decide +kernel
theorem dX7_pushes_10 : decode cX7_pushes 10 = .ok (.ireturn, 1) := by decide +kernel
theorem dX7_pushes_11 : decode cX7_pushes 11 = .ok (.aload_n 0, 1) := by decide +kernel
theorem dX7_pushes_12 : decode cX7_pushes 12 = .ok (.getfield 18, 3) := by decide +kernel
theorem dX7_pushes_15 : decode cX7_pushes 15 = .ok (.getfield 40, 3) := by decide +kernel
theorem dX7_pushes_18 : decode cX7_pushes 18 = .ok (.getfield 56, 3) := by decide +kernel
theorem dX7_pushes_21 : decode cX7_pushes 21 = .ok (.iload_n 1, 1) := by decide +kernel
theorem dX7_pushes_22 : decode cX7_pushes 22 = .ok (.iaload, 1) := by decide +kernel
theorem dX7_pushes_23 : decode cX7_pushes 23 = .ok (.istore_n 2, 1) := by decide +kernel
theorem dX7_pushes_24 : decode cX7_pushes 24 = .ok (.aload_n 0, 1) := by decide +kernel
theorem dX7_pushes_25 : decode cX7_pushes 25 = .ok (.getfield 28, 3) := by decide +kernel
theorem dX7_pushes_28 : decode cX7_pushes 28 = .ok (.iload_n 2, 1) := by decide +kernel
theorem dX7_pushes_29 : decode cX7_pushes 29 = .ok (.invokevirtual 271, 3) := by decide +kernel
theorem dX7_pushes_32 : decode cX7_pushes 32 = .ok (.ifCond .eq 15, 3) := by decide +kernel
theorem dX7_pushes_35 : decode cX7_pushes 35 = .ok (.aload_n 0, 1) := by decide +kernel
theorem dX7_pushes_36 : decode cX7_pushes 36 = .ok (.getfield 28, 3) := by decide +kernel
theorem dX7_pushes_39 : decode cX7_pushes 39 = .ok (.getfield 277, 3) := by decide +kernel
theorem dX7_pushes_42 : decode cX7_pushes 42 = .ok (.iload_n 2, 1) := by decide +kernel
theorem dX7_pushes_43 : decode cX7_pushes 43 = .ok (.iaload, 1) := by decide +kernel
theorem dX7_pushes_44 : decode cX7_pushes 44 = .ok (.goto 4, 3) := by decide +kernel
theorem dX7_pushes_47 : decode cX7_pushes 47 = .ok (.iconst (-1), 1) := by decide +kernel
theorem dX7_pushes_48 : decode cX7_pushes 48 = .ok (.ireturn, 1) := by decide +kernel
theorem dX7_room_0 : decode cX7_room 0 = .ok (.aload_n 0, 1) := by decide +kernel
theorem dX7_room_1 : decode cX7_room 1 = .ok (.getfield 28, 3) := by decide +kernel
theorem dX7_room_4 : decode cX7_room 4 = .ok (.aload_n 0, 1) := by decide +kernel
theorem dX7_room_5 : decode cX7_room 5 = .ok (.getfield 18, 3) := by decide +kernel
theorem dX7_room_8 : decode cX7_room 8 = .ok (.getfield 40, 3) := by decide +kernel
theorem dX7_room_11 : decode cX7_room 11 = .ok (.iload_n 1, 1) := by decide +kernel
theorem dX7_room_12 : decode cX7_room 12 = .ok (.ifCond .eq 8, 3) := by decide +kernel
theorem dX7_room_15 : decode cX7_room 15 = .ok (.bipush 10, 2) := by decide +kernel
theorem dX7_room_17 : decode cX7_room 17 = .ok (.goto 5, 3) := by decide +kernel
theorem dX7_room_20 : decode cX7_room 20 = .ok (.bipush 6, 2) := by decide +kernel
theorem dX7_room_22 : decode cX7_room 22 = .ok (.invokevirtual 280, 3) := by decide +kernel
theorem dX7_room_25 : decode cX7_room 25 = .ok (.ireturn, 1) := by decide +kernel
theorem dX7_isBelow_0 : decode cX7_isBelow 0 = .ok (.iload_n 0, 1) := by decide +kernel
theorem dX7_isBelow_1 : decode cX7_isBelow 1 = .ok (.ifCond .lt 12, 3) := by decide +kernel
theorem dX7_isBelow_4 : decode cX7_isBelow 4 = .ok (.iload_n 0, 1) := by decide +kernel
theorem dX7_isBelow_5 : decode cX7_isBelow 5 = .ok (.iload_n 1, 1) := by decide +kernel
theorem dX7_isBelow_6 : decode cX7_isBelow 6 = .ok (.if_icmp .ge 7, 3) := by decide +kernel
theorem dX7_isBelow_9 : decode cX7_isBelow 9 = .ok (.iconst 1, 1) := by decide +kernel
theorem dX7_isBelow_10 : decode cX7_isBelow 10 = .ok (.goto 4, 3) := by decide +kernel
theorem dX7_isBelow_13 : decode cX7_isBelow 13 = .ok (.iconst 0, 1) := by decide +kernel
theorem dX7_isBelow_14 : decode cX7_isBelow 14 = .ok (.ireturn, 1) := by decide +kernel
theorem dX7_isPlace_0 : decode cX7_isPlace 0 = .ok (.iload_n 0, 1) := by decide +kernel
theorem dX7_isPlace_1 : decode cX7_isPlace 1 = .ok (.ifCond .lt 14, 3) := by decide +kernel
theorem dX7_isPlace_4 : decode cX7_isPlace 4 = .ok (.iload_n 0, 1) := by decide +kernel
theorem dX7_isPlace_5 : decode cX7_isPlace 5 = .ok (.sipush 511, 3) := by decide +kernel
theorem dX7_isPlace_8 : decode cX7_isPlace 8 = .ok (.if_icmp .gt 7, 3) := by decide +kernel
theorem dX7_isPlace_11 : decode cX7_isPlace 11 = .ok (.iconst 1, 1) := by decide +kernel
theorem dX7_isPlace_12 : decode cX7_isPlace 12 = .ok (.goto 4, 3) := by decide +kernel
theorem dX7_isPlace_15 : decode cX7_isPlace 15 = .ok (.iconst 0, 1) := by decide +kernel
theorem dX7_isPlace_16 : decode cX7_isPlace 16 = .ok (.ireturn, 1) := by decide +kernel
theorem dJ9_max_7cf53_0 : decode cJ9_max_7cf53 0 = .ok (.iload_n 0, 1) := by decide +kernel
theorem dJ9_max_7cf53_1 : decode cJ9_max_7cf53 1 = .ok (.iload_n 1, 1) := by decide +kernel
theorem dJ9_max_7cf53_2 : decode cJ9_max_7cf53 2 = .ok (.if_icmp .lt 7, 3) := by decide +kernel
theorem dJ9_max_7cf53_5 : decode cJ9_max_7cf53 5 = .ok (.iload_n 0, 1) := by decide +kernel
theorem dJ9_max_7cf53_6 : decode cJ9_max_7cf53 6 = .ok (.goto 4, 3) := by decide +kernel
theorem dJ9_max_7cf53_9 : decode cJ9_max_7cf53 9 = .ok (.iload_n 1, 1) := by decide +kernel
theorem dJ9_max_7cf53_10 : decode cJ9_max_7cf53 10 = .ok (.ireturn, 1) := by decide +kernel
theorem dJ9_min_7cf53_0 : decode cJ9_min_7cf53 0 = .ok (.iload_n 0, 1) := by decide +kernel
theorem dJ9_min_7cf53_1 : decode cJ9_min_7cf53 1 = .ok (.iload_n 1, 1) := by decide +kernel
theorem dJ9_min_7cf53_2 : decode cJ9_min_7cf53 2 = .ok (.if_icmp .gt 7, 3) := by decide +kernel
theorem dJ9_min_7cf53_5 : decode cJ9_min_7cf53 5 = .ok (.iload_n 0, 1) := by decide +kernel
theorem dJ9_min_7cf53_6 : decode cJ9_min_7cf53 6 = .ok (.goto 4, 3) := by decide +kernel
theorem dJ9_min_7cf53_9 : decode cJ9_min_7cf53 9 = .ok (.iload_n 1, 1) := by decide +kernel
theorem dJ9_min_7cf53_10 : decode cJ9_min_7cf53 10 = .ok (.ireturn, 1) := by decide +kernel
theorem dJ7_fill_53178_0 : decode cJ7_fill_53178 0 = .ok (.iconst 0, 1) := by decide +kernel
theorem dJ7_fill_53178_1 : decode cJ7_fill_53178 1 = .ok (.istore_n 2, 1) := by decide +kernel
theorem dJ7_fill_53178_2 : decode cJ7_fill_53178 2 = .ok (.aload_n 0, 1) := by decide +kernel
theorem dJ7_fill_53178_3 : decode cJ7_fill_53178 3 = .ok (.arraylength, 1) := by decide +kernel
theorem dJ7_fill_53178_4 : decode cJ7_fill_53178 4 = .ok (.istore_n 3, 1) := by decide +kernel
theorem dJ7_fill_53178_5 : decode cJ7_fill_53178 5 = .ok (.iload_n 2, 1) := by decide +kernel
theorem dJ7_fill_53178_6 : decode cJ7_fill_53178 6 = .ok (.iload_n 3, 1) := by decide +kernel
theorem dJ7_fill_53178_7 : decode cJ7_fill_53178 7 = .ok (.if_icmp .ge 13, 3) := by decide +kernel
theorem dJ7_fill_53178_10 : decode cJ7_fill_53178 10 = .ok (.aload_n 0, 1) := by decide +kernel
theorem dJ7_fill_53178_11 : decode cJ7_fill_53178 11 = .ok (.iload_n 2, 1) := by decide +kernel
theorem dJ7_fill_53178_12 : decode cJ7_fill_53178 12 = .ok (.iload_n 1, 1) := by decide +kernel
theorem dJ7_fill_53178_13 : decode cJ7_fill_53178 13 = .ok (.iastore, 1) := by decide +kernel
theorem dJ7_fill_53178_14 : decode cJ7_fill_53178 14 = .ok (.iinc 2 1, 3) := by decide +kernel
theorem dJ7_fill_53178_17 : decode cJ7_fill_53178 17 = .ok (.goto (-12), 3) := by decide +kernel
theorem dJ7_fill_53178_20 : decode cJ7_fill_53178 20 = .ok (.return_, 1) := by decide +kernel
theorem dL_reg_0 : decode cL_reg 0 = .ok (.aload_n 2, 1) := by decide +kernel
theorem dL_reg_1 : decode cL_reg 1 = .ok (.iconst 0, 1) := by decide +kernel
theorem dL_reg_2 : decode cL_reg 2 = .ok (.aload_n 0, 1) := by decide +kernel
theorem dL_reg_3 : decode cL_reg 3 = .ok (.iload_n 1, 1) := by decide +kernel
theorem dL_reg_4 : decode cL_reg 4 = .ok (.invokevirtual 7, 3) := by decide +kernel
theorem dL_reg_7 : decode cL_reg 7 = .ok (.i2l, 1) := by decide +kernel
theorem dL_reg_8 : decode cL_reg 8 = .ok (.lastore, 1) := by decide +kernel
theorem dL_reg_9 : decode cL_reg 9 = .ok (.goto 6, 3) := by decide +kernel
theorem dL_reg_12 : decode cL_reg 12 = .ok (.astore_n 3, 1) := by decide +kernel
theorem dL_reg_13 : decode cL_reg 13 = .ok (.iconst 1, 1) := by decide +kernel
theorem dL_reg_14 : decode cL_reg 14 = .ok (.ireturn, 1) := by decide +kernel
theorem dL_reg_15 : decode cL_reg 15 = .ok (.iconst 0, 1) := by decide +kernel
theorem dL_reg_16 : decode cL_reg 16 = .ok (.ireturn, 1) := by decide +kernel
theorem dL_word_0 : decode cL_word 0 = .ok (.aload_n 2, 1) := by decide +kernel
theorem dL_word_1 : decode cL_word 1 = .ok (.iconst 0, 1) := by decide +kernel
theorem dL_word_2 : decode cL_word 2 = .ok (.aload_n 0, 1) := by decide +kernel
theorem dL_word_3 : decode cL_word 3 = .ok (.iload_n 1, 1) := by decide +kernel
theorem dL_word_4 : decode cL_word 4 = .ok (.invokevirtual 15, 3) := by decide +kernel
theorem dL_word_7 : decode cL_word 7 = .ok (.i2l, 1) := by decide +kernel
theorem dL_word_8 : decode cL_word 8 = .ok (.lastore, 1) := by decide +kernel
theorem dL_word_9 : decode cL_word 9 = .ok (.goto 6, 3) := by decide +kernel
theorem dL_word_12 : decode cL_word 12 = .ok (.astore_n 3, 1) := by decide +kernel
theorem dL_word_13 : decode cL_word 13 = .ok (.iconst 1, 1) := by decide +kernel
theorem dL_word_14 : decode cL_word 14 = .ok (.ireturn, 1) := by decide +kernel
theorem dL_word_15 : decode cL_word 15 = .ok (.iconst 0, 1) := by decide +kernel
theorem dL_word_16 : decode cL_word 16 = .ok (.ireturn, 1) := by decide +kernel
theorem dL_data_0 : decode cL_data 0 = .ok (.aload_n 2, 1) := by decide +kernel
theorem dL_data_1 : decode cL_data 1 = .ok (.iconst 0, 1) := by decide +kernel
theorem dL_data_2 : decode cL_data 2 = .ok (.aload_n 0, 1) := by decide +kernel
theorem dL_data_3 : decode cL_data 3 = .ok (.iload_n 1, 1) := by decide +kernel
theorem dL_data_4 : decode cL_data 4 = .ok (.invokevirtual 20, 3) := by decide +kernel
theorem dL_data_7 : decode cL_data 7 = .ok (.i2l, 1) := by decide +kernel
theorem dL_data_8 : decode cL_data 8 = .ok (.lastore, 1) := by decide +kernel
theorem dL_data_9 : decode cL_data 9 = .ok (.goto 6, 3) := by decide +kernel
theorem dL_data_12 : decode cL_data 12 = .ok (.astore_n 3, 1) := by decide +kernel
theorem dL_data_13 : decode cL_data 13 = .ok (.iconst 1, 1) := by decide +kernel
theorem dL_data_14 : decode cL_data 14 = .ok (.ireturn, 1) := by decide +kernel
theorem dL_data_15 : decode cL_data 15 = .ok (.iconst 0, 1) := by decide +kernel
theorem dL_data_16 : decode cL_data 16 = .ok (.ireturn, 1) := by decide +kernel
theorem dL_out_0 : decode cL_out 0 = .ok (.aload_n 2, 1) := by decide +kernel
theorem dL_out_1 : decode cL_out 1 = .ok (.iconst 0, 1) := by decide +kernel
theorem dL_out_2 : decode cL_out 2 = .ok (.aload_n 0, 1) := by decide +kernel
theorem dL_out_3 : decode cL_out 3 = .ok (.iload_n 1, 1) := by decide +kernel
theorem dL_out_4 : decode cL_out 4 = .ok (.invokevirtual 23, 3) := by decide +kernel
theorem dL_out_7 : decode cL_out 7 = .ok (.i2l, 1) := by decide +kernel
theorem dL_out_8 : decode cL_out 8 = .ok (.lastore, 1) := by decide +kernel
theorem dL_out_9 : decode cL_out 9 = .ok (.goto 6, 3) := by decide +kernel
theorem dL_out_12 : decode cL_out 12 = .ok (.astore_n 3, 1) := by decide +kernel
theorem dL_out_13 : decode cL_out 13 = .ok (.iconst 1, 1) := by decide +kernel
theorem dL_out_14 : decode cL_out 14 = .ok (.ireturn, 1) := by decide +kernel
theorem dL_out_15 : decode cL_out 15 = .ok (.iconst 0, 1) := by decide +kernel
theorem dL_out_16 : decode cL_out 16 = .ok (.ireturn, 1) := by decide +kernel
theorem dL_event_0 : decode cL_event 0 = .ok (.aload_n 3, 1) := by decide +kernel
theorem dL_event_1 : decode cL_event 1 = .ok (.iconst 0, 1) := by decide +kernel
theorem dL_event_2 : decode cL_event 2 = .ok (.aload_n 0, 1) := by decide +kernel
theorem dL_event_3 : decode cL_event 3 = .ok (.iload_n 1, 1) := by decide +kernel
theorem dL_event_4 : decode cL_event 4 = .ok (.iload_n 2, 1) := by decide +kernel
theorem dL_event_5 : decode cL_event 5 = .ok (.invokevirtual 26, 3) := by decide +kernel
theorem dL_event_8 : decode cL_event 8 = .ok (.i2l, 1) := by decide +kernel
theorem dL_event_9 : decode cL_event 9 = .ok (.lastore, 1) := by decide +kernel
theorem dL_event_10 : decode cL_event 10 = .ok (.goto 7, 3) := by decide +kernel
theorem dL_event_13 : decode cL_event 13 = .ok (.astore 4, 2) := by decide +kernel
theorem dL_event_15 : decode cL_event 15 = .ok (.iconst 1, 1) := by decide +kernel
theorem dL_event_16 : decode cL_event 16 = .ok (.ireturn, 1) := by decide +kernel
theorem dL_event_17 : decode cL_event 17 = .ok (.iconst 0, 1) := by decide +kernel
theorem dL_event_18 : decode cL_event 18 = .ok (.ireturn, 1) := by decide +kernel
