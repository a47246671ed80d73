theorem dX0_init_0 : decode cX0_init 0 = .ok (.aload_n 0, 1) := by decide +kernel
theorem dX0_init_1 : decode cX0_init 1 = .ok (.invokespecial 3, 3) := by decide +kernel
theorem dX0_init_4 : decode cX0_init 4 = .ok (.aload_n 0, 1) := by decide +kernel
theorem dX0_init_5 : decode cX0_init 5 = .ok (.bipush 6, 2) := by decide +kernel
theorem dX0_init_7 : decode cX0_init 7 = .ok (.newarray .int, 2) := by decide +kernel
theorem dX0_init_9 : decode cX0_init 9 = .ok (.putfield 9, 3) := by decide +kernel
theorem dX0_init_12 : decode cX0_init 12 = .ok (.aload_n 0, 1) := by decide +kernel
theorem dX0_init_13 : decode cX0_init 13 = .ok (.bipush 6, 2) := by decide +kernel
theorem dX0_init_15 : decode cX0_init 15 = .ok (.newarray .int, 2) := by decide +kernel
theorem dX0_init_17 : decode cX0_init 17 = .ok (.putfield 15, 3) := by decide +kernel
theorem dX0_init_20 : decode cX0_init 20 = .ok (.return_, 1) := by decide +kernel
theorem dX0_note_0 : decode cX0_note 0 = .ok (.aload_n 0, 1) := by decide +kernel
theorem dX0_note_1 : decode cX0_note 1 = .ok (.getfield 18, 3) := by decide +kernel
theorem dX0_note_4 : decode cX0_note 4 = .ok (.bipush 6, 2) := by decide +kernel
theorem dX0_note_6 : decode cX0_note 6 = .ok (.if_icmp .lt 5, 3) := by decide +kernel
theorem dX0_note_9 : decode cX0_note 9 = .ok (.iconst 0, 1) := by decide +kernel
theorem dX0_note_10 : decode cX0_note 10 = .ok (.ireturn, 1) := by decide +kernel
theorem dX0_note_11 : decode cX0_note 11 = .ok (.aload_n 0, 1) := by decide +kernel
theorem dX0_note_12 : decode cX0_note 12 = .ok (.getfield 9, 3) := by decide +kernel
theorem dX0_note_15 : decode cX0_note 15 = .ok (.aload_n 0, 1) := by decide +kernel
theorem dX0_note_16 : decode cX0_note 16 = .ok (.getfield 18, 3) := by decide +kernel
theorem dX0_note_19 : decode cX0_note 19 = .ok (.iload_n 1, 1) := by decide +kernel
theorem dX0_note_20 : decode cX0_note 20 = .ok (.iastore, 1) := by decide +kernel
theorem dX0_note_21 : decode cX0_note 21 = .ok (.aload_n 0, 1) := by decide +kernel
theorem dX0_note_22 : decode cX0_note 22 = .ok (.getfield 15, 3) := by decide +kernel
theorem dX0_note_25 : decode cX0_note 25 = .ok (.aload_n 0, 1) := by decide +kernel
theorem dX0_note_26 : decode cX0_note 26 = .ok (.getfield 18, 3) := by decide +kernel
theorem dX0_note_29 : decode cX0_note 29 = .ok (.iload_n 2, 1) := by decide +kernel
theorem dX0_note_30 : decode cX0_note 30 = .ok (.iastore, 1) := by decide +kernel
theorem dX0_note_31 : decode cX0_note 31 = .ok (.aload_n 0, 1) := by decide +kernel
theorem dX0_note_32 : decode cX0_note 32 = .ok (.dup, 1) := by decide +kernel
theorem dX0_note_33 : decode cX0_note 33 = .ok (.getfield 18, 3) := by decide +kernel
theorem dX0_note_36 : decode cX0_note 36 = .ok (.iconst 1, 1) := by decide +kernel
theorem dX0_note_37 : decode cX0_note 37 = .ok (.iadd, 1) := by decide +kernel
theorem dX0_note_38 : decode cX0_note 38 = .ok (.putfield 18, 3) := by decide +kernel
theorem dX0_note_41 : decode cX0_note 41 = .ok (.iconst 1, 1) := by decide +kernel
theorem dX0_note_42 : decode cX0_note 42 = .ok (.ireturn, 1) := by decide +kernel
theorem dX0_agree_0 : decode cX0_agree 0 = .ok (.iconst 0, 1) := by decide +kernel
theorem dX0_agree_1 : decode cX0_agree 1 = .ok (.istore_n 3, 1) := by decide +kernel
theorem dX0_agree_2 : decode cX0_agree 2 = .ok (.iload_n 3, 1) := by decide +kernel
theorem dX0_agree_3 : decode cX0_agree 3 = .ok (.aload_n 0, 1) := by decide +kernel
theorem dX0_agree_4 : decode cX0_agree 4 = .ok (.getfield 18, 3) := by decide +kernel
theorem dX0_agree_7 : decode cX0_agree 7 = .ok (.if_icmp .ge 31, 3) := by decide +kernel
theorem dX0_agree_10 : decode cX0_agree 10 = .ok (.aload_n 0, 1) := by decide +kernel
theorem dX0_agree_11 : decode cX0_agree 11 = .ok (.getfield 9, 3) := by decide +kernel
theorem dX0_agree_14 : decode cX0_agree 14 = .ok (.iload_n 3, 1) := by decide +kernel
theorem dX0_agree_15 : decode cX0_agree 15 = .ok (.iaload, 1) := by decide +kernel
theorem dX0_agree_16 : decode cX0_agree 16 = .ok (.iload_n 1, 1) := by decide +kernel
theorem dX0_agree_17 : decode cX0_agree 17 = .ok (.if_icmp .ne 15, 3) := by decide +kernel
theorem dX0_agree_20 : decode cX0_agree 20 = .ok (.aload_n 0, 1) := by decide +kernel
theorem dX0_agree_21 : decode cX0_agree 21 = .ok (.getfield 15, 3) := by decide +kernel
theorem dX0_agree_24 : decode cX0_agree 24 = .ok (.iload_n 3, 1) := by decide +kernel
theorem dX0_agree_25 : decode cX0_agree 25 = .ok (.iaload, 1) := by decide +kernel
theorem dX0_agree_26 : decode cX0_agree 26 = .ok (.iload_n 2, 1) := by decide +kernel
theorem dX0_agree_27 : decode cX0_agree 27 = .ok (.if_icmp .eq 5, 3) := by decide +kernel
theorem dX0_agree_30 : decode cX0_agree 30 = .ok (.iconst 0, 1) := by decide +kernel
theorem dX0_agree_31 : decode cX0_agree 31 = .ok (.ireturn, 1) := by decide +kernel
theorem dX0_agree_32 : decode cX0_agree 32 = .ok (.iinc 3 1, 3) := by decide +kernel
theorem dX0_agree_35 : decode cX0_agree 35 = .ok (.goto (-33), 3) := by decide +kernel
theorem dX0_agree_38 : decode cX0_agree 38 = .ok (.iconst 1, 1) := by decide +kernel
theorem dX0_agree_39 : decode cX0_agree 39 = .ok (.ireturn, 1) := by decide +kernel
theorem dX1_init_0 : decode cX1_init 0 = .ok (.aload_n 0, 1) := by decide +kernel
theorem dX1_init_1 : decode cX1_init 1 = .ok (.invokespecial 3, 3) := by decide +kernel
theorem dX1_init_4 : decode cX1_init 4 = .ok (.aload_n 0, 1) := by decide +kernel
theorem dX1_init_5 : decode cX1_init 5 = .ok (.bipush 6, 2) := by decide +kernel
theorem dX1_init_7 : decode cX1_init 7 = .ok (.bipush 41, 2) := by decide +kernel
theorem dX1_init_9 : decode cX1_init 9 = .ok (.multianewarray 9 2, 4) := by decide +kernel
theorem dX1_init_13 : decode cX1_init 13 = .ok (.putfield 11, 3) := by decide +kernel
theorem dX1_init_16 : decode cX1_init 16 = .ok (.aload_n 0, 1) := by decide +kernel
theorem dX1_init_17 : decode cX1_init 17 = .ok (.bipush 41, 2) := by decide +kernel
theorem dX1_init_19 : decode cX1_init 19 = .ok (.newarray .int, 2) := by decide +kernel
theorem dX1_init_21 : decode cX1_init 21 = .ok (.putfield 16, 3) := by decide +kernel
theorem dX1_init_24 : decode cX1_init 24 = .ok (.return_, 1) := by decide +kernel
theorem dX1_greatest_0 : decode cX1_greatest 0 = .ok (.aload_n 0, 1) := by decide +kernel
theorem dX1_greatest_1 : decode cX1_greatest 1 = .ok (.aload_n 1, 1) := by decide +kernel
theorem dX1_greatest_2 : decode cX1_greatest 2 = .ok (.iload_n 2, 1) := by decide +kernel
theorem dX1_greatest_3 : decode cX1_greatest 3 = .ok (.invokevirtual 20, 3) := by decide +kernel
theorem dX1_greatest_6 : decode cX1_greatest 6 = .ok (.aload_n 0, 1) := by decide +kernel
theorem dX1_greatest_7 : decode cX1_greatest 7 = .ok (.iconst 0, 1) := by decide +kernel
theorem dX1_greatest_8 : decode cX1_greatest 8 = .ok (.iload_n 3, 1) := by decide +kernel
theorem dX1_greatest_9 : decode cX1_greatest 9 = .ok (.invokestatic 24, 3) := by decide +kernel
theorem dX1_greatest_12 : decode cX1_greatest 12 = .ok (.aload_n 0, 1) := by decide +kernel
theorem dX1_greatest_13 : decode cX1_greatest 13 = .ok (.getfield 11, 3) := by decide +kernel
theorem dX1_greatest_16 : decode cX1_greatest 16 = .ok (.iconst 0, 1) := by decide +kernel
theorem dX1_greatest_17 : decode cX1_greatest 17 = .ok (.aaload, 1) := by decide +kernel
theorem dX1_greatest_18 : decode cX1_greatest 18 = .ok (.aload_n 1, 1) := by decide +kernel
theorem dX1_greatest_19 : decode cX1_greatest 19 = .ok (.getfield 28, 3) := by decide +kernel
theorem dX1_greatest_22 : decode cX1_greatest 22 = .ok (.iaload, 1) := by decide +kernel
theorem dX1_greatest_23 : decode cX1_greatest 23 = .ok (.ireturn, 1) := by decide +kernel
theorem dX1_leastChoice_0 : decode cX1_leastChoice 0 = .ok (.aload_n 0, 1) := by decide +kernel
theorem dX1_leastChoice_1 : decode cX1_leastChoice 1 = .ok (.aload_n 1, 1) := by decide +kernel
theorem dX1_leastChoice_2 : decode cX1_leastChoice 2 = .ok (.iload_n 2, 1) := by decide +kernel
theorem dX1_leastChoice_3 : decode cX1_leastChoice 3 = .ok (.invokevirtual 20, 3) := by decide +kernel
theorem dX1_leastChoice_6 : decode cX1_leastChoice 6 = .ok (.aload_n 0, 1) := by decide +kernel
theorem dX1_leastChoice_7 : decode cX1_leastChoice 7 = .ok (.iconst 1, 1) := by decide +kernel
theorem dX1_leastChoice_8 : decode cX1_leastChoice 8 = .ok (.iload_n 3, 1) := by decide +kernel
theorem dX1_leastChoice_9 : decode cX1_leastChoice 9 = .ok (.invokestatic 24, 3) := by decide +kernel
theorem dX1_leastChoice_12 : decode cX1_leastChoice 12 = .ok (.aload_n 0, 1) := by decide +kernel
theorem dX1_leastChoice_13 : decode cX1_leastChoice 13 = .ok (.iconst 1, 1) := by decide +kernel
theorem dX1_leastChoice_14 : decode cX1_leastChoice 14 = .ok (.aload_n 1, 1) := by decide +kernel
theorem dX1_leastChoice_15 : decode cX1_leastChoice 15 = .ok (.iload_n 3, 1) := by decide +kernel
theorem dX1_leastChoice_16 : decode cX1_leastChoice 16 = .ok (.invokevirtual 34, 3) := by decide +kernel
theorem dX1_leastChoice_19 : decode cX1_leastChoice 19 = .ok (.aload_n 1, 1) := by decide +kernel
theorem dX1_leastChoice_20 : decode cX1_leastChoice 20 = .ok (.iload 4, 2) := by decide +kernel
theorem dX1_leastChoice_22 : decode cX1_leastChoice 22 = .ok (.invokevirtual 38, 3) := by decide +kernel
theorem dX1_leastChoice_25 : decode cX1_leastChoice 25 = .ok (.imul, 1) := by decide +kernel
theorem dX1_leastChoice_26 : decode cX1_leastChoice 26 = .ok (.invokevirtual 41, 3) := by decide +kernel
theorem dX1_leastChoice_29 : decode cX1_leastChoice 29 = .ok (.aload_n 0, 1) := by decide +kernel
theorem dX1_leastChoice_30 : decode cX1_leastChoice 30 = .ok (.getfield 16, 3) := by decide +kernel
theorem dX1_leastChoice_33 : decode cX1_leastChoice 33 = .ok (.aload_n 1, 1) := by decide +kernel
theorem dX1_leastChoice_34 : decode cX1_leastChoice 34 = .ok (.getfield 45, 3) := by decide +kernel
theorem dX1_leastChoice_37 : decode cX1_leastChoice 37 = .ok (.aload_n 1, 1) := by decide +kernel
theorem dX1_leastChoice_38 : decode cX1_leastChoice 38 = .ok (.aload_n 1, 1) := by decide +kernel
theorem dX1_leastChoice_39 : decode cX1_leastChoice 39 = .ok (.iload 4, 2) := by decide +kernel
theorem dX1_leastChoice_41 : decode cX1_leastChoice 41 = .ok (.invokevirtual 48, 3) := by decide +kernel
theorem dX1_leastChoice_44 : decode cX1_leastChoice 44 = .ok (.invokevirtual 51, 3) := by decide +kernel
theorem dX1_leastChoice_47 : decode cX1_leastChoice 47 = .ok (.invokestatic 54, 3) := by decide +kernel
theorem dX1_leastChoice_50 : decode cX1_leastChoice 50 = .ok (.iaload, 1) := by decide +kernel
theorem dX1_leastChoice_51 : decode cX1_leastChoice 51 = .ok (.ireturn, 1) := by decide +kernel
theorem dX1_plan_0 : decode cX1_plan 0 = .ok (.aload_n 0, 1) := by decide +kernel
theorem dX1_plan_1 : decode cX1_plan 1 = .ok (.aload_n 1, 1) := by decide +kernel
theorem dX1_plan_2 : decode cX1_plan 2 = .ok (.putfield 60, 3) := by decide +kernel
theorem dX1_plan_5 : decode cX1_plan 5 = .ok (.aload_n 0, 1) := by decide +kernel
theorem dX1_plan_6 : decode cX1_plan 6 = .ok (.iload_n 2, 1) := by decide +kernel
theorem dX1_plan_7 : decode cX1_plan 7 = .ok (.bipush 8, 2) := by decide +kernel
theorem dX1_plan_9 : decode cX1_plan 9 = .ok (.aload_n 1, 1) := by decide +kernel
theorem dX1_plan_10 : decode cX1_plan 10 = .ok (.getfield 64, 3) := by decide +kernel
theorem dX1_plan_13 : decode cX1_plan 13 = .ok (.isub, 1) := by decide +kernel
theorem dX1_plan_14 : decode cX1_plan 14 = .ok (.invokestatic 54, 3) := by decide +kernel
theorem dX1_plan_17 : decode cX1_plan 17 = .ok (.putfield 67, 3) := by decide +kernel
theorem dX1_plan_20 : decode cX1_plan 20 = .ok (.return_, 1) := by decide +kernel
theorem dX1_sumFrom_0 : decode cX1_sumFrom 0 = .ok (.iload_n 1, 1) := by decide +kernel
theorem dX1_sumFrom_1 : decode cX1_sumFrom 1 = .ok (.iconst 5, 1) := by decide +kernel
theorem dX1_sumFrom_2 : decode cX1_sumFrom 2 = .ok (.if_icmp .le 4, 3) := by decide +kernel
theorem dX1_sumFrom_5 : decode cX1_sumFrom 5 = .ok (.return_, 1) := by decide +kernel
theorem dX1_sumFrom_6 : decode cX1_sumFrom 6 = .ok (.aload_n 0, 1) := by decide +kernel
theorem dX1_sumFrom_7 : decode cX1_sumFrom 7 = .ok (.getfield 11, 3) := by decide +kernel
theorem dX1_sumFrom_10 : decode cX1_sumFrom 10 = .ok (.iload_n 1, 1) := by decide +kernel
theorem dX1_sumFrom_11 : decode cX1_sumFrom 11 = .ok (.aaload, 1) := by decide +kernel
theorem dX1_sumFrom_12 : decode cX1_sumFrom 12 = .ok (.iconst 0, 1) := by decide +kernel
theorem dX1_sumFrom_13 : decode cX1_sumFrom 13 = .ok (.invokestatic 70, 3) := by decide +kernel
theorem dX1_sumFrom_16 : decode cX1_sumFrom 16 = .ok (.iload_n 1, 1) := by decide +kernel
theorem dX1_sumFrom_17 : decode cX1_sumFrom 17 = .ok (.aload_n 0, 1) := by decide +kernel
theorem dX1_sumFrom_18 : decode cX1_sumFrom 18 = .ok (.getfield 67, 3) := by decide +kernel
theorem dX1_sumFrom_21 : decode cX1_sumFrom 21 = .ok (.if_icmp .lt 4, 3) := by decide +kernel
theorem dX1_sumFrom_24 : decode cX1_sumFrom 24 = .ok (.return_, 1) := by decide +kernel
theorem dX1_sumFrom_25 : decode cX1_sumFrom 25 = .ok (.iconst 0, 1) := by decide +kernel
theorem dX1_sumFrom_26 : decode cX1_sumFrom 26 = .ok (.istore_n 3, 1) := by decide +kernel
theorem dX1_sumFrom_27 : decode cX1_sumFrom 27 = .ok (.iload_n 3, 1) := by decide +kernel
theorem dX1_sumFrom_28 : decode cX1_sumFrom 28 = .ok (.iconst 1, 1) := by decide +kernel
theorem dX1_sumFrom_29 : decode cX1_sumFrom 29 = .ok (.if_icmp .gt 51, 3) := by decide +kernel
theorem dX1_sumFrom_32 : decode cX1_sumFrom 32 = .ok (.aload_n 0, 1) := by decide +kernel
theorem dX1_sumFrom_33 : decode cX1_sumFrom 33 = .ok (.getfield 60, 3) := by decide +kernel
theorem dX1_sumFrom_36 : decode cX1_sumFrom 36 = .ok (.iload_n 2, 1) := by decide +kernel
theorem dX1_sumFrom_37 : decode cX1_sumFrom 37 = .ok (.aload_n 0, 1) := by decide +kernel
theorem dX1_sumFrom_38 : decode cX1_sumFrom 38 = .ok (.getfield 60, 3) := by decide +kernel
theorem dX1_sumFrom_41 : decode cX1_sumFrom 41 = .ok (.getfield 64, 3) := by decide +kernel
theorem dX1_sumFrom_44 : decode cX1_sumFrom 44 = .ok (.iload_n 1, 1) := by decide +kernel
theorem dX1_sumFrom_45 : decode cX1_sumFrom 45 = .ok (.iadd, 1) := by decide +kernel
theorem dX1_sumFrom_46 : decode cX1_sumFrom 46 = .ok (.iload_n 3, 1) := by decide +kernel
theorem dX1_sumFrom_47 : decode cX1_sumFrom 47 = .ok (.invokevirtual 76, 3) := by decide +kernel
theorem dX1_sumFrom_50 : decode cX1_sumFrom 50 = .ok (.istore 4, 2) := by decide +kernel
theorem dX1_sumFrom_52 : decode cX1_sumFrom 52 = .ok (.iload 4, 2) := by decide +kernel
theorem dX1_sumFrom_54 : decode cX1_sumFrom 54 = .ok (.ifCond .eq 20, 3) := by decide +kernel
theorem dX1_sumFrom_57 : decode cX1_sumFrom 57 = .ok (.aload_n 0, 1) := by decide +kernel
theorem dX1_sumFrom_58 : decode cX1_sumFrom 58 = .ok (.iload_n 1, 1) := by decide +kernel
theorem dX1_sumFrom_59 : decode cX1_sumFrom 59 = .ok (.iconst 1, 1) := by decide +kernel
theorem dX1_sumFrom_60 : decode cX1_sumFrom 60 = .ok (.iadd, 1) := by decide +kernel
theorem dX1_sumFrom_61 : decode cX1_sumFrom 61 = .ok (.iload 4, 2) := by decide +kernel
theorem dX1_sumFrom_63 : decode cX1_sumFrom 63 = .ok (.invokestatic 24, 3) := by decide +kernel
theorem dX1_sumFrom_66 : decode cX1_sumFrom 66 = .ok (.aload_n 0, 1) := by decide +kernel
theorem dX1_sumFrom_67 : decode cX1_sumFrom 67 = .ok (.iload_n 1, 1) := by decide +kernel
theorem dX1_sumFrom_68 : decode cX1_sumFrom 68 = .ok (.iload 4, 2) := by decide +kernel
theorem dX1_sumFrom_70 : decode cX1_sumFrom 70 = .ok (.iload_n 3, 1) := by decide +kernel
theorem dX1_sumFrom_71 : decode cX1_sumFrom 71 = .ok (.invokevirtual 80, 3) := by decide +kernel
theorem dX1_sumFrom_74 : decode cX1_sumFrom 74 = .ok (.iinc 3 1, 3) := by decide +kernel
theorem dX1_sumFrom_77 : decode cX1_sumFrom 77 = .ok (.goto (-50), 3) := by decide +kernel
theorem dX1_sumFrom_80 : decode cX1_sumFrom 80 = .ok (.return_, 1) := by decide +kernel
theorem dX1_addYear_0 : decode cX1_addYear 0 = .ok (.aload_n 0, 1) := by decide +kernel
theorem dX1_addYear_1 : decode cX1_addYear 1 = .ok (.getfield 60, 3) := by decide +kernel
theorem dX1_addYear_4 : decode cX1_addYear 4 = .ok (.iload_n 2, 1) := by decide +kernel
theorem dX1_addYear_5 : decode cX1_addYear 5 = .ok (.invokevirtual 34, 3) := by decide +kernel
theorem dX1_addYear_8 : decode cX1_addYear 8 = .ok (.istore 4, 2) := by decide +kernel
theorem dX1_addYear_10 : decode cX1_addYear 10 = .ok (.iload 4, 2) := by decide +kernel
theorem dX1_addYear_12 : decode cX1_addYear 12 = .ok (.aload_n 0, 1) := by decide +kernel
theorem dX1_addYear_13 : decode cX1_addYear 13 = .ok (.getfield 60, 3) := by decide +kernel
theorem dX1_addYear_16 : decode cX1_addYear 16 = .ok (.iload_n 3, 1) := by decide +kernel
theorem dX1_addYear_17 : decode cX1_addYear 17 = .ok (.invokevirtual 38, 3) := by decide +kernel
theorem dX1_addYear_20 : decode cX1_addYear 20 = .ok (.imul, 1) := by decide +kernel
theorem dX1_addYear_21 : decode cX1_addYear 21 = .ok (.istore 5, 2) := by decide +kernel
theorem dX1_addYear_23 : decode cX1_addYear 23 = .ok (.iload 4, 2) := by decide +kernel
theorem dX1_addYear_25 : decode cX1_addYear 25 = .ok (.aload_n 0, 1) := by decide +kernel
theorem dX1_addYear_26 : decode cX1_addYear 26 = .ok (.getfield 60, 3) := by decide +kernel
theorem dX1_addYear_29 : decode cX1_addYear 29 = .ok (.getfield 84, 3) := by decide +kernel
theorem dX1_addYear_32 : decode cX1_addYear 32 = .ok (.imul, 1) := by decide +kernel
theorem dX1_addYear_33 : decode cX1_addYear 33 = .ok (.istore 6, 2) := by decide +kernel
theorem dX1_addYear_35 : decode cX1_addYear 35 = .ok (.aload_n 0, 1) := by decide +kernel
theorem dX1_addYear_36 : decode cX1_addYear 36 = .ok (.getfield 60, 3) := by decide +kernel
theorem dX1_addYear_39 : decode cX1_addYear 39 = .ok (.iload_n 3, 1) := by decide +kernel
theorem dX1_addYear_40 : decode cX1_addYear 40 = .ok (.invokevirtual 87, 3) := by decide +kernel
theorem dX1_addYear_43 : decode cX1_addYear 43 = .ok (.istore 7, 2) := by decide +kernel
theorem dX1_addYear_45 : decode cX1_addYear 45 = .ok (.aload_n 0, 1) := by decide +kernel
theorem dX1_addYear_46 : decode cX1_addYear 46 = .ok (.iload_n 1, 1) := by decide +kernel
theorem dX1_addYear_47 : decode cX1_addYear 47 = .ok (.iconst 1, 1) := by decide +kernel
theorem dX1_addYear_48 : decode cX1_addYear 48 = .ok (.iadd, 1) := by decide +kernel
theorem dX1_addYear_49 : decode cX1_addYear 49 = .ok (.iload 5, 2) := by decide +kernel
theorem dX1_addYear_51 : decode cX1_addYear 51 = .ok (.invokevirtual 41, 3) := by decide +kernel
theorem dX1_addYear_54 : decode cX1_addYear 54 = .ok (.iconst 0, 1) := by decide +kernel
theorem dX1_addYear_55 : decode cX1_addYear 55 = .ok (.istore 8, 2) := by decide +kernel
theorem dX1_addYear_57 : decode cX1_addYear 57 = .ok (.iload 8, 2) := by decide +kernel
theorem dX1_addYear_59 : decode cX1_addYear 59 = .ok (.aload_n 0, 1) := by decide +kernel
theorem dX1_addYear_60 : decode cX1_addYear 60 = .ok (.getfield 60, 3) := by decide +kernel
theorem dX1_addYear_63 : decode cX1_addYear 63 = .ok (.getfield 45, 3) := by decide +kernel
theorem dX1_addYear_66 : decode cX1_addYear 66 = .ok (.if_icmp .gt 91, 3) := by decide +kernel
theorem dX1_addYear_69 : decode cX1_addYear 69 = .ok (.aload_n 0, 1) := by decide +kernel
theorem dX1_addYear_70 : decode cX1_addYear 70 = .ok (.getfield 60, 3) := by decide +kernel
theorem dX1_addYear_73 : decode cX1_addYear 73 = .ok (.iload 8, 2) := by decide +kernel
theorem dX1_addYear_75 : decode cX1_addYear 75 = .ok (.iload 7, 2) := by decide +kernel
theorem dX1_addYear_77 : decode cX1_addYear 77 = .ok (.iadd, 1) := by decide +kernel
theorem dX1_addYear_78 : decode cX1_addYear 78 = .ok (.invokevirtual 51, 3) := by decide +kernel
theorem dX1_addYear_81 : decode cX1_addYear 81 = .ok (.istore 9, 2) := by decide +kernel
theorem dX1_addYear_83 : decode cX1_addYear 83 = .ok (.aload_n 0, 1) := by decide +kernel
theorem dX1_addYear_84 : decode cX1_addYear 84 = .ok (.getfield 16, 3) := by decide +kernel
theorem dX1_addYear_87 : decode cX1_addYear 87 = .ok (.aload_n 0, 1) := by decide +kernel
theorem dX1_addYear_88 : decode cX1_addYear 88 = .ok (.getfield 60, 3) := by decide +kernel
theorem dX1_addYear_91 : decode cX1_addYear 91 = .ok (.getfield 45, 3) := by decide +kernel
theorem dX1_addYear_94 : decode cX1_addYear 94 = .ok (.iload 9, 2) := by decide +kernel
theorem dX1_addYear_96 : decode cX1_addYear 96 = .ok (.invokestatic 54, 3) := by decide +kernel
theorem dX1_addYear_99 : decode cX1_addYear 99 = .ok (.iaload, 1) := by decide +kernel
theorem dX1_addYear_100 : decode cX1_addYear 100 = .ok (.istore 10, 2) := by decide +kernel
theorem dX1_addYear_102 : decode cX1_addYear 102 = .ok (.iload 5, 2) := by decide +kernel
theorem dX1_addYear_104 : decode cX1_addYear 104 = .ok (.iload 9, 2) := by decide +kernel
theorem dX1_addYear_106 : decode cX1_addYear 106 = .ok (.imul, 1) := by decide +kernel
theorem dX1_addYear_107 : decode cX1_addYear 107 = .ok (.iload 6, 2) := by decide +kernel
theorem dX1_addYear_109 : decode cX1_addYear 109 = .ok (.aload_n 0, 1) := by decide +kernel
theorem dX1_addYear_110 : decode cX1_addYear 110 = .ok (.getfield 60, 3) := by decide +kernel
theorem dX1_addYear_113 : decode cX1_addYear 113 = .ok (.iload 8, 2) := by decide +kernel
theorem dX1_addYear_115 : decode cX1_addYear 115 = .ok (.iload 7, 2) := by decide +kernel
theorem dX1_addYear_117 : decode cX1_addYear 117 = .ok (.iadd, 1) := by decide +kernel
theorem dX1_addYear_118 : decode cX1_addYear 118 = .ok (.invokevirtual 90, 3) := by decide +kernel
theorem dX1_addYear_121 : decode cX1_addYear 121 = .ok (.imul, 1) := by decide +kernel
theorem dX1_addYear_122 : decode cX1_addYear 122 = .ok (.isub, 1) := by decide +kernel
theorem dX1_addYear_123 : decode cX1_addYear 123 = .ok (.istore 11, 2) := by decide +kernel
theorem dX1_addYear_125 : decode cX1_addYear 125 = .ok (.aload_n 0, 1) := by decide +kernel
theorem dX1_addYear_126 : decode cX1_addYear 126 = .ok (.getfield 11, 3) := by decide +kernel
theorem dX1_addYear_129 : decode cX1_addYear 129 = .ok (.iload_n 1, 1) := by decide +kernel
theorem dX1_addYear_130 : decode cX1_addYear 130 = .ok (.aaload, 1) := by decide +kernel
theorem dX1_addYear_131 : decode cX1_addYear 131 = .ok (.iload 8, 2) := by decide +kernel
theorem dX1_addYear_133 : decode cX1_addYear 133 = .ok (.dup2, 1) := by decide +kernel
theorem dX1_addYear_134 : decode cX1_addYear 134 = .ok (.iaload, 1) := by decide +kernel
theorem dX1_addYear_135 : decode cX1_addYear 135 = .ok (.iload 11, 2) := by decide +kernel
theorem dX1_addYear_137 : decode cX1_addYear 137 = .ok (.aload_n 0, 1) := by decide +kernel
theorem dX1_addYear_138 : decode cX1_addYear 138 = .ok (.iload_n 1, 1) := by decide +kernel
theorem dX1_addYear_139 : decode cX1_addYear 139 = .ok (.iconst 1, 1) := by decide +kernel
theorem dX1_addYear_140 : decode cX1_addYear 140 = .ok (.iadd, 1) := by decide +kernel
theorem dX1_addYear_141 : decode cX1_addYear 141 = .ok (.iload 5, 2) := by decide +kernel
theorem dX1_addYear_143 : decode cX1_addYear 143 = .ok (.iload 10, 2) := by decide +kernel
theorem dX1_addYear_145 : decode cX1_addYear 145 = .ok (.invokevirtual 93, 3) := by decide +kernel
theorem dX1_addYear_148 : decode cX1_addYear 148 = .ok (.iadd, 1) := by decide +kernel
theorem dX1_addYear_149 : decode cX1_addYear 149 = .ok (.iadd, 1) := by decide +kernel
theorem dX1_addYear_150 : decode cX1_addYear 150 = .ok (.iastore, 1) := by decide +kernel
theorem dX1_addYear_151 : decode cX1_addYear 151 = .ok (.iinc 8 1, 3) := by decide +kernel
theorem dX1_addYear_154 : decode cX1_addYear 154 = .ok (.goto (-97), 3) := by decide +kernel
theorem dX1_addYear_157 : decode cX1_addYear 157 = .ok (.return_, 1) := by decide +kernel
theorem dX1_choose_0 : decode cX1_choose 0 = .ok (.iconst 0, 1) := by decide +kernel
theorem dX1_choose_1 : decode cX1_choose 1 = .ok (.istore_n 3, 1) := by decide +kernel
theorem dX1_choose_2 : decode cX1_choose 2 = .ok (.aload_n 0, 1) := by decide +kernel
theorem dX1_choose_3 : decode cX1_choose 3 = .ok (.iload_n 1, 1) := by decide +kernel
theorem dX1_choose_4 : decode cX1_choose 4 = .ok (.iload_n 2, 1) := by decide +kernel
theorem dX1_choose_5 : decode cX1_choose 5 = .ok (.iconst 0, 1) := by decide +kernel
theorem dX1_choose_6 : decode cX1_choose 6 = .ok (.invokevirtual 93, 3) := by decide +kernel
theorem dX1_choose_9 : decode cX1_choose 9 = .ok (.istore 4, 2) := by decide +kernel
theorem dX1_choose_11 : decode cX1_choose 11 = .ok (.iconst 0, 1) := by decide +kernel
theorem dX1_choose_12 : decode cX1_choose 12 = .ok (.istore 5, 2) := by decide +kernel
theorem dX1_choose_14 : decode cX1_choose 14 = .ok (.iload 5, 2) := by decide +kernel
theorem dX1_choose_16 : decode cX1_choose 16 = .ok (.aload_n 0, 1) := by decide +kernel
theorem dX1_choose_17 : decode cX1_choose 17 = .ok (.getfield 60, 3) := by decide +kernel
theorem dX1_choose_20 : decode cX1_choose 20 = .ok (.getfield 45, 3) := by decide +kernel
theorem dX1_choose_23 : decode cX1_choose 23 = .ok (.if_icmp .gt 41, 3) := by decide +kernel
theorem dX1_choose_26 : decode cX1_choose 26 = .ok (.aload_n 0, 1) := by decide +kernel
theorem dX1_choose_27 : decode cX1_choose 27 = .ok (.iload_n 1, 1) := by decide +kernel
theorem dX1_choose_28 : decode cX1_choose 28 = .ok (.iload_n 2, 1) := by decide +kernel
theorem dX1_choose_29 : decode cX1_choose 29 = .ok (.iload 5, 2) := by decide +kernel
theorem dX1_choose_31 : decode cX1_choose 31 = .ok (.invokevirtual 93, 3) := by decide +kernel
theorem dX1_choose_34 : decode cX1_choose 34 = .ok (.istore 6, 2) := by decide +kernel
theorem dX1_choose_36 : decode cX1_choose 36 = .ok (.iload 6, 2) := by decide +kernel
theorem dX1_choose_38 : decode cX1_choose 38 = .ok (.iload 4, 2) := by decide +kernel
theorem dX1_choose_40 : decode cX1_choose 40 = .ok (.if_icmp .le 10, 3) := by decide +kernel
theorem dX1_choose_43 : decode cX1_choose 43 = .ok (.iload 5, 2) := by decide +kernel
theorem dX1_choose_45 : decode cX1_choose 45 = .ok (.istore_n 3, 1) := by decide +kernel
theorem dX1_choose_46 : decode cX1_choose 46 = .ok (.iload 6, 2) := by decide +kernel
theorem dX1_choose_48 : decode cX1_choose 48 = .ok (.istore 4, 2) := by decide +kernel
theorem dX1_choose_50 : decode cX1_choose 50 = .ok (.aload_n 0, 1) := by decide +kernel
theorem dX1_choose_51 : decode cX1_choose 51 = .ok (.getfield 16, 3) := by decide +kernel
theorem dX1_choose_54 : decode cX1_choose 54 = .ok (.iload 5, 2) := by decide +kernel
theorem dX1_choose_56 : decode cX1_choose 56 = .ok (.iload_n 3, 1) := by decide +kernel
theorem dX1_choose_57 : decode cX1_choose 57 = .ok (.iastore, 1) := by decide +kernel
theorem dX1_choose_58 : decode cX1_choose 58 = .ok (.iinc 5 1, 3) := by decide +kernel
theorem dX1_choose_61 : decode cX1_choose 61 = .ok (.goto (-47), 3) := by decide +kernel
theorem dX1_choose_64 : decode cX1_choose 64 = .ok (.return_, 1) := by decide +kernel
theorem dX1_gain_0 : decode cX1_gain 0 = .ok (.aload_n 0, 1) := by decide +kernel
theorem dX1_gain_1 : decode cX1_gain 1 = .ok (.getfield 11, 3) := by decide +kernel
theorem dX1_gain_4 : decode cX1_gain 4 = .ok (.iload_n 1, 1) := by decide +kernel
theorem dX1_gain_5 : decode cX1_gain 5 = .ok (.aaload, 1) := by decide +kernel
theorem dX1_gain_6 : decode cX1_gain 6 = .ok (.aload_n 0, 1) := by decide +kernel
theorem dX1_gain_7 : decode cX1_gain 7 = .ok (.getfield 60, 3) := by decide +kernel
theorem dX1_gain_10 : decode cX1_gain 10 = .ok (.iload_n 3, 1) := by decide +kernel
theorem dX1_gain_11 : decode cX1_gain 11 = .ok (.invokevirtual 96, 3) := by decide +kernel
theorem dX1_gain_14 : decode cX1_gain 14 = .ok (.iaload, 1) := by decide +kernel
theorem dX1_gain_15 : decode cX1_gain 15 = .ok (.iload_n 2, 1) := by decide +kernel
theorem dX1_gain_16 : decode cX1_gain 16 = .ok (.iload_n 3, 1) := by decide +kernel
theorem dX1_gain_17 : decode cX1_gain 17 = .ok (.imul, 1) := by decide +kernel
theorem dX1_gain_18 : decode cX1_gain 18 = .ok (.isub, 1) := by decide +kernel
theorem dX1_gain_19 : decode cX1_gain 19 = .ok (.ireturn, 1) := by decide +kernel
theorem dX2_init_0 : decode cX2_init 0 = .ok (.aload_n 0, 1) := by decide +kernel
theorem dX2_init_1 : decode cX2_init 1 = .ok (.invokespecial 3, 3) := by decide +kernel
theorem dX2_init_4 : decode cX2_init 4 = .ok (.aload_n 0, 1) := by decide +kernel
theorem dX2_init_5 : decode cX2_init 5 = .ok (.iconst 4, 1) := by decide +kernel
theorem dX2_init_6 : decode cX2_init 6 = .ok (.newarray .int, 2) := by decide +kernel
theorem dX2_init_8 : decode cX2_init 8 = .ok (.putfield 9, 3) := by decide +kernel
theorem dX2_init_11 : decode cX2_init 11 = .ok (.aload_n 0, 1) := by decide +kernel
theorem dX2_init_12 : decode cX2_init 12 = .ok (.iconst 4, 1) := by decide +kernel
theorem dX2_init_13 : decode cX2_init 13 = .ok (.newarray .int, 2) := by decide +kernel
theorem dX2_init_15 : decode cX2_init 15 = .ok (.putfield 15, 3) := by decide +kernel
theorem dX2_init_18 : decode cX2_init 18 = .ok (.aload_n 0, 1) := by decide +kernel
theorem dX2_init_19 : decode cX2_init 19 = .ok (.iconst 4, 1) := by decide +kernel
theorem dX2_init_20 : decode cX2_init 20 = .ok (.newarray .int, 2) := by decide +kernel
theorem dX2_init_22 : decode cX2_init 22 = .ok (.putfield 18, 3) := by decide +kernel
theorem dX2_init_25 : decode cX2_init 25 = .ok (.aload_n 0, 1) := by decide +kernel
theorem dX2_init_26 : decode cX2_init 26 = .ok (.iconst 4, 1) := by decide +kernel
theorem dX2_init_27 : decode cX2_init 27 = .ok (.newarray .int, 2) := by decide +kernel
theorem dX2_init_29 : decode cX2_init 29 = .ok (.putfield 21, 3) := by decide +kernel
theorem dX2_init_32 : decode cX2_init 32 = .ok (.aload_n 0, 1) := by decide +kernel
theorem dX2_init_33 : decode cX2_init 33 = .ok (.invokevirtual 24, 3) := by decide +kernel
theorem dX2_init_36 : decode cX2_init 36 = .ok (.return_, 1) := by decide +kernel
theorem dX2_begin_0 : decode cX2_begin 0 = .ok (.aload_n 0, 1) := by decide +kernel
theorem dX2_begin_1 : decode cX2_begin 1 = .ok (.iconst 0, 1) := by decide +kernel
theorem dX2_begin_2 : decode cX2_begin 2 = .ok (.putfield 27, 3) := by decide +kernel
theorem dX2_begin_5 : decode cX2_begin 5 = .ok (.aload_n 0, 1) := by decide +kernel
theorem dX2_begin_6 : decode cX2_begin 6 = .ok (.iconst 0, 1) := by decide +kernel
theorem dX2_begin_7 : decode cX2_begin 7 = .ok (.putfield 31, 3) := by decide +kernel
theorem dX2_begin_10 : decode cX2_begin 10 = .ok (.aload_n 0, 1) := by decide +kernel
theorem dX2_begin_11 : decode cX2_begin 11 = .ok (.iconst 0, 1) := by decide +kernel
theorem dX2_begin_12 : decode cX2_begin 12 = .ok (.putfield 34, 3) := by decide +kernel
theorem dX2_begin_15 : decode cX2_begin 15 = .ok (.aload_n 0, 1) := by decide +kernel
theorem dX2_begin_16 : decode cX2_begin 16 = .ok (.iconst 0, 1) := by decide +kernel
theorem dX2_begin_17 : decode cX2_begin 17 = .ok (.putfield 37, 3) := by decide +kernel
theorem dX2_begin_20 : decode cX2_begin 20 = .ok (.aload_n 0, 1) := by decide +kernel
theorem dX2_begin_21 : decode cX2_begin 21 = .ok (.bipush 40, 2) := by decide +kernel
theorem dX2_begin_23 : decode cX2_begin 23 = .ok (.putfield 40, 3) := by decide +kernel
theorem dX2_begin_26 : decode cX2_begin 26 = .ok (.aload_n 0, 1) := by decide +kernel
theorem dX2_begin_27 : decode cX2_begin 27 = .ok (.iconst 0, 1) := by decide +kernel
theorem dX2_begin_28 : decode cX2_begin 28 = .ok (.putfield 43, 3) := by decide +kernel
theorem dX2_begin_31 : decode cX2_begin 31 = .ok (.aload_n 0, 1) := by decide +kernel
theorem dX2_begin_32 : decode cX2_begin 32 = .ok (.iconst 0, 1) := by decide +kernel
theorem dX2_begin_33 : decode cX2_begin 33 = .ok (.putfield 46, 3) := by decide +kernel
theorem dX2_begin_36 : decode cX2_begin 36 = .ok (.aload_n 0, 1) := by decide +kernel
theorem dX2_begin_37 : decode cX2_begin 37 = .ok (.iconst 1, 1) := by decide +kernel
theorem dX2_begin_38 : decode cX2_begin 38 = .ok (.putfield 49, 3) := by decide +kernel
theorem dX2_begin_41 : decode cX2_begin 41 = .ok (.aload_n 0, 1) := by decide +kernel
theorem dX2_begin_42 : decode cX2_begin 42 = .ok (.iconst 1, 1) := by decide +kernel
theorem dX2_begin_43 : decode cX2_begin 43 = .ok (.putfield 52, 3) := by decide +kernel
theorem dX2_begin_46 : decode cX2_begin 46 = .ok (.aload_n 0, 1) := by decide +kernel
theorem dX2_begin_47 : decode cX2_begin 47 = .ok (.iconst 0, 1) := by decide +kernel
theorem dX2_begin_48 : decode cX2_begin 48 = .ok (.iconst 0, 1) := by decide +kernel
theorem dX2_begin_49 : decode cX2_begin 49 = .ok (.invokevirtual 55, 3) := by decide +kernel
theorem dX2_begin_52 : decode cX2_begin 52 = .ok (.aload_n 0, 1) := by decide +kernel
theorem dX2_begin_53 : decode cX2_begin 53 = .ok (.iconst 0, 1) := by decide +kernel
theorem dX2_begin_54 : decode cX2_begin 54 = .ok (.putfield 59, 3) := by decide +kernel
theorem dX2_begin_57 : decode cX2_begin 57 = .ok (.aload_n 0, 1) := by decide +kernel
theorem dX2_begin_58 : decode cX2_begin 58 = .ok (.iconst 0, 1) := by decide +kernel
theorem dX2_begin_59 : decode cX2_begin 59 = .ok (.putfield 62, 3) := by decide +kernel
theorem dX2_begin_62 : decode cX2_begin 62 = .ok (.aload_n 0, 1) := by decide +kernel
theorem dX2_begin_63 : decode cX2_begin 63 = .ok (.iconst 0, 1) := by decide +kernel
theorem dX2_begin_64 : decode cX2_begin 64 = .ok (.putfield 65, 3) := by decide +kernel
theorem dX2_begin_67 : decode cX2_begin 67 = .ok (.aload_n 0, 1) := by decide +kernel
theorem dX2_begin_68 : decode cX2_begin 68 = .ok (.iconst 0, 1) := by decide +kernel
theorem dX2_begin_69 : decode cX2_begin 69 = .ok (.putfield 68, 3) := by decide +kernel
theorem dX2_begin_72 : decode cX2_begin 72 = .ok (.return_, 1) := by decide +kernel
theorem dX2_copy_0 : decode cX2_copy 0 = .ok (.aload_n 1, 1) := by decide +kernel
theorem dX2_copy_1 : decode cX2_copy 1 = .ok (.getfield 9, 3) := by decide +kernel
theorem dX2_copy_4 : decode cX2_copy 4 = .ok (.iconst 0, 1) := by decide +kernel
theorem dX2_copy_5 : decode cX2_copy 5 = .ok (.aload_n 0, 1) := by decide +kernel
theorem dX2_copy_6 : decode cX2_copy 6 = .ok (.getfield 9, 3) := by decide +kernel
theorem dX2_copy_9 : decode cX2_copy 9 = .ok (.iconst 0, 1) := by decide +kernel
theorem dX2_copy_10 : decode cX2_copy 10 = .ok (.iconst 4, 1) := by decide +kernel
theorem dX2_copy_11 : decode cX2_copy 11 = .ok (.invokestatic 71, 3) := by decide +kernel
theorem dX2_copy_14 : decode cX2_copy 14 = .ok (.aload_n 1, 1) := by decide +kernel
theorem dX2_copy_15 : decode cX2_copy 15 = .ok (.getfield 15, 3) := by decide +kernel
theorem dX2_copy_18 : decode cX2_copy 18 = .ok (.iconst 0, 1) := by decide +kernel
theorem dX2_copy_19 : decode cX2_copy 19 = .ok (.aload_n 0, 1) := by decide +kernel
theorem dX2_copy_20 : decode cX2_copy 20 = .ok (.getfield 15, 3) := by decide +kernel
theorem dX2_copy_23 : decode cX2_copy 23 = .ok (.iconst 0, 1) := by decide +kernel
theorem dX2_copy_24 : decode cX2_copy 24 = .ok (.iconst 4, 1) := by decide +kernel
theorem dX2_copy_25 : decode cX2_copy 25 = .ok (.invokestatic 71, 3) := by decide +kernel
theorem dX2_copy_28 : decode cX2_copy 28 = .ok (.aload_n 1, 1) := by decide +kernel
theorem dX2_copy_29 : decode cX2_copy 29 = .ok (.getfield 18, 3) := by decide +kernel
theorem dX2_copy_32 : decode cX2_copy 32 = .ok (.iconst 0, 1) := by decide +kernel
theorem dX2_copy_33 : decode cX2_copy 33 = .ok (.aload_n 0, 1) := by decide +kernel
theorem dX2_copy_34 : decode cX2_copy 34 = .ok (.getfield 18, 3) := by decide +kernel
theorem dX2_copy_37 : decode cX2_copy 37 = .ok (.iconst 0, 1) := by decide +kernel
theorem dX2_copy_38 : decode cX2_copy 38 = .ok (.iconst 4, 1) := by decide +kernel
theorem dX2_copy_39 : decode cX2_copy 39 = .ok (.invokestatic 71, 3) := by decide +kernel
theorem dX2_copy_42 : decode cX2_copy 42 = .ok (.aload_n 1, 1) := by decide +kernel
theorem dX2_copy_43 : decode cX2_copy 43 = .ok (.getfield 21, 3) := by decide +kernel
theorem dX2_copy_46 : decode cX2_copy 46 = .ok (.iconst 0, 1) := by decide +kernel
theorem dX2_copy_47 : decode cX2_copy 47 = .ok (.aload_n 0, 1) := by decide +kernel
theorem dX2_copy_48 : decode cX2_copy 48 = .ok (.getfield 21, 3) := by decide +kernel
theorem dX2_copy_51 : decode cX2_copy 51 = .ok (.iconst 0, 1) := by decide +kernel
theorem dX2_copy_52 : decode cX2_copy 52 = .ok (.iconst 4, 1) := by decide +kernel
theorem dX2_copy_53 : decode cX2_copy 53 = .ok (.invokestatic 71, 3) := by decide +kernel
theorem dX2_copy_56 : decode cX2_copy 56 = .ok (.aload_n 0, 1) := by decide +kernel
theorem dX2_copy_57 : decode cX2_copy 57 = .ok (.aload_n 1, 1) := by decide +kernel
theorem dX2_copy_58 : decode cX2_copy 58 = .ok (.getfield 27, 3) := by decide +kernel
theorem dX2_copy_61 : decode cX2_copy 61 = .ok (.putfield 27, 3) := by decide +kernel
theorem dX2_copy_64 : decode cX2_copy 64 = .ok (.aload_n 0, 1) := by decide +kernel
theorem dX2_copy_65 : decode cX2_copy 65 = .ok (.aload_n 1, 1) := by decide +kernel
theorem dX2_copy_66 : decode cX2_copy 66 = .ok (.getfield 31, 3) := by decide +kernel
theorem dX2_copy_69 : decode cX2_copy 69 = .ok (.putfield 31, 3) := by decide +kernel
theorem dX2_copy_72 : decode cX2_copy 72 = .ok (.aload_n 0, 1) := by decide +kernel
theorem dX2_copy_73 : decode cX2_copy 73 = .ok (.aload_n 1, 1) := by decide +kernel
theorem dX2_copy_74 : decode cX2_copy 74 = .ok (.getfield 34, 3) := by decide +kernel
theorem dX2_copy_77 : decode cX2_copy 77 = .ok (.putfield 34, 3) := by decide +kernel
theorem dX2_copy_80 : decode cX2_copy 80 = .ok (.aload_n 0, 1) := by decide +kernel
theorem dX2_copy_81 : decode cX2_copy 81 = .ok (.aload_n 1, 1) := by decide +kernel
theorem dX2_copy_82 : decode cX2_copy 82 = .ok (.getfield 37, 3) := by decide +kernel
theorem dX2_copy_85 : decode cX2_copy 85 = .ok (.putfield 37, 3) := by decide +kernel
theorem dX2_copy_88 : decode cX2_copy 88 = .ok (.aload_n 0, 1) := by decide +kernel
theorem dX2_copy_89 : decode cX2_copy 89 = .ok (.aload_n 1, 1) := by decide +kernel
theorem dX2_copy_90 : decode cX2_copy 90 = .ok (.getfield 40, 3) := by decide +kernel
theorem dX2_copy_93 : decode cX2_copy 93 = .ok (.putfield 40, 3) := by decide +kernel
theorem dX2_copy_96 : decode cX2_copy 96 = .ok (.aload_n 0, 1) := by decide +kernel
theorem dX2_copy_97 : decode cX2_copy 97 = .ok (.aload_n 1, 1) := by decide +kernel
theorem dX2_copy_98 : decode cX2_copy 98 = .ok (.getfield 43, 3) := by decide +kernel
theorem dX2_copy_101 : decode cX2_copy 101 = .ok (.putfield 43, 3) := by decide +kernel
theorem dX2_copy_104 : decode cX2_copy 104 = .ok (.aload_n 0, 1) := by decide +kernel
theorem dX2_copy_105 : decode cX2_copy 105 = .ok (.aload_n 1, 1) := by decide +kernel
theorem dX2_copy_106 : decode cX2_copy 106 = .ok (.getfield 46, 3) := by decide +kernel
theorem dX2_copy_109 : decode cX2_copy 109 = .ok (.putfield 46, 3) := by decide +kernel
theorem dX2_copy_112 : decode cX2_copy 112 = .ok (.aload_n 0, 1) := by decide +kernel
theorem dX2_copy_113 : decode cX2_copy 113 = .ok (.aload_n 1, 1) := by decide +kernel
theorem dX2_copy_114 : decode cX2_copy 114 = .ok (.getfield 49, 3) := by decide +kernel
theorem dX2_copy_117 : decode cX2_copy 117 = .ok (.putfield 49, 3) := by decide +kernel
theorem dX2_copy_120 : decode cX2_copy 120 = .ok (.aload_n 0, 1) := by decide +kernel
theorem dX2_copy_121 : decode cX2_copy 121 = .ok (.aload_n 1, 1) := by decide +kernel
theorem dX2_copy_122 : decode cX2_copy 122 = .ok (.getfield 52, 3) := by decide +kernel
theorem dX2_copy_125 : decode cX2_copy 125 = .ok (.putfield 52, 3) := by decide +kernel
theorem dX2_copy_128 : decode cX2_copy 128 = .ok (.aload_n 0, 1) := by decide +kernel
theorem dX2_copy_129 : decode cX2_copy 129 = .ok (.aload_n 1, 1) := by decide +kernel
theorem dX2_copy_130 : decode cX2_copy 130 = .ok (.getfield 77, 3) := by decide +kernel
theorem dX2_copy_133 : decode cX2_copy 133 = .ok (.aload_n 1, 1) := by decide +kernel
theorem dX2_copy_134 : decode cX2_copy 134 = .ok (.getfield 80, 3) := by decide +kernel
theorem dX2_copy_137 : decode cX2_copy 137 = .ok (.invokevirtual 55, 3) := by decide +kernel
theorem dX2_copy_140 : decode cX2_copy 140 = .ok (.aload_n 0, 1) := by decide +kernel
theorem dX2_copy_141 : decode cX2_copy 141 = .ok (.aload_n 1, 1) := by decide +kernel
theorem dX2_copy_142 : decode cX2_copy 142 = .ok (.getfield 59, 3) := by decide +kernel
theorem dX2_copy_145 : decode cX2_copy 145 = .ok (.putfield 59, 3) := by decide +kernel
theorem dX2_copy_148 : decode cX2_copy 148 = .ok (.aload_n 0, 1) := by decide +kernel
theorem dX2_copy_149 : decode cX2_copy 149 = .ok (.aload_n 1, 1) := by decide +kernel
theorem dX2_copy_150 : decode cX2_copy 150 = .ok (.getfield 62, 3) := by decide +kernel
theorem dX2_copy_153 : decode cX2_copy 153 = .ok (.putfield 62, 3) := by decide +kernel
theorem dX2_copy_156 : decode cX2_copy 156 = .ok (.aload_n 0, 1) := by decide +kernel
theorem dX2_copy_157 : decode cX2_copy 157 = .ok (.aload_n 1, 1) := by decide +kernel
theorem dX2_copy_158 : decode cX2_copy 158 = .ok (.getfield 65, 3) := by decide +kernel
theorem dX2_copy_161 : decode cX2_copy 161 = .ok (.putfield 65, 3) := by decide +kernel
theorem dX2_copy_164 : decode cX2_copy 164 = .ok (.aload_n 0, 1) := by decide +kernel
theorem dX2_copy_165 : decode cX2_copy 165 = .ok (.aload_n 1, 1) := by decide +kernel
theorem dX2_copy_166 : decode cX2_copy 166 = .ok (.getfield 68, 3) := by decide +kernel
theorem dX2_copy_169 : decode cX2_copy 169 = .ok (.putfield 68, 3) := by decide +kernel
theorem dX2_copy_172 : decode cX2_copy 172 = .ok (.return_, 1) := by decide +kernel
theorem dX2_appoint_0 : decode cX2_appoint 0 = .ok (.aload_n 0, 1) := by decide +kernel
theorem dX2_appoint_1 : decode cX2_appoint 1 = .ok (.iload_n 1, 1) := by decide +kernel
theorem dX2_appoint_2 : decode cX2_appoint 2 = .ok (.putfield 77, 3) := by decide +kernel
theorem dX2_appoint_5 : decode cX2_appoint 5 = .ok (.aload_n 0, 1) := by decide +kernel
theorem dX2_appoint_6 : decode cX2_appoint 6 = .ok (.iload_n 2, 1) := by decide +kernel
theorem dX2_appoint_7 : decode cX2_appoint 7 = .ok (.putfield 80, 3) := by decide +kernel
theorem dX2_appoint_10 : decode cX2_appoint 10 = .ok (.return_, 1) := by decide +kernel
theorem dX2_addLand_0 : decode cX2_addLand 0 = .ok (.aload_n 0, 1) := by decide +kernel
theorem dX2_addLand_1 : decode cX2_addLand 1 = .ok (.getfield 27, 3) := by decide +kernel
theorem dX2_addLand_4 : decode cX2_addLand 4 = .ok (.iconst 4, 1) := by decide +kernel
theorem dX2_addLand_5 : decode cX2_addLand 5 = .ok (.if_icmp .ge 33, 3) := by decide +kernel
theorem dX2_addLand_8 : decode cX2_addLand 8 = .ok (.aload_n 0, 1) := by decide +kernel
theorem dX2_addLand_9 : decode cX2_addLand 9 = .ok (.getfield 9, 3) := by decide +kernel
theorem dX2_addLand_12 : decode cX2_addLand 12 = .ok (.aload_n 0, 1) := by decide +kernel
theorem dX2_addLand_13 : decode cX2_addLand 13 = .ok (.getfield 27, 3) := by decide +kernel
theorem dX2_addLand_16 : decode cX2_addLand 16 = .ok (.iload_n 1, 1) := by decide +kernel
theorem dX2_addLand_17 : decode cX2_addLand 17 = .ok (.iastore, 1) := by decide +kernel
theorem dX2_addLand_18 : decode cX2_addLand 18 = .ok (.aload_n 0, 1) := by decide +kernel
theorem dX2_addLand_19 : decode cX2_addLand 19 = .ok (.getfield 15, 3) := by decide +kernel
theorem dX2_addLand_22 : decode cX2_addLand 22 = .ok (.aload_n 0, 1) := by decide +kernel
theorem dX2_addLand_23 : decode cX2_addLand 23 = .ok (.getfield 27, 3) := by decide +kernel
theorem dX2_addLand_26 : decode cX2_addLand 26 = .ok (.iload_n 2, 1) := by decide +kernel
theorem dX2_addLand_27 : decode cX2_addLand 27 = .ok (.iastore, 1) := by decide +kernel
theorem dX2_addLand_28 : decode cX2_addLand 28 = .ok (.aload_n 0, 1) := by decide +kernel
theorem dX2_addLand_29 : decode cX2_addLand 29 = .ok (.dup, 1) := by decide +kernel
theorem dX2_addLand_30 : decode cX2_addLand 30 = .ok (.getfield 27, 3) := by decide +kernel
theorem dX2_addLand_33 : decode cX2_addLand 33 = .ok (.iconst 1, 1) := by decide +kernel
theorem dX2_addLand_34 : decode cX2_addLand 34 = .ok (.iadd, 1) := by decide +kernel
theorem dX2_addLand_35 : decode cX2_addLand 35 = .ok (.putfield 27, 3) := by decide +kernel
theorem dX2_addLand_38 : decode cX2_addLand 38 = .ok (.return_, 1) := by decide +kernel
theorem dX2_addReading_0 : decode cX2_addReading 0 = .ok (.aload_n 0, 1) := by decide +kernel
theorem dX2_addReading_1 : decode cX2_addReading 1 = .ok (.getfield 31, 3) := by decide +kernel
theorem dX2_addReading_4 : decode cX2_addReading 4 = .ok (.iconst 4, 1) := by decide +kernel
theorem dX2_addReading_5 : decode cX2_addReading 5 = .ok (.if_icmp .ge 33, 3) := by decide +kernel
theorem dX2_addReading_8 : decode cX2_addReading 8 = .ok (.aload_n 0, 1) := by decide +kernel
theorem dX2_addReading_9 : decode cX2_addReading 9 = .ok (.getfield 18, 3) := by decide +kernel
theorem dX2_addReading_12 : decode cX2_addReading 12 = .ok (.aload_n 0, 1) := by decide +kernel
theorem dX2_addReading_13 : decode cX2_addReading 13 = .ok (.getfield 31, 3) := by decide +kernel
theorem dX2_addReading_16 : decode cX2_addReading 16 = .ok (.iload_n 1, 1) := by decide +kernel
theorem dX2_addReading_17 : decode cX2_addReading 17 = .ok (.iastore, 1) := by decide +kernel
theorem dX2_addReading_18 : decode cX2_addReading 18 = .ok (.aload_n 0, 1) := by decide +kernel
theorem dX2_addReading_19 : decode cX2_addReading 19 = .ok (.getfield 21, 3) := by decide +kernel
theorem dX2_addReading_22 : decode cX2_addReading 22 = .ok (.aload_n 0, 1) := by decide +kernel
theorem dX2_addReading_23 : decode cX2_addReading 23 = .ok (.getfield 31, 3) := by decide +kernel
theorem dX2_addReading_26 : decode cX2_addReading 26 = .ok (.iload_n 2, 1) := by decide +kernel
theorem dX2_addReading_27 : decode cX2_addReading 27 = .ok (.iastore, 1) := by decide +kernel
theorem dX2_addReading_28 : decode cX2_addReading 28 = .ok (.aload_n 0, 1) := by decide +kernel
theorem dX2_addReading_29 : decode cX2_addReading 29 = .ok (.dup, 1) := by decide +kernel
theorem dX2_addReading_30 : decode cX2_addReading 30 = .ok (.getfield 31, 3) := by decide +kernel
theorem dX2_addReading_33 : decode cX2_addReading 33 = .ok (.iconst 1, 1) := by decide +kernel
theorem dX2_addReading_34 : decode cX2_addReading 34 = .ok (.iadd, 1) := by decide +kernel
theorem dX2_addReading_35 : decode cX2_addReading 35 = .ok (.putfield 31, 3) := by decide +kernel
theorem dX2_addReading_38 : decode cX2_addReading 38 = .ok (.return_, 1) := by decide +kernel
theorem dX2_yields_0 : decode cX2_yields 0 = .ok (.iload_n 1, 1) := by decide +kernel
theorem dX2_yields_1 : decode cX2_yields 1 = .ok (.iconst 1, 1) := by decide +kernel
theorem dX2_yields_2 : decode cX2_yields 2 = .ok (.if_icmp .ne 10, 3) := by decide +kernel
theorem dX2_yields_5 : decode cX2_yields 5 = .ok (.aload_n 0, 1) := by decide +kernel
theorem dX2_yields_6 : decode cX2_yields 6 = .ok (.getfield 9, 3) := by decide +kernel
theorem dX2_yields_9 : decode cX2_yields 9 = .ok (.goto 7, 3) := by decide +kernel
theorem dX2_yields_12 : decode cX2_yields 12 = .ok (.aload_n 0, 1) := by decide +kernel
theorem dX2_yields_13 : decode cX2_yields 13 = .ok (.getfield 15, 3) := by decide +kernel
theorem dX2_yields_16 : decode cX2_yields 16 = .ok (.areturn, 1) := by decide +kernel
theorem dX2_priceIn_0 : decode cX2_priceIn 0 = .ok (.iload_n 1, 1) := by decide +kernel
theorem dX2_priceIn_1 : decode cX2_priceIn 1 = .ok (.iconst 1, 1) := by decide +kernel
theorem dX2_priceIn_2 : decode cX2_priceIn 2 = .ok (.if_icmp .ne 10, 3) := by decide +kernel
theorem dX2_priceIn_5 : decode cX2_priceIn 5 = .ok (.aload_n 0, 1) := by decide +kernel
theorem dX2_priceIn_6 : decode cX2_priceIn 6 = .ok (.getfield 49, 3) := by decide +kernel
theorem dX2_priceIn_9 : decode cX2_priceIn 9 = .ok (.goto 7, 3) := by decide +kernel
theorem dX2_priceIn_12 : decode cX2_priceIn 12 = .ok (.aload_n 0, 1) := by decide +kernel
theorem dX2_priceIn_13 : decode cX2_priceIn 13 = .ok (.getfield 52, 3) := by decide +kernel
theorem dX2_priceIn_16 : decode cX2_priceIn 16 = .ok (.ireturn, 1) := by decide +kernel
theorem dX2_harvest_0 : decode cX2_harvest 0 = .ok (.iload_n 1, 1) := by decide +kernel
theorem dX2_harvest_1 : decode cX2_harvest 1 = .ok (.iconst 1, 1) := by decide +kernel
theorem dX2_harvest_2 : decode cX2_harvest 2 = .ok (.if_icmp .ne 10, 3) := by decide +kernel
theorem dX2_harvest_5 : decode cX2_harvest 5 = .ok (.aload_n 0, 1) := by decide +kernel
theorem dX2_harvest_6 : decode cX2_harvest 6 = .ok (.getfield 9, 3) := by decide +kernel
theorem dX2_harvest_9 : decode cX2_harvest 9 = .ok (.goto 7, 3) := by decide +kernel
theorem dX2_harvest_12 : decode cX2_harvest 12 = .ok (.aload_n 0, 1) := by decide +kernel
theorem dX2_harvest_13 : decode cX2_harvest 13 = .ok (.getfield 15, 3) := by decide +kernel
theorem dX2_harvest_16 : decode cX2_harvest 16 = .ok (.astore_n 2, 1) := by decide +kernel
theorem dX2_harvest_17 : decode cX2_harvest 17 = .ok (.iconst 0, 1) := by decide +kernel
theorem dX2_harvest_18 : decode cX2_harvest 18 = .ok (.istore_n 3, 1) := by decide +kernel
theorem dX2_harvest_19 : decode cX2_harvest 19 = .ok (.iconst 0, 1) := by decide +kernel
theorem dX2_harvest_20 : decode cX2_harvest 20 = .ok (.istore 4, 2) := by decide +kernel
theorem dX2_harvest_22 : decode cX2_harvest 22 = .ok (.iload 4, 2) := by decide +kernel
theorem dX2_harvest_24 : decode cX2_harvest 24 = .ok (.aload_n 0, 1) := by decide +kernel
theorem dX2_harvest_25 : decode cX2_harvest 25 = .ok (.getfield 27, 3) := by decide +kernel
theorem dX2_harvest_28 : decode cX2_harvest 28 = .ok (.if_icmp .ge 16, 3) := by decide +kernel
theorem dX2_harvest_31 : decode cX2_harvest 31 = .ok (.iload_n 3, 1) := by decide +kernel
theorem dX2_harvest_32 : decode cX2_harvest 32 = .ok (.aload_n 2, 1) := by decide +kernel
theorem dX2_harvest_33 : decode cX2_harvest 33 = .ok (.iload 4, 2) := by decide +kernel
theorem dX2_harvest_35 : decode cX2_harvest 35 = .ok (.iaload, 1) := by decide +kernel
theorem dX2_harvest_36 : decode cX2_harvest 36 = .ok (.iadd, 1) := by decide +kernel
theorem dX2_harvest_37 : decode cX2_harvest 37 = .ok (.istore_n 3, 1) := by decide +kernel
theorem dX2_harvest_38 : decode cX2_harvest 38 = .ok (.iinc 4 1, 3) := by decide +kernel
theorem dX2_harvest_41 : decode cX2_harvest 41 = .ok (.goto (-19), 3) := by decide +kernel
theorem dX2_harvest_44 : decode cX2_harvest 44 = .ok (.iload_n 3, 1) := by decide +kernel
theorem dX2_harvest_45 : decode cX2_harvest 45 = .ok (.ireturn, 1) := by decide +kernel
theorem dX2_isOver_0 : decode cX2_isOver 0 = .ok (.aload_n 0, 1) := by decide +kernel
theorem dX2_isOver_1 : decode cX2_isOver 1 = .ok (.getfield 59, 3) := by decide +kernel
theorem dX2_isOver_4 : decode cX2_isOver 4 = .ok (.bipush 8, 2) := by decide +kernel
theorem dX2_isOver_6 : decode cX2_isOver 6 = .ok (.if_icmp .lt 7, 3) := by decide +kernel
theorem dX2_isOver_9 : decode cX2_isOver 9 = .ok (.iconst 1, 1) := by decide +kernel
theorem dX2_isOver_10 : decode cX2_isOver 10 = .ok (.goto 4, 3) := by decide +kernel
theorem dX2_isOver_13 : decode cX2_isOver 13 = .ok (.iconst 0, 1) := by decide +kernel
theorem dX2_isOver_14 : decode cX2_isOver 14 = .ok (.ireturn, 1) := by decide +kernel
theorem dX2_foodIn_0 : decode cX2_foodIn 0 = .ok (.aload_n 0, 1) := by decide +kernel
theorem dX2_foodIn_1 : decode cX2_foodIn 1 = .ok (.getfield 46, 3) := by decide +kernel
theorem dX2_foodIn_4 : decode cX2_foodIn 4 = .ok (.aload_n 0, 1) := by decide +kernel
theorem dX2_foodIn_5 : decode cX2_foodIn 5 = .ok (.iload_n 1, 1) := by decide +kernel
theorem dX2_foodIn_6 : decode cX2_foodIn 6 = .ok (.invokevirtual 83, 3) := by decide +kernel
theorem dX2_foodIn_9 : decode cX2_foodIn 9 = .ok (.iadd, 1) := by decide +kernel
theorem dX2_foodIn_10 : decode cX2_foodIn 10 = .ok (.ireturn, 1) := by decide +kernel
theorem dX2_leftOf_0 : decode cX2_leftOf 0 = .ok (.iconst 0, 1) := by decide +kernel
theorem dX2_leftOf_1 : decode cX2_leftOf 1 = .ok (.iload_n 1, 1) := by decide +kernel
theorem dX2_leftOf_2 : decode cX2_leftOf 2 = .ok (.aload_n 0, 1) := by decide +kernel
theorem dX2_leftOf_3 : decode cX2_leftOf 3 = .ok (.getfield 34, 3) := by decide +kernel
theorem dX2_leftOf_6 : decode cX2_leftOf 6 = .ok (.isub, 1) := by decide +kernel
theorem dX2_leftOf_7 : decode cX2_leftOf 7 = .ok (.invokestatic 87, 3) := by decide +kernel
theorem dX2_leftOf_10 : decode cX2_leftOf 10 = .ok (.ireturn, 1) := by decide +kernel
theorem dX2_hungryOf_0 : decode cX2_hungryOf 0 = .ok (.iconst 0, 1) := by decide +kernel
theorem dX2_hungryOf_1 : decode cX2_hungryOf 1 = .ok (.aload_n 0, 1) := by decide +kernel
theorem dX2_hungryOf_2 : decode cX2_hungryOf 2 = .ok (.getfield 34, 3) := by decide +kernel
theorem dX2_hungryOf_5 : decode cX2_hungryOf 5 = .ok (.iload_n 1, 1) := by decide +kernel
theorem dX2_hungryOf_6 : decode cX2_hungryOf 6 = .ok (.isub, 1) := by decide +kernel
theorem dX2_hungryOf_7 : decode cX2_hungryOf 7 = .ok (.invokestatic 87, 3) := by decide +kernel
theorem dX2_hungryOf_10 : decode cX2_hungryOf 10 = .ok (.ireturn, 1) := by decide +kernel
theorem dX2_unrotten_0 : decode cX2_unrotten 0 = .ok (.aload_n 0, 1) := by decide +kernel
theorem dX2_unrotten_1 : decode cX2_unrotten 1 = .ok (.getfield 43, 3) := by decide +kernel
theorem dX2_unrotten_4 : decode cX2_unrotten 4 = .ok (.ifCond .ne 7, 3) := by decide +kernel
theorem dX2_unrotten_7 : decode cX2_unrotten 7 = .ok (.iload_n 1, 1) := by decide +kernel
theorem dX2_unrotten_8 : decode cX2_unrotten 8 = .ok (.goto 11, 3) := by decide +kernel
theorem dX2_unrotten_11 : decode cX2_unrotten 11 = .ok (.iload_n 1, 1) := by decide +kernel
theorem dX2_unrotten_12 : decode cX2_unrotten 12 = .ok (.iload_n 1, 1) := by decide +kernel
theorem dX2_unrotten_13 : decode cX2_unrotten 13 = .ok (.aload_n 0, 1) := by decide +kernel
theorem dX2_unrotten_14 : decode cX2_unrotten 14 = .ok (.getfield 43, 3) := by decide +kernel
theorem dX2_unrotten_17 : decode cX2_unrotten 17 = .ok (.idiv, 1) := by decide +kernel
theorem dX2_unrotten_18 : decode cX2_unrotten 18 = .ok (.isub, 1) := by decide +kernel
theorem dX2_unrotten_19 : decode cX2_unrotten 19 = .ok (.ireturn, 1) := by decide +kernel
theorem dX2_keptOf_0 : decode cX2_keptOf 0 = .ok (.aload_n 0, 1) := by decide +kernel
theorem dX2_keptOf_1 : decode cX2_keptOf 1 = .ok (.getfield 40, 3) := by decide +kernel
theorem dX2_keptOf_4 : decode cX2_keptOf 4 = .ok (.iload_n 1, 1) := by decide +kernel
theorem dX2_keptOf_5 : decode cX2_keptOf 5 = .ok (.aload_n 0, 1) := by decide +kernel
theorem dX2_keptOf_6 : decode cX2_keptOf 6 = .ok (.iload_n 1, 1) := by decide +kernel
theorem dX2_keptOf_7 : decode cX2_keptOf 7 = .ok (.invokevirtual 93, 3) := by decide +kernel
theorem dX2_keptOf_10 : decode cX2_keptOf 10 = .ok (.invokestatic 96, 3) := by decide +kernel
theorem dX2_keptOf_13 : decode cX2_keptOf 13 = .ok (.invokestatic 96, 3) := by decide +kernel
theorem dX2_keptOf_16 : decode cX2_keptOf 16 = .ok (.ireturn, 1) := by decide +kernel
theorem dX2_wantedOf_0 : decode cX2_wantedOf 0 = .ok (.aload_n 0, 1) := by decide +kernel
theorem dX2_wantedOf_1 : decode cX2_wantedOf 1 = .ok (.getfield 77, 3) := by decide +kernel
theorem dX2_wantedOf_4 : decode cX2_wantedOf 4 = .ok (.tableswitch 72 1 4 #[32, 53, 60, 62], 32) := by decide +kernel
theorem dX2_wantedOf_36 : decode cX2_wantedOf 36 = .ok (.aload_n 0, 1) := by decide +kernel
theorem dX2_wantedOf_37 : decode cX2_wantedOf 37 = .ok (.getfield 80, 3) := by decide +kernel
theorem dX2_wantedOf_40 : decode cX2_wantedOf 40 = .ok (.iconst 1, 1) := by decide +kernel
theorem dX2_wantedOf_41 : decode cX2_wantedOf 41 = .ok (.if_icmp .ge 7, 3) := by decide +kernel
theorem dX2_wantedOf_44 : decode cX2_wantedOf 44 = .ok (.iload_n 1, 1) := by decide +kernel
theorem dX2_wantedOf_45 : decode cX2_wantedOf 45 = .ok (.goto 11, 3) := by decide +kernel
theorem dX2_wantedOf_48 : decode cX2_wantedOf 48 = .ok (.iload_n 1, 1) := by decide +kernel
theorem dX2_wantedOf_49 : decode cX2_wantedOf 49 = .ok (.aload_n 0, 1) := by decide +kernel
theorem dX2_wantedOf_50 : decode cX2_wantedOf 50 = .ok (.getfield 80, 3) := by decide +kernel
theorem dX2_wantedOf_53 : decode cX2_wantedOf 53 = .ok (.iconst 1, 1) := by decide +kernel
theorem dX2_wantedOf_54 : decode cX2_wantedOf 54 = .ok (.iadd, 1) := by decide +kernel
theorem dX2_wantedOf_55 : decode cX2_wantedOf 55 = .ok (.idiv, 1) := by decide +kernel
theorem dX2_wantedOf_56 : decode cX2_wantedOf 56 = .ok (.ireturn, 1) := by decide +kernel
theorem dX2_wantedOf_57 : decode cX2_wantedOf 57 = .ok (.iconst 4, 1) := by decide +kernel
theorem dX2_wantedOf_58 : decode cX2_wantedOf 58 = .ok (.aload_n 0, 1) := by decide +kernel
theorem dX2_wantedOf_59 : decode cX2_wantedOf 59 = .ok (.getfield 80, 3) := by decide +kernel
theorem dX2_wantedOf_62 : decode cX2_wantedOf 62 = .ok (.imul, 1) := by decide +kernel
theorem dX2_wantedOf_63 : decode cX2_wantedOf 63 = .ok (.ireturn, 1) := by decide +kernel
theorem dX2_wantedOf_64 : decode cX2_wantedOf 64 = .ok (.iconst 0, 1) := by decide +kernel
theorem dX2_wantedOf_65 : decode cX2_wantedOf 65 = .ok (.ireturn, 1) := by decide +kernel
theorem dX2_wantedOf_66 : decode cX2_wantedOf 66 = .ok (.aload_n 0, 1) := by decide +kernel
theorem dX2_wantedOf_67 : decode cX2_wantedOf 67 = .ok (.getfield 34, 3) := by decide +kernel
theorem dX2_wantedOf_70 : decode cX2_wantedOf 70 = .ok (.aload_n 0, 1) := by decide +kernel
theorem dX2_wantedOf_71 : decode cX2_wantedOf 71 = .ok (.getfield 80, 3) := by decide +kernel
theorem dX2_wantedOf_74 : decode cX2_wantedOf 74 = .ok (.imul, 1) := by decide +kernel
theorem dX2_wantedOf_75 : decode cX2_wantedOf 75 = .ok (.ireturn, 1) := by decide +kernel
theorem dX2_wantedOf_76 : decode cX2_wantedOf 76 = .ok (.iload_n 1, 1) := by decide +kernel
theorem dX2_wantedOf_77 : decode cX2_wantedOf 77 = .ok (.ireturn, 1) := by decide +kernel
theorem dX2_pass_0 : decode cX2_pass 0 = .ok (.aload_n 0, 1) := by decide +kernel
theorem dX2_pass_1 : decode cX2_pass 1 = .ok (.iload_n 1, 1) := by decide +kernel
theorem dX2_pass_2 : decode cX2_pass 2 = .ok (.invokevirtual 99, 3) := by decide +kernel
theorem dX2_pass_5 : decode cX2_pass 5 = .ok (.istore_n 3, 1) := by decide +kernel
theorem dX2_pass_6 : decode cX2_pass 6 = .ok (.aload_n 0, 1) := by decide +kernel
theorem dX2_pass_7 : decode cX2_pass 7 = .ok (.iload_n 3, 1) := by decide +kernel
theorem dX2_pass_8 : decode cX2_pass 8 = .ok (.invokevirtual 102, 3) := by decide +kernel
theorem dX2_pass_11 : decode cX2_pass 11 = .ok (.istore 4, 2) := by decide +kernel
theorem dX2_pass_13 : decode cX2_pass 13 = .ok (.aload_n 0, 1) := by decide +kernel
theorem dX2_pass_14 : decode cX2_pass 14 = .ok (.dup, 1) := by decide +kernel
theorem dX2_pass_15 : decode cX2_pass 15 = .ok (.getfield 65, 3) := by decide +kernel
theorem dX2_pass_18 : decode cX2_pass 18 = .ok (.aload_n 0, 1) := by decide +kernel
theorem dX2_pass_19 : decode cX2_pass 19 = .ok (.iload_n 1, 1) := by decide +kernel
theorem dX2_pass_20 : decode cX2_pass 20 = .ok (.invokevirtual 105, 3) := by decide +kernel
theorem dX2_pass_23 : decode cX2_pass 23 = .ok (.aload_n 0, 1) := by decide +kernel
theorem dX2_pass_24 : decode cX2_pass 24 = .ok (.iload_n 3, 1) := by decide +kernel
theorem dX2_pass_25 : decode cX2_pass 25 = .ok (.invokevirtual 108, 3) := by decide +kernel
theorem dX2_pass_28 : decode cX2_pass 28 = .ok (.iload_n 2, 1) := by decide +kernel
theorem dX2_pass_29 : decode cX2_pass 29 = .ok (.isub, 1) := by decide +kernel
theorem dX2_pass_30 : decode cX2_pass 30 = .ok (.imul, 1) := by decide +kernel
theorem dX2_pass_31 : decode cX2_pass 31 = .ok (.iadd, 1) := by decide +kernel
theorem dX2_pass_32 : decode cX2_pass 32 = .ok (.putfield 65, 3) := by decide +kernel
theorem dX2_pass_35 : decode cX2_pass 35 = .ok (.aload_n 0, 1) := by decide +kernel
theorem dX2_pass_36 : decode cX2_pass 36 = .ok (.dup, 1) := by decide +kernel
theorem dX2_pass_37 : decode cX2_pass 37 = .ok (.getfield 68, 3) := by decide +kernel
theorem dX2_pass_40 : decode cX2_pass 40 = .ok (.iload 4, 2) := by decide +kernel
theorem dX2_pass_42 : decode cX2_pass 42 = .ok (.iadd, 1) := by decide +kernel
theorem dX2_pass_43 : decode cX2_pass 43 = .ok (.putfield 68, 3) := by decide +kernel
theorem dX2_pass_46 : decode cX2_pass 46 = .ok (.aload_n 0, 1) := by decide +kernel
theorem dX2_pass_47 : decode cX2_pass 47 = .ok (.aload_n 0, 1) := by decide +kernel
theorem dX2_pass_48 : decode cX2_pass 48 = .ok (.iload_n 2, 1) := by decide +kernel
theorem dX2_pass_49 : decode cX2_pass 49 = .ok (.invokevirtual 111, 3) := by decide +kernel
theorem dX2_pass_52 : decode cX2_pass 52 = .ok (.putfield 46, 3) := by decide +kernel
theorem dX2_pass_55 : decode cX2_pass 55 = .ok (.aload_n 0, 1) := by decide +kernel
theorem dX2_pass_56 : decode cX2_pass 56 = .ok (.dup, 1) := by decide +kernel
theorem dX2_pass_57 : decode cX2_pass 57 = .ok (.getfield 62, 3) := by decide +kernel
theorem dX2_pass_60 : decode cX2_pass 60 = .ok (.iload_n 1, 1) := by decide +kernel
theorem dX2_pass_61 : decode cX2_pass 61 = .ok (.aload_n 0, 1) := by decide +kernel
theorem dX2_pass_62 : decode cX2_pass 62 = .ok (.getfield 59, 3) := by decide +kernel
theorem dX2_pass_65 : decode cX2_pass 65 = .ok (.ishl, 1) := by decide +kernel
theorem dX2_pass_66 : decode cX2_pass 66 = .ok (.ior, 1) := by decide +kernel
theorem dX2_pass_67 : decode cX2_pass 67 = .ok (.putfield 62, 3) := by decide +kernel
theorem dX2_pass_70 : decode cX2_pass 70 = .ok (.aload_n 0, 1) := by decide +kernel
theorem dX2_pass_71 : decode cX2_pass 71 = .ok (.dup, 1) := by decide +kernel
theorem dX2_pass_72 : decode cX2_pass 72 = .ok (.getfield 59, 3) := by decide +kernel
theorem dX2_pass_75 : decode cX2_pass 75 = .ok (.iconst 1, 1) := by decide +kernel
theorem dX2_pass_76 : decode cX2_pass 76 = .ok (.iadd, 1) := by decide +kernel
theorem dX2_pass_77 : decode cX2_pass 77 = .ok (.putfield 59, 3) := by decide +kernel
theorem dX2_pass_80 : decode cX2_pass 80 = .ok (.iload 4, 2) := by decide +kernel
theorem dX2_pass_82 : decode cX2_pass 82 = .ok (.ireturn, 1) := by decide +kernel
theorem dX2_passTold_0 : decode cX2_passTold 0 = .ok (.iload_n 1, 1) := by decide +kernel
theorem dX2_passTold_1 : decode cX2_passTold 1 = .ok (.invokestatic 114, 3) := by decide +kernel
theorem dX2_passTold_4 : decode cX2_passTold 4 = .ok (.ifCond .eq 27, 3) := by decide +kernel
theorem dX2_passTold_7 : decode cX2_passTold 7 = .ok (.iload_n 2, 1) := by decide +kernel
theorem dX2_passTold_8 : decode cX2_passTold 8 = .ok (.iconst 0, 1) := by decide +kernel
theorem dX2_passTold_9 : decode cX2_passTold 9 = .ok (.aload_n 0, 1) := by decide +kernel
theorem dX2_passTold_10 : decode cX2_passTold 10 = .ok (.getfield 40, 3) := by decide +kernel
theorem dX2_passTold_13 : decode cX2_passTold 13 = .ok (.aload_n 0, 1) := by decide +kernel
theorem dX2_passTold_14 : decode cX2_passTold 14 = .ok (.aload_n 0, 1) := by decide +kernel
theorem dX2_passTold_15 : decode cX2_passTold 15 = .ok (.iload_n 1, 1) := by decide +kernel
theorem dX2_passTold_16 : decode cX2_passTold 16 = .ok (.invokevirtual 99, 3) := by decide +kernel
theorem dX2_passTold_19 : decode cX2_passTold 19 = .ok (.invokevirtual 108, 3) := by decide +kernel
theorem dX2_passTold_22 : decode cX2_passTold 22 = .ok (.invokestatic 96, 3) := by decide +kernel
theorem dX2_passTold_25 : decode cX2_passTold 25 = .ok (.invokestatic 118, 3) := by decide +kernel
theorem dX2_passTold_28 : decode cX2_passTold 28 = .ok (.ifCond .ne 5, 3) := by decide +kernel
theorem dX2_passTold_31 : decode cX2_passTold 31 = .ok (.iconst (-1), 1) := by decide +kernel
theorem dX2_passTold_32 : decode cX2_passTold 32 = .ok (.ireturn, 1) := by decide +kernel
theorem dX2_passTold_33 : decode cX2_passTold 33 = .ok (.aload_n 0, 1) := by decide +kernel
theorem dX2_passTold_34 : decode cX2_passTold 34 = .ok (.invokevirtual 122, 3) := by decide +kernel
theorem dX2_passTold_37 : decode cX2_passTold 37 = .ok (.ifCond .eq 8, 3) := by decide +kernel
theorem dX2_passTold_40 : decode cX2_passTold 40 = .ok (.bipush (-3), 2) := by decide +kernel
theorem dX2_passTold_42 : decode cX2_passTold 42 = .ok (.goto 9, 3) := by decide +kernel
theorem dX2_passTold_45 : decode cX2_passTold 45 = .ok (.aload_n 0, 1) := by decide +kernel
theorem dX2_passTold_46 : decode cX2_passTold 46 = .ok (.iload_n 1, 1) := by decide +kernel
theorem dX2_passTold_47 : decode cX2_passTold 47 = .ok (.iload_n 2, 1) := by decide +kernel
theorem dX2_passTold_48 : decode cX2_passTold 48 = .ok (.invokevirtual 126, 3) := by decide +kernel
theorem dX2_passTold_51 : decode cX2_passTold 51 = .ok (.ireturn, 1) := by decide +kernel
theorem dX2_passByHim_0 : decode cX2_passByHim 0 = .ok (.aload_n 0, 1) := by decide +kernel
theorem dX2_passByHim_1 : decode cX2_passByHim 1 = .ok (.iload_n 1, 1) := by decide +kernel
theorem dX2_passByHim_2 : decode cX2_passByHim 2 = .ok (.aload_n 0, 1) := by decide +kernel
theorem dX2_passByHim_3 : decode cX2_passByHim 3 = .ok (.aload_n 0, 1) := by decide +kernel
theorem dX2_passByHim_4 : decode cX2_passByHim 4 = .ok (.aload_n 0, 1) := by decide +kernel
theorem dX2_passByHim_5 : decode cX2_passByHim 5 = .ok (.iload_n 1, 1) := by decide +kernel
theorem dX2_passByHim_6 : decode cX2_passByHim 6 = .ok (.invokevirtual 99, 3) := by decide +kernel
theorem dX2_passByHim_9 : decode cX2_passByHim 9 = .ok (.invokevirtual 108, 3) := by decide +kernel
theorem dX2_passByHim_12 : decode cX2_passByHim 12 = .ok (.invokevirtual 129, 3) := by decide +kernel
theorem dX2_passByHim_15 : decode cX2_passByHim 15 = .ok (.invokevirtual 126, 3) := by decide +kernel
theorem dX2_passByHim_18 : decode cX2_passByHim 18 = .ok (.ireturn, 1) := by decide +kernel
theorem dX2_follow_0 : decode cX2_follow 0 = .ok (.iconst 0, 1) := by decide +kernel
theorem dX2_follow_1 : decode cX2_follow 1 = .ok (.istore_n 3, 1) := by decide +kernel
theorem dX2_follow_2 : decode cX2_follow 2 = .ok (.iload_n 3, 1) := by decide +kernel
theorem dX2_follow_3 : decode cX2_follow 3 = .ok (.iload_n 2, 1) := by decide +kernel
theorem dX2_follow_4 : decode cX2_follow 4 = .ok (.if_icmp .ge 30, 3) := by decide +kernel
theorem dX2_follow_7 : decode cX2_follow 7 = .ok (.aload_n 0, 1) := by decide +kernel
theorem dX2_follow_8 : decode cX2_follow 8 = .ok (.invokevirtual 122, 3) := by decide +kernel
theorem dX2_follow_11 : decode cX2_follow 11 = .ok (.ifCond .ne 23, 3) := by decide +kernel
theorem dX2_follow_14 : decode cX2_follow 14 = .ok (.aload_n 0, 1) := by decide +kernel
theorem dX2_follow_15 : decode cX2_follow 15 = .ok (.aload_n 0, 1) := by decide +kernel
theorem dX2_follow_16 : decode cX2_follow 16 = .ok (.iload_n 1, 1) := by decide +kernel
theorem dX2_follow_17 : decode cX2_follow 17 = .ok (.aload_n 0, 1) := by decide +kernel
theorem dX2_follow_18 : decode cX2_follow 18 = .ok (.getfield 59, 3) := by decide +kernel
theorem dX2_follow_21 : decode cX2_follow 21 = .ok (.invokevirtual 132, 3) := by decide +kernel
theorem dX2_follow_24 : decode cX2_follow 24 = .ok (.invokevirtual 135, 3) := by decide +kernel
theorem dX2_follow_27 : decode cX2_follow 27 = .ok (.pop, 1) := by decide +kernel
theorem dX2_follow_28 : decode cX2_follow 28 = .ok (.iinc 3 1, 3) := by decide +kernel
theorem dX2_follow_31 : decode cX2_follow 31 = .ok (.goto (-29), 3) := by decide +kernel
theorem dX2_follow_34 : decode cX2_follow 34 = .ok (.return_, 1) := by decide +kernel
theorem dX2_firstHunger_0 : decode cX2_firstHunger 0 = .ok (.aload_n 0, 1) := by decide +kernel
theorem dX2_firstHunger_1 : decode cX2_firstHunger 1 = .ok (.getfield 59, 3) := by decide +kernel
theorem dX2_firstHunger_4 : decode cX2_firstHunger 4 = .ok (.istore_n 2, 1) := by decide +kernel
theorem dX2_firstHunger_5 : decode cX2_firstHunger 5 = .ok (.iload_n 2, 1) := by decide +kernel
theorem dX2_firstHunger_6 : decode cX2_firstHunger 6 = .ok (.bipush 8, 2) := by decide +kernel
theorem dX2_firstHunger_8 : decode cX2_firstHunger 8 = .ok (.if_icmp .ge 24, 3) := by decide +kernel
theorem dX2_firstHunger_11 : decode cX2_firstHunger 11 = .ok (.aload_n 0, 1) := by decide +kernel
theorem dX2_firstHunger_12 : decode cX2_firstHunger 12 = .ok (.aload_n 0, 1) := by decide +kernel
theorem dX2_firstHunger_13 : decode cX2_firstHunger 13 = .ok (.iload_n 1, 1) := by decide +kernel
theorem dX2_firstHunger_14 : decode cX2_firstHunger 14 = .ok (.iload_n 2, 1) := by decide +kernel
theorem dX2_firstHunger_15 : decode cX2_firstHunger 15 = .ok (.invokevirtual 132, 3) := by decide +kernel
theorem dX2_firstHunger_18 : decode cX2_firstHunger 18 = .ok (.invokevirtual 135, 3) := by decide +kernel
theorem dX2_firstHunger_21 : decode cX2_firstHunger 21 = .ok (.ifCond .le 5, 3) := by decide +kernel
theorem dX2_firstHunger_24 : decode cX2_firstHunger 24 = .ok (.iload_n 2, 1) := by decide +kernel
theorem dX2_firstHunger_25 : decode cX2_firstHunger 25 = .ok (.ireturn, 1) := by decide +kernel
theorem dX2_firstHunger_26 : decode cX2_firstHunger 26 = .ok (.iinc 2 1, 3) := by decide +kernel
theorem dX2_firstHunger_29 : decode cX2_firstHunger 29 = .ok (.goto (-24), 3) := by decide +kernel
theorem dX2_firstHunger_32 : decode cX2_firstHunger 32 = .ok (.bipush (-4), 2) := by decide +kernel
theorem dX2_firstHunger_34 : decode cX2_firstHunger 34 = .ok (.ireturn, 1) := by decide +kernel
theorem dX2_fatIn_0 : decode cX2_fatIn 0 = .ok (.aload_n 0, 1) := by decide +kernel
theorem dX2_fatIn_1 : decode cX2_fatIn 1 = .ok (.getfield 18, 3) := by decide +kernel
theorem dX2_fatIn_4 : decode cX2_fatIn 4 = .ok (.iload_n 1, 1) := by decide +kernel
theorem dX2_fatIn_5 : decode cX2_fatIn 5 = .ok (.iaload, 1) := by decide +kernel
theorem dX2_fatIn_6 : decode cX2_fatIn 6 = .ok (.iload_n 2, 1) := by decide +kernel
theorem dX2_fatIn_7 : decode cX2_fatIn 7 = .ok (.ishr, 1) := by decide +kernel
theorem dX2_fatIn_8 : decode cX2_fatIn 8 = .ok (.iconst 1, 1) := by decide +kernel
theorem dX2_fatIn_9 : decode cX2_fatIn 9 = .ok (.iand, 1) := by decide +kernel
theorem dX2_fatIn_10 : decode cX2_fatIn 10 = .ok (.ireturn, 1) := by decide +kernel
theorem dX2_canBe_0 : decode cX2_canBe 0 = .ok (.iconst 1, 1) := by decide +kernel
theorem dX2_canBe_1 : decode cX2_canBe 1 = .ok (.aload_n 0, 1) := by decide +kernel
theorem dX2_canBe_2 : decode cX2_canBe 2 = .ok (.getfield 59, 3) := by decide +kernel
theorem dX2_canBe_5 : decode cX2_canBe 5 = .ok (.ishl, 1) := by decide +kernel
theorem dX2_canBe_6 : decode cX2_canBe 6 = .ok (.iconst 1, 1) := by decide +kernel
theorem dX2_canBe_7 : decode cX2_canBe 7 = .ok (.isub, 1) := by decide +kernel
theorem dX2_canBe_8 : decode cX2_canBe 8 = .ok (.istore_n 2, 1) := by decide +kernel
theorem dX2_canBe_9 : decode cX2_canBe 9 = .ok (.aload_n 0, 1) := by decide +kernel
theorem dX2_canBe_10 : decode cX2_canBe 10 = .ok (.getfield 18, 3) := by decide +kernel
theorem dX2_canBe_13 : decode cX2_canBe 13 = .ok (.iload_n 1, 1) := by decide +kernel
theorem dX2_canBe_14 : decode cX2_canBe 14 = .ok (.iaload, 1) := by decide +kernel
theorem dX2_canBe_15 : decode cX2_canBe 15 = .ok (.iload_n 2, 1) := by decide +kernel
theorem dX2_canBe_16 : decode cX2_canBe 16 = .ok (.iand, 1) := by decide +kernel
theorem dX2_canBe_17 : decode cX2_canBe 17 = .ok (.aload_n 0, 1) := by decide +kernel
theorem dX2_canBe_18 : decode cX2_canBe 18 = .ok (.getfield 62, 3) := by decide +kernel
theorem dX2_canBe_21 : decode cX2_canBe 21 = .ok (.if_icmp .ne 7, 3) := by decide +kernel
theorem dX2_canBe_24 : decode cX2_canBe 24 = .ok (.iconst 1, 1) := by decide +kernel
theorem dX2_canBe_25 : decode cX2_canBe 25 = .ok (.goto 4, 3) := by decide +kernel
theorem dX2_canBe_28 : decode cX2_canBe 28 = .ok (.iconst 0, 1) := by decide +kernel
theorem dX2_canBe_29 : decode cX2_canBe 29 = .ok (.ireturn, 1) := by decide +kernel
theorem dX2_possible_0 : decode cX2_possible 0 = .ok (.iconst 0, 1) := by decide +kernel
theorem dX2_possible_1 : decode cX2_possible 1 = .ok (.istore_n 1, 1) := by decide +kernel
theorem dX2_possible_2 : decode cX2_possible 2 = .ok (.iconst 0, 1) := by decide +kernel
theorem dX2_possible_3 : decode cX2_possible 3 = .ok (.istore_n 2, 1) := by decide +kernel
theorem dX2_possible_4 : decode cX2_possible 4 = .ok (.iload_n 2, 1) := by decide +kernel
theorem dX2_possible_5 : decode cX2_possible 5 = .ok (.aload_n 0, 1) := by decide +kernel
theorem dX2_possible_6 : decode cX2_possible 6 = .ok (.getfield 31, 3) := by decide +kernel
theorem dX2_possible_9 : decode cX2_possible 9 = .ok (.if_icmp .ge 23, 3) := by decide +kernel
theorem dX2_possible_12 : decode cX2_possible 12 = .ok (.aload_n 0, 1) := by decide +kernel
theorem dX2_possible_13 : decode cX2_possible 13 = .ok (.iload_n 2, 1) := by decide +kernel
theorem dX2_possible_14 : decode cX2_possible 14 = .ok (.invokevirtual 138, 3) := by decide +kernel
theorem dX2_possible_17 : decode cX2_possible 17 = .ok (.ifCond .eq 9, 3) := by decide +kernel
theorem dX2_possible_20 : decode cX2_possible 20 = .ok (.iload_n 1, 1) := by decide +kernel
theorem dX2_possible_21 : decode cX2_possible 21 = .ok (.iconst 1, 1) := by decide +kernel
theorem dX2_possible_22 : decode cX2_possible 22 = .ok (.iload_n 2, 1) := by decide +kernel
theorem dX2_possible_23 : decode cX2_possible 23 = .ok (.ishl, 1) := by decide +kernel
theorem dX2_possible_24 : decode cX2_possible 24 = .ok (.ior, 1) := by decide +kernel
theorem dX2_possible_25 : decode cX2_possible 25 = .ok (.istore_n 1, 1) := by decide +kernel
theorem dX2_possible_26 : decode cX2_possible 26 = .ok (.iinc 2 1, 3) := by decide +kernel
theorem dX2_possible_29 : decode cX2_possible 29 = .ok (.goto (-25), 3) := by decide +kernel
theorem dX2_possible_32 : decode cX2_possible 32 = .ok (.iload_n 1, 1) := by decide +kernel
theorem dX2_possible_33 : decode cX2_possible 33 = .ok (.ireturn, 1) := by decide +kernel
theorem dX2_telling_0 : decode cX2_telling 0 = .ok (.iconst 0, 1) := by decide +kernel
theorem dX2_telling_1 : decode cX2_telling 1 = .ok (.istore 4, 2) := by decide +kernel
theorem dX2_telling_3 : decode cX2_telling 3 = .ok (.iconst 0, 1) := by decide +kernel
theorem dX2_telling_4 : decode cX2_telling 4 = .ok (.istore 5, 2) := by decide +kernel
theorem dX2_telling_6 : decode cX2_telling 6 = .ok (.iload 5, 2) := by decide +kernel
theorem dX2_telling_8 : decode cX2_telling 8 = .ok (.aload_n 0, 1) := by decide +kernel
theorem dX2_telling_9 : decode cX2_telling 9 = .ok (.getfield 31, 3) := by decide +kernel
theorem dX2_telling_12 : decode cX2_telling 12 = .ok (.if_icmp .ge 38, 3) := by decide +kernel
theorem dX2_telling_15 : decode cX2_telling 15 = .ok (.iload_n 1, 1) := by decide +kernel
theorem dX2_telling_16 : decode cX2_telling 16 = .ok (.iload 5, 2) := by decide +kernel
theorem dX2_telling_18 : decode cX2_telling 18 = .ok (.invokestatic 141, 3) := by decide +kernel
theorem dX2_telling_21 : decode cX2_telling 21 = .ok (.ifCond .eq 23, 3) := by decide +kernel
theorem dX2_telling_24 : decode cX2_telling 24 = .ok (.aload_n 0, 1) := by decide +kernel
theorem dX2_telling_25 : decode cX2_telling 25 = .ok (.iload 5, 2) := by decide +kernel
theorem dX2_telling_27 : decode cX2_telling 27 = .ok (.iload_n 2, 1) := by decide +kernel
theorem dX2_telling_28 : decode cX2_telling 28 = .ok (.invokevirtual 132, 3) := by decide +kernel
theorem dX2_telling_31 : decode cX2_telling 31 = .ok (.iload_n 3, 1) := by decide +kernel
theorem dX2_telling_32 : decode cX2_telling 32 = .ok (.if_icmp .ne 12, 3) := by decide +kernel
theorem dX2_telling_35 : decode cX2_telling 35 = .ok (.iload 4, 2) := by decide +kernel
theorem dX2_telling_37 : decode cX2_telling 37 = .ok (.iconst 1, 1) := by decide +kernel
theorem dX2_telling_38 : decode cX2_telling 38 = .ok (.iload 5, 2) := by decide +kernel
theorem dX2_telling_40 : decode cX2_telling 40 = .ok (.ishl, 1) := by decide +kernel
theorem dX2_telling_41 : decode cX2_telling 41 = .ok (.ior, 1) := by decide +kernel
theorem dX2_telling_42 : decode cX2_telling 42 = .ok (.istore 4, 2) := by decide +kernel
theorem dX2_telling_44 : decode cX2_telling 44 = .ok (.iinc 5 1, 3) := by decide +kernel
theorem dX2_telling_47 : decode cX2_telling 47 = .ok (.goto (-41), 3) := by decide +kernel
theorem dX2_telling_50 : decode cX2_telling 50 = .ok (.iload 4, 2) := by decide +kernel
theorem dX2_telling_52 : decode cX2_telling 52 = .ok (.ireturn, 1) := by decide +kernel
theorem dX2_oddsOf_0 : decode cX2_oddsOf 0 = .ok (.iconst 0, 1) := by decide +kernel
theorem dX2_oddsOf_1 : decode cX2_oddsOf 1 = .ok (.istore_n 2, 1) := by decide +kernel
theorem dX2_oddsOf_2 : decode cX2_oddsOf 2 = .ok (.iconst 0, 1) := by decide +kernel
theorem dX2_oddsOf_3 : decode cX2_oddsOf 3 = .ok (.istore_n 3, 1) := by decide +kernel
theorem dX2_oddsOf_4 : decode cX2_oddsOf 4 = .ok (.iload_n 3, 1) := by decide +kernel
theorem dX2_oddsOf_5 : decode cX2_oddsOf 5 = .ok (.aload_n 0, 1) := by decide +kernel
theorem dX2_oddsOf_6 : decode cX2_oddsOf 6 = .ok (.getfield 31, 3) := by decide +kernel
theorem dX2_oddsOf_9 : decode cX2_oddsOf 9 = .ok (.if_icmp .ge 26, 3) := by decide +kernel
theorem dX2_oddsOf_12 : decode cX2_oddsOf 12 = .ok (.iload_n 1, 1) := by decide +kernel
theorem dX2_oddsOf_13 : decode cX2_oddsOf 13 = .ok (.iload_n 3, 1) := by decide +kernel
theorem dX2_oddsOf_14 : decode cX2_oddsOf 14 = .ok (.invokestatic 141, 3) := by decide +kernel
theorem dX2_oddsOf_17 : decode cX2_oddsOf 17 = .ok (.ifCond .eq 12, 3) := by decide +kernel
theorem dX2_oddsOf_20 : decode cX2_oddsOf 20 = .ok (.iload_n 2, 1) := by decide +kernel
theorem dX2_oddsOf_21 : decode cX2_oddsOf 21 = .ok (.aload_n 0, 1) := by decide +kernel
theorem dX2_oddsOf_22 : decode cX2_oddsOf 22 = .ok (.getfield 21, 3) := by decide +kernel
theorem dX2_oddsOf_25 : decode cX2_oddsOf 25 = .ok (.iload_n 3, 1) := by decide +kernel
theorem dX2_oddsOf_26 : decode cX2_oddsOf 26 = .ok (.iaload, 1) := by decide +kernel
theorem dX2_oddsOf_27 : decode cX2_oddsOf 27 = .ok (.iadd, 1) := by decide +kernel
theorem dX2_oddsOf_28 : decode cX2_oddsOf 28 = .ok (.istore_n 2, 1) := by decide +kernel
theorem dX2_oddsOf_29 : decode cX2_oddsOf 29 = .ok (.iinc 3 1, 3) := by decide +kernel
theorem dX2_oddsOf_32 : decode cX2_oddsOf 32 = .ok (.goto (-28), 3) := by decide +kernel
theorem dX2_oddsOf_35 : decode cX2_oddsOf 35 = .ok (.iload_n 2, 1) := by decide +kernel
theorem dX2_oddsOf_36 : decode cX2_oddsOf 36 = .ok (.ireturn, 1) := by decide +kernel
theorem dX3_init_0 : decode cX3_init 0 = .ok (.aload_n 0, 1) := by decide +kernel
theorem dX3_init_1 : decode cX3_init 1 = .ok (.invokespecial 3, 3) := by decide +kernel
theorem dX3_init_4 : decode cX3_init 4 = .ok (.aload_n 0, 1) := by decide +kernel
theorem dX3_init_5 : decode cX3_init 5 = .ok (.sipush 160, 3) := by decide +kernel
theorem dX3_init_8 : decode cX3_init 8 = .ok (.newarray .int, 2) := by decide +kernel
theorem dX3_init_10 : decode cX3_init 10 = .ok (.putfield 9, 3) := by decide +kernel
theorem dX3_init_13 : decode cX3_init 13 = .ok (.return_, 1) := by decide +kernel
theorem dX3_write_0 : decode cX3_write 0 = .ok (.aload_n 0, 1) := by decide +kernel
theorem dX3_write_1 : decode cX3_write 1 = .ok (.getfield 15, 3) := by decide +kernel
theorem dX3_write_4 : decode cX3_write 4 = .ok (.sipush 160, 3) := by decide +kernel
theorem dX3_write_7 : decode cX3_write 7 = .ok (.if_icmp .lt 5, 3) := by decide +kernel
theorem dX3_write_10 : decode cX3_write 10 = .ok (.iconst 0, 1) := by decide +kernel
theorem dX3_write_11 : decode cX3_write 11 = .ok (.ireturn, 1) := by decide +kernel
theorem dX3_write_12 : decode cX3_write 12 = .ok (.aload_n 0, 1) := by decide +kernel
theorem dX3_write_13 : decode cX3_write 13 = .ok (.getfield 9, 3) := by decide +kernel
theorem dX3_write_16 : decode cX3_write 16 = .ok (.aload_n 0, 1) := by decide +kernel
theorem dX3_write_17 : decode cX3_write 17 = .ok (.getfield 15, 3) := by decide +kernel
theorem dX3_write_20 : decode cX3_write 20 = .ok (.iload_n 1, 1) := by decide +kernel
theorem dX3_write_21 : decode cX3_write 21 = .ok (.iastore, 1) := by decide +kernel
theorem dX3_write_22 : decode cX3_write 22 = .ok (.aload_n 0, 1) := by decide +kernel
theorem dX3_write_23 : decode cX3_write 23 = .ok (.dup, 1) := by decide +kernel
theorem dX3_write_24 : decode cX3_write 24 = .ok (.getfield 15, 3) := by decide +kernel
theorem dX3_write_27 : decode cX3_write 27 = .ok (.iconst 1, 1) := by decide +kernel
theorem dX3_write_28 : decode cX3_write 28 = .ok (.iadd, 1) := by decide +kernel
theorem dX3_write_29 : decode cX3_write 29 = .ok (.putfield 15, 3) := by decide +kernel
theorem dX3_write_32 : decode cX3_write 32 = .ok (.iconst 1, 1) := by decide +kernel
theorem dX3_write_33 : decode cX3_write 33 = .ok (.ireturn, 1) := by decide +kernel
theorem dX3_begin_0 : decode cX3_begin 0 = .ok (.aload_n 0, 1) := by decide +kernel
theorem dX3_begin_1 : decode cX3_begin 1 = .ok (.aload_n 1, 1) := by decide +kernel
theorem dX3_begin_2 : decode cX3_begin 2 = .ok (.putfield 19, 3) := by decide +kernel
theorem dX3_begin_5 : decode cX3_begin 5 = .ok (.aload_n 0, 1) := by decide +kernel
theorem dX3_begin_6 : decode cX3_begin 6 = .ok (.getfield 19, 3) := by decide +kernel
theorem dX3_begin_9 : decode cX3_begin 9 = .ok (.invokevirtual 23, 3) := by decide +kernel
theorem dX3_begin_12 : decode cX3_begin 12 = .ok (.aload_n 0, 1) := by decide +kernel
theorem dX3_begin_13 : decode cX3_begin 13 = .ok (.iconst 0, 1) := by decide +kernel
theorem dX3_begin_14 : decode cX3_begin 14 = .ok (.putfield 28, 3) := by decide +kernel
theorem dX3_begin_17 : decode cX3_begin 17 = .ok (.aload_n 0, 1) := by decide +kernel
theorem dX3_begin_18 : decode cX3_begin 18 = .ok (.iconst 0, 1) := by decide +kernel
theorem dX3_begin_19 : decode cX3_begin 19 = .ok (.putfield 31, 3) := by decide +kernel
theorem dX3_begin_22 : decode cX3_begin 22 = .ok (.aload_n 0, 1) := by decide +kernel
theorem dX3_begin_23 : decode cX3_begin 23 = .ok (.iconst 0, 1) := by decide +kernel
theorem dX3_begin_24 : decode cX3_begin 24 = .ok (.putfield 34, 3) := by decide +kernel
theorem dX3_begin_27 : decode cX3_begin 27 = .ok (.aload_n 0, 1) := by decide +kernel
theorem dX3_begin_28 : decode cX3_begin 28 = .ok (.iconst 0, 1) := by decide +kernel
theorem dX3_begin_29 : decode cX3_begin 29 = .ok (.putfield 37, 3) := by decide +kernel
theorem dX3_begin_32 : decode cX3_begin 32 = .ok (.return_, 1) := by decide +kernel
theorem dX3_findsLine_0 : decode cX3_findsLine 0 = .ok (.aload_n 0, 1) := by decide +kernel
theorem dX3_findsLine_1 : decode cX3_findsLine 1 = .ok (.invokevirtual 40, 3) := by decide +kernel
theorem dX3_findsLine_4 : decode cX3_findsLine 4 = .ok (.aload_n 0, 1) := by decide +kernel
theorem dX3_findsLine_5 : decode cX3_findsLine 5 = .ok (.getfield 28, 3) := by decide +kernel
theorem dX3_findsLine_8 : decode cX3_findsLine 8 = .ok (.ifCond .ne 15, 3) := by decide +kernel
theorem dX3_findsLine_11 : decode cX3_findsLine 11 = .ok (.aload_n 0, 1) := by decide +kernel
theorem dX3_findsLine_12 : decode cX3_findsLine 12 = .ok (.getfield 43, 3) := by decide +kernel
theorem dX3_findsLine_15 : decode cX3_findsLine 15 = .ok (.iconst 3, 1) := by decide +kernel
theorem dX3_findsLine_16 : decode cX3_findsLine 16 = .ok (.if_icmp .eq 7, 3) := by decide +kernel
theorem dX3_findsLine_19 : decode cX3_findsLine 19 = .ok (.iconst 1, 1) := by decide +kernel
theorem dX3_findsLine_20 : decode cX3_findsLine 20 = .ok (.goto 4, 3) := by decide +kernel
theorem dX3_findsLine_23 : decode cX3_findsLine 23 = .ok (.iconst 0, 1) := by decide +kernel
theorem dX3_findsLine_24 : decode cX3_findsLine 24 = .ok (.ireturn, 1) := by decide +kernel
theorem dX3_fail_0 : decode cX3_fail 0 = .ok (.aload_n 0, 1) := by decide +kernel
theorem dX3_fail_1 : decode cX3_fail 1 = .ok (.getfield 28, 3) := by decide +kernel
theorem dX3_fail_4 : decode cX3_fail 4 = .ok (.ifCond .ne 16, 3) := by decide +kernel
theorem dX3_fail_7 : decode cX3_fail 7 = .ok (.aload_n 0, 1) := by decide +kernel
theorem dX3_fail_8 : decode cX3_fail 8 = .ok (.iload_n 1, 1) := by decide +kernel
theorem dX3_fail_9 : decode cX3_fail 9 = .ok (.putfield 28, 3) := by decide +kernel
theorem dX3_fail_12 : decode cX3_fail 12 = .ok (.aload_n 0, 1) := by decide +kernel
theorem dX3_fail_13 : decode cX3_fail 13 = .ok (.aload_n 0, 1) := by decide +kernel
theorem dX3_fail_14 : decode cX3_fail 14 = .ok (.getfield 46, 3) := by decide +kernel
theorem dX3_fail_17 : decode cX3_fail 17 = .ok (.putfield 31, 3) := by decide +kernel
theorem dX3_fail_20 : decode cX3_fail 20 = .ok (.return_, 1) := by decide +kernel
theorem dX3_take_0 : decode cX3_take 0 = .ok (.aload_n 0, 1) := by decide +kernel
theorem dX3_take_1 : decode cX3_take 1 = .ok (.getfield 28, 3) := by decide +kernel
theorem dX3_take_4 : decode cX3_take 4 = .ok (.ifCond .eq 4, 3) := by decide +kernel
theorem dX3_take_7 : decode cX3_take 7 = .ok (.return_, 1) := by decide +kernel
theorem dX3_take_8 : decode cX3_take 8 = .ok (.aload_n 0, 1) := by decide +kernel
theorem dX3_take_9 : decode cX3_take 9 = .ok (.getfield 37, 3) := by decide +kernel
theorem dX3_take_12 : decode cX3_take 12 = .ok (.aload_n 0, 1) := by decide +kernel
theorem dX3_take_13 : decode cX3_take 13 = .ok (.getfield 15, 3) := by decide +kernel
theorem dX3_take_16 : decode cX3_take 16 = .ok (.if_icmp .ge 30, 3) := by decide +kernel
theorem dX3_take_19 : decode cX3_take 19 = .ok (.aload_n 0, 1) := by decide +kernel
theorem dX3_take_20 : decode cX3_take 20 = .ok (.getfield 9, 3) := by decide +kernel
theorem dX3_take_23 : decode cX3_take 23 = .ok (.aload_n 0, 1) := by decide +kernel
theorem dX3_take_24 : decode cX3_take 24 = .ok (.getfield 37, 3) := by decide +kernel
theorem dX3_take_27 : decode cX3_take 27 = .ok (.iaload, 1) := by decide +kernel
theorem dX3_take_28 : decode cX3_take 28 = .ok (.bipush 32, 2) := by decide +kernel
theorem dX3_take_30 : decode cX3_take 30 = .ok (.if_icmp .ne 16, 3) := by decide +kernel
theorem dX3_take_33 : decode cX3_take 33 = .ok (.aload_n 0, 1) := by decide +kernel
theorem dX3_take_34 : decode cX3_take 34 = .ok (.dup, 1) := by decide +kernel
theorem dX3_take_35 : decode cX3_take 35 = .ok (.getfield 37, 3) := by decide +kernel
theorem dX3_take_38 : decode cX3_take 38 = .ok (.iconst 1, 1) := by decide +kernel
theorem dX3_take_39 : decode cX3_take 39 = .ok (.iadd, 1) := by decide +kernel
theorem dX3_take_40 : decode cX3_take 40 = .ok (.putfield 37, 3) := by decide +kernel
theorem dX3_take_43 : decode cX3_take 43 = .ok (.goto (-35), 3) := by decide +kernel
theorem dX3_take_46 : decode cX3_take 46 = .ok (.aload_n 0, 1) := by decide +kernel
theorem dX3_take_47 : decode cX3_take 47 = .ok (.aload_n 0, 1) := by decide +kernel
theorem dX3_take_48 : decode cX3_take 48 = .ok (.getfield 37, 3) := by decide +kernel
theorem dX3_take_51 : decode cX3_take 51 = .ok (.putfield 46, 3) := by decide +kernel
theorem dX3_take_54 : decode cX3_take 54 = .ok (.aload_n 0, 1) := by decide +kernel
theorem dX3_take_55 : decode cX3_take 55 = .ok (.getfield 37, 3) := by decide +kernel
theorem dX3_take_58 : decode cX3_take 58 = .ok (.aload_n 0, 1) := by decide +kernel
theorem dX3_take_59 : decode cX3_take 59 = .ok (.getfield 15, 3) := by decide +kernel
theorem dX3_take_62 : decode cX3_take 62 = .ok (.if_icmp .lt 11, 3) := by decide +kernel
theorem dX3_take_65 : decode cX3_take 65 = .ok (.aload_n 0, 1) := by decide +kernel
theorem dX3_take_66 : decode cX3_take 66 = .ok (.iconst 3, 1) := by decide +kernel
theorem dX3_take_67 : decode cX3_take 67 = .ok (.putfield 43, 3) := by decide +kernel
theorem dX3_take_70 : decode cX3_take 70 = .ok (.goto 84, 3) := by decide +kernel
theorem dX3_take_73 : decode cX3_take 73 = .ok (.aload_n 0, 1) := by decide +kernel
theorem dX3_take_74 : decode cX3_take 74 = .ok (.getfield 9, 3) := by decide +kernel
theorem dX3_take_77 : decode cX3_take 77 = .ok (.aload_n 0, 1) := by decide +kernel
theorem dX3_take_78 : decode cX3_take 78 = .ok (.getfield 37, 3) := by decide +kernel
theorem dX3_take_81 : decode cX3_take 81 = .ok (.iaload, 1) := by decide +kernel
theorem dX3_take_82 : decode cX3_take 82 = .ok (.bipush 59, 2) := by decide +kernel
theorem dX3_take_84 : decode cX3_take 84 = .ok (.if_icmp .ne 21, 3) := by decide +kernel
theorem dX3_take_87 : decode cX3_take 87 = .ok (.aload_n 0, 1) := by decide +kernel
theorem dX3_take_88 : decode cX3_take 88 = .ok (.iconst 2, 1) := by decide +kernel
theorem dX3_take_89 : decode cX3_take 89 = .ok (.putfield 43, 3) := by decide +kernel
theorem dX3_take_92 : decode cX3_take 92 = .ok (.aload_n 0, 1) := by decide +kernel
theorem dX3_take_93 : decode cX3_take 93 = .ok (.dup, 1) := by decide +kernel
theorem dX3_take_94 : decode cX3_take 94 = .ok (.getfield 37, 3) := by decide +kernel
theorem dX3_take_97 : decode cX3_take 97 = .ok (.iconst 1, 1) := by decide +kernel
theorem dX3_take_98 : decode cX3_take 98 = .ok (.iadd, 1) := by decide +kernel
theorem dX3_take_99 : decode cX3_take 99 = .ok (.putfield 37, 3) := by decide +kernel
theorem dX3_take_102 : decode cX3_take 102 = .ok (.goto 52, 3) := by decide +kernel
theorem dX3_take_105 : decode cX3_take 105 = .ok (.aload_n 0, 1) := by decide +kernel
theorem dX3_take_106 : decode cX3_take 106 = .ok (.getfield 9, 3) := by decide +kernel
theorem dX3_take_109 : decode cX3_take 109 = .ok (.aload_n 0, 1) := by decide +kernel
theorem dX3_take_110 : decode cX3_take 110 = .ok (.getfield 37, 3) := by decide +kernel
theorem dX3_take_113 : decode cX3_take 113 = .ok (.iaload, 1) := by decide +kernel
theorem dX3_take_114 : decode cX3_take 114 = .ok (.invokestatic 49, 3) := by decide +kernel
theorem dX3_take_117 : decode cX3_take 117 = .ok (.ifCond .eq 10, 3) := by decide +kernel
theorem dX3_take_120 : decode cX3_take 120 = .ok (.aload_n 0, 1) := by decide +kernel
theorem dX3_take_121 : decode cX3_take 121 = .ok (.invokevirtual 53, 3) := by decide +kernel
theorem dX3_take_124 : decode cX3_take 124 = .ok (.goto 30, 3) := by decide +kernel
theorem dX3_take_127 : decode cX3_take 127 = .ok (.aload_n 0, 1) := by decide +kernel
theorem dX3_take_128 : decode cX3_take 128 = .ok (.getfield 9, 3) := by decide +kernel
theorem dX3_take_131 : decode cX3_take 131 = .ok (.aload_n 0, 1) := by decide +kernel
theorem dX3_take_132 : decode cX3_take 132 = .ok (.getfield 37, 3) := by decide +kernel
theorem dX3_take_135 : decode cX3_take 135 = .ok (.iaload, 1) := by decide +kernel
theorem dX3_take_136 : decode cX3_take 136 = .ok (.invokestatic 56, 3) := by decide +kernel
theorem dX3_take_139 : decode cX3_take 139 = .ok (.ifCond .eq 10, 3) := by decide +kernel
theorem dX3_take_142 : decode cX3_take 142 = .ok (.aload_n 0, 1) := by decide +kernel
theorem dX3_take_143 : decode cX3_take 143 = .ok (.invokevirtual 59, 3) := by decide +kernel
theorem dX3_take_146 : decode cX3_take 146 = .ok (.goto 8, 3) := by decide +kernel
theorem dX3_take_149 : decode cX3_take 149 = .ok (.aload_n 0, 1) := by decide +kernel
theorem dX3_take_150 : decode cX3_take 150 = .ok (.iconst 1, 1) := by decide +kernel
theorem dX3_take_151 : decode cX3_take 151 = .ok (.invokevirtual 62, 3) := by decide +kernel
theorem dX3_take_154 : decode cX3_take 154 = .ok (.return_, 1) := by decide +kernel
theorem dX3_takeWord_0 : decode cX3_takeWord 0 = .ok (.aload_n 0, 1) := by decide +kernel
theorem dX3_takeWord_1 : decode cX3_takeWord 1 = .ok (.iconst 0, 1) := by decide +kernel
theorem dX3_takeWord_2 : decode cX3_takeWord 2 = .ok (.putfield 43, 3) := by decide +kernel
theorem dX3_takeWord_5 : decode cX3_takeWord 5 = .ok (.aload_n 0, 1) := by decide +kernel
theorem dX3_takeWord_6 : decode cX3_takeWord 6 = .ok (.getfield 37, 3) := by decide +kernel
theorem dX3_takeWord_9 : decode cX3_takeWord 9 = .ok (.aload_n 0, 1) := by decide +kernel
theorem dX3_takeWord_10 : decode cX3_takeWord 10 = .ok (.getfield 15, 3) := by decide +kernel
theorem dX3_takeWord_13 : decode cX3_takeWord 13 = .ok (.if_icmp .ge 31, 3) := by decide +kernel
theorem dX3_takeWord_16 : decode cX3_takeWord 16 = .ok (.aload_n 0, 1) := by decide +kernel
theorem dX3_takeWord_17 : decode cX3_takeWord 17 = .ok (.getfield 9, 3) := by decide +kernel
theorem dX3_takeWord_20 : decode cX3_takeWord 20 = .ok (.aload_n 0, 1) := by decide +kernel
theorem dX3_takeWord_21 : decode cX3_takeWord 21 = .ok (.getfield 37, 3) := by decide +kernel
theorem dX3_takeWord_24 : decode cX3_takeWord 24 = .ok (.iaload, 1) := by decide +kernel
theorem dX3_takeWord_25 : decode cX3_takeWord 25 = .ok (.invokestatic 49, 3) := by decide +kernel
theorem dX3_takeWord_28 : decode cX3_takeWord 28 = .ok (.ifCond .eq 16, 3) := by decide +kernel
theorem dX3_takeWord_31 : decode cX3_takeWord 31 = .ok (.aload_n 0, 1) := by decide +kernel
theorem dX3_takeWord_32 : decode cX3_takeWord 32 = .ok (.dup, 1) := by decide +kernel
theorem dX3_takeWord_33 : decode cX3_takeWord 33 = .ok (.getfield 37, 3) := by decide +kernel
theorem dX3_takeWord_36 : decode cX3_takeWord 36 = .ok (.iconst 1, 1) := by decide +kernel
theorem dX3_takeWord_37 : decode cX3_takeWord 37 = .ok (.iadd, 1) := by decide +kernel
theorem dX3_takeWord_38 : decode cX3_takeWord 38 = .ok (.putfield 37, 3) := by decide +kernel
theorem dX3_takeWord_41 : decode cX3_takeWord 41 = .ok (.goto (-36), 3) := by decide +kernel
theorem dX3_takeWord_44 : decode cX3_takeWord 44 = .ok (.return_, 1) := by decide +kernel
theorem dX3_takeNumber_0 : decode cX3_takeNumber 0 = .ok (.aload_n 0, 1) := by decide +kernel
theorem dX3_takeNumber_1 : decode cX3_takeNumber 1 = .ok (.iconst 1, 1) := by decide +kernel
theorem dX3_takeNumber_2 : decode cX3_takeNumber 2 = .ok (.putfield 43, 3) := by decide +kernel
theorem dX3_takeNumber_5 : decode cX3_takeNumber 5 = .ok (.aload_n 0, 1) := by decide +kernel
theorem dX3_takeNumber_6 : decode cX3_takeNumber 6 = .ok (.iconst 0, 1) := by decide +kernel
theorem dX3_takeNumber_7 : decode cX3_takeNumber 7 = .ok (.putfield 66, 3) := by decide +kernel
theorem dX3_takeNumber_10 : decode cX3_takeNumber 10 = .ok (.aload_n 0, 1) := by decide +kernel
theorem dX3_takeNumber_11 : decode cX3_takeNumber 11 = .ok (.getfield 37, 3) := by decide +kernel
theorem dX3_takeNumber_14 : decode cX3_takeNumber 14 = .ok (.aload_n 0, 1) := by decide +kernel
theorem dX3_takeNumber_15 : decode cX3_takeNumber 15 = .ok (.getfield 15, 3) := by decide +kernel
theorem dX3_takeNumber_18 : decode cX3_takeNumber 18 = .ok (.if_icmp .ge 68, 3) := by decide +kernel
theorem dX3_takeNumber_21 : decode cX3_takeNumber 21 = .ok (.aload_n 0, 1) := by decide +kernel
theorem dX3_takeNumber_22 : decode cX3_takeNumber 22 = .ok (.getfield 37, 3) := by decide +kernel
theorem dX3_takeNumber_25 : decode cX3_takeNumber 25 = .ok (.aload_n 0, 1) := by decide +kernel
theorem dX3_takeNumber_26 : decode cX3_takeNumber 26 = .ok (.getfield 46, 3) := by decide +kernel
theorem dX3_takeNumber_29 : decode cX3_takeNumber 29 = .ok (.isub, 1) := by decide +kernel
theorem dX3_takeNumber_30 : decode cX3_takeNumber 30 = .ok (.iconst 2, 1) := by decide +kernel
theorem dX3_takeNumber_31 : decode cX3_takeNumber 31 = .ok (.if_icmp .gt 55, 3) := by decide +kernel
theorem dX3_takeNumber_34 : decode cX3_takeNumber 34 = .ok (.aload_n 0, 1) := by decide +kernel
theorem dX3_takeNumber_35 : decode cX3_takeNumber 35 = .ok (.getfield 9, 3) := by decide +kernel
theorem dX3_takeNumber_38 : decode cX3_takeNumber 38 = .ok (.aload_n 0, 1) := by decide +kernel
theorem dX3_takeNumber_39 : decode cX3_takeNumber 39 = .ok (.getfield 37, 3) := by decide +kernel
theorem dX3_takeNumber_42 : decode cX3_takeNumber 42 = .ok (.iaload, 1) := by decide +kernel
theorem dX3_takeNumber_43 : decode cX3_takeNumber 43 = .ok (.invokestatic 56, 3) := by decide +kernel
theorem dX3_takeNumber_46 : decode cX3_takeNumber 46 = .ok (.ifCond .eq 40, 3) := by decide +kernel
theorem dX3_takeNumber_49 : decode cX3_takeNumber 49 = .ok (.aload_n 0, 1) := by decide +kernel
theorem dX3_takeNumber_50 : decode cX3_takeNumber 50 = .ok (.aload_n 0, 1) := by decide +kernel
theorem dX3_takeNumber_51 : decode cX3_takeNumber 51 = .ok (.getfield 66, 3) := by decide +kernel
theorem dX3_takeNumber_54 : decode cX3_takeNumber 54 = .ok (.bipush 10, 2) := by decide +kernel
theorem dX3_takeNumber_56 : decode cX3_takeNumber 56 = .ok (.imul, 1) := by decide +kernel
theorem dX3_takeNumber_57 : decode cX3_takeNumber 57 = .ok (.aload_n 0, 1) := by decide +kernel
theorem dX3_takeNumber_58 : decode cX3_takeNumber 58 = .ok (.getfield 9, 3) := by decide +kernel
theorem dX3_takeNumber_61 : decode cX3_takeNumber 61 = .ok (.aload_n 0, 1) := by decide +kernel
theorem dX3_takeNumber_62 : decode cX3_takeNumber 62 = .ok (.getfield 37, 3) := by decide +kernel
theorem dX3_takeNumber_65 : decode cX3_takeNumber 65 = .ok (.iaload, 1) := by decide +kernel
theorem dX3_takeNumber_66 : decode cX3_takeNumber 66 = .ok (.iadd, 1) := by decide +kernel
theorem dX3_takeNumber_67 : decode cX3_takeNumber 67 = .ok (.bipush 48, 2) := by decide +kernel
theorem dX3_takeNumber_69 : decode cX3_takeNumber 69 = .ok (.isub, 1) := by decide +kernel
theorem dX3_takeNumber_70 : decode cX3_takeNumber 70 = .ok (.putfield 66, 3) := by decide +kernel
theorem dX3_takeNumber_73 : decode cX3_takeNumber 73 = .ok (.aload_n 0, 1) := by decide +kernel
theorem dX3_takeNumber_74 : decode cX3_takeNumber 74 = .ok (.dup, 1) := by decide +kernel
theorem dX3_takeNumber_75 : decode cX3_takeNumber 75 = .ok (.getfield 37, 3) := by decide +kernel
theorem dX3_takeNumber_78 : decode cX3_takeNumber 78 = .ok (.iconst 1, 1) := by decide +kernel
theorem dX3_takeNumber_79 : decode cX3_takeNumber 79 = .ok (.iadd, 1) := by decide +kernel
theorem dX3_takeNumber_80 : decode cX3_takeNumber 80 = .ok (.putfield 37, 3) := by decide +kernel
theorem dX3_takeNumber_83 : decode cX3_takeNumber 83 = .ok (.goto (-73), 3) := by decide +kernel
theorem dX3_takeNumber_86 : decode cX3_takeNumber 86 = .ok (.aload_n 0, 1) := by decide +kernel
theorem dX3_takeNumber_87 : decode cX3_takeNumber 87 = .ok (.getfield 37, 3) := by decide +kernel
theorem dX3_takeNumber_90 : decode cX3_takeNumber 90 = .ok (.aload_n 0, 1) := by decide +kernel
theorem dX3_takeNumber_91 : decode cX3_takeNumber 91 = .ok (.getfield 46, 3) := by decide +kernel
theorem dX3_takeNumber_94 : decode cX3_takeNumber 94 = .ok (.isub, 1) := by decide +kernel
theorem dX3_takeNumber_95 : decode cX3_takeNumber 95 = .ok (.iconst 2, 1) := by decide +kernel
theorem dX3_takeNumber_96 : decode cX3_takeNumber 96 = .ok (.if_icmp .le 8, 3) := by decide +kernel
theorem dX3_takeNumber_99 : decode cX3_takeNumber 99 = .ok (.aload_n 0, 1) := by decide +kernel
theorem dX3_takeNumber_100 : decode cX3_takeNumber 100 = .ok (.iconst 1, 1) := by decide +kernel
theorem dX3_takeNumber_101 : decode cX3_takeNumber 101 = .ok (.invokevirtual 62, 3) := by decide +kernel
theorem dX3_takeNumber_104 : decode cX3_takeNumber 104 = .ok (.return_, 1) := by decide +kernel
theorem dX3_isLetter_0 : decode cX3_isLetter 0 = .ok (.iload_n 0, 1) := by decide +kernel
theorem dX3_isLetter_1 : decode cX3_isLetter 1 = .ok (.bipush 97, 2) := by decide +kernel
theorem dX3_isLetter_3 : decode cX3_isLetter 3 = .ok (.if_icmp .lt 13, 3) := by decide +kernel
theorem dX3_isLetter_6 : decode cX3_isLetter 6 = .ok (.iload_n 0, 1) := by decide +kernel
theorem dX3_isLetter_7 : decode cX3_isLetter 7 = .ok (.bipush 122, 2) := by decide +kernel
theorem dX3_isLetter_9 : decode cX3_isLetter 9 = .ok (.if_icmp .gt 7, 3) := by decide +kernel
theorem dX3_isLetter_12 : decode cX3_isLetter 12 = .ok (.iconst 1, 1) := by decide +kernel
theorem dX3_isLetter_13 : decode cX3_isLetter 13 = .ok (.goto 4, 3) := by decide +kernel
theorem dX3_isLetter_16 : decode cX3_isLetter 16 = .ok (.iconst 0, 1) := by decide +kernel
theorem dX3_isLetter_17 : decode cX3_isLetter 17 = .ok (.ireturn, 1) := by decide +kernel
theorem dX3_isFigure_0 : decode cX3_isFigure 0 = .ok (.iload_n 0, 1) := by decide +kernel
theorem dX3_isFigure_1 : decode cX3_isFigure 1 = .ok (.bipush 48, 2) := by decide +kernel
theorem dX3_isFigure_3 : decode cX3_isFigure 3 = .ok (.if_icmp .lt 13, 3) := by decide +kernel
theorem dX3_isFigure_6 : decode cX3_isFigure 6 = .ok (.iload_n 0, 1) := by decide +kernel
theorem dX3_isFigure_7 : decode cX3_isFigure 7 = .ok (.bipush 57, 2) := by decide +kernel
theorem dX3_isFigure_9 : decode cX3_isFigure 9 = .ok (.if_icmp .gt 7, 3) := by decide +kernel
theorem dX3_isFigure_12 : decode cX3_isFigure 12 = .ok (.iconst 1, 1) := by decide +kernel
theorem dX3_isFigure_13 : decode cX3_isFigure 13 = .ok (.goto 4, 3) := by decide +kernel
theorem dX3_isFigure_16 : decode cX3_isFigure 16 = .ok (.iconst 0, 1) := by decide +kernel
theorem dX3_isFigure_17 : decode cX3_isFigure 17 = .ok (.ireturn, 1) := by decide +kernel
theorem dX3_isWord_0 : decode cX3_isWord 0 = .ok (.aload_n 0, 1) := by decide +kernel
theorem dX3_isWord_1 : decode cX3_isWord 1 = .ok (.getfield 43, 3) := by decide +kernel
theorem dX3_isWord_4 : decode cX3_isWord 4 = .ok (.ifCond .ne 19, 3) := by decide +kernel
theorem dX3_isWord_7 : decode cX3_isWord 7 = .ok (.aload_n 0, 1) := by decide +kernel
theorem dX3_isWord_8 : decode cX3_isWord 8 = .ok (.getfield 37, 3) := by decide +kernel
theorem dX3_isWord_11 : decode cX3_isWord 11 = .ok (.aload_n 0, 1) := by decide +kernel
theorem dX3_isWord_12 : decode cX3_isWord 12 = .ok (.getfield 46, 3) := by decide +kernel
theorem dX3_isWord_15 : decode cX3_isWord 15 = .ok (.isub, 1) := by decide +kernel
theorem dX3_isWord_16 : decode cX3_isWord 16 = .ok (.aload_n 1, 1) := by decide +kernel
theorem dX3_isWord_17 : decode cX3_isWord 17 = .ok (.invokevirtual 69, 3) := by decide +kernel
theorem dX3_isWord_20 : decode cX3_isWord 20 = .ok (.if_icmp .eq 5, 3) := by decide +kernel
theorem dX3_isWord_23 : decode cX3_isWord 23 = .ok (.iconst 0, 1) := by decide +kernel
theorem dX3_isWord_24 : decode cX3_isWord 24 = .ok (.ireturn, 1) := by decide +kernel
theorem dX3_isWord_25 : decode cX3_isWord 25 = .ok (.iconst 0, 1) := by decide +kernel
theorem dX3_isWord_26 : decode cX3_isWord 26 = .ok (.istore_n 2, 1) := by decide +kernel
theorem dX3_isWord_27 : decode cX3_isWord 27 = .ok (.iload_n 2, 1) := by decide +kernel
theorem dX3_isWord_28 : decode cX3_isWord 28 = .ok (.aload_n 1, 1) := by decide +kernel
theorem dX3_isWord_29 : decode cX3_isWord 29 = .ok (.invokevirtual 69, 3) := by decide +kernel
theorem dX3_isWord_32 : decode cX3_isWord 32 = .ok (.if_icmp .ge 30, 3) := by decide +kernel
theorem dX3_isWord_35 : decode cX3_isWord 35 = .ok (.aload_n 0, 1) := by decide +kernel
theorem dX3_isWord_36 : decode cX3_isWord 36 = .ok (.getfield 9, 3) := by decide +kernel
theorem dX3_isWord_39 : decode cX3_isWord 39 = .ok (.aload_n 0, 1) := by decide +kernel
theorem dX3_isWord_40 : decode cX3_isWord 40 = .ok (.getfield 46, 3) := by decide +kernel
theorem dX3_isWord_43 : decode cX3_isWord 43 = .ok (.iload_n 2, 1) := by decide +kernel
theorem dX3_isWord_44 : decode cX3_isWord 44 = .ok (.iadd, 1) := by decide +kernel
theorem dX3_isWord_45 : decode cX3_isWord 45 = .ok (.iaload, 1) := by decide +kernel
theorem dX3_isWord_46 : decode cX3_isWord 46 = .ok (.aload_n 1, 1) := by decide +kernel
theorem dX3_isWord_47 : decode cX3_isWord 47 = .ok (.iload_n 2, 1) := by decide +kernel
theorem dX3_isWord_48 : decode cX3_isWord 48 = .ok (.invokevirtual 74, 3) := by decide +kernel
theorem dX3_isWord_51 : decode cX3_isWord 51 = .ok (.if_icmp .eq 5, 3) := by decide +kernel
theorem dX3_isWord_54 : decode cX3_isWord 54 = .ok (.iconst 0, 1) := by decide +kernel
theorem dX3_isWord_55 : decode cX3_isWord 55 = .ok (.ireturn, 1) := by decide +kernel
theorem dX3_isWord_56 : decode cX3_isWord 56 = .ok (.iinc 2 1, 3) := by decide +kernel
theorem dX3_isWord_59 : decode cX3_isWord 59 = .ok (.goto (-32), 3) := by decide +kernel
theorem dX3_isWord_62 : decode cX3_isWord 62 = .ok (.iconst 1, 1) := by decide +kernel
theorem dX3_isWord_63 : decode cX3_isWord 63 = .ok (.ireturn, 1) := by decide +kernel
theorem dX3_takeLine_0 : decode cX3_takeLine 0 = .ok (.aload_n 0, 1) := by decide +kernel
theorem dX3_takeLine_1 : decode cX3_takeLine 1 = .ok (.ldc 78, 2) := by decide +kernel
theorem dX3_takeLine_3 : decode cX3_takeLine 3 = .ok (.invokevirtual 80, 3) := by decide +kernel
theorem dX3_takeLine_6 : decode cX3_takeLine 6 = .ok (.ifCond .eq 10, 3) := by decide +kernel
theorem dX3_takeLine_9 : decode cX3_takeLine 9 = .ok (.aload_n 0, 1) := by decide +kernel
theorem dX3_takeLine_10 : decode cX3_takeLine 10 = .ok (.invokevirtual 84, 3) := by decide +kernel
theorem dX3_takeLine_13 : decode cX3_takeLine 13 = .ok (.goto 88, 3) := by decide +kernel
theorem dX3_takeLine_16 : decode cX3_takeLine 16 = .ok (.aload_n 0, 1) := by decide +kernel
theorem dX3_takeLine_17 : decode cX3_takeLine 17 = .ok (.ldc 87, 2) := by decide +kernel
theorem dX3_takeLine_19 : decode cX3_takeLine 19 = .ok (.invokevirtual 80, 3) := by decide +kernel
theorem dX3_takeLine_22 : decode cX3_takeLine 22 = .ok (.ifCond .eq 10, 3) := by decide +kernel
theorem dX3_takeLine_25 : decode cX3_takeLine 25 = .ok (.aload_n 0, 1) := by decide +kernel
theorem dX3_takeLine_26 : decode cX3_takeLine 26 = .ok (.invokevirtual 89, 3) := by decide +kernel
theorem dX3_takeLine_29 : decode cX3_takeLine 29 = .ok (.goto 72, 3) := by decide +kernel
theorem dX3_takeLine_32 : decode cX3_takeLine 32 = .ok (.aload_n 0, 1) := by decide +kernel
theorem dX3_takeLine_33 : decode cX3_takeLine 33 = .ok (.ldc 92, 2) := by decide +kernel
theorem dX3_takeLine_35 : decode cX3_takeLine 35 = .ok (.invokevirtual 80, 3) := by decide +kernel
theorem dX3_takeLine_38 : decode cX3_takeLine 38 = .ok (.ifCond .eq 10, 3) := by decide +kernel
theorem dX3_takeLine_41 : decode cX3_takeLine 41 = .ok (.aload_n 0, 1) := by decide +kernel
theorem dX3_takeLine_42 : decode cX3_takeLine 42 = .ok (.invokevirtual 94, 3) := by decide +kernel
theorem dX3_takeLine_45 : decode cX3_takeLine 45 = .ok (.goto 56, 3) := by decide +kernel
theorem dX3_takeLine_48 : decode cX3_takeLine 48 = .ok (.aload_n 0, 1) := by decide +kernel
theorem dX3_takeLine_49 : decode cX3_takeLine 49 = .ok (.ldc 97, 2) := by decide +kernel
theorem dX3_takeLine_51 : decode cX3_takeLine 51 = .ok (.invokevirtual 80, 3) := by decide +kernel
theorem dX3_takeLine_54 : decode cX3_takeLine 54 = .ok (.ifCond .eq 10, 3) := by decide +kernel
theorem dX3_takeLine_57 : decode cX3_takeLine 57 = .ok (.aload_n 0, 1) := by decide +kernel
theorem dX3_takeLine_58 : decode cX3_takeLine 58 = .ok (.invokevirtual 99, 3) := by decide +kernel
theorem dX3_takeLine_61 : decode cX3_takeLine 61 = .ok (.goto 40, 3) := by decide +kernel
theorem dX3_takeLine_64 : decode cX3_takeLine 64 = .ok (.aload_n 0, 1) := by decide +kernel
theorem dX3_takeLine_65 : decode cX3_takeLine 65 = .ok (.ldc 102, 2) := by decide +kernel
theorem dX3_takeLine_67 : decode cX3_takeLine 67 = .ok (.invokevirtual 80, 3) := by decide +kernel
theorem dX3_takeLine_70 : decode cX3_takeLine 70 = .ok (.ifCond .eq 10, 3) := by decide +kernel
theorem dX3_takeLine_73 : decode cX3_takeLine 73 = .ok (.aload_n 0, 1) := by decide +kernel
theorem dX3_takeLine_74 : decode cX3_takeLine 74 = .ok (.invokevirtual 104, 3) := by decide +kernel
theorem dX3_takeLine_77 : decode cX3_takeLine 77 = .ok (.goto 24, 3) := by decide +kernel
theorem dX3_takeLine_80 : decode cX3_takeLine 80 = .ok (.aload_n 0, 1) := by decide +kernel
theorem dX3_takeLine_81 : decode cX3_takeLine 81 = .ok (.ldc 107, 2) := by decide +kernel
theorem dX3_takeLine_83 : decode cX3_takeLine 83 = .ok (.invokevirtual 80, 3) := by decide +kernel
theorem dX3_takeLine_86 : decode cX3_takeLine 86 = .ok (.ifCond .eq 10, 3) := by decide +kernel
theorem dX3_takeLine_89 : decode cX3_takeLine 89 = .ok (.aload_n 0, 1) := by decide +kernel
theorem dX3_takeLine_90 : decode cX3_takeLine 90 = .ok (.invokevirtual 109, 3) := by decide +kernel
theorem dX3_takeLine_93 : decode cX3_takeLine 93 = .ok (.goto 8, 3) := by decide +kernel
theorem dX3_takeLine_96 : decode cX3_takeLine 96 = .ok (.aload_n 0, 1) := by decide +kernel
theorem dX3_takeLine_97 : decode cX3_takeLine 97 = .ok (.iconst 2, 1) := by decide +kernel
theorem dX3_takeLine_98 : decode cX3_takeLine 98 = .ok (.invokevirtual 62, 3) := by decide +kernel
theorem dX3_takeLine_101 : decode cX3_takeLine 101 = .ok (.aload_n 0, 1) := by decide +kernel
theorem dX3_takeLine_102 : decode cX3_takeLine 102 = .ok (.invokevirtual 40, 3) := by decide +kernel
theorem dX3_takeLine_105 : decode cX3_takeLine 105 = .ok (.aload_n 0, 1) := by decide +kernel
theorem dX3_takeLine_106 : decode cX3_takeLine 106 = .ok (.getfield 43, 3) := by decide +kernel
theorem dX3_takeLine_109 : decode cX3_takeLine 109 = .ok (.iconst 2, 1) := by decide +kernel
theorem dX3_takeLine_110 : decode cX3_takeLine 110 = .ok (.if_icmp .eq 8, 3) := by decide +kernel
theorem dX3_takeLine_113 : decode cX3_takeLine 113 = .ok (.aload_n 0, 1) := by decide +kernel
theorem dX3_takeLine_114 : decode cX3_takeLine 114 = .ok (.iconst 2, 1) := by decide +kernel
theorem dX3_takeLine_115 : decode cX3_takeLine 115 = .ok (.invokevirtual 62, 3) := by decide +kernel
theorem dX3_takeLine_118 : decode cX3_takeLine 118 = .ok (.return_, 1) := by decide +kernel
theorem dX3_takeLand_0 : decode cX3_takeLand 0 = .ok (.aload_n 0, 1) := by decide +kernel
theorem dX3_takeLand_1 : decode cX3_takeLand 1 = .ok (.getfield 19, 3) := by decide +kernel
theorem dX3_takeLand_4 : decode cX3_takeLand 4 = .ok (.getfield 112, 3) := by decide +kernel
theorem dX3_takeLand_7 : decode cX3_takeLand 7 = .ok (.iconst 4, 1) := by decide +kernel
theorem dX3_takeLand_8 : decode cX3_takeLand 8 = .ok (.if_icmp .lt 8, 3) := by decide +kernel
theorem dX3_takeLand_11 : decode cX3_takeLand 11 = .ok (.aload_n 0, 1) := by decide +kernel
theorem dX3_takeLand_12 : decode cX3_takeLand 12 = .ok (.iconst 5, 1) := by decide +kernel
theorem dX3_takeLand_13 : decode cX3_takeLand 13 = .ok (.invokevirtual 62, 3) := by decide +kernel
theorem dX3_takeLand_16 : decode cX3_takeLand 16 = .ok (.aload_n 0, 1) := by decide +kernel
theorem dX3_takeLand_17 : decode cX3_takeLand 17 = .ok (.iconst 0, 1) := by decide +kernel
theorem dX3_takeLand_18 : decode cX3_takeLand 18 = .ok (.bipush 9, 2) := by decide +kernel
theorem dX3_takeLand_20 : decode cX3_takeLand 20 = .ok (.invokevirtual 115, 3) := by decide +kernel
theorem dX3_takeLand_23 : decode cX3_takeLand 23 = .ok (.istore_n 1, 1) := by decide +kernel
theorem dX3_takeLand_24 : decode cX3_takeLand 24 = .ok (.aload_n 0, 1) := by decide +kernel
theorem dX3_takeLand_25 : decode cX3_takeLand 25 = .ok (.iconst 0, 1) := by decide +kernel
theorem dX3_takeLand_26 : decode cX3_takeLand 26 = .ok (.bipush 9, 2) := by decide +kernel
theorem dX3_takeLand_28 : decode cX3_takeLand 28 = .ok (.invokevirtual 115, 3) := by decide +kernel
theorem dX3_takeLand_31 : decode cX3_takeLand 31 = .ok (.istore_n 2, 1) := by decide +kernel
theorem dX3_takeLand_32 : decode cX3_takeLand 32 = .ok (.aload_n 0, 1) := by decide +kernel
theorem dX3_takeLand_33 : decode cX3_takeLand 33 = .ok (.getfield 28, 3) := by decide +kernel
theorem dX3_takeLand_36 : decode cX3_takeLand 36 = .ok (.ifCond .ne 12, 3) := by decide +kernel
theorem dX3_takeLand_39 : decode cX3_takeLand 39 = .ok (.aload_n 0, 1) := by decide +kernel
theorem dX3_takeLand_40 : decode cX3_takeLand 40 = .ok (.getfield 19, 3) := by decide +kernel
theorem dX3_takeLand_43 : decode cX3_takeLand 43 = .ok (.iload_n 1, 1) := by decide +kernel
theorem dX3_takeLand_44 : decode cX3_takeLand 44 = .ok (.iload_n 2, 1) := by decide +kernel
theorem dX3_takeLand_45 : decode cX3_takeLand 45 = .ok (.invokevirtual 119, 3) := by decide +kernel
theorem dX3_takeLand_48 : decode cX3_takeLand 48 = .ok (.return_, 1) := by decide +kernel
theorem dX3_takeDream_0 : decode cX3_takeDream 0 = .ok (.aload_n 0, 1) := by decide +kernel
theorem dX3_takeDream_1 : decode cX3_takeDream 1 = .ok (.getfield 19, 3) := by decide +kernel
theorem dX3_takeDream_4 : decode cX3_takeDream 4 = .ok (.getfield 123, 3) := by decide +kernel
theorem dX3_takeDream_7 : decode cX3_takeDream 7 = .ok (.iconst 4, 1) := by decide +kernel
theorem dX3_takeDream_8 : decode cX3_takeDream 8 = .ok (.if_icmp .lt 8, 3) := by decide +kernel
theorem dX3_takeDream_11 : decode cX3_takeDream 11 = .ok (.aload_n 0, 1) := by decide +kernel
theorem dX3_takeDream_12 : decode cX3_takeDream 12 = .ok (.iconst 5, 1) := by decide +kernel
theorem dX3_takeDream_13 : decode cX3_takeDream 13 = .ok (.invokevirtual 62, 3) := by decide +kernel
theorem dX3_takeDream_16 : decode cX3_takeDream 16 = .ok (.aload_n 0, 1) := by decide +kernel
theorem dX3_takeDream_17 : decode cX3_takeDream 17 = .ok (.invokevirtual 126, 3) := by decide +kernel
theorem dX3_takeDream_20 : decode cX3_takeDream 20 = .ok (.istore_n 1, 1) := by decide +kernel
theorem dX3_takeDream_21 : decode cX3_takeDream 21 = .ok (.aload_n 0, 1) := by decide +kernel
theorem dX3_takeDream_22 : decode cX3_takeDream 22 = .ok (.iconst 1, 1) := by decide +kernel
theorem dX3_takeDream_23 : decode cX3_takeDream 23 = .ok (.bipush 9, 2) := by decide +kernel
theorem dX3_takeDream_25 : decode cX3_takeDream 25 = .ok (.invokevirtual 115, 3) := by decide +kernel
theorem dX3_takeDream_28 : decode cX3_takeDream 28 = .ok (.istore_n 2, 1) := by decide +kernel
theorem dX3_takeDream_29 : decode cX3_takeDream 29 = .ok (.aload_n 0, 1) := by decide +kernel
theorem dX3_takeDream_30 : decode cX3_takeDream 30 = .ok (.getfield 28, 3) := by decide +kernel
theorem dX3_takeDream_33 : decode cX3_takeDream 33 = .ok (.ifCond .ne 12, 3) := by decide +kernel
theorem dX3_takeDream_36 : decode cX3_takeDream 36 = .ok (.aload_n 0, 1) := by decide +kernel
theorem dX3_takeDream_37 : decode cX3_takeDream 37 = .ok (.getfield 19, 3) := by decide +kernel
theorem dX3_takeDream_40 : decode cX3_takeDream 40 = .ok (.iload_n 1, 1) := by decide +kernel
theorem dX3_takeDream_41 : decode cX3_takeDream 41 = .ok (.iload_n 2, 1) := by decide +kernel
theorem dX3_takeDream_42 : decode cX3_takeDream 42 = .ok (.invokevirtual 129, 3) := by decide +kernel
theorem dX3_takeDream_45 : decode cX3_takeDream 45 = .ok (.return_, 1) := by decide +kernel
theorem dX3_takePeople_0 : decode cX3_takePeople 0 = .ok (.aload_n 0, 1) := by decide +kernel
theorem dX3_takePeople_1 : decode cX3_takePeople 1 = .ok (.iconst 0, 1) := by decide +kernel
theorem dX3_takePeople_2 : decode cX3_takePeople 2 = .ok (.invokevirtual 132, 3) := by decide +kernel
theorem dX3_takePeople_5 : decode cX3_takePeople 5 = .ok (.aload_n 0, 1) := by decide +kernel
theorem dX3_takePeople_6 : decode cX3_takePeople 6 = .ok (.getfield 19, 3) := by decide +kernel
theorem dX3_takePeople_9 : decode cX3_takePeople 9 = .ok (.aload_n 0, 1) := by decide +kernel
theorem dX3_takePeople_10 : decode cX3_takePeople 10 = .ok (.iconst 0, 1) := by decide +kernel
theorem dX3_takePeople_11 : decode cX3_takePeople 11 = .ok (.bipush 40, 2) := by decide +kernel
theorem dX3_takePeople_13 : decode cX3_takePeople 13 = .ok (.invokevirtual 115, 3) := by decide +kernel
theorem dX3_takePeople_16 : decode cX3_takePeople 16 = .ok (.putfield 135, 3) := by decide +kernel
theorem dX3_takePeople_19 : decode cX3_takePeople 19 = .ok (.aload_n 0, 1) := by decide +kernel
theorem dX3_takePeople_20 : decode cX3_takePeople 20 = .ok (.getfield 19, 3) := by decide +kernel
theorem dX3_takePeople_23 : decode cX3_takePeople 23 = .ok (.aload_n 0, 1) := by decide +kernel
theorem dX3_takePeople_24 : decode cX3_takePeople 24 = .ok (.iconst 0, 1) := by decide +kernel
theorem dX3_takePeople_25 : decode cX3_takePeople 25 = .ok (.bipush 20, 2) := by decide +kernel
theorem dX3_takePeople_27 : decode cX3_takePeople 27 = .ok (.invokevirtual 115, 3) := by decide +kernel
theorem dX3_takePeople_30 : decode cX3_takePeople 30 = .ok (.putfield 138, 3) := by decide +kernel
theorem dX3_takePeople_33 : decode cX3_takePeople 33 = .ok (.return_, 1) := by decide +kernel
theorem dX3_takeGranary_0 : decode cX3_takeGranary 0 = .ok (.aload_n 0, 1) := by decide +kernel
theorem dX3_takeGranary_1 : decode cX3_takeGranary 1 = .ok (.iconst 1, 1) := by decide +kernel
theorem dX3_takeGranary_2 : decode cX3_takeGranary 2 = .ok (.invokevirtual 132, 3) := by decide +kernel
theorem dX3_takeGranary_5 : decode cX3_takeGranary 5 = .ok (.aload_n 0, 1) := by decide +kernel
theorem dX3_takeGranary_6 : decode cX3_takeGranary 6 = .ok (.getfield 19, 3) := by decide +kernel
theorem dX3_takeGranary_9 : decode cX3_takeGranary 9 = .ok (.aload_n 0, 1) := by decide +kernel
theorem dX3_takeGranary_10 : decode cX3_takeGranary 10 = .ok (.iconst 0, 1) := by decide +kernel
theorem dX3_takeGranary_11 : decode cX3_takeGranary 11 = .ok (.bipush 40, 2) := by decide +kernel
theorem dX3_takeGranary_13 : decode cX3_takeGranary 13 = .ok (.invokevirtual 115, 3) := by decide +kernel
theorem dX3_takeGranary_16 : decode cX3_takeGranary 16 = .ok (.putfield 141, 3) := by decide +kernel
theorem dX3_takeGranary_19 : decode cX3_takeGranary 19 = .ok (.aload_n 0, 1) := by decide +kernel
theorem dX3_takeGranary_20 : decode cX3_takeGranary 20 = .ok (.getfield 19, 3) := by decide +kernel
theorem dX3_takeGranary_23 : decode cX3_takeGranary 23 = .ok (.aload_n 0, 1) := by decide +kernel
theorem dX3_takeGranary_24 : decode cX3_takeGranary 24 = .ok (.iconst 0, 1) := by decide +kernel
theorem dX3_takeGranary_25 : decode cX3_takeGranary 25 = .ok (.bipush 9, 2) := by decide +kernel
theorem dX3_takeGranary_27 : decode cX3_takeGranary 27 = .ok (.invokevirtual 115, 3) := by decide +kernel
theorem dX3_takeGranary_30 : decode cX3_takeGranary 30 = .ok (.putfield 144, 3) := by decide +kernel
theorem dX3_takeGranary_33 : decode cX3_takeGranary 33 = .ok (.aload_n 0, 1) := by decide +kernel
theorem dX3_takeGranary_34 : decode cX3_takeGranary 34 = .ok (.getfield 19, 3) := by decide +kernel
theorem dX3_takeGranary_37 : decode cX3_takeGranary 37 = .ok (.getfield 144, 3) := by decide +kernel
theorem dX3_takeGranary_40 : decode cX3_takeGranary 40 = .ok (.invokestatic 147, 3) := by decide +kernel
theorem dX3_takeGranary_43 : decode cX3_takeGranary 43 = .ok (.ifCond .ne 8, 3) := by decide +kernel
theorem dX3_takeGranary_46 : decode cX3_takeGranary 46 = .ok (.aload_n 0, 1) := by decide +kernel
theorem dX3_takeGranary_47 : decode cX3_takeGranary 47 = .ok (.iconst 3, 1) := by decide +kernel
theorem dX3_takeGranary_48 : decode cX3_takeGranary 48 = .ok (.invokevirtual 62, 3) := by decide +kernel
theorem dX3_takeGranary_51 : decode cX3_takeGranary 51 = .ok (.aload_n 0, 1) := by decide +kernel
theorem dX3_takeGranary_52 : decode cX3_takeGranary 52 = .ok (.getfield 19, 3) := by decide +kernel
theorem dX3_takeGranary_55 : decode cX3_takeGranary 55 = .ok (.aload_n 0, 1) := by decide +kernel
theorem dX3_takeGranary_56 : decode cX3_takeGranary 56 = .ok (.iconst 0, 1) := by decide +kernel
theorem dX3_takeGranary_57 : decode cX3_takeGranary 57 = .ok (.aload_n 0, 1) := by decide +kernel
theorem dX3_takeGranary_58 : decode cX3_takeGranary 58 = .ok (.getfield 19, 3) := by decide +kernel
theorem dX3_takeGranary_61 : decode cX3_takeGranary 61 = .ok (.getfield 141, 3) := by decide +kernel
theorem dX3_takeGranary_64 : decode cX3_takeGranary 64 = .ok (.invokevirtual 115, 3) := by decide +kernel
theorem dX3_takeGranary_67 : decode cX3_takeGranary 67 = .ok (.putfield 150, 3) := by decide +kernel
theorem dX3_takeGranary_70 : decode cX3_takeGranary 70 = .ok (.return_, 1) := by decide +kernel
theorem dX3_takePrice_0 : decode cX3_takePrice 0 = .ok (.aload_n 0, 1) := by decide +kernel
theorem dX3_takePrice_1 : decode cX3_takePrice 1 = .ok (.iconst 2, 1) := by decide +kernel
theorem dX3_takePrice_2 : decode cX3_takePrice 2 = .ok (.invokevirtual 132, 3) := by decide +kernel
theorem dX3_takePrice_5 : decode cX3_takePrice 5 = .ok (.aload_n 0, 1) := by decide +kernel
theorem dX3_takePrice_6 : decode cX3_takePrice 6 = .ok (.getfield 19, 3) := by decide +kernel
theorem dX3_takePrice_9 : decode cX3_takePrice 9 = .ok (.aload_n 0, 1) := by decide +kernel
theorem dX3_takePrice_10 : decode cX3_takePrice 10 = .ok (.iconst 0, 1) := by decide +kernel
theorem dX3_takePrice_11 : decode cX3_takePrice 11 = .ok (.bipush 9, 2) := by decide +kernel
theorem dX3_takePrice_13 : decode cX3_takePrice 13 = .ok (.invokevirtual 115, 3) := by decide +kernel
theorem dX3_takePrice_16 : decode cX3_takePrice 16 = .ok (.putfield 153, 3) := by decide +kernel
theorem dX3_takePrice_19 : decode cX3_takePrice 19 = .ok (.aload_n 0, 1) := by decide +kernel
theorem dX3_takePrice_20 : decode cX3_takePrice 20 = .ok (.getfield 19, 3) := by decide +kernel
theorem dX3_takePrice_23 : decode cX3_takePrice 23 = .ok (.aload_n 0, 1) := by decide +kernel
theorem dX3_takePrice_24 : decode cX3_takePrice 24 = .ok (.iconst 0, 1) := by decide +kernel
theorem dX3_takePrice_25 : decode cX3_takePrice 25 = .ok (.bipush 9, 2) := by decide +kernel
theorem dX3_takePrice_27 : decode cX3_takePrice 27 = .ok (.invokevirtual 115, 3) := by decide +kernel
theorem dX3_takePrice_30 : decode cX3_takePrice 30 = .ok (.putfield 156, 3) := by decide +kernel
theorem dX3_takePrice_33 : decode cX3_takePrice 33 = .ok (.return_, 1) := by decide +kernel
theorem dX3_takeSteward_0 : decode cX3_takeSteward 0 = .ok (.aload_n 0, 1) := by decide +kernel
theorem dX3_takeSteward_1 : decode cX3_takeSteward 1 = .ok (.iconst 3, 1) := by decide +kernel
theorem dX3_takeSteward_2 : decode cX3_takeSteward 2 = .ok (.invokevirtual 132, 3) := by decide +kernel
theorem dX3_takeSteward_5 : decode cX3_takeSteward 5 = .ok (.aload_n 0, 1) := by decide +kernel
theorem dX3_takeSteward_6 : decode cX3_takeSteward 6 = .ok (.invokevirtual 159, 3) := by decide +kernel
theorem dX3_takeSteward_9 : decode cX3_takeSteward 9 = .ok (.istore_n 1, 1) := by decide +kernel
theorem dX3_takeSteward_10 : decode cX3_takeSteward 10 = .ok (.aload_n 0, 1) := by decide +kernel
theorem dX3_takeSteward_11 : decode cX3_takeSteward 11 = .ok (.iconst 0, 1) := by decide +kernel
theorem dX3_takeSteward_12 : decode cX3_takeSteward 12 = .ok (.bipush 9, 2) := by decide +kernel
theorem dX3_takeSteward_14 : decode cX3_takeSteward 14 = .ok (.invokevirtual 115, 3) := by decide +kernel
theorem dX3_takeSteward_17 : decode cX3_takeSteward 17 = .ok (.istore_n 2, 1) := by decide +kernel
theorem dX3_takeSteward_18 : decode cX3_takeSteward 18 = .ok (.aload_n 0, 1) := by decide +kernel
theorem dX3_takeSteward_19 : decode cX3_takeSteward 19 = .ok (.getfield 19, 3) := by decide +kernel
theorem dX3_takeSteward_22 : decode cX3_takeSteward 22 = .ok (.iload_n 1, 1) := by decide +kernel
theorem dX3_takeSteward_23 : decode cX3_takeSteward 23 = .ok (.iload_n 2, 1) := by decide +kernel
theorem dX3_takeSteward_24 : decode cX3_takeSteward 24 = .ok (.invokevirtual 162, 3) := by decide +kernel
theorem dX3_takeSteward_27 : decode cX3_takeSteward 27 = .ok (.return_, 1) := by decide +kernel
theorem dX3_markOnce_0 : decode cX3_markOnce 0 = .ok (.aload_n 0, 1) := by decide +kernel
theorem dX3_markOnce_1 : decode cX3_markOnce 1 = .ok (.getfield 34, 3) := by decide +kernel
theorem dX3_markOnce_4 : decode cX3_markOnce 4 = .ok (.iload_n 1, 1) := by decide +kernel
theorem dX3_markOnce_5 : decode cX3_markOnce 5 = .ok (.invokestatic 165, 3) := by decide +kernel
theorem dX3_markOnce_8 : decode cX3_markOnce 8 = .ok (.ifCond .eq 8, 3) := by decide +kernel
theorem dX3_markOnce_11 : decode cX3_markOnce 11 = .ok (.aload_n 0, 1) := by decide +kernel
theorem dX3_markOnce_12 : decode cX3_markOnce 12 = .ok (.iconst 4, 1) := by decide +kernel
theorem dX3_markOnce_13 : decode cX3_markOnce 13 = .ok (.invokevirtual 62, 3) := by decide +kernel
theorem dX3_markOnce_16 : decode cX3_markOnce 16 = .ok (.aload_n 0, 1) := by decide +kernel
theorem dX3_markOnce_17 : decode cX3_markOnce 17 = .ok (.dup, 1) := by decide +kernel
theorem dX3_markOnce_18 : decode cX3_markOnce 18 = .ok (.getfield 34, 3) := by decide +kernel
theorem dX3_markOnce_21 : decode cX3_markOnce 21 = .ok (.iconst 1, 1) := by decide +kernel
theorem dX3_markOnce_22 : decode cX3_markOnce 22 = .ok (.iload_n 1, 1) := by decide +kernel
theorem dX3_markOnce_23 : decode cX3_markOnce 23 = .ok (.ishl, 1) := by decide +kernel
theorem dX3_markOnce_24 : decode cX3_markOnce 24 = .ok (.ior, 1) := by decide +kernel
theorem dX3_markOnce_25 : decode cX3_markOnce 25 = .ok (.putfield 34, 3) := by decide +kernel
theorem dX3_markOnce_28 : decode cX3_markOnce 28 = .ok (.return_, 1) := by decide +kernel
theorem dX3_takeWithin_0 : decode cX3_takeWithin 0 = .ok (.aload_n 0, 1) := by decide +kernel
theorem dX3_takeWithin_1 : decode cX3_takeWithin 1 = .ok (.invokevirtual 40, 3) := by decide +kernel
theorem dX3_takeWithin_4 : decode cX3_takeWithin 4 = .ok (.aload_n 0, 1) := by decide +kernel
theorem dX3_takeWithin_5 : decode cX3_takeWithin 5 = .ok (.getfield 28, 3) := by decide +kernel
theorem dX3_takeWithin_8 : decode cX3_takeWithin 8 = .ok (.ifCond .eq 5, 3) := by decide +kernel
theorem dX3_takeWithin_11 : decode cX3_takeWithin 11 = .ok (.iconst 0, 1) := by decide +kernel
theorem dX3_takeWithin_12 : decode cX3_takeWithin 12 = .ok (.ireturn, 1) := by decide +kernel
theorem dX3_takeWithin_13 : decode cX3_takeWithin 13 = .ok (.aload_n 0, 1) := by decide +kernel
theorem dX3_takeWithin_14 : decode cX3_takeWithin 14 = .ok (.getfield 43, 3) := by decide +kernel
theorem dX3_takeWithin_17 : decode cX3_takeWithin 17 = .ok (.iconst 1, 1) := by decide +kernel
theorem dX3_takeWithin_18 : decode cX3_takeWithin 18 = .ok (.if_icmp .eq 10, 3) := by decide +kernel
theorem dX3_takeWithin_21 : decode cX3_takeWithin 21 = .ok (.aload_n 0, 1) := by decide +kernel
theorem dX3_takeWithin_22 : decode cX3_takeWithin 22 = .ok (.iconst 2, 1) := by decide +kernel
theorem dX3_takeWithin_23 : decode cX3_takeWithin 23 = .ok (.invokevirtual 62, 3) := by decide +kernel
theorem dX3_takeWithin_26 : decode cX3_takeWithin 26 = .ok (.iconst 0, 1) := by decide +kernel
theorem dX3_takeWithin_27 : decode cX3_takeWithin 27 = .ok (.ireturn, 1) := by decide +kernel
theorem dX3_takeWithin_28 : decode cX3_takeWithin 28 = .ok (.aload_n 0, 1) := by decide +kernel
theorem dX3_takeWithin_29 : decode cX3_takeWithin 29 = .ok (.getfield 66, 3) := by decide +kernel
theorem dX3_takeWithin_32 : decode cX3_takeWithin 32 = .ok (.iload_n 1, 1) := by decide +kernel
theorem dX3_takeWithin_33 : decode cX3_takeWithin 33 = .ok (.iload_n 2, 1) := by decide +kernel
theorem dX3_takeWithin_34 : decode cX3_takeWithin 34 = .ok (.invokestatic 169, 3) := by decide +kernel
theorem dX3_takeWithin_37 : decode cX3_takeWithin 37 = .ok (.ifCond .ne 10, 3) := by decide +kernel
theorem dX3_takeWithin_40 : decode cX3_takeWithin 40 = .ok (.aload_n 0, 1) := by decide +kernel
theorem dX3_takeWithin_41 : decode cX3_takeWithin 41 = .ok (.iconst 3, 1) := by decide +kernel
theorem dX3_takeWithin_42 : decode cX3_takeWithin 42 = .ok (.invokevirtual 62, 3) := by decide +kernel
theorem dX3_takeWithin_45 : decode cX3_takeWithin 45 = .ok (.iconst 0, 1) := by decide +kernel
theorem dX3_takeWithin_46 : decode cX3_takeWithin 46 = .ok (.ireturn, 1) := by decide +kernel
theorem dX3_takeWithin_47 : decode cX3_takeWithin 47 = .ok (.aload_n 0, 1) := by decide +kernel
theorem dX3_takeWithin_48 : decode cX3_takeWithin 48 = .ok (.getfield 66, 3) := by decide +kernel
theorem dX3_takeWithin_51 : decode cX3_takeWithin 51 = .ok (.ireturn, 1) := by decide +kernel
theorem dX3_takeRow_0 : decode cX3_takeRow 0 = .ok (.aload_n 0, 1) := by decide +kernel
theorem dX3_takeRow_1 : decode cX3_takeRow 1 = .ok (.invokevirtual 40, 3) := by decide +kernel
theorem dX3_takeRow_4 : decode cX3_takeRow 4 = .ok (.aload_n 0, 1) := by decide +kernel
theorem dX3_takeRow_5 : decode cX3_takeRow 5 = .ok (.getfield 28, 3) := by decide +kernel
theorem dX3_takeRow_8 : decode cX3_takeRow 8 = .ok (.ifCond .eq 5, 3) := by decide +kernel
theorem dX3_takeRow_11 : decode cX3_takeRow 11 = .ok (.iconst 0, 1) := by decide +kernel
theorem dX3_takeRow_12 : decode cX3_takeRow 12 = .ok (.ireturn, 1) := by decide +kernel
theorem dX3_takeRow_13 : decode cX3_takeRow 13 = .ok (.aload_n 0, 1) := by decide +kernel
theorem dX3_takeRow_14 : decode cX3_takeRow 14 = .ok (.getfield 43, 3) := by decide +kernel
theorem dX3_takeRow_17 : decode cX3_takeRow 17 = .ok (.ifCond .eq 10, 3) := by decide +kernel
theorem dX3_takeRow_20 : decode cX3_takeRow 20 = .ok (.aload_n 0, 1) := by decide +kernel
theorem dX3_takeRow_21 : decode cX3_takeRow 21 = .ok (.iconst 2, 1) := by decide +kernel
theorem dX3_takeRow_22 : decode cX3_takeRow 22 = .ok (.invokevirtual 62, 3) := by decide +kernel
theorem dX3_takeRow_25 : decode cX3_takeRow 25 = .ok (.iconst 0, 1) := by decide +kernel
theorem dX3_takeRow_26 : decode cX3_takeRow 26 = .ok (.ireturn, 1) := by decide +kernel
theorem dX3_takeRow_27 : decode cX3_takeRow 27 = .ok (.aload_n 0, 1) := by decide +kernel
theorem dX3_takeRow_28 : decode cX3_takeRow 28 = .ok (.getfield 37, 3) := by decide +kernel
theorem dX3_takeRow_31 : decode cX3_takeRow 31 = .ok (.aload_n 0, 1) := by decide +kernel
theorem dX3_takeRow_32 : decode cX3_takeRow 32 = .ok (.getfield 46, 3) := by decide +kernel
theorem dX3_takeRow_35 : decode cX3_takeRow 35 = .ok (.isub, 1) := by decide +kernel
theorem dX3_takeRow_36 : decode cX3_takeRow 36 = .ok (.bipush 8, 2) := by decide +kernel
theorem dX3_takeRow_38 : decode cX3_takeRow 38 = .ok (.if_icmp .le 10, 3) := by decide +kernel
theorem dX3_takeRow_41 : decode cX3_takeRow 41 = .ok (.aload_n 0, 1) := by decide +kernel
theorem dX3_takeRow_42 : decode cX3_takeRow 42 = .ok (.iconst 3, 1) := by decide +kernel
theorem dX3_takeRow_43 : decode cX3_takeRow 43 = .ok (.invokevirtual 62, 3) := by decide +kernel
theorem dX3_takeRow_46 : decode cX3_takeRow 46 = .ok (.iconst 0, 1) := by decide +kernel
theorem dX3_takeRow_47 : decode cX3_takeRow 47 = .ok (.ireturn, 1) := by decide +kernel
theorem dX3_takeRow_48 : decode cX3_takeRow 48 = .ok (.iconst 0, 1) := by decide +kernel
theorem dX3_takeRow_49 : decode cX3_takeRow 49 = .ok (.istore_n 1, 1) := by decide +kernel
theorem dX3_takeRow_50 : decode cX3_takeRow 50 = .ok (.iconst 0, 1) := by decide +kernel
theorem dX3_takeRow_51 : decode cX3_takeRow 51 = .ok (.istore_n 2, 1) := by decide +kernel
theorem dX3_takeRow_52 : decode cX3_takeRow 52 = .ok (.iload_n 2, 1) := by decide +kernel
theorem dX3_takeRow_53 : decode cX3_takeRow 53 = .ok (.aload_n 0, 1) := by decide +kernel
theorem dX3_takeRow_54 : decode cX3_takeRow 54 = .ok (.getfield 37, 3) := by decide +kernel
theorem dX3_takeRow_57 : decode cX3_takeRow 57 = .ok (.aload_n 0, 1) := by decide +kernel
theorem dX3_takeRow_58 : decode cX3_takeRow 58 = .ok (.getfield 46, 3) := by decide +kernel
theorem dX3_takeRow_61 : decode cX3_takeRow 61 = .ok (.isub, 1) := by decide +kernel
theorem dX3_takeRow_62 : decode cX3_takeRow 62 = .ok (.if_icmp .ge 49, 3) := by decide +kernel
theorem dX3_takeRow_65 : decode cX3_takeRow 65 = .ok (.aload_n 0, 1) := by decide +kernel
theorem dX3_takeRow_66 : decode cX3_takeRow 66 = .ok (.getfield 9, 3) := by decide +kernel
theorem dX3_takeRow_69 : decode cX3_takeRow 69 = .ok (.aload_n 0, 1) := by decide +kernel
theorem dX3_takeRow_70 : decode cX3_takeRow 70 = .ok (.getfield 46, 3) := by decide +kernel
theorem dX3_takeRow_73 : decode cX3_takeRow 73 = .ok (.iload_n 2, 1) := by decide +kernel
theorem dX3_takeRow_74 : decode cX3_takeRow 74 = .ok (.iadd, 1) := by decide +kernel
theorem dX3_takeRow_75 : decode cX3_takeRow 75 = .ok (.iaload, 1) := by decide +kernel
theorem dX3_takeRow_76 : decode cX3_takeRow 76 = .ok (.istore_n 3, 1) := by decide +kernel
theorem dX3_takeRow_77 : decode cX3_takeRow 77 = .ok (.iload_n 3, 1) := by decide +kernel
theorem dX3_takeRow_78 : decode cX3_takeRow 78 = .ok (.bipush 102, 2) := by decide +kernel
theorem dX3_takeRow_80 : decode cX3_takeRow 80 = .ok (.if_icmp .ne 12, 3) := by decide +kernel
theorem dX3_takeRow_83 : decode cX3_takeRow 83 = .ok (.iload_n 1, 1) := by decide +kernel
theorem dX3_takeRow_84 : decode cX3_takeRow 84 = .ok (.iconst 1, 1) := by decide +kernel
theorem dX3_takeRow_85 : decode cX3_takeRow 85 = .ok (.iload_n 2, 1) := by decide +kernel
theorem dX3_takeRow_86 : decode cX3_takeRow 86 = .ok (.ishl, 1) := by decide +kernel
theorem dX3_takeRow_87 : decode cX3_takeRow 87 = .ok (.ior, 1) := by decide +kernel
theorem dX3_takeRow_88 : decode cX3_takeRow 88 = .ok (.istore_n 1, 1) := by decide +kernel
theorem dX3_takeRow_89 : decode cX3_takeRow 89 = .ok (.goto 16, 3) := by decide +kernel
theorem dX3_takeRow_92 : decode cX3_takeRow 92 = .ok (.iload_n 3, 1) := by decide +kernel
theorem dX3_takeRow_93 : decode cX3_takeRow 93 = .ok (.bipush 108, 2) := by decide +kernel
theorem dX3_takeRow_95 : decode cX3_takeRow 95 = .ok (.if_icmp .eq 10, 3) := by decide +kernel
theorem dX3_takeRow_98 : decode cX3_takeRow 98 = .ok (.aload_n 0, 1) := by decide +kernel
theorem dX3_takeRow_99 : decode cX3_takeRow 99 = .ok (.iconst 3, 1) := by decide +kernel
theorem dX3_takeRow_100 : decode cX3_takeRow 100 = .ok (.invokevirtual 62, 3) := by decide +kernel
theorem dX3_takeRow_103 : decode cX3_takeRow 103 = .ok (.iconst 0, 1) := by decide +kernel
theorem dX3_takeRow_104 : decode cX3_takeRow 104 = .ok (.ireturn, 1) := by decide +kernel
theorem dX3_takeRow_105 : decode cX3_takeRow 105 = .ok (.iinc 2 1, 3) := by decide +kernel
theorem dX3_takeRow_108 : decode cX3_takeRow 108 = .ok (.goto (-56), 3) := by decide +kernel
theorem dX3_takeRow_111 : decode cX3_takeRow 111 = .ok (.iload_n 1, 1) := by decide +kernel
theorem dX3_takeRow_112 : decode cX3_takeRow 112 = .ok (.ireturn, 1) := by decide +kernel
theorem dX3_takeKind_0 : decode cX3_takeKind 0 = .ok (.aload_n 0, 1) := by decide +kernel
theorem dX3_takeKind_1 : decode cX3_takeKind 1 = .ok (.invokevirtual 40, 3) := by decide +kernel
theorem dX3_takeKind_4 : decode cX3_takeKind 4 = .ok (.aload_n 0, 1) := by decide +kernel
theorem dX3_takeKind_5 : decode cX3_takeKind 5 = .ok (.ldc 173, 2) := by decide +kernel
theorem dX3_takeKind_7 : decode cX3_takeKind 7 = .ok (.invokevirtual 80, 3) := by decide +kernel
theorem dX3_takeKind_10 : decode cX3_takeKind 10 = .ok (.ifCond .eq 5, 3) := by decide +kernel
theorem dX3_takeKind_13 : decode cX3_takeKind 13 = .ok (.iconst 0, 1) := by decide +kernel
theorem dX3_takeKind_14 : decode cX3_takeKind 14 = .ok (.ireturn, 1) := by decide +kernel
theorem dX3_takeKind_15 : decode cX3_takeKind 15 = .ok (.aload_n 0, 1) := by decide +kernel
theorem dX3_takeKind_16 : decode cX3_takeKind 16 = .ok (.ldc 175, 2) := by decide +kernel
theorem dX3_takeKind_18 : decode cX3_takeKind 18 = .ok (.invokevirtual 80, 3) := by decide +kernel
theorem dX3_takeKind_21 : decode cX3_takeKind 21 = .ok (.ifCond .eq 5, 3) := by decide +kernel
theorem dX3_takeKind_24 : decode cX3_takeKind 24 = .ok (.iconst 1, 1) := by decide +kernel
theorem dX3_takeKind_25 : decode cX3_takeKind 25 = .ok (.ireturn, 1) := by decide +kernel
theorem dX3_takeKind_26 : decode cX3_takeKind 26 = .ok (.aload_n 0, 1) := by decide +kernel
theorem dX3_takeKind_27 : decode cX3_takeKind 27 = .ok (.ldc 177, 2) := by decide +kernel
theorem dX3_takeKind_29 : decode cX3_takeKind 29 = .ok (.invokevirtual 80, 3) := by decide +kernel
theorem dX3_takeKind_32 : decode cX3_takeKind 32 = .ok (.ifCond .eq 5, 3) := by decide +kernel
theorem dX3_takeKind_35 : decode cX3_takeKind 35 = .ok (.iconst 2, 1) := by decide +kernel
theorem dX3_takeKind_36 : decode cX3_takeKind 36 = .ok (.ireturn, 1) := by decide +kernel
theorem dX3_takeKind_37 : decode cX3_takeKind 37 = .ok (.aload_n 0, 1) := by decide +kernel
theorem dX3_takeKind_38 : decode cX3_takeKind 38 = .ok (.ldc 179, 2) := by decide +kernel
theorem dX3_takeKind_40 : decode cX3_takeKind 40 = .ok (.invokevirtual 80, 3) := by decide +kernel
theorem dX3_takeKind_43 : decode cX3_takeKind 43 = .ok (.ifCond .eq 5, 3) := by decide +kernel
theorem dX3_takeKind_46 : decode cX3_takeKind 46 = .ok (.iconst 3, 1) := by decide +kernel
theorem dX3_takeKind_47 : decode cX3_takeKind 47 = .ok (.ireturn, 1) := by decide +kernel
theorem dX3_takeKind_48 : decode cX3_takeKind 48 = .ok (.aload_n 0, 1) := by decide +kernel
theorem dX3_takeKind_49 : decode cX3_takeKind 49 = .ok (.ldc 181, 2) := by decide +kernel
theorem dX3_takeKind_51 : decode cX3_takeKind 51 = .ok (.invokevirtual 80, 3) := by decide +kernel
theorem dX3_takeKind_54 : decode cX3_takeKind 54 = .ok (.ifCond .eq 5, 3) := by decide +kernel
theorem dX3_takeKind_57 : decode cX3_takeKind 57 = .ok (.iconst 4, 1) := by decide +kernel
theorem dX3_takeKind_58 : decode cX3_takeKind 58 = .ok (.ireturn, 1) := by decide +kernel
theorem dX3_takeKind_59 : decode cX3_takeKind 59 = .ok (.aload_n 0, 1) := by decide +kernel
theorem dX3_takeKind_60 : decode cX3_takeKind 60 = .ok (.iconst 2, 1) := by decide +kernel
theorem dX3_takeKind_61 : decode cX3_takeKind 61 = .ok (.invokevirtual 62, 3) := by decide +kernel
theorem dX3_takeKind_64 : decode cX3_takeKind 64 = .ok (.iconst 0, 1) := by decide +kernel
theorem dX3_takeKind_65 : decode cX3_takeKind 65 = .ok (.ireturn, 1) := by decide +kernel
theorem dX4_init_0 : decode cX4_init 0 = .ok (.aload_n 0, 1) := by decide +kernel
theorem dX4_init_1 : decode cX4_init 1 = .ok (.invokespecial 3, 3) := by decide +kernel
theorem dX4_init_4 : decode cX4_init 4 = .ok (.aload_n 0, 1) := by decide +kernel
theorem dX4_init_5 : decode cX4_init 5 = .ok (.bipush 40, 2) := by decide +kernel
theorem dX4_init_7 : decode cX4_init 7 = .ok (.newarray .int, 2) := by decide +kernel
theorem dX4_init_9 : decode cX4_init 9 = .ok (.putfield 9, 3) := by decide +kernel
theorem dX4_init_12 : decode cX4_init 12 = .ok (.aload_n 0, 1) := by decide +kernel
theorem dX4_init_13 : decode cX4_init 13 = .ok (.iconst (-1), 1) := by decide +kernel
theorem dX4_init_14 : decode cX4_init 14 = .ok (.putfield 15, 3) := by decide +kernel
theorem dX4_init_17 : decode cX4_init 17 = .ok (.return_, 1) := by decide +kernel
theorem dX4_isNothing_0 : decode cX4_isNothing 0 = .ok (.aload_n 0, 1) := by decide +kernel
theorem dX4_isNothing_1 : decode cX4_isNothing 1 = .ok (.getfield 15, 3) := by decide +kernel
theorem dX4_isNothing_4 : decode cX4_isNothing 4 = .ok (.ifCond .ge 7, 3) := by decide +kernel
theorem dX4_isNothing_7 : decode cX4_isNothing 7 = .ok (.iconst 1, 1) := by decide +kernel
theorem dX4_isNothing_8 : decode cX4_isNothing 8 = .ok (.goto 4, 3) := by decide +kernel
theorem dX4_isNothing_11 : decode cX4_isNothing 11 = .ok (.iconst 0, 1) := by decide +kernel
theorem dX4_isNothing_12 : decode cX4_isNothing 12 = .ok (.ireturn, 1) := by decide +kernel
theorem dX4_renew_0 : decode cX4_renew 0 = .ok (.aload_n 0, 1) := by decide +kernel
theorem dX4_renew_1 : decode cX4_renew 1 = .ok (.iload_n 1, 1) := by decide +kernel
theorem dX4_renew_2 : decode cX4_renew 2 = .ok (.putfield 19, 3) := by decide +kernel
theorem dX4_renew_5 : decode cX4_renew 5 = .ok (.aload_n 0, 1) := by decide +kernel
theorem dX4_renew_6 : decode cX4_renew 6 = .ok (.iload_n 2, 1) := by decide +kernel
theorem dX4_renew_7 : decode cX4_renew 7 = .ok (.putfield 15, 3) := by decide +kernel
theorem dX4_renew_10 : decode cX4_renew 10 = .ok (.aload_n 0, 1) := by decide +kernel
theorem dX4_renew_11 : decode cX4_renew 11 = .ok (.getfield 9, 3) := by decide +kernel
theorem dX4_renew_14 : decode cX4_renew 14 = .ok (.iconst 0, 1) := by decide +kernel
theorem dX4_renew_15 : decode cX4_renew 15 = .ok (.invokestatic 22, 3) := by decide +kernel
theorem dX4_renew_18 : decode cX4_renew 18 = .ok (.return_, 1) := by decide +kernel
theorem dX4_put_0 : decode cX4_put 0 = .ok (.aload_n 0, 1) := by decide +kernel
theorem dX4_put_1 : decode cX4_put 1 = .ok (.getfield 9, 3) := by decide +kernel
theorem dX4_put_4 : decode cX4_put 4 = .ok (.iload_n 1, 1) := by decide +kernel
theorem dX4_put_5 : decode cX4_put 5 = .ok (.aload_n 0, 1) := by decide +kernel
theorem dX4_put_6 : decode cX4_put 6 = .ok (.getfield 19, 3) := by decide +kernel
theorem dX4_put_9 : decode cX4_put 9 = .ok (.ifCond .ne 8, 3) := by decide +kernel
theorem dX4_put_12 : decode cX4_put 12 = .ok (.iload_n 2, 1) := by decide +kernel
theorem dX4_put_13 : decode cX4_put 13 = .ok (.i2b, 1) := by decide +kernel
theorem dX4_put_14 : decode cX4_put 14 = .ok (.goto 17, 3) := by decide +kernel
theorem dX4_put_17 : decode cX4_put 17 = .ok (.aload_n 0, 1) := by decide +kernel
theorem dX4_put_18 : decode cX4_put 18 = .ok (.getfield 19, 3) := by decide +kernel
theorem dX4_put_21 : decode cX4_put 21 = .ok (.iconst 1, 1) := by decide +kernel
theorem dX4_put_22 : decode cX4_put 22 = .ok (.if_icmp .ne 8, 3) := by decide +kernel
theorem dX4_put_25 : decode cX4_put 25 = .ok (.iload_n 2, 1) := by decide +kernel
theorem dX4_put_26 : decode cX4_put 26 = .ok (.i2s, 1) := by decide +kernel
theorem dX4_put_27 : decode cX4_put 27 = .ok (.goto 4, 3) := by decide +kernel
theorem dX4_put_30 : decode cX4_put 30 = .ok (.iload_n 2, 1) := by decide +kernel
theorem dX4_put_31 : decode cX4_put 31 = .ok (.iastore, 1) := by decide +kernel
theorem dX4_put_32 : decode cX4_put 32 = .ok (.return_, 1) := by decide +kernel
theorem dX4_faultAt_0 : decode cX4_faultAt 0 = .ok (.aload_n 0, 1) := by decide +kernel
theorem dX4_faultAt_1 : decode cX4_faultAt 1 = .ok (.invokevirtual 28, 3) := by decide +kernel
theorem dX4_faultAt_4 : decode cX4_faultAt 4 = .ok (.ifCond .eq 5, 3) := by decide +kernel
theorem dX4_faultAt_7 : decode cX4_faultAt 7 = .ok (.iconst 1, 1) := by decide +kernel
theorem dX4_faultAt_8 : decode cX4_faultAt 8 = .ok (.ireturn, 1) := by decide +kernel
theorem dX4_faultAt_9 : decode cX4_faultAt 9 = .ok (.iload_n 1, 1) := by decide +kernel
theorem dX4_faultAt_10 : decode cX4_faultAt 10 = .ok (.iconst 0, 1) := by decide +kernel
theorem dX4_faultAt_11 : decode cX4_faultAt 11 = .ok (.aload_n 0, 1) := by decide +kernel
theorem dX4_faultAt_12 : decode cX4_faultAt 12 = .ok (.getfield 15, 3) := by decide +kernel
theorem dX4_faultAt_15 : decode cX4_faultAt 15 = .ok (.iconst 1, 1) := by decide +kernel
theorem dX4_faultAt_16 : decode cX4_faultAt 16 = .ok (.isub, 1) := by decide +kernel
theorem dX4_faultAt_17 : decode cX4_faultAt 17 = .ok (.invokestatic 32, 3) := by decide +kernel
theorem dX4_faultAt_20 : decode cX4_faultAt 20 = .ok (.ifCond .eq 7, 3) := by decide +kernel
theorem dX4_faultAt_23 : decode cX4_faultAt 23 = .ok (.iconst 0, 1) := by decide +kernel
theorem dX4_faultAt_24 : decode cX4_faultAt 24 = .ok (.goto 4, 3) := by decide +kernel
theorem dX4_faultAt_27 : decode cX4_faultAt 27 = .ok (.iconst 2, 1) := by decide +kernel
theorem dX4_faultAt_28 : decode cX4_faultAt 28 = .ok (.ireturn, 1) := by decide +kernel
theorem dX4_faultOfYear_0 : decode cX4_faultOfYear 0 = .ok (.aload_n 0, 1) := by decide +kernel
theorem dX4_faultOfYear_1 : decode cX4_faultOfYear 1 = .ok (.invokevirtual 28, 3) := by decide +kernel
theorem dX4_faultOfYear_4 : decode cX4_faultOfYear 4 = .ok (.ifCond .ne 13, 3) := by decide +kernel
theorem dX4_faultOfYear_7 : decode cX4_faultOfYear 7 = .ok (.aload_n 0, 1) := by decide +kernel
theorem dX4_faultOfYear_8 : decode cX4_faultOfYear 8 = .ok (.getfield 19, 3) := by decide +kernel
theorem dX4_faultOfYear_11 : decode cX4_faultOfYear 11 = .ok (.iload_n 1, 1) := by decide +kernel
theorem dX4_faultOfYear_12 : decode cX4_faultOfYear 12 = .ok (.if_icmp .eq 5, 3) := by decide +kernel
theorem dX4_faultOfYear_15 : decode cX4_faultOfYear 15 = .ok (.iconst 3, 1) := by decide +kernel
theorem dX4_faultOfYear_16 : decode cX4_faultOfYear 16 = .ok (.ireturn, 1) := by decide +kernel
theorem dX4_faultOfYear_17 : decode cX4_faultOfYear 17 = .ok (.aload_n 0, 1) := by decide +kernel
theorem dX4_faultOfYear_18 : decode cX4_faultOfYear 18 = .ok (.iload_n 2, 1) := by decide +kernel
theorem dX4_faultOfYear_19 : decode cX4_faultOfYear 19 = .ok (.invokevirtual 36, 3) := by decide +kernel
theorem dX4_faultOfYear_22 : decode cX4_faultOfYear 22 = .ok (.istore_n 3, 1) := by decide +kernel
theorem dX4_faultOfYear_23 : decode cX4_faultOfYear 23 = .ok (.iload_n 3, 1) := by decide +kernel
theorem dX4_faultOfYear_24 : decode cX4_faultOfYear 24 = .ok (.ifCond .eq 7, 3) := by decide +kernel
theorem dX4_faultOfYear_27 : decode cX4_faultOfYear 27 = .ok (.iload_n 3, 1) := by decide +kernel
theorem dX4_faultOfYear_28 : decode cX4_faultOfYear 28 = .ok (.goto 10, 3) := by decide +kernel
theorem dX4_faultOfYear_31 : decode cX4_faultOfYear 31 = .ok (.aload_n 0, 1) := by decide +kernel
theorem dX4_faultOfYear_32 : decode cX4_faultOfYear 32 = .ok (.iload_n 2, 1) := by decide +kernel
theorem dX4_faultOfYear_33 : decode cX4_faultOfYear 33 = .ok (.iconst 1, 1) := by decide +kernel
theorem dX4_faultOfYear_34 : decode cX4_faultOfYear 34 = .ok (.iadd, 1) := by decide +kernel
theorem dX4_faultOfYear_35 : decode cX4_faultOfYear 35 = .ok (.invokevirtual 36, 3) := by decide +kernel
theorem dX4_faultOfYear_38 : decode cX4_faultOfYear 38 = .ok (.ireturn, 1) := by decide +kernel
theorem dJ6_bitCount_0f7a4_0 : decode cJ6_bitCount_0f7a4 0 = .ok (.iload_n 0, 1) := by decide +kernel
theorem dJ6_bitCount_0f7a4_1 : decode cJ6_bitCount_0f7a4 1 = .ok (.iload_n 0, 1) := by decide +kernel
theorem dJ6_bitCount_0f7a4_2 : decode cJ6_bitCount_0f7a4 2 = .ok (.iconst 1, 1) := by decide +kernel
theorem dJ6_bitCount_0f7a4_3 : decode cJ6_bitCount_0f7a4 3 = .ok (.iushr, 1) := by decide +kernel
theorem dJ6_bitCount_0f7a4_4 : decode cJ6_bitCount_0f7a4 4 = .ok (.ldc_w 265, 3) := by decide +kernel
theorem dJ6_bitCount_0f7a4_7 : decode cJ6_bitCount_0f7a4 7 = .ok (.iand, 1) := by decide +kernel
theorem dJ6_bitCount_0f7a4_8 : decode cJ6_bitCount_0f7a4 8 = .ok (.isub, 1) := by decide +kernel
theorem dJ6_bitCount_0f7a4_9 : decode cJ6_bitCount_0f7a4 9 = .ok (.istore_n 0, 1) := by decide +kernel
theorem dJ6_bitCount_0f7a4_10 : decode cJ6_bitCount_0f7a4 10 = .ok (.iload_n 0, 1) := by decide +kernel
theorem dJ6_bitCount_0f7a4_11 : decode cJ6_bitCount_0f7a4 11 = .ok (.ldc_w 266, 3) := by decide +kernel
theorem dJ6_bitCount_0f7a4_14 : decode cJ6_bitCount_0f7a4 14 = .ok (.iand, 1) := by decide +kernel
theorem dJ6_bitCount_0f7a4_15 : decode cJ6_bitCount_0f7a4 15 = .ok (.iload_n 0, 1) := by decide +kernel
theorem dJ6_bitCount_0f7a4_16 : decode cJ6_bitCount_0f7a4 16 = .ok (.iconst 2, 1) := by decide +kernel
theorem dJ6_bitCount_0f7a4_17 : decode cJ6_bitCount_0f7a4 17 = .ok (.iushr, 1) := by decide +kernel
theorem dJ6_bitCount_0f7a4_18 : decode cJ6_bitCount_0f7a4 18 = .ok (.ldc_w 266, 3) := by decide +kernel
theorem dJ6_bitCount_0f7a4_21 : decode cJ6_bitCount_0f7a4 21 = .ok (.iand, 1) := by decide +kernel
theorem dJ6_bitCount_0f7a4_22 : decode cJ6_bitCount_0f7a4 22 = .ok (.iadd, 1) := by decide +kernel
theorem dJ6_bitCount_0f7a4_23 : decode cJ6_bitCount_0f7a4 23 = .ok (.istore_n 0, 1) := by decide +kernel
theorem dJ6_bitCount_0f7a4_24 : decode cJ6_bitCount_0f7a4 24 = .ok (.iload_n 0, 1) := by decide +kernel
theorem dJ6_bitCount_0f7a4_25 : decode cJ6_bitCount_0f7a4 25 = .ok (.iload_n 0, 1) := by decide +kernel
theorem dJ6_bitCount_0f7a4_26 : decode cJ6_bitCount_0f7a4 26 = .ok (.iconst 4, 1) := by decide +kernel
theorem dJ6_bitCount_0f7a4_27 : decode cJ6_bitCount_0f7a4 27 = .ok (.iushr, 1) := by decide +kernel
theorem dJ6_bitCount_0f7a4_28 : decode cJ6_bitCount_0f7a4 28 = .ok (.iadd, 1) := by decide +kernel
theorem dJ6_bitCount_0f7a4_29 : decode cJ6_bitCount_0f7a4 29 = .ok (.ldc_w 267, 3) := by decide +kernel
theorem dJ6_bitCount_0f7a4_32 : decode cJ6_bitCount_0f7a4 32 = .ok (.iand, 1) := by decide +kernel
theorem dJ6_bitCount_0f7a4_33 : decode cJ6_bitCount_0f7a4 33 = .ok (.istore_n 0, 1) := by decide +kernel
theorem dJ6_bitCount_0f7a4_34 : decode cJ6_bitCount_0f7a4 34 = .ok (.iload_n 0, 1) := by decide +kernel
theorem dJ6_bitCount_0f7a4_35 : decode cJ6_bitCount_0f7a4 35 = .ok (.iload_n 0, 1) := by decide +kernel
theorem dJ6_bitCount_0f7a4_36 : decode cJ6_bitCount_0f7a4 36 = .ok (.bipush 8, 2) := by decide +kernel
theorem dJ6_bitCount_0f7a4_38 : decode cJ6_bitCount_0f7a4 38 = .ok (.iushr, 1) := by decide +kernel
theorem dJ6_bitCount_0f7a4_39 : decode cJ6_bitCount_0f7a4 39 = .ok (.iadd, 1) := by decide +kernel
theorem dJ6_bitCount_0f7a4_40 : decode cJ6_bitCount_0f7a4 40 = .ok (.istore_n 0, 1) := by decide +kernel
theorem dJ6_bitCount_0f7a4_41 : decode cJ6_bitCount_0f7a4 41 = .ok (.iload_n 0, 1) := by decide +kernel
theorem dJ6_bitCount_0f7a4_42 : decode cJ6_bitCount_0f7a4 42 = .ok (.iload_n 0, 1) := by decide +kernel
theorem dJ6_bitCount_0f7a4_43 : decode cJ6_bitCount_0f7a4 43 = .ok (.bipush 16, 2) := by decide +kernel
theorem dJ6_bitCount_0f7a4_45 : decode cJ6_bitCount_0f7a4 45 = .ok (.iushr, 1) := by decide +kernel
theorem dJ6_bitCount_0f7a4_46 : decode cJ6_bitCount_0f7a4 46 = .ok (.iadd, 1) := by decide +kernel
theorem dJ6_bitCount_0f7a4_47 : decode cJ6_bitCount_0f7a4 47 = .ok (.istore_n 0, 1) := by decide +kernel
theorem dJ6_bitCount_0f7a4_48 : decode cJ6_bitCount_0f7a4 48 = .ok (.iload_n 0, 1) := by decide +kernel
theorem dJ6_bitCount_0f7a4_49 : decode cJ6_bitCount_0f7a4 49 = .ok (.bipush 63, 2) := by decide +kernel
theorem dJ6_bitCount_0f7a4_51 : decode cJ6_bitCount_0f7a4 51 = .ok (.iand, 1) := by decide +kernel
theorem dJ6_bitCount_0f7a4_52 : decode cJ6_bitCount_0f7a4 52 = .ok (.ireturn, 1) := by decide +kernel
theorem dJ9_abs_0f7a4_0 : decode cJ9_abs_0f7a4 0 = .ok (.iload_n 0, 1) := by decide +kernel
theorem dJ9_abs_0f7a4_1 : decode cJ9_abs_0f7a4 1 = .ok (.ifCond .ge 8, 3) := by decide +kernel
theorem dJ9_abs_0f7a4_4 : decode cJ9_abs_0f7a4 4 = .ok (.iload_n 0, 1) := by decide +kernel
theorem dJ9_abs_0f7a4_5 : decode cJ9_abs_0f7a4 5 = .ok (.ineg, 1) := by decide +kernel
theorem dJ9_abs_0f7a4_6 : decode cJ9_abs_0f7a4 6 = .ok (.goto 4, 3) := by decide +kernel
theorem dJ9_abs_0f7a4_9 : decode cJ9_abs_0f7a4 9 = .ok (.iload_n 0, 1) := by decide +kernel
theorem dJ9_abs_0f7a4_10 : decode cJ9_abs_0f7a4 10 = .ok (.ireturn, 1) := by decide +kernel
theorem dJ9_max_7cf53_0 : decode cJ9_max_7cf53 0 = .ok (.iload_n 0, 1) := by decide +kernel
theorem dJ9_max_7cf53_1 : decode cJ9_max_7cf53 1 = .ok (.iload_n 1, 1) := by decide +kernel
theorem dJ9_max_7cf53_2 : decode cJ9_max_7cf53 2 = .ok (.if_icmp .lt 7, 3) := by decide +kernel
theorem dJ9_max_7cf53_5 : decode cJ9_max_7cf53 5 = .ok (.iload_n 0, 1) := by decide +kernel
theorem dJ9_max_7cf53_6 : decode cJ9_max_7cf53 6 = .ok (.goto 4, 3) := by decide +kernel
theorem dJ9_max_7cf53_9 : decode cJ9_max_7cf53 9 = .ok (.iload_n 1, 1) := by decide +kernel
theorem dJ9_max_7cf53_10 : decode cJ9_max_7cf53 10 = .ok (.ireturn, 1) := by decide +kernel
theorem dJ9_min_7cf53_0 : decode cJ9_min_7cf53 0 = .ok (.iload_n 0, 1) := by decide +kernel
theorem dJ9_min_7cf53_1 : decode cJ9_min_7cf53 1 = .ok (.iload_n 1, 1) := by decide +kernel
theorem dJ9_min_7cf53_2 : decode cJ9_min_7cf53 2 = .ok (.if_icmp .gt 7, 3) := by decide +kernel
theorem dJ9_min_7cf53_5 : decode cJ9_min_7cf53 5 = .ok (.iload_n 0, 1) := by decide +kernel
theorem dJ9_min_7cf53_6 : decode cJ9_min_7cf53 6 = .ok (.goto 4, 3) := by decide +kernel
theorem dJ9_min_7cf53_9 : decode cJ9_min_7cf53 9 = .ok (.iload_n 1, 1) := by decide +kernel
theorem dJ9_min_7cf53_10 : decode cJ9_min_7cf53 10 = .ok (.ireturn, 1) := by decide +kernel
theorem dJ0_length_8abf5_0 : decode cJ0_length_8abf5 0 = .ok (.aload_n 0, 1) := by decide +kernel
theorem dJ0_length_8abf5_1 : decode cJ0_length_8abf5 1 = .ok (.getfield 9, 3) := by decide +kernel
theorem dJ0_length_8abf5_4 : decode cJ0_length_8abf5 4 = .ok (.arraylength, 1) := by decide +kernel
theorem dJ0_length_8abf5_5 : decode cJ0_length_8abf5 5 = .ok (.aload_n 0, 1) := by decide +kernel
theorem dJ0_length_8abf5_6 : decode cJ0_length_8abf5 6 = .ok (.invokevirtual 335, 3) := by decide +kernel
theorem dJ0_length_8abf5_9 : decode cJ0_length_8abf5 9 = .ok (.ishr, 1) := by decide +kernel
theorem dJ0_length_8abf5_10 : decode cJ0_length_8abf5 10 = .ok (.ireturn, 1) := by decide +kernel
theorem dJ0_charAt_5068e_0 : decode cJ0_charAt_5068e 0 = .ok (.aload_n 0, 1) := by decide +kernel
theorem dJ0_charAt_5068e_1 : decode cJ0_charAt_5068e 1 = .ok (.invokevirtual 492, 3) := by decide +kernel
theorem dJ0_charAt_5068e_4 : decode cJ0_charAt_5068e 4 = .ok (.ifCond .eq 12, 3) := by decide +kernel
theorem dJ0_charAt_5068e_7 : decode cJ0_charAt_5068e 7 = .ok (.aload_n 0, 1) := by decide +kernel
theorem dJ0_charAt_5068e_8 : decode cJ0_charAt_5068e 8 = .ok (.getfield 9, 3) := by decide +kernel
theorem dJ0_charAt_5068e_11 : decode cJ0_charAt_5068e 11 = .ok (.iload_n 1, 1) := by decide +kernel
theorem dJ0_charAt_5068e_12 : decode cJ0_charAt_5068e 12 = .ok (.invokestatic 495, 3) := by decide +kernel
theorem dJ0_charAt_5068e_15 : decode cJ0_charAt_5068e 15 = .ok (.ireturn, 1) := by decide +kernel
theorem dJ0_charAt_5068e_16 : decode cJ0_charAt_5068e 16 = .ok (.aload_n 0, 1) := by decide +kernel
theorem dJ0_charAt_5068e_17 : decode cJ0_charAt_5068e 17 = .ok (.getfield 9, 3) := by decide +kernel
theorem dJ0_charAt_5068e_20 : decode cJ0_charAt_5068e 20 = .ok (.iload_n 1, 1) := by decide +kernel
theorem dJ0_charAt_5068e_21 : decode cJ0_charAt_5068e 21 = .ok (.invokestatic 498, 3) := by decide +kernel
theorem dJ0_charAt_5068e_24 : decode cJ0_charAt_5068e 24 = .ok (.ireturn, 1) := by decide +kernel
theorem dJ0_coder_7d493_0 : decode cJ0_coder_7d493 0 = .ok (.getstatic 38, 3) := by decide +kernel
theorem dJ0_coder_7d493_3 : decode cJ0_coder_7d493 3 = .ok (.ifCond .eq 10, 3) := by decide +kernel
theorem dJ0_coder_7d493_6 : decode cJ0_coder_7d493 6 = .ok (.aload_n 0, 1) := by decide +kernel
theorem dJ0_coder_7d493_7 : decode cJ0_coder_7d493 7 = .ok (.getfield 15, 3) := by decide +kernel
theorem dJ0_coder_7d493_10 : decode cJ0_coder_7d493 10 = .ok (.goto 4, 3) := by decide +kernel
theorem dJ0_coder_7d493_13 : decode cJ0_coder_7d493 13 = .ok (.iconst 1, 1) := by decide +kernel
theorem dJ0_coder_7d493_14 : decode cJ0_coder_7d493 14 = .ok (.ireturn, 1) := by decide +kernel
theorem dJ0_isLatin1_aae02_0 : decode cJ0_isLatin1_aae02 0 = .ok (.getstatic 38, 3) := by decide +kernel
theorem dJ0_isLatin1_aae02_3 : decode cJ0_isLatin1_aae02 3 = .ok (.ifCond .eq 14, 3) := by decide +kernel
theorem dJ0_isLatin1_aae02_6 : decode cJ0_isLatin1_aae02 6 = .ok (.aload_n 0, 1) := by decide +kernel
theorem dJ0_isLatin1_aae02_7 : decode cJ0_isLatin1_aae02 7 = .ok (.getfield 15, 3) := by decide +kernel
theorem dJ0_isLatin1_aae02_10 : decode cJ0_isLatin1_aae02 10 = .ok (.ifCond .ne 7, 3) := by decide +kernel
theorem dJ0_isLatin1_aae02_13 : decode cJ0_isLatin1_aae02 13 = .ok (.iconst 1, 1) := by decide +kernel
theorem dJ0_isLatin1_aae02_14 : decode cJ0_isLatin1_aae02 14 = .ok (.goto 4, 3) := by decide +kernel
theorem dJ0_isLatin1_aae02_17 : decode cJ0_isLatin1_aae02 17 = .ok (.iconst 0, 1) := by decide +kernel
theorem dJ0_isLatin1_aae02_18 : decode cJ0_isLatin1_aae02 18 = .ok (.ireturn, 1) := by decide +kernel
theorem dJ0_checkIndex_df160_0 : decode cJ0_checkIndex_df160 0 = .ok (.iload_n 0, 1) := by decide +kernel
theorem dJ0_checkIndex_df160_1 : decode cJ0_checkIndex_df160 1 = .ok (.iload_n 1, 1) := by decide +kernel
theorem dJ0_checkIndex_df160_2 : decode cJ0_checkIndex_df160 2 = .ok (.getstatic 1053, 3) := by decide +kernel
theorem dJ0_checkIndex_df160_5 : decode cJ0_checkIndex_df160 5 = .ok (.invokestatic 1059, 3) := by decide +kernel
theorem dJ0_checkIndex_df160_8 : decode cJ0_checkIndex_df160 8 = .ok (.pop, 1) := by decide +kernel
theorem dJ0_checkIndex_df160_9 : decode cJ0_checkIndex_df160 9 = .ok (.return_, 1) := by decide +kernel
theorem dJ1_charAt_3b067_0 : decode cJ1_charAt_3b067 0 = .ok (.iload_n 1, 1) := by decide +kernel
theorem dJ1_charAt_3b067_1 : decode cJ1_charAt_3b067 1 = .ok (.aload_n 0, 1) := by decide +kernel
theorem dJ1_charAt_3b067_2 : decode cJ1_charAt_3b067 2 = .ok (.arraylength, 1) := by decide +kernel
theorem dJ1_charAt_3b067_3 : decode cJ1_charAt_3b067 3 = .ok (.invokestatic 9, 3) := by decide +kernel
theorem dJ1_charAt_3b067_6 : decode cJ1_charAt_3b067 6 = .ok (.aload_n 0, 1) := by decide +kernel
theorem dJ1_charAt_3b067_7 : decode cJ1_charAt_3b067 7 = .ok (.iload_n 1, 1) := by decide +kernel
theorem dJ1_charAt_3b067_8 : decode cJ1_charAt_3b067 8 = .ok (.baload, 1) := by decide +kernel
theorem dJ1_charAt_3b067_9 : decode cJ1_charAt_3b067 9 = .ok (.sipush 255, 3) := by decide +kernel
theorem dJ1_charAt_3b067_12 : decode cJ1_charAt_3b067 12 = .ok (.iand, 1) := by decide +kernel
theorem dJ1_charAt_3b067_13 : decode cJ1_charAt_3b067 13 = .ok (.i2c, 1) := by decide +kernel
theorem dJ1_charAt_3b067_14 : decode cJ1_charAt_3b067 14 = .ok (.ireturn, 1) := by decide +kernel
theorem dJ7_fill_53178_0 : decode cJ7_fill_53178 0 = .ok (.iconst 0, 1) := by decide +kernel
theorem dJ7_fill_53178_1 : decode cJ7_fill_53178 1 = .ok (.istore_n 2, 1) := by decide +kernel
theorem dJ7_fill_53178_2 : decode cJ7_fill_53178 2 = .ok (.aload_n 0, 1) := by decide +kernel
theorem dJ7_fill_53178_3 : decode cJ7_fill_53178 3 = .ok (.arraylength, 1) := by decide +kernel
theorem dJ7_fill_53178_4 : decode cJ7_fill_53178 4 = .ok (.istore_n 3, 1) := by decide +kernel
theorem dJ7_fill_53178_5 : decode cJ7_fill_53178 5 = .ok (.iload_n 2, 1) := by decide +kernel
theorem dJ7_fill_53178_6 : decode cJ7_fill_53178 6 = .ok (.iload_n 3, 1) := by decide +kernel
theorem dJ7_fill_53178_7 : decode cJ7_fill_53178 7 = .ok (.if_icmp .ge 13, 3) := by decide +kernel
theorem dJ7_fill_53178_10 : decode cJ7_fill_53178 10 = .ok (.aload_n 0, 1) := by decide +kernel
theorem dJ7_fill_53178_11 : decode cJ7_fill_53178 11 = .ok (.iload_n 2, 1) := by decide +kernel
theorem dJ7_fill_53178_12 : decode cJ7_fill_53178 12 = .ok (.iload_n 1, 1) := by decide +kernel
theorem dJ7_fill_53178_13 : decode cJ7_fill_53178 13 = .ok (.iastore, 1) := by decide +kernel
theorem dJ7_fill_53178_14 : decode cJ7_fill_53178 14 = .ok (.iinc 2 1, 3) := by decide +kernel
theorem dJ7_fill_53178_17 : decode cJ7_fill_53178 17 = .ok (.goto (-12), 3) := by decide +kernel
theorem dJ7_fill_53178_20 : decode cJ7_fill_53178 20 = .ok (.return_, 1) := by decide +kernel
theorem dJ3_checkIndex_8e157_0 : decode cJ3_checkIndex_8e157 0 = .ok (.iload_n 0, 1) := by decide +kernel
theorem dJ3_checkIndex_8e157_1 : decode cJ3_checkIndex_8e157 1 = .ok (.ifCond .lt 8, 3) := by decide +kernel
theorem dJ3_checkIndex_8e157_4 : decode cJ3_checkIndex_8e157 4 = .ok (.iload_n 0, 1) := by decide +kernel
theorem dJ3_checkIndex_8e157_5 : decode cJ3_checkIndex_8e157 5 = .ok (.iload_n 1, 1) := by decide +kernel
theorem dJ3_checkIndex_8e157_6 : decode cJ3_checkIndex_8e157 6 = .ok (.if_icmp .lt 10, 3) := by decide +kernel
theorem dJ3_checkIndex_8e157_9 : decode cJ3_checkIndex_8e157 9 = .ok (.aload_n 2, 1) := by decide +kernel
theorem dJ3_checkIndex_8e157_10 : decode cJ3_checkIndex_8e157 10 = .ok (.iload_n 0, 1) := by decide +kernel
theorem dJ3_checkIndex_8e157_11 : decode cJ3_checkIndex_8e157 11 = .ok (.iload_n 1, 1) := by decide +kernel
theorem dJ3_checkIndex_8e157_12 : decode cJ3_checkIndex_8e157 12 = .ok (.invokestatic 95, 3) := by decide +kernel
theorem dJ3_checkIndex_8e157_15 : decode cJ3_checkIndex_8e157 15 = .ok (.athrow, 1) := by decide +kernel
theorem dJ3_checkIndex_8e157_16 : decode cJ3_checkIndex_8e157 16 = .ok (.iload_n 0, 1) := by decide +kernel
theorem dJ3_checkIndex_8e157_17 : decode cJ3_checkIndex_8e157 17 = .ok (.ireturn, 1) := by decide +kernel
