theorem dX10_init_0 : decode cX10_init 0 = .ok (.aload_n 0, 1) := by decide +kernel
theorem dX10_init_1 : decode cX10_init 1 = .ok (.invokespecial 1, 3) := by decide +kernel
theorem dX10_init_4 : decode cX10_init 4 = .ok (.aload_n 0, 1) := by decide +kernel
theorem dX10_init_5 : decode cX10_init 5 = .ok (.new 7, 3) := by decide +kernel
theorem dX10_init_8 : decode cX10_init 8 = .ok (.dup, 1) := by decide +kernel
theorem dX10_init_9 : decode cX10_init 9 = .ok (.invokespecial 9, 3) := by decide +kernel
theorem dX10_init_12 : decode cX10_init 12 = .ok (.putfield 10, 3) := by decide +kernel
theorem dX10_init_15 : decode cX10_init 15 = .ok (.aload_n 0, 1) := by decide +kernel
theorem dX10_init_16 : decode cX10_init 16 = .ok (.new 7, 3) := by decide +kernel
theorem dX10_init_19 : decode cX10_init 19 = .ok (.dup, 1) := by decide +kernel
theorem dX10_init_20 : decode cX10_init 20 = .ok (.invokespecial 9, 3) := by decide +kernel
theorem dX10_init_23 : decode cX10_init 23 = .ok (.putfield 16, 3) := by decide +kernel
theorem dX10_init_26 : decode cX10_init 26 = .ok (.aload_n 0, 1) := by decide +kernel
theorem dX10_init_27 : decode cX10_init 27 = .ok (.iconst 0, 1) := by decide +kernel
theorem dX10_init_28 : decode cX10_init 28 = .ok (.putfield 19, 3) := by decide +kernel
theorem dX10_init_31 : decode cX10_init 31 = .ok (.aload_n 0, 1) := by decide +kernel
theorem dX10_init_32 : decode cX10_init 32 = .ok (.new 23, 3) := by decide +kernel
theorem dX10_init_35 : decode cX10_init 35 = .ok (.dup, 1) := by decide +kernel
theorem dX10_init_36 : decode cX10_init 36 = .ok (.invokespecial 25, 3) := by decide +kernel
theorem dX10_init_39 : decode cX10_init 39 = .ok (.putfield 26, 3) := by decide +kernel
theorem dX10_init_42 : decode cX10_init 42 = .ok (.aload_n 0, 1) := by decide +kernel
theorem dX10_init_43 : decode cX10_init 43 = .ok (.new 30, 3) := by decide +kernel
theorem dX10_init_46 : decode cX10_init 46 = .ok (.dup, 1) := by decide +kernel
theorem dX10_init_47 : decode cX10_init 47 = .ok (.invokespecial 32, 3) := by decide +kernel
theorem dX10_init_50 : decode cX10_init 50 = .ok (.putfield 33, 3) := by decide +kernel
theorem dX10_init_53 : decode cX10_init 53 = .ok (.aload_n 0, 1) := by decide +kernel
theorem dX10_init_54 : decode cX10_init 54 = .ok (.bipush 30, 2) := by decide +kernel
theorem dX10_init_56 : decode cX10_init 56 = .ok (.newarray .int, 2) := by decide +kernel
theorem dX10_init_58 : decode cX10_init 58 = .ok (.putfield 37, 3) := by decide +kernel
theorem dX10_init_61 : decode cX10_init 61 = .ok (.aload_n 0, 1) := by decide +kernel
theorem dX10_init_62 : decode cX10_init 62 = .ok (.iconst 0, 1) := by decide +kernel
theorem dX10_init_63 : decode cX10_init 63 = .ok (.putfield 41, 3) := by decide +kernel
theorem dX10_init_66 : decode cX10_init 66 = .ok (.aload_n 0, 1) := by decide +kernel
theorem dX10_init_67 : decode cX10_init 67 = .ok (.iconst 2, 1) := by decide +kernel
theorem dX10_init_68 : decode cX10_init 68 = .ok (.bipush 24, 2) := by decide +kernel
theorem dX10_init_70 : decode cX10_init 70 = .ok (.multianewarray 45 2, 4) := by decide +kernel
theorem dX10_init_74 : decode cX10_init 74 = .ok (.putfield 47, 3) := by decide +kernel
theorem dX10_init_77 : decode cX10_init 77 = .ok (.aload_n 0, 1) := by decide +kernel
theorem dX10_init_78 : decode cX10_init 78 = .ok (.iconst 2, 1) := by decide +kernel
theorem dX10_init_79 : decode cX10_init 79 = .ok (.newarray .boolean, 2) := by decide +kernel
theorem dX10_init_81 : decode cX10_init 81 = .ok (.dup, 1) := by decide +kernel
theorem dX10_init_82 : decode cX10_init 82 = .ok (.iconst 0, 1) := by decide +kernel
theorem dX10_init_83 : decode cX10_init 83 = .ok (.iconst 1, 1) := by decide +kernel
theorem dX10_init_84 : decode cX10_init 84 = .ok (.bastore, 1) := by decide +kernel
theorem dX10_init_85 : decode cX10_init 85 = .ok (.dup, 1) := by decide +kernel
theorem dX10_init_86 : decode cX10_init 86 = .ok (.iconst 1, 1) := by decide +kernel
theorem dX10_init_87 : decode cX10_init 87 = .ok (.iconst 1, 1) := by decide +kernel
theorem dX10_init_88 : decode cX10_init 88 = .ok (.bastore, 1) := by decide +kernel
theorem dX10_init_89 : decode cX10_init 89 = .ok (.putfield 50, 3) := by decide +kernel
theorem dX10_init_92 : decode cX10_init 92 = .ok (.aload_n 0, 1) := by decide +kernel
theorem dX10_init_93 : decode cX10_init 93 = .ok (.iconst 2, 1) := by decide +kernel
theorem dX10_init_94 : decode cX10_init 94 = .ok (.newarray .int, 2) := by decide +kernel
theorem dX10_init_96 : decode cX10_init 96 = .ok (.putfield 54, 3) := by decide +kernel
theorem dX10_init_99 : decode cX10_init 99 = .ok (.return_, 1) := by decide +kernel
theorem dX10_person_0 : decode cX10_person 0 = .ok (.iload_n 1, 1) := by decide +kernel
theorem dX10_person_1 : decode cX10_person 1 = .ok (.iconst 0, 1) := by decide +kernel
theorem dX10_person_2 : decode cX10_person 2 = .ok (.iconst 3, 1) := by decide +kernel
theorem dX10_person_3 : decode cX10_person 3 = .ok (.invokestatic 57, 3) := by decide +kernel
theorem dX10_person_6 : decode cX10_person 6 = .ok (.ifCond .ne 6, 3) := by decide +kernel
theorem dX10_person_9 : decode cX10_person 9 = .ok (.ldc 61, 2) := by decide +kernel
theorem dX10_person_11 : decode cX10_person 11 = .ok (.ireturn, 1) := by decide +kernel
theorem dX10_person_12 : decode cX10_person 12 = .ok (.aload_n 0, 1) := by decide +kernel
theorem dX10_person_13 : decode cX10_person 13 = .ok (.getfield 10, 3) := by decide +kernel
theorem dX10_person_16 : decode cX10_person 16 = .ok (.getfield 62, 3) := by decide +kernel
theorem dX10_person_19 : decode cX10_person 19 = .ok (.bipush 12, 2) := by decide +kernel
theorem dX10_person_21 : decode cX10_person 21 = .ok (.if_icmp .lt 6, 3) := by decide +kernel
theorem dX10_person_24 : decode cX10_person 24 = .ok (.ldc 65, 2) := by decide +kernel
theorem dX10_person_26 : decode cX10_person 26 = .ok (.ireturn, 1) := by decide +kernel
theorem dX10_person_27 : decode cX10_person 27 = .ok (.aload_n 0, 1) := by decide +kernel
theorem dX10_person_28 : decode cX10_person 28 = .ok (.getfield 10, 3) := by decide +kernel
theorem dX10_person_31 : decode cX10_person 31 = .ok (.getfield 66, 3) := by decide +kernel
theorem dX10_person_34 : decode cX10_person 34 = .ok (.aload_n 0, 1) := by decide +kernel
theorem dX10_person_35 : decode cX10_person 35 = .ok (.getfield 10, 3) := by decide +kernel
theorem dX10_person_38 : decode cX10_person 38 = .ok (.getfield 62, 3) := by decide +kernel
theorem dX10_person_41 : decode cX10_person 41 = .ok (.aaload, 1) := by decide +kernel
theorem dX10_person_42 : decode cX10_person 42 = .ok (.iload_n 1, 1) := by decide +kernel
theorem dX10_person_43 : decode cX10_person 43 = .ok (.invokevirtual 70, 3) := by decide +kernel
theorem dX10_person_46 : decode cX10_person 46 = .ok (.aload_n 0, 1) := by decide +kernel
theorem dX10_person_47 : decode cX10_person 47 = .ok (.getfield 10, 3) := by decide +kernel
theorem dX10_person_50 : decode cX10_person 50 = .ok (.dup, 1) := by decide +kernel
theorem dX10_person_51 : decode cX10_person 51 = .ok (.getfield 62, 3) := by decide +kernel
theorem dX10_person_54 : decode cX10_person 54 = .ok (.iconst 1, 1) := by decide +kernel
theorem dX10_person_55 : decode cX10_person 55 = .ok (.iadd, 1) := by decide +kernel
theorem dX10_person_56 : decode cX10_person 56 = .ok (.putfield 62, 3) := by decide +kernel
theorem dX10_person_59 : decode cX10_person 59 = .ok (.aload_n 0, 1) := by decide +kernel
theorem dX10_person_60 : decode cX10_person 60 = .ok (.getfield 10, 3) := by decide +kernel
theorem dX10_person_63 : decode cX10_person 63 = .ok (.getfield 62, 3) := by decide +kernel
theorem dX10_person_66 : decode cX10_person 66 = .ok (.iconst 1, 1) := by decide +kernel
theorem dX10_person_67 : decode cX10_person 67 = .ok (.isub, 1) := by decide +kernel
theorem dX10_person_68 : decode cX10_person 68 = .ok (.ireturn, 1) := by decide +kernel
theorem dX10_is_0 : decode cX10_is 0 = .ok (.aload_n 0, 1) := by decide +kernel
theorem dX10_is_1 : decode cX10_is 1 = .ok (.getfield 10, 3) := by decide +kernel
theorem dX10_is_4 : decode cX10_is 4 = .ok (.iload_n 1, 1) := by decide +kernel
theorem dX10_is_5 : decode cX10_is 5 = .ok (.invokevirtual 76, 3) := by decide +kernel
theorem dX10_is_8 : decode cX10_is 8 = .ok (.ifCond .eq 12, 3) := by decide +kernel
theorem dX10_is_11 : decode cX10_is 11 = .ok (.iload_n 2, 1) := by decide +kernel
theorem dX10_is_12 : decode cX10_is 12 = .ok (.iconst 0, 1) := by decide +kernel
theorem dX10_is_13 : decode cX10_is 13 = .ok (.iconst 3, 1) := by decide +kernel
theorem dX10_is_14 : decode cX10_is 14 = .ok (.invokestatic 57, 3) := by decide +kernel
theorem dX10_is_17 : decode cX10_is 17 = .ok (.ifCond .ne 6, 3) := by decide +kernel
theorem dX10_is_20 : decode cX10_is 20 = .ok (.ldc 61, 2) := by decide +kernel
theorem dX10_is_22 : decode cX10_is 22 = .ok (.ireturn, 1) := by decide +kernel
theorem dX10_is_23 : decode cX10_is 23 = .ok (.aload_n 0, 1) := by decide +kernel
theorem dX10_is_24 : decode cX10_is 24 = .ok (.getfield 10, 3) := by decide +kernel
theorem dX10_is_27 : decode cX10_is 27 = .ok (.getfield 66, 3) := by decide +kernel
theorem dX10_is_30 : decode cX10_is 30 = .ok (.iload_n 1, 1) := by decide +kernel
theorem dX10_is_31 : decode cX10_is 31 = .ok (.aaload, 1) := by decide +kernel
theorem dX10_is_32 : decode cX10_is 32 = .ok (.iload_n 2, 1) := by decide +kernel
theorem dX10_is_33 : decode cX10_is 33 = .ok (.invokevirtual 80, 3) := by decide +kernel
theorem dX10_is_36 : decode cX10_is 36 = .ok (.invokestatic 83, 3) := by decide +kernel
theorem dX10_is_39 : decode cX10_is 39 = .ok (.ireturn, 1) := by decide +kernel
theorem dX10_couple_0 : decode cX10_couple 0 = .ok (.aload_n 0, 1) := by decide +kernel
theorem dX10_couple_1 : decode cX10_couple 1 = .ok (.getfield 10, 3) := by decide +kernel
theorem dX10_couple_4 : decode cX10_couple 4 = .ok (.iload_n 1, 1) := by decide +kernel
theorem dX10_couple_5 : decode cX10_couple 5 = .ok (.invokevirtual 76, 3) := by decide +kernel
theorem dX10_couple_8 : decode cX10_couple 8 = .ok (.ifCond .eq 19, 3) := by decide +kernel
theorem dX10_couple_11 : decode cX10_couple 11 = .ok (.aload_n 0, 1) := by decide +kernel
theorem dX10_couple_12 : decode cX10_couple 12 = .ok (.getfield 10, 3) := by decide +kernel
theorem dX10_couple_15 : decode cX10_couple 15 = .ok (.iload_n 2, 1) := by decide +kernel
theorem dX10_couple_16 : decode cX10_couple 16 = .ok (.invokevirtual 76, 3) := by decide +kernel
theorem dX10_couple_19 : decode cX10_couple 19 = .ok (.ifCond .eq 8, 3) := by decide +kernel
theorem dX10_couple_22 : decode cX10_couple 22 = .ok (.iload_n 1, 1) := by decide +kernel
theorem dX10_couple_23 : decode cX10_couple 23 = .ok (.iload_n 2, 1) := by decide +kernel
theorem dX10_couple_24 : decode cX10_couple 24 = .ok (.if_icmp .ne 6, 3) := by decide +kernel
theorem dX10_couple_27 : decode cX10_couple 27 = .ok (.ldc 61, 2) := by decide +kernel
theorem dX10_couple_29 : decode cX10_couple 29 = .ok (.ireturn, 1) := by decide +kernel
theorem dX10_couple_30 : decode cX10_couple 30 = .ok (.aload_n 0, 1) := by decide +kernel
theorem dX10_couple_31 : decode cX10_couple 31 = .ok (.getfield 10, 3) := by decide +kernel
theorem dX10_couple_34 : decode cX10_couple 34 = .ok (.getfield 66, 3) := by decide +kernel
theorem dX10_couple_37 : decode cX10_couple 37 = .ok (.iload_n 1, 1) := by decide +kernel
theorem dX10_couple_38 : decode cX10_couple 38 = .ok (.aaload, 1) := by decide +kernel
theorem dX10_couple_39 : decode cX10_couple 39 = .ok (.invokevirtual 87, 3) := by decide +kernel
theorem dX10_couple_42 : decode cX10_couple 42 = .ok (.ifCond .ne 18, 3) := by decide +kernel
theorem dX10_couple_45 : decode cX10_couple 45 = .ok (.aload_n 0, 1) := by decide +kernel
theorem dX10_couple_46 : decode cX10_couple 46 = .ok (.getfield 10, 3) := by decide +kernel
theorem dX10_couple_49 : decode cX10_couple 49 = .ok (.getfield 66, 3) := by decide +kernel
theorem dX10_couple_52 : decode cX10_couple 52 = .ok (.iload_n 2, 1) := by decide +kernel
theorem dX10_couple_53 : decode cX10_couple 53 = .ok (.aaload, 1) := by decide +kernel
theorem dX10_couple_54 : decode cX10_couple 54 = .ok (.invokevirtual 87, 3) := by decide +kernel
theorem dX10_couple_57 : decode cX10_couple 57 = .ok (.ifCond .eq 6, 3) := by decide +kernel
theorem dX10_couple_60 : decode cX10_couple 60 = .ok (.ldc 91, 2) := by decide +kernel
theorem dX10_couple_62 : decode cX10_couple 62 = .ok (.ireturn, 1) := by decide +kernel
theorem dX10_couple_63 : decode cX10_couple 63 = .ok (.aload_n 0, 1) := by decide +kernel
theorem dX10_couple_64 : decode cX10_couple 64 = .ok (.getfield 10, 3) := by decide +kernel
theorem dX10_couple_67 : decode cX10_couple 67 = .ok (.getfield 66, 3) := by decide +kernel
theorem dX10_couple_70 : decode cX10_couple 70 = .ok (.iload_n 1, 1) := by decide +kernel
theorem dX10_couple_71 : decode cX10_couple 71 = .ok (.aaload, 1) := by decide +kernel
theorem dX10_couple_72 : decode cX10_couple 72 = .ok (.iload_n 2, 1) := by decide +kernel
theorem dX10_couple_73 : decode cX10_couple 73 = .ok (.putfield 92, 3) := by decide +kernel
theorem dX10_couple_76 : decode cX10_couple 76 = .ok (.aload_n 0, 1) := by decide +kernel
theorem dX10_couple_77 : decode cX10_couple 77 = .ok (.getfield 10, 3) := by decide +kernel
theorem dX10_couple_80 : decode cX10_couple 80 = .ok (.getfield 66, 3) := by decide +kernel
theorem dX10_couple_83 : decode cX10_couple 83 = .ok (.iload_n 2, 1) := by decide +kernel
theorem dX10_couple_84 : decode cX10_couple 84 = .ok (.aaload, 1) := by decide +kernel
theorem dX10_couple_85 : decode cX10_couple 85 = .ok (.iload_n 1, 1) := by decide +kernel
theorem dX10_couple_86 : decode cX10_couple 86 = .ok (.putfield 92, 3) := by decide +kernel
theorem dX10_couple_89 : decode cX10_couple 89 = .ok (.iconst 1, 1) := by decide +kernel
theorem dX10_couple_90 : decode cX10_couple 90 = .ok (.ireturn, 1) := by decide +kernel
theorem dX10_part_0 : decode cX10_part 0 = .ok (.aload_n 0, 1) := by decide +kernel
theorem dX10_part_1 : decode cX10_part 1 = .ok (.getfield 10, 3) := by decide +kernel
theorem dX10_part_4 : decode cX10_part 4 = .ok (.iload_n 1, 1) := by decide +kernel
theorem dX10_part_5 : decode cX10_part 5 = .ok (.invokevirtual 76, 3) := by decide +kernel
theorem dX10_part_8 : decode cX10_part 8 = .ok (.ifCond .ne 6, 3) := by decide +kernel
theorem dX10_part_11 : decode cX10_part 11 = .ok (.ldc 61, 2) := by decide +kernel
theorem dX10_part_13 : decode cX10_part 13 = .ok (.ireturn, 1) := by decide +kernel
theorem dX10_part_14 : decode cX10_part 14 = .ok (.aload_n 0, 1) := by decide +kernel
theorem dX10_part_15 : decode cX10_part 15 = .ok (.getfield 10, 3) := by decide +kernel
theorem dX10_part_18 : decode cX10_part 18 = .ok (.getfield 66, 3) := by decide +kernel
theorem dX10_part_21 : decode cX10_part 21 = .ok (.iload_n 1, 1) := by decide +kernel
theorem dX10_part_22 : decode cX10_part 22 = .ok (.aaload, 1) := by decide +kernel
theorem dX10_part_23 : decode cX10_part 23 = .ok (.getfield 92, 3) := by decide +kernel
theorem dX10_part_26 : decode cX10_part 26 = .ok (.istore_n 2, 1) := by decide +kernel
theorem dX10_part_27 : decode cX10_part 27 = .ok (.aload_n 0, 1) := by decide +kernel
theorem dX10_part_28 : decode cX10_part 28 = .ok (.getfield 10, 3) := by decide +kernel
theorem dX10_part_31 : decode cX10_part 31 = .ok (.iload_n 2, 1) := by decide +kernel
theorem dX10_part_32 : decode cX10_part 32 = .ok (.invokevirtual 76, 3) := by decide +kernel
theorem dX10_part_35 : decode cX10_part 35 = .ok (.ifCond .ne 6, 3) := by decide +kernel
theorem dX10_part_38 : decode cX10_part 38 = .ok (.ldc 91, 2) := by decide +kernel
theorem dX10_part_40 : decode cX10_part 40 = .ok (.ireturn, 1) := by decide +kernel
theorem dX10_part_41 : decode cX10_part 41 = .ok (.aload_n 0, 1) := by decide +kernel
theorem dX10_part_42 : decode cX10_part 42 = .ok (.getfield 10, 3) := by decide +kernel
theorem dX10_part_45 : decode cX10_part 45 = .ok (.getfield 66, 3) := by decide +kernel
theorem dX10_part_48 : decode cX10_part 48 = .ok (.iload_n 1, 1) := by decide +kernel
theorem dX10_part_49 : decode cX10_part 49 = .ok (.aaload, 1) := by decide +kernel
theorem dX10_part_50 : decode cX10_part 50 = .ok (.iconst (-1), 1) := by decide +kernel
theorem dX10_part_51 : decode cX10_part 51 = .ok (.putfield 92, 3) := by decide +kernel
theorem dX10_part_54 : decode cX10_part 54 = .ok (.aload_n 0, 1) := by decide +kernel
theorem dX10_part_55 : decode cX10_part 55 = .ok (.getfield 10, 3) := by decide +kernel
theorem dX10_part_58 : decode cX10_part 58 = .ok (.getfield 66, 3) := by decide +kernel
theorem dX10_part_61 : decode cX10_part 61 = .ok (.iload_n 2, 1) := by decide +kernel
theorem dX10_part_62 : decode cX10_part 62 = .ok (.aaload, 1) := by decide +kernel
theorem dX10_part_63 : decode cX10_part 63 = .ok (.iconst (-1), 1) := by decide +kernel
theorem dX10_part_64 : decode cX10_part 64 = .ok (.putfield 92, 3) := by decide +kernel
theorem dX10_part_67 : decode cX10_part 67 = .ok (.iload_n 2, 1) := by decide +kernel
theorem dX10_part_68 : decode cX10_part 68 = .ok (.ireturn, 1) := by decide +kernel
theorem dX10_fact_0 : decode cX10_fact 0 = .ok (.aload_n 0, 1) := by decide +kernel
theorem dX10_fact_1 : decode cX10_fact 1 = .ok (.getfield 10, 3) := by decide +kernel
theorem dX10_fact_4 : decode cX10_fact 4 = .ok (.iload_n 1, 1) := by decide +kernel
theorem dX10_fact_5 : decode cX10_fact 5 = .ok (.invokevirtual 76, 3) := by decide +kernel
theorem dX10_fact_8 : decode cX10_fact 8 = .ok (.ifCond .eq 21, 3) := by decide +kernel
theorem dX10_fact_11 : decode cX10_fact 11 = .ok (.iload_n 2, 1) := by decide +kernel
theorem dX10_fact_12 : decode cX10_fact 12 = .ok (.iconst 0, 1) := by decide +kernel
theorem dX10_fact_13 : decode cX10_fact 13 = .ok (.iconst 3, 1) := by decide +kernel
theorem dX10_fact_14 : decode cX10_fact 14 = .ok (.invokestatic 57, 3) := by decide +kernel
theorem dX10_fact_17 : decode cX10_fact 17 = .ok (.ifCond .eq 12, 3) := by decide +kernel
theorem dX10_fact_20 : decode cX10_fact 20 = .ok (.iload_n 3, 1) := by decide +kernel
theorem dX10_fact_21 : decode cX10_fact 21 = .ok (.iconst 0, 1) := by decide +kernel
theorem dX10_fact_22 : decode cX10_fact 22 = .ok (.iconst 1, 1) := by decide +kernel
theorem dX10_fact_23 : decode cX10_fact 23 = .ok (.invokestatic 57, 3) := by decide +kernel
theorem dX10_fact_26 : decode cX10_fact 26 = .ok (.ifCond .ne 6, 3) := by decide +kernel
theorem dX10_fact_29 : decode cX10_fact 29 = .ok (.ldc 61, 2) := by decide +kernel
theorem dX10_fact_31 : decode cX10_fact 31 = .ok (.ireturn, 1) := by decide +kernel
theorem dX10_fact_32 : decode cX10_fact 32 = .ok (.iload_n 3, 1) := by decide +kernel
theorem dX10_fact_33 : decode cX10_fact 33 = .ok (.iconst 1, 1) := by decide +kernel
theorem dX10_fact_34 : decode cX10_fact 34 = .ok (.if_icmp .ne 16, 3) := by decide +kernel
theorem dX10_fact_37 : decode cX10_fact 37 = .ok (.iload_n 2, 1) := by decide +kernel
theorem dX10_fact_38 : decode cX10_fact 38 = .ok (.iconst 1, 1) := by decide +kernel
theorem dX10_fact_39 : decode cX10_fact 39 = .ok (.if_icmp .eq 8, 3) := by decide +kernel
theorem dX10_fact_42 : decode cX10_fact 42 = .ok (.iload_n 2, 1) := by decide +kernel
theorem dX10_fact_43 : decode cX10_fact 43 = .ok (.iconst 3, 1) := by decide +kernel
theorem dX10_fact_44 : decode cX10_fact 44 = .ok (.if_icmp .ne 6, 3) := by decide +kernel
theorem dX10_fact_47 : decode cX10_fact 47 = .ok (.ldc 61, 2) := by decide +kernel
theorem dX10_fact_49 : decode cX10_fact 49 = .ok (.ireturn, 1) := by decide +kernel
theorem dX10_fact_50 : decode cX10_fact 50 = .ok (.iload 4, 2) := by decide +kernel
theorem dX10_fact_52 : decode cX10_fact 52 = .ok (.iconst 0, 1) := by decide +kernel
theorem dX10_fact_53 : decode cX10_fact 53 = .ok (.iload_n 2, 1) := by decide +kernel
theorem dX10_fact_54 : decode cX10_fact 54 = .ok (.iconst 1, 1) := by decide +kernel
theorem dX10_fact_55 : decode cX10_fact 55 = .ok (.if_icmp .ne 8, 3) := by decide +kernel
theorem dX10_fact_58 : decode cX10_fact 58 = .ok (.bipush 9, 2) := by decide +kernel
theorem dX10_fact_60 : decode cX10_fact 60 = .ok (.goto 5, 3) := by decide +kernel
theorem dX10_fact_63 : decode cX10_fact 63 = .ok (.ldc 95, 2) := by decide +kernel
theorem dX10_fact_65 : decode cX10_fact 65 = .ok (.invokestatic 57, 3) := by decide +kernel
theorem dX10_fact_68 : decode cX10_fact 68 = .ok (.ifCond .eq 15, 3) := by decide +kernel
theorem dX10_fact_71 : decode cX10_fact 71 = .ok (.iload 5, 2) := by decide +kernel
theorem dX10_fact_73 : decode cX10_fact 73 = .ok (.iconst 0, 1) := by decide +kernel
theorem dX10_fact_74 : decode cX10_fact 74 = .ok (.sipush 3000, 3) := by decide +kernel
theorem dX10_fact_77 : decode cX10_fact 77 = .ok (.invokestatic 57, 3) := by decide +kernel
theorem dX10_fact_80 : decode cX10_fact 80 = .ok (.ifCond .ne 6, 3) := by decide +kernel
theorem dX10_fact_83 : decode cX10_fact 83 = .ok (.ldc 61, 2) := by decide +kernel
theorem dX10_fact_85 : decode cX10_fact 85 = .ok (.ireturn, 1) := by decide +kernel
theorem dX10_fact_86 : decode cX10_fact 86 = .ok (.aload_n 0, 1) := by decide +kernel
theorem dX10_fact_87 : decode cX10_fact 87 = .ok (.getfield 10, 3) := by decide +kernel
theorem dX10_fact_90 : decode cX10_fact 90 = .ok (.getfield 96, 3) := by decide +kernel
theorem dX10_fact_93 : decode cX10_fact 93 = .ok (.bipush 96, 2) := by decide +kernel
theorem dX10_fact_95 : decode cX10_fact 95 = .ok (.if_icmp .lt 6, 3) := by decide +kernel
theorem dX10_fact_98 : decode cX10_fact 98 = .ok (.ldc 65, 2) := by decide +kernel
theorem dX10_fact_100 : decode cX10_fact 100 = .ok (.ireturn, 1) := by decide +kernel
theorem dX10_fact_101 : decode cX10_fact 101 = .ok (.aload_n 0, 1) := by decide +kernel
theorem dX10_fact_102 : decode cX10_fact 102 = .ok (.getfield 10, 3) := by decide +kernel
theorem dX10_fact_105 : decode cX10_fact 105 = .ok (.getfield 99, 3) := by decide +kernel
theorem dX10_fact_108 : decode cX10_fact 108 = .ok (.aload_n 0, 1) := by decide +kernel
theorem dX10_fact_109 : decode cX10_fact 109 = .ok (.getfield 10, 3) := by decide +kernel
theorem dX10_fact_112 : decode cX10_fact 112 = .ok (.getfield 96, 3) := by decide +kernel
theorem dX10_fact_115 : decode cX10_fact 115 = .ok (.aaload, 1) := by decide +kernel
theorem dX10_fact_116 : decode cX10_fact 116 = .ok (.astore 6, 2) := by decide +kernel
theorem dX10_fact_118 : decode cX10_fact 118 = .ok (.aload 6, 2) := by decide +kernel
theorem dX10_fact_120 : decode cX10_fact 120 = .ok (.iload_n 1, 1) := by decide +kernel
theorem dX10_fact_121 : decode cX10_fact 121 = .ok (.iload_n 2, 1) := by decide +kernel
theorem dX10_fact_122 : decode cX10_fact 122 = .ok (.iload_n 3, 1) := by decide +kernel
theorem dX10_fact_123 : decode cX10_fact 123 = .ok (.iload 4, 2) := by decide +kernel
theorem dX10_fact_125 : decode cX10_fact 125 = .ok (.iload 5, 2) := by decide +kernel
theorem dX10_fact_127 : decode cX10_fact 127 = .ok (.invokevirtual 103, 3) := by decide +kernel
theorem dX10_fact_130 : decode cX10_fact 130 = .ok (.aload 6, 2) := by decide +kernel
theorem dX10_fact_132 : decode cX10_fact 132 = .ok (.aload_n 0, 1) := by decide +kernel
theorem dX10_fact_133 : decode cX10_fact 133 = .ok (.getfield 10, 3) := by decide +kernel
theorem dX10_fact_136 : decode cX10_fact 136 = .ok (.getfield 108, 3) := by decide +kernel
theorem dX10_fact_139 : decode cX10_fact 139 = .ok (.putfield 111, 3) := by decide +kernel
theorem dX10_fact_142 : decode cX10_fact 142 = .ok (.aload_n 0, 1) := by decide +kernel
theorem dX10_fact_143 : decode cX10_fact 143 = .ok (.getfield 10, 3) := by decide +kernel
theorem dX10_fact_146 : decode cX10_fact 146 = .ok (.dup, 1) := by decide +kernel
theorem dX10_fact_147 : decode cX10_fact 147 = .ok (.getfield 96, 3) := by decide +kernel
theorem dX10_fact_150 : decode cX10_fact 150 = .ok (.iconst 1, 1) := by decide +kernel
theorem dX10_fact_151 : decode cX10_fact 151 = .ok (.iadd, 1) := by decide +kernel
theorem dX10_fact_152 : decode cX10_fact 152 = .ok (.putfield 96, 3) := by decide +kernel
theorem dX10_fact_155 : decode cX10_fact 155 = .ok (.aload_n 0, 1) := by decide +kernel
theorem dX10_fact_156 : decode cX10_fact 156 = .ok (.getfield 10, 3) := by decide +kernel
theorem dX10_fact_159 : decode cX10_fact 159 = .ok (.getfield 96, 3) := by decide +kernel
theorem dX10_fact_162 : decode cX10_fact 162 = .ok (.ireturn, 1) := by decide +kernel
theorem dX10_known_0 : decode cX10_known 0 = .ok (.aload_n 0, 1) := by decide +kernel
theorem dX10_known_1 : decode cX10_known 1 = .ok (.getfield 10, 3) := by decide +kernel
theorem dX10_known_4 : decode cX10_known 4 = .ok (.iload_n 1, 1) := by decide +kernel
theorem dX10_known_5 : decode cX10_known 5 = .ok (.invokevirtual 76, 3) := by decide +kernel
theorem dX10_known_8 : decode cX10_known 8 = .ok (.ifCond .eq 12, 3) := by decide +kernel
theorem dX10_known_11 : decode cX10_known 11 = .ok (.iload_n 2, 1) := by decide +kernel
theorem dX10_known_12 : decode cX10_known 12 = .ok (.iconst 0, 1) := by decide +kernel
theorem dX10_known_13 : decode cX10_known 13 = .ok (.iconst 4, 1) := by decide +kernel
theorem dX10_known_14 : decode cX10_known 14 = .ok (.invokestatic 57, 3) := by decide +kernel
theorem dX10_known_17 : decode cX10_known 17 = .ok (.ifCond .ne 6, 3) := by decide +kernel
theorem dX10_known_20 : decode cX10_known 20 = .ok (.ldc 61, 2) := by decide +kernel
theorem dX10_known_22 : decode cX10_known 22 = .ok (.ireturn, 1) := by decide +kernel
theorem dX10_known_23 : decode cX10_known 23 = .ok (.iload_n 3, 1) := by decide +kernel
theorem dX10_known_24 : decode cX10_known 24 = .ok (.iconst 0, 1) := by decide +kernel
theorem dX10_known_25 : decode cX10_known 25 = .ok (.sipush 3000, 3) := by decide +kernel
theorem dX10_known_28 : decode cX10_known 28 = .ok (.invokestatic 57, 3) := by decide +kernel
theorem dX10_known_31 : decode cX10_known 31 = .ok (.ifCond .eq 19, 3) := by decide +kernel
theorem dX10_known_34 : decode cX10_known 34 = .ok (.iload 4, 2) := by decide +kernel
theorem dX10_known_36 : decode cX10_known 36 = .ok (.iconst 0, 1) := by decide +kernel
theorem dX10_known_37 : decode cX10_known 37 = .ok (.aload_n 0, 1) := by decide +kernel
theorem dX10_known_38 : decode cX10_known 38 = .ok (.getfield 10, 3) := by decide +kernel
theorem dX10_known_41 : decode cX10_known 41 = .ok (.getfield 108, 3) := by decide +kernel
theorem dX10_known_44 : decode cX10_known 44 = .ok (.invokestatic 57, 3) := by decide +kernel
theorem dX10_known_47 : decode cX10_known 47 = .ok (.ifCond .ne 6, 3) := by decide +kernel
theorem dX10_known_50 : decode cX10_known 50 = .ok (.ldc 61, 2) := by decide +kernel
theorem dX10_known_52 : decode cX10_known 52 = .ok (.ireturn, 1) := by decide +kernel
theorem dX10_known_53 : decode cX10_known 53 = .ok (.iload_n 2, 1) := by decide +kernel
theorem dX10_known_54 : decode cX10_known 54 = .ok (.iconst 4, 1) := by decide +kernel
theorem dX10_known_55 : decode cX10_known 55 = .ok (.if_icmp .ne 17, 3) := by decide +kernel
theorem dX10_known_58 : decode cX10_known 58 = .ok (.aload_n 0, 1) := by decide +kernel
theorem dX10_known_59 : decode cX10_known 59 = .ok (.getfield 10, 3) := by decide +kernel
theorem dX10_known_62 : decode cX10_known 62 = .ok (.iload_n 1, 1) := by decide +kernel
theorem dX10_known_63 : decode cX10_known 63 = .ok (.iload_n 3, 1) := by decide +kernel
theorem dX10_known_64 : decode cX10_known 64 = .ok (.iload 4, 2) := by decide +kernel
theorem dX10_known_66 : decode cX10_known 66 = .ok (.invokevirtual 114, 3) := by decide +kernel
theorem dX10_known_69 : decode cX10_known 69 = .ok (.goto 15, 3) := by decide +kernel
theorem dX10_known_72 : decode cX10_known 72 = .ok (.aload_n 0, 1) := by decide +kernel
theorem dX10_known_73 : decode cX10_known 73 = .ok (.getfield 10, 3) := by decide +kernel
theorem dX10_known_76 : decode cX10_known 76 = .ok (.iload_n 1, 1) := by decide +kernel
theorem dX10_known_77 : decode cX10_known 77 = .ok (.iload_n 2, 1) := by decide +kernel
theorem dX10_known_78 : decode cX10_known 78 = .ok (.iload_n 3, 1) := by decide +kernel
theorem dX10_known_79 : decode cX10_known 79 = .ok (.iload 4, 2) := by decide +kernel
theorem dX10_known_81 : decode cX10_known 81 = .ok (.invokevirtual 118, 3) := by decide +kernel
theorem dX10_known_84 : decode cX10_known 84 = .ok (.ireturn, 1) := by decide +kernel
theorem dX10_custody_0 : decode cX10_custody 0 = .ok (.aload_n 0, 1) := by decide +kernel
theorem dX10_custody_1 : decode cX10_custody 1 = .ok (.getfield 10, 3) := by decide +kernel
theorem dX10_custody_4 : decode cX10_custody 4 = .ok (.iload_n 1, 1) := by decide +kernel
theorem dX10_custody_5 : decode cX10_custody 5 = .ok (.invokevirtual 76, 3) := by decide +kernel
theorem dX10_custody_8 : decode cX10_custody 8 = .ok (.ifCond .eq 14, 3) := by decide +kernel
theorem dX10_custody_11 : decode cX10_custody 11 = .ok (.iload_n 2, 1) := by decide +kernel
theorem dX10_custody_12 : decode cX10_custody 12 = .ok (.iconst 1, 1) := by decide +kernel
theorem dX10_custody_13 : decode cX10_custody 13 = .ok (.sipush 999, 3) := by decide +kernel
theorem dX10_custody_16 : decode cX10_custody 16 = .ok (.invokestatic 57, 3) := by decide +kernel
theorem dX10_custody_19 : decode cX10_custody 19 = .ok (.ifCond .ne 6, 3) := by decide +kernel
theorem dX10_custody_22 : decode cX10_custody 22 = .ok (.ldc 61, 2) := by decide +kernel
theorem dX10_custody_24 : decode cX10_custody 24 = .ok (.ireturn, 1) := by decide +kernel
theorem dX10_custody_25 : decode cX10_custody 25 = .ok (.aload_n 0, 1) := by decide +kernel
theorem dX10_custody_26 : decode cX10_custody 26 = .ok (.getfield 10, 3) := by decide +kernel
theorem dX10_custody_29 : decode cX10_custody 29 = .ok (.getfield 66, 3) := by decide +kernel
theorem dX10_custody_32 : decode cX10_custody 32 = .ok (.iload_n 1, 1) := by decide +kernel
theorem dX10_custody_33 : decode cX10_custody 33 = .ok (.aaload, 1) := by decide +kernel
theorem dX10_custody_34 : decode cX10_custody 34 = .ok (.astore_n 3, 1) := by decide +kernel
theorem dX10_custody_35 : decode cX10_custody 35 = .ok (.aload_n 3, 1) := by decide +kernel
theorem dX10_custody_36 : decode cX10_custody 36 = .ok (.getfield 122, 3) := by decide +kernel
theorem dX10_custody_39 : decode cX10_custody 39 = .ok (.iload_n 2, 1) := by decide +kernel
theorem dX10_custody_40 : decode cX10_custody 40 = .ok (.iadd, 1) := by decide +kernel
theorem dX10_custody_41 : decode cX10_custody 41 = .ok (.sipush 9999, 3) := by decide +kernel
theorem dX10_custody_44 : decode cX10_custody 44 = .ok (.if_icmp .le 6, 3) := by decide +kernel
theorem dX10_custody_47 : decode cX10_custody 47 = .ok (.ldc 65, 2) := by decide +kernel
theorem dX10_custody_49 : decode cX10_custody 49 = .ok (.ireturn, 1) := by decide +kernel
theorem dX10_custody_50 : decode cX10_custody 50 = .ok (.aload_n 3, 1) := by decide +kernel
theorem dX10_custody_51 : decode cX10_custody 51 = .ok (.dup, 1) := by decide +kernel
theorem dX10_custody_52 : decode cX10_custody 52 = .ok (.getfield 122, 3) := by decide +kernel
theorem dX10_custody_55 : decode cX10_custody 55 = .ok (.iload_n 2, 1) := by decide +kernel
theorem dX10_custody_56 : decode cX10_custody 56 = .ok (.iadd, 1) := by decide +kernel
theorem dX10_custody_57 : decode cX10_custody 57 = .ok (.putfield 122, 3) := by decide +kernel
theorem dX10_custody_60 : decode cX10_custody 60 = .ok (.aload_n 3, 1) := by decide +kernel
theorem dX10_custody_61 : decode cX10_custody 61 = .ok (.getfield 122, 3) := by decide +kernel
theorem dX10_custody_64 : decode cX10_custody 64 = .ok (.ireturn, 1) := by decide +kernel
theorem dX10_days_0 : decode cX10_days 0 = .ok (.iload_n 1, 1) := by decide +kernel
theorem dX10_days_1 : decode cX10_days 1 = .ok (.iconst 1, 1) := by decide +kernel
theorem dX10_days_2 : decode cX10_days 2 = .ok (.bipush 100, 2) := by decide +kernel
theorem dX10_days_4 : decode cX10_days 4 = .ok (.invokestatic 57, 3) := by decide +kernel
theorem dX10_days_7 : decode cX10_days 7 = .ok (.ifCond .eq 18, 3) := by decide +kernel
theorem dX10_days_10 : decode cX10_days 10 = .ok (.aload_n 0, 1) := by decide +kernel
theorem dX10_days_11 : decode cX10_days 11 = .ok (.getfield 10, 3) := by decide +kernel
theorem dX10_days_14 : decode cX10_days 14 = .ok (.getfield 108, 3) := by decide +kernel
theorem dX10_days_17 : decode cX10_days 17 = .ok (.iload_n 1, 1) := by decide +kernel
theorem dX10_days_18 : decode cX10_days 18 = .ok (.iadd, 1) := by decide +kernel
theorem dX10_days_19 : decode cX10_days 19 = .ok (.sipush 3000, 3) := by decide +kernel
theorem dX10_days_22 : decode cX10_days 22 = .ok (.if_icmp .le 6, 3) := by decide +kernel
theorem dX10_days_25 : decode cX10_days 25 = .ok (.ldc 61, 2) := by decide +kernel
theorem dX10_days_27 : decode cX10_days 27 = .ok (.ireturn, 1) := by decide +kernel
theorem dX10_days_28 : decode cX10_days 28 = .ok (.aload_n 0, 1) := by decide +kernel
theorem dX10_days_29 : decode cX10_days 29 = .ok (.getfield 10, 3) := by decide +kernel
theorem dX10_days_32 : decode cX10_days 32 = .ok (.dup, 1) := by decide +kernel
theorem dX10_days_33 : decode cX10_days 33 = .ok (.getfield 108, 3) := by decide +kernel
theorem dX10_days_36 : decode cX10_days 36 = .ok (.iload_n 1, 1) := by decide +kernel
theorem dX10_days_37 : decode cX10_days 37 = .ok (.iadd, 1) := by decide +kernel
theorem dX10_days_38 : decode cX10_days 38 = .ok (.putfield 108, 3) := by decide +kernel
theorem dX10_days_41 : decode cX10_days 41 = .ok (.aload_n 0, 1) := by decide +kernel
theorem dX10_days_42 : decode cX10_days 42 = .ok (.getfield 10, 3) := by decide +kernel
theorem dX10_days_45 : decode cX10_days 45 = .ok (.getfield 108, 3) := by decide +kernel
theorem dX10_days_48 : decode cX10_days 48 = .ok (.ireturn, 1) := by decide +kernel
theorem dX10_rule_0 : decode cX10_rule 0 = .ok (.iload_n 1, 1) := by decide +kernel
theorem dX10_rule_1 : decode cX10_rule 1 = .ok (.iconst 0, 1) := by decide +kernel
theorem dX10_rule_2 : decode cX10_rule 2 = .ok (.bipush 15, 2) := by decide +kernel
theorem dX10_rule_4 : decode cX10_rule 4 = .ok (.invokestatic 57, 3) := by decide +kernel
theorem dX10_rule_7 : decode cX10_rule 7 = .ok (.ifCond .eq 16, 3) := by decide +kernel
theorem dX10_rule_10 : decode cX10_rule 10 = .ok (.iload_n 2, 1) := by decide +kernel
theorem dX10_rule_11 : decode cX10_rule 11 = .ok (.iconst 0, 1) := by decide +kernel
theorem dX10_rule_12 : decode cX10_rule 12 = .ok (.getstatic 125, 3) := by decide +kernel
theorem dX10_rule_15 : decode cX10_rule 15 = .ok (.iload_n 1, 1) := by decide +kernel
theorem dX10_rule_16 : decode cX10_rule 16 = .ok (.iaload, 1) := by decide +kernel
theorem dX10_rule_17 : decode cX10_rule 17 = .ok (.invokestatic 57, 3) := by decide +kernel
theorem dX10_rule_20 : decode cX10_rule 20 = .ok (.ifCond .ne 6, 3) := by decide +kernel
theorem dX10_rule_23 : decode cX10_rule 23 = .ok (.ldc 61, 2) := by decide +kernel
theorem dX10_rule_25 : decode cX10_rule 25 = .ok (.ireturn, 1) := by decide +kernel
theorem dX10_rule_26 : decode cX10_rule 26 = .ok (.aload_n 0, 1) := by decide +kernel
theorem dX10_rule_27 : decode cX10_rule 27 = .ok (.getfield 10, 3) := by decide +kernel
theorem dX10_rule_30 : decode cX10_rule 30 = .ok (.getfield 128, 3) := by decide +kernel
theorem dX10_rule_33 : decode cX10_rule 33 = .ok (.iload_n 1, 1) := by decide +kernel
theorem dX10_rule_34 : decode cX10_rule 34 = .ok (.iaload, 1) := by decide +kernel
theorem dX10_rule_35 : decode cX10_rule 35 = .ok (.istore_n 3, 1) := by decide +kernel
theorem dX10_rule_36 : decode cX10_rule 36 = .ok (.aload_n 0, 1) := by decide +kernel
theorem dX10_rule_37 : decode cX10_rule 37 = .ok (.getfield 10, 3) := by decide +kernel
theorem dX10_rule_40 : decode cX10_rule 40 = .ok (.getfield 128, 3) := by decide +kernel
theorem dX10_rule_43 : decode cX10_rule 43 = .ok (.iload_n 1, 1) := by decide +kernel
theorem dX10_rule_44 : decode cX10_rule 44 = .ok (.iload_n 2, 1) := by decide +kernel
theorem dX10_rule_45 : decode cX10_rule 45 = .ok (.iastore, 1) := by decide +kernel
theorem dX10_rule_46 : decode cX10_rule 46 = .ok (.iload_n 3, 1) := by decide +kernel
theorem dX10_rule_47 : decode cX10_rule 47 = .ok (.ireturn, 1) := by decide +kernel
theorem dX10_deed_0 : decode cX10_deed 0 = .ok (.iload_n 1, 1) := by decide +kernel
theorem dX10_deed_1 : decode cX10_deed 1 = .ok (.iconst 0, 1) := by decide +kernel
theorem dX10_deed_2 : decode cX10_deed 2 = .ok (.iconst 3, 1) := by decide +kernel
theorem dX10_deed_3 : decode cX10_deed 3 = .ok (.invokestatic 57, 3) := by decide +kernel
theorem dX10_deed_6 : decode cX10_deed 6 = .ok (.ifCond .eq 14, 3) := by decide +kernel
theorem dX10_deed_9 : decode cX10_deed 9 = .ok (.aload_n 0, 1) := by decide +kernel
theorem dX10_deed_10 : decode cX10_deed 10 = .ok (.getfield 10, 3) := by decide +kernel
theorem dX10_deed_13 : decode cX10_deed 13 = .ok (.iload_n 2, 1) := by decide +kernel
theorem dX10_deed_14 : decode cX10_deed 14 = .ok (.invokevirtual 76, 3) := by decide +kernel
theorem dX10_deed_17 : decode cX10_deed 17 = .ok (.ifCond .ne 6, 3) := by decide +kernel
theorem dX10_deed_20 : decode cX10_deed 20 = .ok (.ldc 61, 2) := by decide +kernel
theorem dX10_deed_22 : decode cX10_deed 22 = .ok (.ireturn, 1) := by decide +kernel
theorem dX10_deed_23 : decode cX10_deed 23 = .ok (.iload_n 3, 1) := by decide +kernel
theorem dX10_deed_24 : decode cX10_deed 24 = .ok (.iconst 0, 1) := by decide +kernel
theorem dX10_deed_25 : decode cX10_deed 25 = .ok (.aload_n 0, 1) := by decide +kernel
theorem dX10_deed_26 : decode cX10_deed 26 = .ok (.getfield 10, 3) := by decide +kernel
theorem dX10_deed_29 : decode cX10_deed 29 = .ok (.getfield 108, 3) := by decide +kernel
theorem dX10_deed_32 : decode cX10_deed 32 = .ok (.invokestatic 57, 3) := by decide +kernel
theorem dX10_deed_35 : decode cX10_deed 35 = .ok (.ifCond .eq 14, 3) := by decide +kernel
theorem dX10_deed_38 : decode cX10_deed 38 = .ok (.iload 4, 2) := by decide +kernel
theorem dX10_deed_40 : decode cX10_deed 40 = .ok (.iconst 1, 1) := by decide +kernel
theorem dX10_deed_41 : decode cX10_deed 41 = .ok (.bipush 100, 2) := by decide +kernel
theorem dX10_deed_43 : decode cX10_deed 43 = .ok (.invokestatic 57, 3) := by decide +kernel
theorem dX10_deed_46 : decode cX10_deed 46 = .ok (.ifCond .ne 6, 3) := by decide +kernel
theorem dX10_deed_49 : decode cX10_deed 49 = .ok (.ldc 61, 2) := by decide +kernel
theorem dX10_deed_51 : decode cX10_deed 51 = .ok (.ireturn, 1) := by decide +kernel
theorem dX10_deed_52 : decode cX10_deed 52 = .ok (.aload_n 0, 1) := by decide +kernel
theorem dX10_deed_53 : decode cX10_deed 53 = .ok (.getfield 10, 3) := by decide +kernel
theorem dX10_deed_56 : decode cX10_deed 56 = .ok (.getfield 131, 3) := by decide +kernel
theorem dX10_deed_59 : decode cX10_deed 59 = .ok (.bipush 30, 2) := by decide +kernel
theorem dX10_deed_61 : decode cX10_deed 61 = .ok (.if_icmp .lt 6, 3) := by decide +kernel
theorem dX10_deed_64 : decode cX10_deed 64 = .ok (.ldc 65, 2) := by decide +kernel
theorem dX10_deed_66 : decode cX10_deed 66 = .ok (.ireturn, 1) := by decide +kernel
theorem dX10_deed_67 : decode cX10_deed 67 = .ok (.aload_n 0, 1) := by decide +kernel
theorem dX10_deed_68 : decode cX10_deed 68 = .ok (.getfield 10, 3) := by decide +kernel
theorem dX10_deed_71 : decode cX10_deed 71 = .ok (.getfield 134, 3) := by decide +kernel
theorem dX10_deed_74 : decode cX10_deed 74 = .ok (.aload_n 0, 1) := by decide +kernel
theorem dX10_deed_75 : decode cX10_deed 75 = .ok (.getfield 10, 3) := by decide +kernel
theorem dX10_deed_78 : decode cX10_deed 78 = .ok (.getfield 131, 3) := by decide +kernel
theorem dX10_deed_81 : decode cX10_deed 81 = .ok (.aaload, 1) := by decide +kernel
theorem dX10_deed_82 : decode cX10_deed 82 = .ok (.iload_n 1, 1) := by decide +kernel
theorem dX10_deed_83 : decode cX10_deed 83 = .ok (.iload_n 2, 1) := by decide +kernel
theorem dX10_deed_84 : decode cX10_deed 84 = .ok (.iload_n 3, 1) := by decide +kernel
theorem dX10_deed_85 : decode cX10_deed 85 = .ok (.iload 4, 2) := by decide +kernel
theorem dX10_deed_87 : decode cX10_deed 87 = .ok (.invokevirtual 138, 3) := by decide +kernel
theorem dX10_deed_90 : decode cX10_deed 90 = .ok (.aload_n 0, 1) := by decide +kernel
theorem dX10_deed_91 : decode cX10_deed 91 = .ok (.getfield 10, 3) := by decide +kernel
theorem dX10_deed_94 : decode cX10_deed 94 = .ok (.dup, 1) := by decide +kernel
theorem dX10_deed_95 : decode cX10_deed 95 = .ok (.getfield 131, 3) := by decide +kernel
theorem dX10_deed_98 : decode cX10_deed 98 = .ok (.iconst 1, 1) := by decide +kernel
theorem dX10_deed_99 : decode cX10_deed 99 = .ok (.iadd, 1) := by decide +kernel
theorem dX10_deed_100 : decode cX10_deed 100 = .ok (.putfield 131, 3) := by decide +kernel
theorem dX10_deed_103 : decode cX10_deed 103 = .ok (.aload_n 0, 1) := by decide +kernel
theorem dX10_deed_104 : decode cX10_deed 104 = .ok (.getfield 10, 3) := by decide +kernel
theorem dX10_deed_107 : decode cX10_deed 107 = .ok (.getfield 131, 3) := by decide +kernel
theorem dX10_deed_110 : decode cX10_deed 110 = .ok (.iconst 1, 1) := by decide +kernel
theorem dX10_deed_111 : decode cX10_deed 111 = .ok (.isub, 1) := by decide +kernel
theorem dX10_deed_112 : decode cX10_deed 112 = .ok (.ireturn, 1) := by decide +kernel
theorem dX10_isOf_0 : decode cX10_isOf 0 = .ok (.aload_n 0, 1) := by decide +kernel
theorem dX10_isOf_1 : decode cX10_isOf 1 = .ok (.getfield 10, 3) := by decide +kernel
theorem dX10_isOf_4 : decode cX10_isOf 4 = .ok (.iload_n 1, 1) := by decide +kernel
theorem dX10_isOf_5 : decode cX10_isOf 5 = .ok (.invokevirtual 143, 3) := by decide +kernel
theorem dX10_isOf_8 : decode cX10_isOf 8 = .ok (.ifCond .eq 12, 3) := by decide +kernel
theorem dX10_isOf_11 : decode cX10_isOf 11 = .ok (.iload_n 2, 1) := by decide +kernel
theorem dX10_isOf_12 : decode cX10_isOf 12 = .ok (.iconst 0, 1) := by decide +kernel
theorem dX10_isOf_13 : decode cX10_isOf 13 = .ok (.iconst 3, 1) := by decide +kernel
theorem dX10_isOf_14 : decode cX10_isOf 14 = .ok (.invokestatic 57, 3) := by decide +kernel
theorem dX10_isOf_17 : decode cX10_isOf 17 = .ok (.ifCond .ne 6, 3) := by decide +kernel
theorem dX10_isOf_20 : decode cX10_isOf 20 = .ok (.ldc 61, 2) := by decide +kernel
theorem dX10_isOf_22 : decode cX10_isOf 22 = .ok (.ireturn, 1) := by decide +kernel
theorem dX10_isOf_23 : decode cX10_isOf 23 = .ok (.aload_n 0, 1) := by decide +kernel
theorem dX10_isOf_24 : decode cX10_isOf 24 = .ok (.getfield 10, 3) := by decide +kernel
theorem dX10_isOf_27 : decode cX10_isOf 27 = .ok (.getfield 134, 3) := by decide +kernel
theorem dX10_isOf_30 : decode cX10_isOf 30 = .ok (.iload_n 1, 1) := by decide +kernel
theorem dX10_isOf_31 : decode cX10_isOf 31 = .ok (.aaload, 1) := by decide +kernel
theorem dX10_isOf_32 : decode cX10_isOf 32 = .ok (.iload_n 2, 1) := by decide +kernel
theorem dX10_isOf_33 : decode cX10_isOf 33 = .ok (.invokevirtual 146, 3) := by decide +kernel
theorem dX10_isOf_36 : decode cX10_isOf 36 = .ok (.invokestatic 83, 3) := by decide +kernel
theorem dX10_isOf_39 : decode cX10_isOf 39 = .ok (.ireturn, 1) := by decide +kernel
theorem dX10_told_0 : decode cX10_told 0 = .ok (.aload_n 0, 1) := by decide +kernel
theorem dX10_told_1 : decode cX10_told 1 = .ok (.getfield 10, 3) := by decide +kernel
theorem dX10_told_4 : decode cX10_told 4 = .ok (.iload_n 1, 1) := by decide +kernel
theorem dX10_told_5 : decode cX10_told 5 = .ok (.invokevirtual 143, 3) := by decide +kernel
theorem dX10_told_8 : decode cX10_told 8 = .ok (.ifCond .ne 6, 3) := by decide +kernel
theorem dX10_told_11 : decode cX10_told 11 = .ok (.ldc 61, 2) := by decide +kernel
theorem dX10_told_13 : decode cX10_told 13 = .ok (.ireturn, 1) := by decide +kernel
theorem dX10_told_14 : decode cX10_told 14 = .ok (.aload_n 0, 1) := by decide +kernel
theorem dX10_told_15 : decode cX10_told 15 = .ok (.getfield 10, 3) := by decide +kernel
theorem dX10_told_18 : decode cX10_told 18 = .ok (.getfield 134, 3) := by decide +kernel
theorem dX10_told_21 : decode cX10_told 21 = .ok (.iload_n 1, 1) := by decide +kernel
theorem dX10_told_22 : decode cX10_told 22 = .ok (.aaload, 1) := by decide +kernel
theorem dX10_told_23 : decode cX10_told 23 = .ok (.astore_n 3, 1) := by decide +kernel
theorem dX10_told_24 : decode cX10_told 24 = .ok (.iload_n 2, 1) := by decide +kernel
theorem dX10_told_25 : decode cX10_told 25 = .ok (.tableswitch 85 0 5 #[39, 44, 49, 54, 59, 68], 39) := by decide +kernel
theorem dX10_told_64 : decode cX10_told 64 = .ok (.aload_n 3, 1) := by decide +kernel
theorem dX10_told_65 : decode cX10_told 65 = .ok (.getfield 147, 3) := by decide +kernel
theorem dX10_told_68 : decode cX10_told 68 = .ok (.ireturn, 1) := by decide +kernel
theorem dX10_told_69 : decode cX10_told 69 = .ok (.aload_n 3, 1) := by decide +kernel
theorem dX10_told_70 : decode cX10_told 70 = .ok (.getfield 150, 3) := by decide +kernel
theorem dX10_told_73 : decode cX10_told 73 = .ok (.ireturn, 1) := by decide +kernel
theorem dX10_told_74 : decode cX10_told 74 = .ok (.aload_n 3, 1) := by decide +kernel
theorem dX10_told_75 : decode cX10_told 75 = .ok (.getfield 153, 3) := by decide +kernel
theorem dX10_told_78 : decode cX10_told 78 = .ok (.ireturn, 1) := by decide +kernel
theorem dX10_told_79 : decode cX10_told 79 = .ok (.aload_n 3, 1) := by decide +kernel
theorem dX10_told_80 : decode cX10_told 80 = .ok (.getfield 156, 3) := by decide +kernel
theorem dX10_told_83 : decode cX10_told 83 = .ok (.ireturn, 1) := by decide +kernel
theorem dX10_told_84 : decode cX10_told 84 = .ok (.aload_n 0, 1) := by decide +kernel
theorem dX10_told_85 : decode cX10_told 85 = .ok (.getfield 10, 3) := by decide +kernel
theorem dX10_told_88 : decode cX10_told 88 = .ok (.aload_n 3, 1) := by decide +kernel
theorem dX10_told_89 : decode cX10_told 89 = .ok (.invokevirtual 159, 3) := by decide +kernel
theorem dX10_told_92 : decode cX10_told 92 = .ok (.ireturn, 1) := by decide +kernel
theorem dX10_told_93 : decode cX10_told 93 = .ok (.aload_n 3, 1) := by decide +kernel
theorem dX10_told_94 : decode cX10_told 94 = .ok (.invokevirtual 163, 3) := by decide +kernel
theorem dX10_told_97 : decode cX10_told 97 = .ok (.ifCond .eq 10, 3) := by decide +kernel
theorem dX10_told_100 : decode cX10_told 100 = .ok (.aload_n 3, 1) := by decide +kernel
theorem dX10_told_101 : decode cX10_told 101 = .ok (.getfield 166, 3) := by decide +kernel
theorem dX10_told_104 : decode cX10_told 104 = .ok (.goto 5, 3) := by decide +kernel
theorem dX10_told_107 : decode cX10_told 107 = .ok (.ldc 169, 2) := by decide +kernel
theorem dX10_told_109 : decode cX10_told 109 = .ok (.ireturn, 1) := by decide +kernel
theorem dX10_told_110 : decode cX10_told 110 = .ok (.ldc 61, 2) := by decide +kernel
theorem dX10_told_112 : decode cX10_told 112 = .ok (.ireturn, 1) := by decide +kernel
theorem dX10_flat_0 : decode cX10_flat 0 = .ok (.iload_n 1, 1) := by decide +kernel
theorem dX10_flat_1 : decode cX10_flat 1 = .ok (.iconst 0, 1) := by decide +kernel
theorem dX10_flat_2 : decode cX10_flat 2 = .ok (.iconst 3, 1) := by decide +kernel
theorem dX10_flat_3 : decode cX10_flat 3 = .ok (.invokestatic 57, 3) := by decide +kernel
theorem dX10_flat_6 : decode cX10_flat 6 = .ok (.ifCond .eq 14, 3) := by decide +kernel
theorem dX10_flat_9 : decode cX10_flat 9 = .ok (.iload_n 2, 1) := by decide +kernel
theorem dX10_flat_10 : decode cX10_flat 10 = .ok (.iconst 0, 1) := by decide +kernel
theorem dX10_flat_11 : decode cX10_flat 11 = .ok (.sipush 9999, 3) := by decide +kernel
theorem dX10_flat_14 : decode cX10_flat 14 = .ok (.invokestatic 57, 3) := by decide +kernel
theorem dX10_flat_17 : decode cX10_flat 17 = .ok (.ifCond .ne 6, 3) := by decide +kernel
theorem dX10_flat_20 : decode cX10_flat 20 = .ok (.ldc 61, 2) := by decide +kernel
theorem dX10_flat_22 : decode cX10_flat 22 = .ok (.ireturn, 1) := by decide +kernel
theorem dX10_flat_23 : decode cX10_flat 23 = .ok (.aload_n 0, 1) := by decide +kernel
theorem dX10_flat_24 : decode cX10_flat 24 = .ok (.getfield 10, 3) := by decide +kernel
theorem dX10_flat_27 : decode cX10_flat 27 = .ok (.getfield 170, 3) := by decide +kernel
theorem dX10_flat_30 : decode cX10_flat 30 = .ok (.iload_n 1, 1) := by decide +kernel
theorem dX10_flat_31 : decode cX10_flat 31 = .ok (.iaload, 1) := by decide +kernel
theorem dX10_flat_32 : decode cX10_flat 32 = .ok (.istore_n 3, 1) := by decide +kernel
theorem dX10_flat_33 : decode cX10_flat 33 = .ok (.aload_n 0, 1) := by decide +kernel
theorem dX10_flat_34 : decode cX10_flat 34 = .ok (.getfield 10, 3) := by decide +kernel
theorem dX10_flat_37 : decode cX10_flat 37 = .ok (.getfield 170, 3) := by decide +kernel
theorem dX10_flat_40 : decode cX10_flat 40 = .ok (.iload_n 1, 1) := by decide +kernel
theorem dX10_flat_41 : decode cX10_flat 41 = .ok (.iload_n 2, 1) := by decide +kernel
theorem dX10_flat_42 : decode cX10_flat 42 = .ok (.iastore, 1) := by decide +kernel
theorem dX10_flat_43 : decode cX10_flat 43 = .ok (.iload_n 3, 1) := by decide +kernel
theorem dX10_flat_44 : decode cX10_flat 44 = .ok (.ireturn, 1) := by decide +kernel
theorem dX10_feed_0 : decode cX10_feed 0 = .ok (.aload_n 0, 1) := by decide +kernel
theorem dX10_feed_1 : decode cX10_feed 1 = .ok (.getfield 26, 3) := by decide +kernel
theorem dX10_feed_4 : decode cX10_feed 4 = .ok (.getfield 173, 3) := by decide +kernel
theorem dX10_feed_7 : decode cX10_feed 7 = .ok (.astore 4, 2) := by decide +kernel
theorem dX10_feed_9 : decode cX10_feed 9 = .ok (.aload 4, 2) := by decide +kernel
theorem dX10_feed_11 : decode cX10_feed 11 = .ok (.getfield 177, 3) := by decide +kernel
theorem dX10_feed_14 : decode cX10_feed 14 = .ok (.bipush 12, 2) := by decide +kernel
theorem dX10_feed_16 : decode cX10_feed 16 = .ok (.iadd, 1) := by decide +kernel
theorem dX10_feed_17 : decode cX10_feed 17 = .ok (.bipush 120, 2) := by decide +kernel
theorem dX10_feed_19 : decode cX10_feed 19 = .ok (.if_icmp .le 6, 3) := by decide +kernel
theorem dX10_feed_22 : decode cX10_feed 22 = .ok (.ldc 65, 2) := by decide +kernel
theorem dX10_feed_24 : decode cX10_feed 24 = .ok (.ireturn, 1) := by decide +kernel
theorem dX10_feed_25 : decode cX10_feed 25 = .ok (.aload 4, 2) := by decide +kernel
theorem dX10_feed_27 : decode cX10_feed 27 = .ok (.iload_n 1, 1) := by decide +kernel
theorem dX10_feed_28 : decode cX10_feed 28 = .ok (.invokevirtual 182, 3) := by decide +kernel
theorem dX10_feed_31 : decode cX10_feed 31 = .ok (.aload 4, 2) := by decide +kernel
theorem dX10_feed_33 : decode cX10_feed 33 = .ok (.iload_n 2, 1) := by decide +kernel
theorem dX10_feed_34 : decode cX10_feed 34 = .ok (.invokevirtual 182, 3) := by decide +kernel
theorem dX10_feed_37 : decode cX10_feed 37 = .ok (.aload 4, 2) := by decide +kernel
theorem dX10_feed_39 : decode cX10_feed 39 = .ok (.iload_n 3, 1) := by decide +kernel
theorem dX10_feed_40 : decode cX10_feed 40 = .ok (.invokevirtual 182, 3) := by decide +kernel
theorem dX10_feed_43 : decode cX10_feed 43 = .ok (.aload 4, 2) := by decide +kernel
theorem dX10_feed_45 : decode cX10_feed 45 = .ok (.getfield 177, 3) := by decide +kernel
theorem dX10_feed_48 : decode cX10_feed 48 = .ok (.ireturn, 1) := by decide +kernel
theorem dX10_trim_0 : decode cX10_trim 0 = .ok (.iload_n 1, 1) := by decide +kernel
theorem dX10_trim_1 : decode cX10_trim 1 = .ok (.iconst 0, 1) := by decide +kernel
theorem dX10_trim_2 : decode cX10_trim 2 = .ok (.aload_n 0, 1) := by decide +kernel
theorem dX10_trim_3 : decode cX10_trim 3 = .ok (.getfield 26, 3) := by decide +kernel
theorem dX10_trim_6 : decode cX10_trim 6 = .ok (.getfield 173, 3) := by decide +kernel
theorem dX10_trim_9 : decode cX10_trim 9 = .ok (.getfield 177, 3) := by decide +kernel
theorem dX10_trim_12 : decode cX10_trim 12 = .ok (.invokestatic 57, 3) := by decide +kernel
theorem dX10_trim_15 : decode cX10_trim 15 = .ok (.ifCond .ne 6, 3) := by decide +kernel
theorem dX10_trim_18 : decode cX10_trim 18 = .ok (.ldc 61, 2) := by decide +kernel
theorem dX10_trim_20 : decode cX10_trim 20 = .ok (.ireturn, 1) := by decide +kernel
theorem dX10_trim_21 : decode cX10_trim 21 = .ok (.aload_n 0, 1) := by decide +kernel
theorem dX10_trim_22 : decode cX10_trim 22 = .ok (.getfield 26, 3) := by decide +kernel
theorem dX10_trim_25 : decode cX10_trim 25 = .ok (.getfield 173, 3) := by decide +kernel
theorem dX10_trim_28 : decode cX10_trim 28 = .ok (.iload_n 1, 1) := by decide +kernel
theorem dX10_trim_29 : decode cX10_trim 29 = .ok (.putfield 177, 3) := by decide +kernel
theorem dX10_trim_32 : decode cX10_trim 32 = .ok (.iload_n 1, 1) := by decide +kernel
theorem dX10_trim_33 : decode cX10_trim 33 = .ok (.ireturn, 1) := by decide +kernel
theorem dX10_law_0 : decode cX10_law 0 = .ok (.aload_n 0, 1) := by decide +kernel
theorem dX10_law_1 : decode cX10_law 1 = .ok (.getfield 26, 3) := by decide +kernel
theorem dX10_law_4 : decode cX10_law 4 = .ok (.invokevirtual 185, 3) := by decide +kernel
theorem dX10_law_7 : decode cX10_law 7 = .ok (.istore_n 1, 1) := by decide +kernel
theorem dX10_law_8 : decode cX10_law 8 = .ok (.aload_n 0, 1) := by decide +kernel
theorem dX10_law_9 : decode cX10_law 9 = .ok (.getfield 26, 3) := by decide +kernel
theorem dX10_law_12 : decode cX10_law 12 = .ok (.getfield 173, 3) := by decide +kernel
theorem dX10_law_15 : decode cX10_law 15 = .ok (.iconst 0, 1) := by decide +kernel
theorem dX10_law_16 : decode cX10_law 16 = .ok (.putfield 177, 3) := by decide +kernel
theorem dX10_law_19 : decode cX10_law 19 = .ok (.iload_n 1, 1) := by decide +kernel
theorem dX10_law_20 : decode cX10_law 20 = .ok (.iconst (-1), 1) := by decide +kernel
theorem dX10_law_21 : decode cX10_law 21 = .ok (.if_icmp .eq 8, 3) := by decide +kernel
theorem dX10_law_24 : decode cX10_law 24 = .ok (.bipush (-100), 2) := by decide +kernel
theorem dX10_law_26 : decode cX10_law 26 = .ok (.iload_n 1, 1) := by decide +kernel
theorem dX10_law_27 : decode cX10_law 27 = .ok (.isub, 1) := by decide +kernel
theorem dX10_law_28 : decode cX10_law 28 = .ok (.ireturn, 1) := by decide +kernel
theorem dX10_law_29 : decode cX10_law 29 = .ok (.aload_n 0, 1) := by decide +kernel
theorem dX10_law_30 : decode cX10_law 30 = .ok (.getfield 10, 3) := by decide +kernel
theorem dX10_law_33 : decode cX10_law 33 = .ok (.getfield 189, 3) := by decide +kernel
theorem dX10_law_36 : decode cX10_law 36 = .ok (.aload_n 0, 1) := by decide +kernel
theorem dX10_law_37 : decode cX10_law 37 = .ok (.getfield 26, 3) := by decide +kernel
theorem dX10_law_40 : decode cX10_law 40 = .ok (.getfield 193, 3) := by decide +kernel
theorem dX10_law_43 : decode cX10_law 43 = .ok (.invokevirtual 196, 3) := by decide +kernel
theorem dX10_law_46 : decode cX10_law 46 = .ok (.aload_n 0, 1) := by decide +kernel
theorem dX10_law_47 : decode cX10_law 47 = .ok (.getfield 10, 3) := by decide +kernel
theorem dX10_law_50 : decode cX10_law 50 = .ok (.getfield 189, 3) := by decide +kernel
theorem dX10_law_53 : decode cX10_law 53 = .ok (.getfield 202, 3) := by decide +kernel
theorem dX10_law_56 : decode cX10_law 56 = .ok (.ireturn, 1) := by decide +kernel
theorem dX10_worth_0 : decode cX10_worth 0 = .ok (.aload_n 0, 1) := by decide +kernel
theorem dX10_worth_1 : decode cX10_worth 1 = .ok (.getfield 10, 3) := by decide +kernel
theorem dX10_worth_4 : decode cX10_worth 4 = .ok (.iload_n 1, 1) := by decide +kernel
theorem dX10_worth_5 : decode cX10_worth 5 = .ok (.invokevirtual 143, 3) := by decide +kernel
theorem dX10_worth_8 : decode cX10_worth 8 = .ok (.ifCond .ne 6, 3) := by decide +kernel
theorem dX10_worth_11 : decode cX10_worth 11 = .ok (.ldc 61, 2) := by decide +kernel
theorem dX10_worth_13 : decode cX10_worth 13 = .ok (.ireturn, 1) := by decide +kernel
theorem dX10_worth_14 : decode cX10_worth 14 = .ok (.aload_n 0, 1) := by decide +kernel
theorem dX10_worth_15 : decode cX10_worth 15 = .ok (.getfield 10, 3) := by decide +kernel
theorem dX10_worth_18 : decode cX10_worth 18 = .ok (.invokevirtual 205, 3) := by decide +kernel
theorem dX10_worth_21 : decode cX10_worth 21 = .ok (.ifCond .ne 6, 3) := by decide +kernel
theorem dX10_worth_24 : decode cX10_worth 24 = .ok (.ldc 91, 2) := by decide +kernel
theorem dX10_worth_26 : decode cX10_worth 26 = .ok (.ireturn, 1) := by decide +kernel
theorem dX10_worth_27 : decode cX10_worth 27 = .ok (.aload_n 0, 1) := by decide +kernel
theorem dX10_worth_28 : decode cX10_worth 28 = .ok (.getfield 10, 3) := by decide +kernel
theorem dX10_worth_31 : decode cX10_worth 31 = .ok (.aload_n 0, 1) := by decide +kernel
theorem dX10_worth_32 : decode cX10_worth 32 = .ok (.getfield 10, 3) := by decide +kernel
theorem dX10_worth_35 : decode cX10_worth 35 = .ok (.getfield 134, 3) := by decide +kernel
theorem dX10_worth_38 : decode cX10_worth 38 = .ok (.iload_n 1, 1) := by decide +kernel
theorem dX10_worth_39 : decode cX10_worth 39 = .ok (.aaload, 1) := by decide +kernel
theorem dX10_worth_40 : decode cX10_worth 40 = .ok (.invokevirtual 208, 3) := by decide +kernel
theorem dX10_worth_43 : decode cX10_worth 43 = .ok (.ireturn, 1) := by decide +kernel
theorem dX10_sum_0 : decode cX10_sum 0 = .ok (.aload_n 0, 1) := by decide +kernel
theorem dX10_sum_1 : decode cX10_sum 1 = .ok (.getfield 10, 3) := by decide +kernel
theorem dX10_sum_4 : decode cX10_sum 4 = .ok (.iload_n 1, 1) := by decide +kernel
theorem dX10_sum_5 : decode cX10_sum 5 = .ok (.invokevirtual 76, 3) := by decide +kernel
theorem dX10_sum_8 : decode cX10_sum 8 = .ok (.ifCond .eq 29, 3) := by decide +kernel
theorem dX10_sum_11 : decode cX10_sum 11 = .ok (.iload_n 2, 1) := by decide +kernel
theorem dX10_sum_12 : decode cX10_sum 12 = .ok (.iconst 0, 1) := by decide +kernel
theorem dX10_sum_13 : decode cX10_sum 13 = .ok (.sipush 3000, 3) := by decide +kernel
theorem dX10_sum_16 : decode cX10_sum 16 = .ok (.invokestatic 57, 3) := by decide +kernel
theorem dX10_sum_19 : decode cX10_sum 19 = .ok (.ifCond .eq 18, 3) := by decide +kernel
theorem dX10_sum_22 : decode cX10_sum 22 = .ok (.iload_n 3, 1) := by decide +kernel
theorem dX10_sum_23 : decode cX10_sum 23 = .ok (.iconst 0, 1) := by decide +kernel
theorem dX10_sum_24 : decode cX10_sum 24 = .ok (.aload_n 0, 1) := by decide +kernel
theorem dX10_sum_25 : decode cX10_sum 25 = .ok (.getfield 10, 3) := by decide +kernel
theorem dX10_sum_28 : decode cX10_sum 28 = .ok (.getfield 108, 3) := by decide +kernel
theorem dX10_sum_31 : decode cX10_sum 31 = .ok (.invokestatic 57, 3) := by decide +kernel
theorem dX10_sum_34 : decode cX10_sum 34 = .ok (.ifCond .ne 6, 3) := by decide +kernel
theorem dX10_sum_37 : decode cX10_sum 37 = .ok (.ldc 61, 2) := by decide +kernel
theorem dX10_sum_39 : decode cX10_sum 39 = .ok (.ireturn, 1) := by decide +kernel
theorem dX10_sum_40 : decode cX10_sum 40 = .ok (.aload_n 0, 1) := by decide +kernel
theorem dX10_sum_41 : decode cX10_sum 41 = .ok (.getfield 10, 3) := by decide +kernel
theorem dX10_sum_44 : decode cX10_sum 44 = .ok (.invokevirtual 205, 3) := by decide +kernel
theorem dX10_sum_47 : decode cX10_sum 47 = .ok (.ifCond .ne 6, 3) := by decide +kernel
theorem dX10_sum_50 : decode cX10_sum 50 = .ok (.ldc 91, 2) := by decide +kernel
theorem dX10_sum_52 : decode cX10_sum 52 = .ok (.ireturn, 1) := by decide +kernel
theorem dX10_sum_53 : decode cX10_sum 53 = .ok (.aload_n 0, 1) := by decide +kernel
theorem dX10_sum_54 : decode cX10_sum 54 = .ok (.getfield 10, 3) := by decide +kernel
theorem dX10_sum_57 : decode cX10_sum 57 = .ok (.iload_n 1, 1) := by decide +kernel
theorem dX10_sum_58 : decode cX10_sum 58 = .ok (.iload_n 2, 1) := by decide +kernel
theorem dX10_sum_59 : decode cX10_sum 59 = .ok (.iload_n 3, 1) := by decide +kernel
theorem dX10_sum_60 : decode cX10_sum 60 = .ok (.invokevirtual 211, 3) := by decide +kernel
theorem dX10_sum_63 : decode cX10_sum 63 = .ok (.ireturn, 1) := by decide +kernel
theorem dX10_judge_0 : decode cX10_judge 0 = .ok (.aload_n 0, 1) := by decide +kernel
theorem dX10_judge_1 : decode cX10_judge 1 = .ok (.getfield 10, 3) := by decide +kernel
theorem dX10_judge_4 : decode cX10_judge 4 = .ok (.iload_n 1, 1) := by decide +kernel
theorem dX10_judge_5 : decode cX10_judge 5 = .ok (.invokevirtual 76, 3) := by decide +kernel
theorem dX10_judge_8 : decode cX10_judge 8 = .ok (.ifCond .ne 6, 3) := by decide +kernel
theorem dX10_judge_11 : decode cX10_judge 11 = .ok (.ldc 61, 2) := by decide +kernel
theorem dX10_judge_13 : decode cX10_judge 13 = .ok (.ireturn, 1) := by decide +kernel
theorem dX10_judge_14 : decode cX10_judge 14 = .ok (.aload_n 0, 1) := by decide +kernel
theorem dX10_judge_15 : decode cX10_judge 15 = .ok (.getfield 10, 3) := by decide +kernel
theorem dX10_judge_18 : decode cX10_judge 18 = .ok (.invokevirtual 205, 3) := by decide +kernel
theorem dX10_judge_21 : decode cX10_judge 21 = .ok (.ifCond .eq 14, 3) := by decide +kernel
theorem dX10_judge_24 : decode cX10_judge 24 = .ok (.aload_n 0, 1) := by decide +kernel
theorem dX10_judge_25 : decode cX10_judge 25 = .ok (.getfield 10, 3) := by decide +kernel
theorem dX10_judge_28 : decode cX10_judge 28 = .ok (.iload_n 1, 1) := by decide +kernel
theorem dX10_judge_29 : decode cX10_judge 29 = .ok (.invokevirtual 214, 3) := by decide +kernel
theorem dX10_judge_32 : decode cX10_judge 32 = .ok (.ifCond .ne 6, 3) := by decide +kernel
theorem dX10_judge_35 : decode cX10_judge 35 = .ok (.ldc 91, 2) := by decide +kernel
theorem dX10_judge_37 : decode cX10_judge 37 = .ok (.ireturn, 1) := by decide +kernel
theorem dX10_judge_38 : decode cX10_judge 38 = .ok (.aload_n 0, 1) := by decide +kernel
theorem dX10_judge_39 : decode cX10_judge 39 = .ok (.getfield 10, 3) := by decide +kernel
theorem dX10_judge_42 : decode cX10_judge 42 = .ok (.getfield 217, 3) := by decide +kernel
theorem dX10_judge_45 : decode cX10_judge 45 = .ok (.bipush 16, 2) := by decide +kernel
theorem dX10_judge_47 : decode cX10_judge 47 = .ok (.if_icmp .lt 6, 3) := by decide +kernel
theorem dX10_judge_50 : decode cX10_judge 50 = .ok (.ldc 65, 2) := by decide +kernel
theorem dX10_judge_52 : decode cX10_judge 52 = .ok (.ireturn, 1) := by decide +kernel
theorem dX10_judge_53 : decode cX10_judge 53 = .ok (.aload_n 0, 1) := by decide +kernel
theorem dX10_judge_54 : decode cX10_judge 54 = .ok (.getfield 10, 3) := by decide +kernel
theorem dX10_judge_57 : decode cX10_judge 57 = .ok (.iload_n 1, 1) := by decide +kernel
theorem dX10_judge_58 : decode cX10_judge 58 = .ok (.invokevirtual 220, 3) := by decide +kernel
theorem dX10_judge_61 : decode cX10_judge 61 = .ok (.istore_n 2, 1) := by decide +kernel
theorem dX10_judge_62 : decode cX10_judge 62 = .ok (.iload_n 2, 1) := by decide +kernel
theorem dX10_judge_63 : decode cX10_judge 63 = .ok (.aload_n 0, 1) := by decide +kernel
theorem dX10_judge_64 : decode cX10_judge 64 = .ok (.getfield 10, 3) := by decide +kernel
theorem dX10_judge_67 : decode cX10_judge 67 = .ok (.getfield 66, 3) := by decide +kernel
theorem dX10_judge_70 : decode cX10_judge 70 = .ok (.iload_n 1, 1) := by decide +kernel
theorem dX10_judge_71 : decode cX10_judge 71 = .ok (.aaload, 1) := by decide +kernel
theorem dX10_judge_72 : decode cX10_judge 72 = .ok (.getfield 122, 3) := by decide +kernel
theorem dX10_judge_75 : decode cX10_judge 75 = .ok (.invokestatic 224, 3) := by decide +kernel
theorem dX10_judge_78 : decode cX10_judge 78 = .ok (.istore_n 3, 1) := by decide +kernel
theorem dX10_judge_79 : decode cX10_judge 79 = .ok (.aload_n 0, 1) := by decide +kernel
theorem dX10_judge_80 : decode cX10_judge 80 = .ok (.getfield 10, 3) := by decide +kernel
theorem dX10_judge_83 : decode cX10_judge 83 = .ok (.getfield 66, 3) := by decide +kernel
theorem dX10_judge_86 : decode cX10_judge 86 = .ok (.iload_n 1, 1) := by decide +kernel
theorem dX10_judge_87 : decode cX10_judge 87 = .ok (.aaload, 1) := by decide +kernel
theorem dX10_judge_88 : decode cX10_judge 88 = .ok (.dup, 1) := by decide +kernel
theorem dX10_judge_89 : decode cX10_judge 89 = .ok (.getfield 122, 3) := by decide +kernel
theorem dX10_judge_92 : decode cX10_judge 92 = .ok (.iload_n 3, 1) := by decide +kernel
theorem dX10_judge_93 : decode cX10_judge 93 = .ok (.isub, 1) := by decide +kernel
theorem dX10_judge_94 : decode cX10_judge 94 = .ok (.putfield 122, 3) := by decide +kernel
theorem dX10_judge_97 : decode cX10_judge 97 = .ok (.aload_n 0, 1) := by decide +kernel
theorem dX10_judge_98 : decode cX10_judge 98 = .ok (.getfield 10, 3) := by decide +kernel
theorem dX10_judge_101 : decode cX10_judge 101 = .ok (.getfield 230, 3) := by decide +kernel
theorem dX10_judge_104 : decode cX10_judge 104 = .ok (.aload_n 0, 1) := by decide +kernel
theorem dX10_judge_105 : decode cX10_judge 105 = .ok (.getfield 10, 3) := by decide +kernel
theorem dX10_judge_108 : decode cX10_judge 108 = .ok (.getfield 217, 3) := by decide +kernel
theorem dX10_judge_111 : decode cX10_judge 111 = .ok (.aaload, 1) := by decide +kernel
theorem dX10_judge_112 : decode cX10_judge 112 = .ok (.astore 4, 2) := by decide +kernel
theorem dX10_judge_114 : decode cX10_judge 114 = .ok (.aload 4, 2) := by decide +kernel
theorem dX10_judge_116 : decode cX10_judge 116 = .ok (.iload_n 1, 1) := by decide +kernel
theorem dX10_judge_117 : decode cX10_judge 117 = .ok (.aload_n 0, 1) := by decide +kernel
theorem dX10_judge_118 : decode cX10_judge 118 = .ok (.getfield 10, 3) := by decide +kernel
theorem dX10_judge_121 : decode cX10_judge 121 = .ok (.getfield 108, 3) := by decide +kernel
theorem dX10_judge_124 : decode cX10_judge 124 = .ok (.invokevirtual 234, 3) := by decide +kernel
theorem dX10_judge_127 : decode cX10_judge 127 = .ok (.aload 4, 2) := by decide +kernel
theorem dX10_judge_129 : decode cX10_judge 129 = .ok (.iload_n 2, 1) := by decide +kernel
theorem dX10_judge_130 : decode cX10_judge 130 = .ok (.iload_n 3, 1) := by decide +kernel
theorem dX10_judge_131 : decode cX10_judge 131 = .ok (.isub, 1) := by decide +kernel
theorem dX10_judge_132 : decode cX10_judge 132 = .ok (.putfield 239, 3) := by decide +kernel
theorem dX10_judge_135 : decode cX10_judge 135 = .ok (.aload 4, 2) := by decide +kernel
theorem dX10_judge_137 : decode cX10_judge 137 = .ok (.aload_n 0, 1) := by decide +kernel
theorem dX10_judge_138 : decode cX10_judge 138 = .ok (.getfield 10, 3) := by decide +kernel
theorem dX10_judge_141 : decode cX10_judge 141 = .ok (.iload_n 1, 1) := by decide +kernel
theorem dX10_judge_142 : decode cX10_judge 142 = .ok (.aload_n 0, 1) := by decide +kernel
theorem dX10_judge_143 : decode cX10_judge 143 = .ok (.getfield 10, 3) := by decide +kernel
theorem dX10_judge_146 : decode cX10_judge 146 = .ok (.getfield 108, 3) := by decide +kernel
theorem dX10_judge_149 : decode cX10_judge 149 = .ok (.aload_n 0, 1) := by decide +kernel
theorem dX10_judge_150 : decode cX10_judge 150 = .ok (.getfield 10, 3) := by decide +kernel
theorem dX10_judge_153 : decode cX10_judge 153 = .ok (.getfield 108, 3) := by decide +kernel
theorem dX10_judge_156 : decode cX10_judge 156 = .ok (.invokevirtual 211, 3) := by decide +kernel
theorem dX10_judge_159 : decode cX10_judge 159 = .ok (.putfield 242, 3) := by decide +kernel
theorem dX10_judge_162 : decode cX10_judge 162 = .ok (.aload_n 0, 1) := by decide +kernel
theorem dX10_judge_163 : decode cX10_judge 163 = .ok (.getfield 10, 3) := by decide +kernel
theorem dX10_judge_166 : decode cX10_judge 166 = .ok (.iload_n 1, 1) := by decide +kernel
theorem dX10_judge_167 : decode cX10_judge 167 = .ok (.aload_n 0, 1) := by decide +kernel
theorem dX10_judge_168 : decode cX10_judge 168 = .ok (.getfield 10, 3) := by decide +kernel
theorem dX10_judge_171 : decode cX10_judge 171 = .ok (.getfield 217, 3) := by decide +kernel
theorem dX10_judge_174 : decode cX10_judge 174 = .ok (.invokevirtual 245, 3) := by decide +kernel
theorem dX10_judge_177 : decode cX10_judge 177 = .ok (.aload_n 0, 1) := by decide +kernel
theorem dX10_judge_178 : decode cX10_judge 178 = .ok (.getfield 10, 3) := by decide +kernel
theorem dX10_judge_181 : decode cX10_judge 181 = .ok (.dup, 1) := by decide +kernel
theorem dX10_judge_182 : decode cX10_judge 182 = .ok (.getfield 217, 3) := by decide +kernel
theorem dX10_judge_185 : decode cX10_judge 185 = .ok (.iconst 1, 1) := by decide +kernel
theorem dX10_judge_186 : decode cX10_judge 186 = .ok (.iadd, 1) := by decide +kernel
theorem dX10_judge_187 : decode cX10_judge 187 = .ok (.putfield 217, 3) := by decide +kernel
theorem dX10_judge_190 : decode cX10_judge 190 = .ok (.aload_n 0, 1) := by decide +kernel
theorem dX10_judge_191 : decode cX10_judge 191 = .ok (.getfield 10, 3) := by decide +kernel
theorem dX10_judge_194 : decode cX10_judge 194 = .ok (.getfield 217, 3) := by decide +kernel
theorem dX10_judge_197 : decode cX10_judge 197 = .ok (.iconst 1, 1) := by decide +kernel
theorem dX10_judge_198 : decode cX10_judge 198 = .ok (.isub, 1) := by decide +kernel
theorem dX10_judge_199 : decode cX10_judge 199 = .ok (.ireturn, 1) := by decide +kernel
theorem dX10_about_0 : decode cX10_about 0 = .ok (.aload_n 0, 1) := by decide +kernel
theorem dX10_about_1 : decode cX10_about 1 = .ok (.getfield 10, 3) := by decide +kernel
theorem dX10_about_4 : decode cX10_about 4 = .ok (.iload_n 1, 1) := by decide +kernel
theorem dX10_about_5 : decode cX10_about 5 = .ok (.invokevirtual 248, 3) := by decide +kernel
theorem dX10_about_8 : decode cX10_about 8 = .ok (.ifCond .ne 6, 3) := by decide +kernel
theorem dX10_about_11 : decode cX10_about 11 = .ok (.ldc 61, 2) := by decide +kernel
theorem dX10_about_13 : decode cX10_about 13 = .ok (.ireturn, 1) := by decide +kernel
theorem dX10_about_14 : decode cX10_about 14 = .ok (.aload_n 0, 1) := by decide +kernel
theorem dX10_about_15 : decode cX10_about 15 = .ok (.getfield 10, 3) := by decide +kernel
theorem dX10_about_18 : decode cX10_about 18 = .ok (.getfield 230, 3) := by decide +kernel
theorem dX10_about_21 : decode cX10_about 21 = .ok (.iload_n 1, 1) := by decide +kernel
theorem dX10_about_22 : decode cX10_about 22 = .ok (.aaload, 1) := by decide +kernel
theorem dX10_about_23 : decode cX10_about 23 = .ok (.astore_n 3, 1) := by decide +kernel
theorem dX10_about_24 : decode cX10_about 24 = .ok (.iload_n 2, 1) := by decide +kernel
theorem dX10_about_25 : decode cX10_about 25 = .ok (.tableswitch 176 0 13 #[71, 76, 81, 86, 91, 96, 101, 106, 111, 116, 121, 130, 143, 160], 71) := by decide +kernel
theorem dX10_about_96 : decode cX10_about 96 = .ok (.aload_n 3, 1) := by decide +kernel
theorem dX10_about_97 : decode cX10_about 97 = .ok (.getfield 251, 3) := by decide +kernel
theorem dX10_about_100 : decode cX10_about 100 = .ok (.ireturn, 1) := by decide +kernel
theorem dX10_about_101 : decode cX10_about 101 = .ok (.aload_n 3, 1) := by decide +kernel
theorem dX10_about_102 : decode cX10_about 102 = .ok (.getfield 252, 3) := by decide +kernel
theorem dX10_about_105 : decode cX10_about 105 = .ok (.ireturn, 1) := by decide +kernel
theorem dX10_about_106 : decode cX10_about 106 = .ok (.aload_n 3, 1) := by decide +kernel
theorem dX10_about_107 : decode cX10_about 107 = .ok (.getfield 239, 3) := by decide +kernel
theorem dX10_about_110 : decode cX10_about 110 = .ok (.ireturn, 1) := by decide +kernel
theorem dX10_about_111 : decode cX10_about 111 = .ok (.aload_n 3, 1) := by decide +kernel
theorem dX10_about_112 : decode cX10_about 112 = .ok (.getfield 242, 3) := by decide +kernel
theorem dX10_about_115 : decode cX10_about 115 = .ok (.ireturn, 1) := by decide +kernel
theorem dX10_about_116 : decode cX10_about 116 = .ok (.aload_n 3, 1) := by decide +kernel
theorem dX10_about_117 : decode cX10_about 117 = .ok (.invokevirtual 253, 3) := by decide +kernel
theorem dX10_about_120 : decode cX10_about 120 = .ok (.ireturn, 1) := by decide +kernel
theorem dX10_about_121 : decode cX10_about 121 = .ok (.aload_n 3, 1) := by decide +kernel
theorem dX10_about_122 : decode cX10_about 122 = .ok (.getfield 256, 3) := by decide +kernel
theorem dX10_about_125 : decode cX10_about 125 = .ok (.ireturn, 1) := by decide +kernel
theorem dX10_about_126 : decode cX10_about 126 = .ok (.aload_n 3, 1) := by decide +kernel
theorem dX10_about_127 : decode cX10_about 127 = .ok (.invokevirtual 259, 3) := by decide +kernel
theorem dX10_about_130 : decode cX10_about 130 = .ok (.ireturn, 1) := by decide +kernel
theorem dX10_about_131 : decode cX10_about 131 = .ok (.aload_n 3, 1) := by decide +kernel
theorem dX10_about_132 : decode cX10_about 132 = .ok (.invokevirtual 262, 3) := by decide +kernel
theorem dX10_about_135 : decode cX10_about 135 = .ok (.ireturn, 1) := by decide +kernel
theorem dX10_about_136 : decode cX10_about 136 = .ok (.aload_n 3, 1) := by decide +kernel
theorem dX10_about_137 : decode cX10_about 137 = .ok (.getfield 265, 3) := by decide +kernel
theorem dX10_about_140 : decode cX10_about 140 = .ok (.ireturn, 1) := by decide +kernel
theorem dX10_about_141 : decode cX10_about 141 = .ok (.aload_n 3, 1) := by decide +kernel
theorem dX10_about_142 : decode cX10_about 142 = .ok (.getfield 268, 3) := by decide +kernel
theorem dX10_about_145 : decode cX10_about 145 = .ok (.ireturn, 1) := by decide +kernel
theorem dX10_about_146 : decode cX10_about 146 = .ok (.aload_n 0, 1) := by decide +kernel
theorem dX10_about_147 : decode cX10_about 147 = .ok (.getfield 10, 3) := by decide +kernel
theorem dX10_about_150 : decode cX10_about 150 = .ok (.iload_n 1, 1) := by decide +kernel
theorem dX10_about_151 : decode cX10_about 151 = .ok (.invokevirtual 271, 3) := by decide +kernel
theorem dX10_about_154 : decode cX10_about 154 = .ok (.ireturn, 1) := by decide +kernel
theorem dX10_about_155 : decode cX10_about 155 = .ok (.aload_n 0, 1) := by decide +kernel
theorem dX10_about_156 : decode cX10_about 156 = .ok (.getfield 10, 3) := by decide +kernel
theorem dX10_about_159 : decode cX10_about 159 = .ok (.iload_n 1, 1) := by decide +kernel
theorem dX10_about_160 : decode cX10_about 160 = .ok (.aload_n 3, 1) := by decide +kernel
theorem dX10_about_161 : decode cX10_about 161 = .ok (.invokevirtual 253, 3) := by decide +kernel
theorem dX10_about_164 : decode cX10_about 164 = .ok (.invokevirtual 274, 3) := by decide +kernel
theorem dX10_about_167 : decode cX10_about 167 = .ok (.ireturn, 1) := by decide +kernel
theorem dX10_about_168 : decode cX10_about 168 = .ok (.aload_n 0, 1) := by decide +kernel
theorem dX10_about_169 : decode cX10_about 169 = .ok (.getfield 10, 3) := by decide +kernel
theorem dX10_about_172 : decode cX10_about 172 = .ok (.iload_n 1, 1) := by decide +kernel
theorem dX10_about_173 : decode cX10_about 173 = .ok (.aload_n 0, 1) := by decide +kernel
theorem dX10_about_174 : decode cX10_about 174 = .ok (.getfield 10, 3) := by decide +kernel
theorem dX10_about_177 : decode cX10_about 177 = .ok (.iload_n 1, 1) := by decide +kernel
theorem dX10_about_178 : decode cX10_about 178 = .ok (.invokevirtual 277, 3) := by decide +kernel
theorem dX10_about_181 : decode cX10_about 181 = .ok (.invokevirtual 274, 3) := by decide +kernel
theorem dX10_about_184 : decode cX10_about 184 = .ok (.ireturn, 1) := by decide +kernel
theorem dX10_about_185 : decode cX10_about 185 = .ok (.aload_n 3, 1) := by decide +kernel
theorem dX10_about_186 : decode cX10_about 186 = .ok (.getfield 252, 3) := by decide +kernel
theorem dX10_about_189 : decode cX10_about 189 = .ok (.aload_n 0, 1) := by decide +kernel
theorem dX10_about_190 : decode cX10_about 190 = .ok (.getfield 10, 3) := by decide +kernel
theorem dX10_about_193 : decode cX10_about 193 = .ok (.getfield 128, 3) := by decide +kernel
theorem dX10_about_196 : decode cX10_about 196 = .ok (.bipush 12, 2) := by decide +kernel
theorem dX10_about_198 : decode cX10_about 198 = .ok (.iaload, 1) := by decide +kernel
theorem dX10_about_199 : decode cX10_about 199 = .ok (.iadd, 1) := by decide +kernel
theorem dX10_about_200 : decode cX10_about 200 = .ok (.ireturn, 1) := by decide +kernel
theorem dX10_about_201 : decode cX10_about 201 = .ok (.ldc 61, 2) := by decide +kernel
theorem dX10_about_203 : decode cX10_about 203 = .ok (.ireturn, 1) := by decide +kernel
theorem dX10_appeal_0 : decode cX10_appeal 0 = .ok (.aload_n 0, 1) := by decide +kernel
theorem dX10_appeal_1 : decode cX10_appeal 1 = .ok (.getfield 10, 3) := by decide +kernel
theorem dX10_appeal_4 : decode cX10_appeal 4 = .ok (.iload_n 1, 1) := by decide +kernel
theorem dX10_appeal_5 : decode cX10_appeal 5 = .ok (.invokevirtual 248, 3) := by decide +kernel
theorem dX10_appeal_8 : decode cX10_appeal 8 = .ok (.ifCond .eq 12, 3) := by decide +kernel
theorem dX10_appeal_11 : decode cX10_appeal 11 = .ok (.iload_n 2, 1) := by decide +kernel
theorem dX10_appeal_12 : decode cX10_appeal 12 = .ok (.iconst 0, 1) := by decide +kernel
theorem dX10_appeal_13 : decode cX10_appeal 13 = .ok (.iconst 1, 1) := by decide +kernel
theorem dX10_appeal_14 : decode cX10_appeal 14 = .ok (.invokestatic 57, 3) := by decide +kernel
theorem dX10_appeal_17 : decode cX10_appeal 17 = .ok (.ifCond .ne 6, 3) := by decide +kernel
theorem dX10_appeal_20 : decode cX10_appeal 20 = .ok (.ldc 61, 2) := by decide +kernel
theorem dX10_appeal_22 : decode cX10_appeal 22 = .ok (.ireturn, 1) := by decide +kernel
theorem dX10_appeal_23 : decode cX10_appeal 23 = .ok (.iload_n 3, 1) := by decide +kernel
theorem dX10_appeal_24 : decode cX10_appeal 24 = .ok (.iconst 0, 1) := by decide +kernel
theorem dX10_appeal_25 : decode cX10_appeal 25 = .ok (.iload_n 2, 1) := by decide +kernel
theorem dX10_appeal_26 : decode cX10_appeal 26 = .ok (.ifCond .ne 15, 3) := by decide +kernel
theorem dX10_appeal_29 : decode cX10_appeal 29 = .ok (.aload_n 0, 1) := by decide +kernel
theorem dX10_appeal_30 : decode cX10_appeal 30 = .ok (.getfield 10, 3) := by decide +kernel
theorem dX10_appeal_33 : decode cX10_appeal 33 = .ok (.getfield 128, 3) := by decide +kernel
theorem dX10_appeal_36 : decode cX10_appeal 36 = .ok (.iconst 3, 1) := by decide +kernel
theorem dX10_appeal_37 : decode cX10_appeal 37 = .ok (.iaload, 1) := by decide +kernel
theorem dX10_appeal_38 : decode cX10_appeal 38 = .ok (.goto 13, 3) := by decide +kernel
theorem dX10_appeal_41 : decode cX10_appeal 41 = .ok (.aload_n 0, 1) := by decide +kernel
theorem dX10_appeal_42 : decode cX10_appeal 42 = .ok (.getfield 10, 3) := by decide +kernel
theorem dX10_appeal_45 : decode cX10_appeal 45 = .ok (.getfield 128, 3) := by decide +kernel
theorem dX10_appeal_48 : decode cX10_appeal 48 = .ok (.bipush 7, 2) := by decide +kernel
theorem dX10_appeal_50 : decode cX10_appeal 50 = .ok (.iaload, 1) := by decide +kernel
theorem dX10_appeal_51 : decode cX10_appeal 51 = .ok (.invokestatic 57, 3) := by decide +kernel
theorem dX10_appeal_54 : decode cX10_appeal 54 = .ok (.ifCond .ne 6, 3) := by decide +kernel
theorem dX10_appeal_57 : decode cX10_appeal 57 = .ok (.ldc 61, 2) := by decide +kernel
theorem dX10_appeal_59 : decode cX10_appeal 59 = .ok (.ireturn, 1) := by decide +kernel
theorem dX10_appeal_60 : decode cX10_appeal 60 = .ok (.aload_n 0, 1) := by decide +kernel
theorem dX10_appeal_61 : decode cX10_appeal 61 = .ok (.getfield 10, 3) := by decide +kernel
theorem dX10_appeal_64 : decode cX10_appeal 64 = .ok (.getfield 230, 3) := by decide +kernel
theorem dX10_appeal_67 : decode cX10_appeal 67 = .ok (.iload_n 1, 1) := by decide +kernel
theorem dX10_appeal_68 : decode cX10_appeal 68 = .ok (.aaload, 1) := by decide +kernel
theorem dX10_appeal_69 : decode cX10_appeal 69 = .ok (.astore 4, 2) := by decide +kernel
theorem dX10_appeal_71 : decode cX10_appeal 71 = .ok (.iload_n 2, 1) := by decide +kernel
theorem dX10_appeal_72 : decode cX10_appeal 72 = .ok (.ifCond .ne 11, 3) := by decide +kernel
theorem dX10_appeal_75 : decode cX10_appeal 75 = .ok (.aload 4, 2) := by decide +kernel
theorem dX10_appeal_77 : decode cX10_appeal 77 = .ok (.getfield 280, 3) := by decide +kernel
theorem dX10_appeal_80 : decode cX10_appeal 80 = .ok (.goto 8, 3) := by decide +kernel
theorem dX10_appeal_83 : decode cX10_appeal 83 = .ok (.aload 4, 2) := by decide +kernel
theorem dX10_appeal_85 : decode cX10_appeal 85 = .ok (.getfield 283, 3) := by decide +kernel
theorem dX10_appeal_88 : decode cX10_appeal 88 = .ok (.istore 5, 2) := by decide +kernel
theorem dX10_appeal_90 : decode cX10_appeal 90 = .ok (.iload 5, 2) := by decide +kernel
theorem dX10_appeal_92 : decode cX10_appeal 92 = .ok (.ifCond .ne 38, 3) := by decide +kernel
theorem dX10_appeal_95 : decode cX10_appeal 95 = .ok (.aload 4, 2) := by decide +kernel
theorem dX10_appeal_97 : decode cX10_appeal 97 = .ok (.getfield 265, 3) := by decide +kernel
theorem dX10_appeal_100 : decode cX10_appeal 100 = .ok (.iconst 3, 1) := by decide +kernel
theorem dX10_appeal_101 : decode cX10_appeal 101 = .ok (.if_icmp .eq 29, 3) := by decide +kernel
theorem dX10_appeal_104 : decode cX10_appeal 104 = .ok (.aload_n 0, 1) := by decide +kernel
theorem dX10_appeal_105 : decode cX10_appeal 105 = .ok (.getfield 10, 3) := by decide +kernel
theorem dX10_appeal_108 : decode cX10_appeal 108 = .ok (.getfield 108, 3) := by decide +kernel
theorem dX10_appeal_111 : decode cX10_appeal 111 = .ok (.aload 4, 2) := by decide +kernel
theorem dX10_appeal_113 : decode cX10_appeal 113 = .ok (.getfield 252, 3) := by decide +kernel
theorem dX10_appeal_116 : decode cX10_appeal 116 = .ok (.isub, 1) := by decide +kernel
theorem dX10_appeal_117 : decode cX10_appeal 117 = .ok (.aload_n 0, 1) := by decide +kernel
theorem dX10_appeal_118 : decode cX10_appeal 118 = .ok (.getfield 10, 3) := by decide +kernel
theorem dX10_appeal_121 : decode cX10_appeal 121 = .ok (.getfield 128, 3) := by decide +kernel
theorem dX10_appeal_124 : decode cX10_appeal 124 = .ok (.bipush 8, 2) := by decide +kernel
theorem dX10_appeal_126 : decode cX10_appeal 126 = .ok (.iaload, 1) := by decide +kernel
theorem dX10_appeal_127 : decode cX10_appeal 127 = .ok (.if_icmp .le 6, 3) := by decide +kernel
theorem dX10_appeal_130 : decode cX10_appeal 130 = .ok (.ldc 91, 2) := by decide +kernel
theorem dX10_appeal_132 : decode cX10_appeal 132 = .ok (.ireturn, 1) := by decide +kernel
theorem dX10_appeal_133 : decode cX10_appeal 133 = .ok (.iload_n 2, 1) := by decide +kernel
theorem dX10_appeal_134 : decode cX10_appeal 134 = .ok (.ifCond .ne 12, 3) := by decide +kernel
theorem dX10_appeal_137 : decode cX10_appeal 137 = .ok (.aload 4, 2) := by decide +kernel
theorem dX10_appeal_139 : decode cX10_appeal 139 = .ok (.iload_n 3, 1) := by decide +kernel
theorem dX10_appeal_140 : decode cX10_appeal 140 = .ok (.invokevirtual 286, 3) := by decide +kernel
theorem dX10_appeal_143 : decode cX10_appeal 143 = .ok (.goto 9, 3) := by decide +kernel
theorem dX10_appeal_146 : decode cX10_appeal 146 = .ok (.aload 4, 2) := by decide +kernel
theorem dX10_appeal_148 : decode cX10_appeal 148 = .ok (.iload_n 3, 1) := by decide +kernel
theorem dX10_appeal_149 : decode cX10_appeal 149 = .ok (.invokevirtual 289, 3) := by decide +kernel
theorem dX10_appeal_152 : decode cX10_appeal 152 = .ok (.ireturn, 1) := by decide +kernel
theorem dX10_reopen_0 : decode cX10_reopen 0 = .ok (.aload_n 0, 1) := by decide +kernel
theorem dX10_reopen_1 : decode cX10_reopen 1 = .ok (.getfield 10, 3) := by decide +kernel
theorem dX10_reopen_4 : decode cX10_reopen 4 = .ok (.iload_n 1, 1) := by decide +kernel
theorem dX10_reopen_5 : decode cX10_reopen 5 = .ok (.invokevirtual 248, 3) := by decide +kernel
theorem dX10_reopen_8 : decode cX10_reopen 8 = .ok (.ifCond .ne 6, 3) := by decide +kernel
theorem dX10_reopen_11 : decode cX10_reopen 11 = .ok (.ldc 61, 2) := by decide +kernel
theorem dX10_reopen_13 : decode cX10_reopen 13 = .ok (.ireturn, 1) := by decide +kernel
theorem dX10_reopen_14 : decode cX10_reopen 14 = .ok (.aload_n 0, 1) := by decide +kernel
theorem dX10_reopen_15 : decode cX10_reopen 15 = .ok (.getfield 10, 3) := by decide +kernel
theorem dX10_reopen_18 : decode cX10_reopen 18 = .ok (.getfield 230, 3) := by decide +kernel
theorem dX10_reopen_21 : decode cX10_reopen 21 = .ok (.iload_n 1, 1) := by decide +kernel
theorem dX10_reopen_22 : decode cX10_reopen 22 = .ok (.aaload, 1) := by decide +kernel
theorem dX10_reopen_23 : decode cX10_reopen 23 = .ok (.astore_n 2, 1) := by decide +kernel
theorem dX10_reopen_24 : decode cX10_reopen 24 = .ok (.aload_n 0, 1) := by decide +kernel
theorem dX10_reopen_25 : decode cX10_reopen 25 = .ok (.getfield 10, 3) := by decide +kernel
theorem dX10_reopen_28 : decode cX10_reopen 28 = .ok (.invokevirtual 205, 3) := by decide +kernel
theorem dX10_reopen_31 : decode cX10_reopen 31 = .ok (.ifCond .eq 36, 3) := by decide +kernel
theorem dX10_reopen_34 : decode cX10_reopen 34 = .ok (.aload_n 2, 1) := by decide +kernel
theorem dX10_reopen_35 : decode cX10_reopen 35 = .ok (.getfield 265, 3) := by decide +kernel
theorem dX10_reopen_38 : decode cX10_reopen 38 = .ok (.iconst 3, 1) := by decide +kernel
theorem dX10_reopen_39 : decode cX10_reopen 39 = .ok (.if_icmp .eq 28, 3) := by decide +kernel
theorem dX10_reopen_42 : decode cX10_reopen 42 = .ok (.aload_n 0, 1) := by decide +kernel
theorem dX10_reopen_43 : decode cX10_reopen 43 = .ok (.getfield 10, 3) := by decide +kernel
theorem dX10_reopen_46 : decode cX10_reopen 46 = .ok (.getfield 108, 3) := by decide +kernel
theorem dX10_reopen_49 : decode cX10_reopen 49 = .ok (.aload_n 2, 1) := by decide +kernel
theorem dX10_reopen_50 : decode cX10_reopen 50 = .ok (.getfield 252, 3) := by decide +kernel
theorem dX10_reopen_53 : decode cX10_reopen 53 = .ok (.isub, 1) := by decide +kernel
theorem dX10_reopen_54 : decode cX10_reopen 54 = .ok (.aload_n 0, 1) := by decide +kernel
theorem dX10_reopen_55 : decode cX10_reopen 55 = .ok (.getfield 10, 3) := by decide +kernel
theorem dX10_reopen_58 : decode cX10_reopen 58 = .ok (.getfield 128, 3) := by decide +kernel
theorem dX10_reopen_61 : decode cX10_reopen 61 = .ok (.bipush 9, 2) := by decide +kernel
theorem dX10_reopen_63 : decode cX10_reopen 63 = .ok (.iaload, 1) := by decide +kernel
theorem dX10_reopen_64 : decode cX10_reopen 64 = .ok (.if_icmp .le 6, 3) := by decide +kernel
theorem dX10_reopen_67 : decode cX10_reopen 67 = .ok (.ldc 91, 2) := by decide +kernel
theorem dX10_reopen_69 : decode cX10_reopen 69 = .ok (.ireturn, 1) := by decide +kernel
theorem dX10_reopen_70 : decode cX10_reopen 70 = .ok (.aload_n 2, 1) := by decide +kernel
theorem dX10_reopen_71 : decode cX10_reopen 71 = .ok (.aload_n 0, 1) := by decide +kernel
theorem dX10_reopen_72 : decode cX10_reopen 72 = .ok (.getfield 10, 3) := by decide +kernel
theorem dX10_reopen_75 : decode cX10_reopen 75 = .ok (.aload_n 2, 1) := by decide +kernel
theorem dX10_reopen_76 : decode cX10_reopen 76 = .ok (.getfield 251, 3) := by decide +kernel
theorem dX10_reopen_79 : decode cX10_reopen 79 = .ok (.aload_n 2, 1) := by decide +kernel
theorem dX10_reopen_80 : decode cX10_reopen 80 = .ok (.getfield 252, 3) := by decide +kernel
theorem dX10_reopen_83 : decode cX10_reopen 83 = .ok (.aload_n 0, 1) := by decide +kernel
theorem dX10_reopen_84 : decode cX10_reopen 84 = .ok (.getfield 10, 3) := by decide +kernel
theorem dX10_reopen_87 : decode cX10_reopen 87 = .ok (.getfield 108, 3) := by decide +kernel
theorem dX10_reopen_90 : decode cX10_reopen 90 = .ok (.invokevirtual 211, 3) := by decide +kernel
theorem dX10_reopen_93 : decode cX10_reopen 93 = .ok (.putfield 242, 3) := by decide +kernel
theorem dX10_reopen_96 : decode cX10_reopen 96 = .ok (.aload_n 2, 1) := by decide +kernel
theorem dX10_reopen_97 : decode cX10_reopen 97 = .ok (.getfield 242, 3) := by decide +kernel
theorem dX10_reopen_100 : decode cX10_reopen 100 = .ok (.ireturn, 1) := by decide +kernel
theorem dX10_pay_0 : decode cX10_pay 0 = .ok (.aload_n 0, 1) := by decide +kernel
theorem dX10_pay_1 : decode cX10_pay 1 = .ok (.getfield 10, 3) := by decide +kernel
theorem dX10_pay_4 : decode cX10_pay 4 = .ok (.iload_n 1, 1) := by decide +kernel
theorem dX10_pay_5 : decode cX10_pay 5 = .ok (.invokevirtual 248, 3) := by decide +kernel
theorem dX10_pay_8 : decode cX10_pay 8 = .ok (.ifCond .eq 14, 3) := by decide +kernel
theorem dX10_pay_11 : decode cX10_pay 11 = .ok (.iload_n 2, 1) := by decide +kernel
theorem dX10_pay_12 : decode cX10_pay 12 = .ok (.iconst 1, 1) := by decide +kernel
theorem dX10_pay_13 : decode cX10_pay 13 = .ok (.ldc_w 292, 3) := by decide +kernel
theorem dX10_pay_16 : decode cX10_pay 16 = .ok (.invokestatic 57, 3) := by decide +kernel
theorem dX10_pay_19 : decode cX10_pay 19 = .ok (.ifCond .ne 6, 3) := by decide +kernel
theorem dX10_pay_22 : decode cX10_pay 22 = .ok (.ldc 61, 2) := by decide +kernel
theorem dX10_pay_24 : decode cX10_pay 24 = .ok (.ireturn, 1) := by decide +kernel
theorem dX10_pay_25 : decode cX10_pay 25 = .ok (.aload_n 0, 1) := by decide +kernel
theorem dX10_pay_26 : decode cX10_pay 26 = .ok (.getfield 10, 3) := by decide +kernel
theorem dX10_pay_29 : decode cX10_pay 29 = .ok (.getfield 230, 3) := by decide +kernel
theorem dX10_pay_32 : decode cX10_pay 32 = .ok (.iload_n 1, 1) := by decide +kernel
theorem dX10_pay_33 : decode cX10_pay 33 = .ok (.aaload, 1) := by decide +kernel
theorem dX10_pay_34 : decode cX10_pay 34 = .ok (.astore_n 3, 1) := by decide +kernel
theorem dX10_pay_35 : decode cX10_pay 35 = .ok (.aload_n 3, 1) := by decide +kernel
theorem dX10_pay_36 : decode cX10_pay 36 = .ok (.getfield 265, 3) := by decide +kernel
theorem dX10_pay_39 : decode cX10_pay 39 = .ok (.iconst 3, 1) := by decide +kernel
theorem dX10_pay_40 : decode cX10_pay 40 = .ok (.if_icmp .ne 6, 3) := by decide +kernel
theorem dX10_pay_43 : decode cX10_pay 43 = .ok (.ldc 91, 2) := by decide +kernel
theorem dX10_pay_45 : decode cX10_pay 45 = .ok (.ireturn, 1) := by decide +kernel
theorem dX10_pay_46 : decode cX10_pay 46 = .ok (.iload_n 2, 1) := by decide +kernel
theorem dX10_pay_47 : decode cX10_pay 47 = .ok (.aload_n 3, 1) := by decide +kernel
theorem dX10_pay_48 : decode cX10_pay 48 = .ok (.invokevirtual 259, 3) := by decide +kernel
theorem dX10_pay_51 : decode cX10_pay 51 = .ok (.invokestatic 224, 3) := by decide +kernel
theorem dX10_pay_54 : decode cX10_pay 54 = .ok (.istore 4, 2) := by decide +kernel
theorem dX10_pay_56 : decode cX10_pay 56 = .ok (.aload_n 3, 1) := by decide +kernel
theorem dX10_pay_57 : decode cX10_pay 57 = .ok (.dup, 1) := by decide +kernel
theorem dX10_pay_58 : decode cX10_pay 58 = .ok (.getfield 256, 3) := by decide +kernel
theorem dX10_pay_61 : decode cX10_pay 61 = .ok (.iload 4, 2) := by decide +kernel
theorem dX10_pay_63 : decode cX10_pay 63 = .ok (.iadd, 1) := by decide +kernel
theorem dX10_pay_64 : decode cX10_pay 64 = .ok (.putfield 256, 3) := by decide +kernel
theorem dX10_pay_67 : decode cX10_pay 67 = .ok (.iload_n 2, 1) := by decide +kernel
theorem dX10_pay_68 : decode cX10_pay 68 = .ok (.iload 4, 2) := by decide +kernel
theorem dX10_pay_70 : decode cX10_pay 70 = .ok (.isub, 1) := by decide +kernel
theorem dX10_pay_71 : decode cX10_pay 71 = .ok (.ireturn, 1) := by decide +kernel
theorem dX10_back_0 : decode cX10_back 0 = .ok (.aload_n 0, 1) := by decide +kernel
theorem dX10_back_1 : decode cX10_back 1 = .ok (.getfield 10, 3) := by decide +kernel
theorem dX10_back_4 : decode cX10_back 4 = .ok (.iload_n 1, 1) := by decide +kernel
theorem dX10_back_5 : decode cX10_back 5 = .ok (.invokevirtual 248, 3) := by decide +kernel
theorem dX10_back_8 : decode cX10_back 8 = .ok (.ifCond .ne 6, 3) := by decide +kernel
theorem dX10_back_11 : decode cX10_back 11 = .ok (.ldc 61, 2) := by decide +kernel
theorem dX10_back_13 : decode cX10_back 13 = .ok (.ireturn, 1) := by decide +kernel
theorem dX10_back_14 : decode cX10_back 14 = .ok (.aload_n 0, 1) := by decide +kernel
theorem dX10_back_15 : decode cX10_back 15 = .ok (.getfield 10, 3) := by decide +kernel
theorem dX10_back_18 : decode cX10_back 18 = .ok (.getfield 230, 3) := by decide +kernel
theorem dX10_back_21 : decode cX10_back 21 = .ok (.iload_n 1, 1) := by decide +kernel
theorem dX10_back_22 : decode cX10_back 22 = .ok (.aaload, 1) := by decide +kernel
theorem dX10_back_23 : decode cX10_back 23 = .ok (.astore_n 2, 1) := by decide +kernel
theorem dX10_back_24 : decode cX10_back 24 = .ok (.aload_n 2, 1) := by decide +kernel
theorem dX10_back_25 : decode cX10_back 25 = .ok (.getfield 256, 3) := by decide +kernel
theorem dX10_back_28 : decode cX10_back 28 = .ok (.aload_n 2, 1) := by decide +kernel
theorem dX10_back_29 : decode cX10_back 29 = .ok (.invokevirtual 253, 3) := by decide +kernel
theorem dX10_back_32 : decode cX10_back 32 = .ok (.isub, 1) := by decide +kernel
theorem dX10_back_33 : decode cX10_back 33 = .ok (.istore_n 3, 1) := by decide +kernel
theorem dX10_back_34 : decode cX10_back 34 = .ok (.iload_n 3, 1) := by decide +kernel
theorem dX10_back_35 : decode cX10_back 35 = .ok (.ifCond .gt 6, 3) := by decide +kernel
theorem dX10_back_38 : decode cX10_back 38 = .ok (.ldc 91, 2) := by decide +kernel
theorem dX10_back_40 : decode cX10_back 40 = .ok (.ireturn, 1) := by decide +kernel
theorem dX10_back_41 : decode cX10_back 41 = .ok (.iload_n 3, 1) := by decide +kernel
theorem dX10_back_42 : decode cX10_back 42 = .ok (.i2l, 1) := by decide +kernel
theorem dX10_back_43 : decode cX10_back 43 = .ok (.aload_n 0, 1) := by decide +kernel
theorem dX10_back_44 : decode cX10_back 44 = .ok (.getfield 10, 3) := by decide +kernel
theorem dX10_back_47 : decode cX10_back 47 = .ok (.getfield 128, 3) := by decide +kernel
theorem dX10_back_50 : decode cX10_back 50 = .ok (.bipush 10, 2) := by decide +kernel
theorem dX10_back_52 : decode cX10_back 52 = .ok (.iaload, 1) := by decide +kernel
theorem dX10_back_53 : decode cX10_back 53 = .ok (.i2l, 1) := by decide +kernel
theorem dX10_back_54 : decode cX10_back 54 = .ok (.lmul, 1) := by decide +kernel
theorem dX10_back_55 : decode cX10_back 55 = .ok (.aload_n 0, 1) := by decide +kernel
theorem dX10_back_56 : decode cX10_back 56 = .ok (.getfield 10, 3) := by decide +kernel
theorem dX10_back_59 : decode cX10_back 59 = .ok (.getfield 108, 3) := by decide +kernel
theorem dX10_back_62 : decode cX10_back 62 = .ok (.aload_n 2, 1) := by decide +kernel
theorem dX10_back_63 : decode cX10_back 63 = .ok (.getfield 252, 3) := by decide +kernel
theorem dX10_back_66 : decode cX10_back 66 = .ok (.isub, 1) := by decide +kernel
theorem dX10_back_67 : decode cX10_back 67 = .ok (.i2l, 1) := by decide +kernel
theorem dX10_back_68 : decode cX10_back 68 = .ok (.lmul, 1) := by decide +kernel
theorem dX10_back_69 : decode cX10_back 69 = .ok (.ldc2_w 293, 3) := by decide +kernel
theorem dX10_back_72 : decode cX10_back 72 = .ok (.ldiv, 1) := by decide +kernel
theorem dX10_back_73 : decode cX10_back 73 = .ok (.lstore 4, 2) := by decide +kernel
theorem dX10_back_75 : decode cX10_back 75 = .ok (.aload_n 2, 1) := by decide +kernel
theorem dX10_back_76 : decode cX10_back 76 = .ok (.aload_n 2, 1) := by decide +kernel
theorem dX10_back_77 : decode cX10_back 77 = .ok (.invokevirtual 253, 3) := by decide +kernel
theorem dX10_back_80 : decode cX10_back 80 = .ok (.putfield 256, 3) := by decide +kernel
theorem dX10_back_83 : decode cX10_back 83 = .ok (.iload_n 3, 1) := by decide +kernel
theorem dX10_back_84 : decode cX10_back 84 = .ok (.lload 4, 2) := by decide +kernel
theorem dX10_back_86 : decode cX10_back 86 = .ok (.l2i, 1) := by decide +kernel
theorem dX10_back_87 : decode cX10_back 87 = .ok (.iadd, 1) := by decide +kernel
theorem dX10_back_88 : decode cX10_back 88 = .ok (.ireturn, 1) := by decide +kernel
theorem dX10_step_0 : decode cX10_step 0 = .ok (.aload_n 0, 1) := by decide +kernel
theorem dX10_step_1 : decode cX10_step 1 = .ok (.getfield 10, 3) := by decide +kernel
theorem dX10_step_4 : decode cX10_step 4 = .ok (.iload_n 1, 1) := by decide +kernel
theorem dX10_step_5 : decode cX10_step 5 = .ok (.invokevirtual 248, 3) := by decide +kernel
theorem dX10_step_8 : decode cX10_step 8 = .ok (.ifCond .ne 6, 3) := by decide +kernel
theorem dX10_step_11 : decode cX10_step 11 = .ok (.ldc 61, 2) := by decide +kernel
theorem dX10_step_13 : decode cX10_step 13 = .ok (.ireturn, 1) := by decide +kernel
theorem dX10_step_14 : decode cX10_step 14 = .ok (.aload_n 0, 1) := by decide +kernel
theorem dX10_step_15 : decode cX10_step 15 = .ok (.getfield 10, 3) := by decide +kernel
theorem dX10_step_18 : decode cX10_step 18 = .ok (.getfield 230, 3) := by decide +kernel
theorem dX10_step_21 : decode cX10_step 21 = .ok (.iload_n 1, 1) := by decide +kernel
theorem dX10_step_22 : decode cX10_step 22 = .ok (.aaload, 1) := by decide +kernel
theorem dX10_step_23 : decode cX10_step 23 = .ok (.astore_n 2, 1) := by decide +kernel
theorem dX10_step_24 : decode cX10_step 24 = .ok (.aload_n 2, 1) := by decide +kernel
theorem dX10_step_25 : decode cX10_step 25 = .ok (.getfield 265, 3) := by decide +kernel
theorem dX10_step_28 : decode cX10_step 28 = .ok (.iconst 3, 1) := by decide +kernel
theorem dX10_step_29 : decode cX10_step 29 = .ok (.if_icmp .eq 10, 3) := by decide +kernel
theorem dX10_step_32 : decode cX10_step 32 = .ok (.aload_n 2, 1) := by decide +kernel
theorem dX10_step_33 : decode cX10_step 33 = .ok (.invokevirtual 259, 3) := by decide +kernel
theorem dX10_step_36 : decode cX10_step 36 = .ok (.ifCond .ne 6, 3) := by decide +kernel
theorem dX10_step_39 : decode cX10_step 39 = .ok (.ldc 91, 2) := by decide +kernel
theorem dX10_step_41 : decode cX10_step 41 = .ok (.ireturn, 1) := by decide +kernel
theorem dX10_step_42 : decode cX10_step 42 = .ok (.aload_n 0, 1) := by decide +kernel
theorem dX10_step_43 : decode cX10_step 43 = .ok (.getfield 10, 3) := by decide +kernel
theorem dX10_step_46 : decode cX10_step 46 = .ok (.getfield 108, 3) := by decide +kernel
theorem dX10_step_49 : decode cX10_step 49 = .ok (.aload_n 2, 1) := by decide +kernel
theorem dX10_step_50 : decode cX10_step 50 = .ok (.getfield 295, 3) := by decide +kernel
theorem dX10_step_53 : decode cX10_step 53 = .ok (.isub, 1) := by decide +kernel
theorem dX10_step_54 : decode cX10_step 54 = .ok (.aload_n 0, 1) := by decide +kernel
theorem dX10_step_55 : decode cX10_step 55 = .ok (.getfield 10, 3) := by decide +kernel
theorem dX10_step_58 : decode cX10_step 58 = .ok (.getfield 128, 3) := by decide +kernel
theorem dX10_step_61 : decode cX10_step 61 = .ok (.bipush 11, 2) := by decide +kernel
theorem dX10_step_63 : decode cX10_step 63 = .ok (.iaload, 1) := by decide +kernel
theorem dX10_step_64 : decode cX10_step 64 = .ok (.if_icmp .ge 6, 3) := by decide +kernel
theorem dX10_step_67 : decode cX10_step 67 = .ok (.ldc 91, 2) := by decide +kernel
theorem dX10_step_69 : decode cX10_step 69 = .ok (.ireturn, 1) := by decide +kernel
theorem dX10_step_70 : decode cX10_step 70 = .ok (.aload_n 2, 1) := by decide +kernel
theorem dX10_step_71 : decode cX10_step 71 = .ok (.getfield 265, 3) := by decide +kernel
theorem dX10_step_74 : decode cX10_step 74 = .ok (.iconst 1, 1) := by decide +kernel
theorem dX10_step_75 : decode cX10_step 75 = .ok (.iadd, 1) := by decide +kernel
theorem dX10_step_76 : decode cX10_step 76 = .ok (.iconst 3, 1) := by decide +kernel
theorem dX10_step_77 : decode cX10_step 77 = .ok (.if_icmp .ne 16, 3) := by decide +kernel
theorem dX10_step_80 : decode cX10_step 80 = .ok (.aload_n 0, 1) := by decide +kernel
theorem dX10_step_81 : decode cX10_step 81 = .ok (.getfield 10, 3) := by decide +kernel
theorem dX10_step_84 : decode cX10_step 84 = .ok (.invokevirtual 205, 3) := by decide +kernel
theorem dX10_step_87 : decode cX10_step 87 = .ok (.ifCond .ne 6, 3) := by decide +kernel
theorem dX10_step_90 : decode cX10_step 90 = .ok (.ldc 91, 2) := by decide +kernel
theorem dX10_step_92 : decode cX10_step 92 = .ok (.ireturn, 1) := by decide +kernel
theorem dX10_step_93 : decode cX10_step 93 = .ok (.aload_n 2, 1) := by decide +kernel
theorem dX10_step_94 : decode cX10_step 94 = .ok (.dup, 1) := by decide +kernel
theorem dX10_step_95 : decode cX10_step 95 = .ok (.getfield 265, 3) := by decide +kernel
theorem dX10_step_98 : decode cX10_step 98 = .ok (.iconst 1, 1) := by decide +kernel
theorem dX10_step_99 : decode cX10_step 99 = .ok (.iadd, 1) := by decide +kernel
theorem dX10_step_100 : decode cX10_step 100 = .ok (.putfield 265, 3) := by decide +kernel
theorem dX10_step_103 : decode cX10_step 103 = .ok (.aload_n 2, 1) := by decide +kernel
theorem dX10_step_104 : decode cX10_step 104 = .ok (.aload_n 0, 1) := by decide +kernel
theorem dX10_step_105 : decode cX10_step 105 = .ok (.getfield 10, 3) := by decide +kernel
theorem dX10_step_108 : decode cX10_step 108 = .ok (.getfield 108, 3) := by decide +kernel
theorem dX10_step_111 : decode cX10_step 111 = .ok (.putfield 295, 3) := by decide +kernel
theorem dX10_step_114 : decode cX10_step 114 = .ok (.aload_n 2, 1) := by decide +kernel
theorem dX10_step_115 : decode cX10_step 115 = .ok (.getfield 265, 3) := by decide +kernel
theorem dX10_step_118 : decode cX10_step 118 = .ok (.iconst 3, 1) := by decide +kernel
theorem dX10_step_119 : decode cX10_step 119 = .ok (.if_icmp .ne 15, 3) := by decide +kernel
theorem dX10_step_122 : decode cX10_step 122 = .ok (.aload_n 2, 1) := by decide +kernel
theorem dX10_step_123 : decode cX10_step 123 = .ok (.aload_n 0, 1) := by decide +kernel
theorem dX10_step_124 : decode cX10_step 124 = .ok (.getfield 10, 3) := by decide +kernel
theorem dX10_step_127 : decode cX10_step 127 = .ok (.aload_n 2, 1) := by decide +kernel
theorem dX10_step_128 : decode cX10_step 128 = .ok (.invokevirtual 298, 3) := by decide +kernel
theorem dX10_step_131 : decode cX10_step 131 = .ok (.putfield 268, 3) := by decide +kernel
theorem dX10_step_134 : decode cX10_step 134 = .ok (.aload_n 2, 1) := by decide +kernel
theorem dX10_step_135 : decode cX10_step 135 = .ok (.getfield 265, 3) := by decide +kernel
theorem dX10_step_138 : decode cX10_step 138 = .ok (.ireturn, 1) := by decide +kernel
theorem dX10_work_0 : decode cX10_work 0 = .ok (.aload_n 0, 1) := by decide +kernel
theorem dX10_work_1 : decode cX10_work 1 = .ok (.getfield 10, 3) := by decide +kernel
theorem dX10_work_4 : decode cX10_work 4 = .ok (.iload_n 1, 1) := by decide +kernel
theorem dX10_work_5 : decode cX10_work 5 = .ok (.invokevirtual 248, 3) := by decide +kernel
theorem dX10_work_8 : decode cX10_work 8 = .ok (.ifCond .eq 14, 3) := by decide +kernel
theorem dX10_work_11 : decode cX10_work 11 = .ok (.iload_n 2, 1) := by decide +kernel
theorem dX10_work_12 : decode cX10_work 12 = .ok (.iconst 1, 1) := by decide +kernel
theorem dX10_work_13 : decode cX10_work 13 = .ok (.sipush 9999, 3) := by decide +kernel
theorem dX10_work_16 : decode cX10_work 16 = .ok (.invokestatic 57, 3) := by decide +kernel
theorem dX10_work_19 : decode cX10_work 19 = .ok (.ifCond .ne 6, 3) := by decide +kernel
theorem dX10_work_22 : decode cX10_work 22 = .ok (.ldc 61, 2) := by decide +kernel
theorem dX10_work_24 : decode cX10_work 24 = .ok (.ireturn, 1) := by decide +kernel
theorem dX10_work_25 : decode cX10_work 25 = .ok (.aload_n 0, 1) := by decide +kernel
theorem dX10_work_26 : decode cX10_work 26 = .ok (.getfield 10, 3) := by decide +kernel
theorem dX10_work_29 : decode cX10_work 29 = .ok (.getfield 230, 3) := by decide +kernel
theorem dX10_work_32 : decode cX10_work 32 = .ok (.iload_n 1, 1) := by decide +kernel
theorem dX10_work_33 : decode cX10_work 33 = .ok (.aaload, 1) := by decide +kernel
theorem dX10_work_34 : decode cX10_work 34 = .ok (.astore_n 3, 1) := by decide +kernel
theorem dX10_work_35 : decode cX10_work 35 = .ok (.aload_n 3, 1) := by decide +kernel
theorem dX10_work_36 : decode cX10_work 36 = .ok (.getfield 265, 3) := by decide +kernel
theorem dX10_work_39 : decode cX10_work 39 = .ok (.iconst 3, 1) := by decide +kernel
theorem dX10_work_40 : decode cX10_work 40 = .ok (.if_icmp .ne 11, 3) := by decide +kernel
theorem dX10_work_43 : decode cX10_work 43 = .ok (.iload_n 2, 1) := by decide +kernel
theorem dX10_work_44 : decode cX10_work 44 = .ok (.aload_n 3, 1) := by decide +kernel
theorem dX10_work_45 : decode cX10_work 45 = .ok (.getfield 268, 3) := by decide +kernel
theorem dX10_work_48 : decode cX10_work 48 = .ok (.if_icmp .le 6, 3) := by decide +kernel
theorem dX10_work_51 : decode cX10_work 51 = .ok (.ldc 91, 2) := by decide +kernel
theorem dX10_work_53 : decode cX10_work 53 = .ok (.ireturn, 1) := by decide +kernel
theorem dX10_work_54 : decode cX10_work 54 = .ok (.aload_n 3, 1) := by decide +kernel
theorem dX10_work_55 : decode cX10_work 55 = .ok (.dup, 1) := by decide +kernel
theorem dX10_work_56 : decode cX10_work 56 = .ok (.getfield 268, 3) := by decide +kernel
theorem dX10_work_59 : decode cX10_work 59 = .ok (.iload_n 2, 1) := by decide +kernel
theorem dX10_work_60 : decode cX10_work 60 = .ok (.isub, 1) := by decide +kernel
theorem dX10_work_61 : decode cX10_work 61 = .ok (.putfield 268, 3) := by decide +kernel
theorem dX10_work_64 : decode cX10_work 64 = .ok (.aload_n 3, 1) := by decide +kernel
theorem dX10_work_65 : decode cX10_work 65 = .ok (.getfield 268, 3) := by decide +kernel
theorem dX10_work_68 : decode cX10_work 68 = .ok (.ireturn, 1) := by decide +kernel
theorem dX10_level_0 : decode cX10_level 0 = .ok (.aload_n 0, 1) := by decide +kernel
theorem dX10_level_1 : decode cX10_level 1 = .ok (.getfield 10, 3) := by decide +kernel
theorem dX10_level_4 : decode cX10_level 4 = .ok (.iload_n 1, 1) := by decide +kernel
theorem dX10_level_5 : decode cX10_level 5 = .ok (.invokevirtual 76, 3) := by decide +kernel
theorem dX10_level_8 : decode cX10_level 8 = .ok (.ifCond .ne 6, 3) := by decide +kernel
theorem dX10_level_11 : decode cX10_level 11 = .ok (.ldc 61, 2) := by decide +kernel
theorem dX10_level_13 : decode cX10_level 13 = .ok (.ireturn, 1) := by decide +kernel
theorem dX10_level_14 : decode cX10_level 14 = .ok (.aload_n 0, 1) := by decide +kernel
theorem dX10_level_15 : decode cX10_level 15 = .ok (.getfield 33, 3) := by decide +kernel
theorem dX10_level_18 : decode cX10_level 18 = .ok (.aload_n 0, 1) := by decide +kernel
theorem dX10_level_19 : decode cX10_level 19 = .ok (.getfield 10, 3) := by decide +kernel
theorem dX10_level_22 : decode cX10_level 22 = .ok (.iload_n 1, 1) := by decide +kernel
theorem dX10_level_23 : decode cX10_level 23 = .ok (.invokevirtual 302, 3) := by decide +kernel
theorem dX10_level_26 : decode cX10_level 26 = .ok (.ifCond .eq 13, 3) := by decide +kernel
theorem dX10_level_29 : decode cX10_level 29 = .ok (.aload_n 0, 1) := by decide +kernel
theorem dX10_level_30 : decode cX10_level 30 = .ok (.getfield 33, 3) := by decide +kernel
theorem dX10_level_33 : decode cX10_level 33 = .ok (.getfield 306, 3) := by decide +kernel
theorem dX10_level_36 : decode cX10_level 36 = .ok (.goto 5, 3) := by decide +kernel
theorem dX10_level_39 : decode cX10_level 39 = .ok (.ldc 91, 2) := by decide +kernel
theorem dX10_level_41 : decode cX10_level 41 = .ok (.ireturn, 1) := by decide +kernel
theorem dX10_month_0 : decode cX10_month 0 = .ok (.aload_n 0, 1) := by decide +kernel
theorem dX10_month_1 : decode cX10_month 1 = .ok (.getfield 10, 3) := by decide +kernel
theorem dX10_month_4 : decode cX10_month 4 = .ok (.iload_n 1, 1) := by decide +kernel
theorem dX10_month_5 : decode cX10_month 5 = .ok (.invokevirtual 76, 3) := by decide +kernel
theorem dX10_month_8 : decode cX10_month 8 = .ok (.ifCond .eq 13, 3) := by decide +kernel
theorem dX10_month_11 : decode cX10_month 11 = .ok (.iload_n 2, 1) := by decide +kernel
theorem dX10_month_12 : decode cX10_month 12 = .ok (.iconst 0, 1) := by decide +kernel
theorem dX10_month_13 : decode cX10_month 13 = .ok (.bipush 23, 2) := by decide +kernel
theorem dX10_month_15 : decode cX10_month 15 = .ok (.invokestatic 57, 3) := by decide +kernel
theorem dX10_month_18 : decode cX10_month 18 = .ok (.ifCond .ne 6, 3) := by decide +kernel
theorem dX10_month_21 : decode cX10_month 21 = .ok (.ldc 61, 2) := by decide +kernel
theorem dX10_month_23 : decode cX10_month 23 = .ok (.ireturn, 1) := by decide +kernel
theorem dX10_month_24 : decode cX10_month 24 = .ok (.aload_n 0, 1) := by decide +kernel
theorem dX10_month_25 : decode cX10_month 25 = .ok (.getfield 33, 3) := by decide +kernel
theorem dX10_month_28 : decode cX10_month 28 = .ok (.aload_n 0, 1) := by decide +kernel
theorem dX10_month_29 : decode cX10_month 29 = .ok (.getfield 10, 3) := by decide +kernel
theorem dX10_month_32 : decode cX10_month 32 = .ok (.iload_n 1, 1) := by decide +kernel
theorem dX10_month_33 : decode cX10_month 33 = .ok (.invokevirtual 302, 3) := by decide +kernel
theorem dX10_month_36 : decode cX10_month 36 = .ok (.ifCond .eq 15, 3) := by decide +kernel
theorem dX10_month_39 : decode cX10_month 39 = .ok (.aload_n 0, 1) := by decide +kernel
theorem dX10_month_40 : decode cX10_month 40 = .ok (.getfield 33, 3) := by decide +kernel
theorem dX10_month_43 : decode cX10_month 43 = .ok (.getfield 309, 3) := by decide +kernel
theorem dX10_month_46 : decode cX10_month 46 = .ok (.iload_n 2, 1) := by decide +kernel
theorem dX10_month_47 : decode cX10_month 47 = .ok (.iaload, 1) := by decide +kernel
theorem dX10_month_48 : decode cX10_month 48 = .ok (.goto 5, 3) := by decide +kernel
theorem dX10_month_51 : decode cX10_month 51 = .ok (.ldc 91, 2) := by decide +kernel
theorem dX10_month_53 : decode cX10_month 53 = .ok (.ireturn, 1) := by decide +kernel
theorem dX10_room_0 : decode cX10_room 0 = .ok (.aload_n 0, 1) := by decide +kernel
theorem dX10_room_1 : decode cX10_room 1 = .ok (.getfield 10, 3) := by decide +kernel
theorem dX10_room_4 : decode cX10_room 4 = .ok (.iload_n 1, 1) := by decide +kernel
theorem dX10_room_5 : decode cX10_room 5 = .ok (.invokevirtual 76, 3) := by decide +kernel
theorem dX10_room_8 : decode cX10_room 8 = .ok (.ifCond .eq 13, 3) := by decide +kernel
theorem dX10_room_11 : decode cX10_room 11 = .ok (.iload_n 2, 1) := by decide +kernel
theorem dX10_room_12 : decode cX10_room 12 = .ok (.iconst 0, 1) := by decide +kernel
theorem dX10_room_13 : decode cX10_room 13 = .ok (.bipush 23, 2) := by decide +kernel
theorem dX10_room_15 : decode cX10_room 15 = .ok (.invokestatic 57, 3) := by decide +kernel
theorem dX10_room_18 : decode cX10_room 18 = .ok (.ifCond .ne 6, 3) := by decide +kernel
theorem dX10_room_21 : decode cX10_room 21 = .ok (.ldc 61, 2) := by decide +kernel
theorem dX10_room_23 : decode cX10_room 23 = .ok (.ireturn, 1) := by decide +kernel
theorem dX10_room_24 : decode cX10_room 24 = .ok (.aload_n 0, 1) := by decide +kernel
theorem dX10_room_25 : decode cX10_room 25 = .ok (.getfield 10, 3) := by decide +kernel
theorem dX10_room_28 : decode cX10_room 28 = .ok (.iload_n 1, 1) := by decide +kernel
theorem dX10_room_29 : decode cX10_room 29 = .ok (.iload_n 2, 1) := by decide +kernel
theorem dX10_room_30 : decode cX10_room 30 = .ok (.invokevirtual 312, 3) := by decide +kernel
theorem dX10_room_33 : decode cX10_room 33 = .ok (.ireturn, 1) := by decide +kernel
theorem dX10_tell_0 : decode cX10_tell 0 = .ok (.aload_n 0, 1) := by decide +kernel
theorem dX10_tell_1 : decode cX10_tell 1 = .ok (.getfield 41, 3) := by decide +kernel
theorem dX10_tell_4 : decode cX10_tell 4 = .ok (.bipush 30, 2) := by decide +kernel
theorem dX10_tell_6 : decode cX10_tell 6 = .ok (.if_icmp .lt 6, 3) := by decide +kernel
theorem dX10_tell_9 : decode cX10_tell 9 = .ok (.ldc 65, 2) := by decide +kernel
theorem dX10_tell_11 : decode cX10_tell 11 = .ok (.ireturn, 1) := by decide +kernel
theorem dX10_tell_12 : decode cX10_tell 12 = .ok (.aload_n 0, 1) := by decide +kernel
theorem dX10_tell_13 : decode cX10_tell 13 = .ok (.getfield 37, 3) := by decide +kernel
theorem dX10_tell_16 : decode cX10_tell 16 = .ok (.aload_n 0, 1) := by decide +kernel
theorem dX10_tell_17 : decode cX10_tell 17 = .ok (.getfield 41, 3) := by decide +kernel
theorem dX10_tell_20 : decode cX10_tell 20 = .ok (.iload_n 1, 1) := by decide +kernel
theorem dX10_tell_21 : decode cX10_tell 21 = .ok (.iastore, 1) := by decide +kernel
theorem dX10_tell_22 : decode cX10_tell 22 = .ok (.aload_n 0, 1) := by decide +kernel
theorem dX10_tell_23 : decode cX10_tell 23 = .ok (.dup, 1) := by decide +kernel
theorem dX10_tell_24 : decode cX10_tell 24 = .ok (.getfield 41, 3) := by decide +kernel
theorem dX10_tell_27 : decode cX10_tell 27 = .ok (.iconst 1, 1) := by decide +kernel
theorem dX10_tell_28 : decode cX10_tell 28 = .ok (.iadd, 1) := by decide +kernel
theorem dX10_tell_29 : decode cX10_tell 29 = .ok (.putfield 41, 3) := by decide +kernel
theorem dX10_tell_32 : decode cX10_tell 32 = .ok (.aload_n 0, 1) := by decide +kernel
theorem dX10_tell_33 : decode cX10_tell 33 = .ok (.getfield 41, 3) := by decide +kernel
theorem dX10_tell_36 : decode cX10_tell 36 = .ok (.ireturn, 1) := by decide +kernel
theorem dX10_check_0 : decode cX10_check 0 = .ok (.aload_n 0, 1) := by decide +kernel
theorem dX10_check_1 : decode cX10_check 1 = .ok (.getfield 41, 3) := by decide +kernel
theorem dX10_check_4 : decode cX10_check 4 = .ok (.istore_n 2, 1) := by decide +kernel
theorem dX10_check_5 : decode cX10_check 5 = .ok (.aload_n 0, 1) := by decide +kernel
theorem dX10_check_6 : decode cX10_check 6 = .ok (.iconst 0, 1) := by decide +kernel
theorem dX10_check_7 : decode cX10_check 7 = .ok (.putfield 41, 3) := by decide +kernel
theorem dX10_check_10 : decode cX10_check 10 = .ok (.aload_n 0, 1) := by decide +kernel
theorem dX10_check_11 : decode cX10_check 11 = .ok (.getfield 10, 3) := by decide +kernel
theorem dX10_check_14 : decode cX10_check 14 = .ok (.iload_n 1, 1) := by decide +kernel
theorem dX10_check_15 : decode cX10_check 15 = .ok (.invokevirtual 76, 3) := by decide +kernel
theorem dX10_check_18 : decode cX10_check 18 = .ok (.ifCond .ne 6, 3) := by decide +kernel
theorem dX10_check_21 : decode cX10_check 21 = .ok (.ldc 61, 2) := by decide +kernel
theorem dX10_check_23 : decode cX10_check 23 = .ok (.ireturn, 1) := by decide +kernel
theorem dX10_check_24 : decode cX10_check 24 = .ok (.aload_n 0, 1) := by decide +kernel
theorem dX10_check_25 : decode cX10_check 25 = .ok (.getfield 33, 3) := by decide +kernel
theorem dX10_check_28 : decode cX10_check 28 = .ok (.aload_n 0, 1) := by decide +kernel
theorem dX10_check_29 : decode cX10_check 29 = .ok (.getfield 10, 3) := by decide +kernel
theorem dX10_check_32 : decode cX10_check 32 = .ok (.iload_n 1, 1) := by decide +kernel
theorem dX10_check_33 : decode cX10_check 33 = .ok (.invokevirtual 302, 3) := by decide +kernel
theorem dX10_check_36 : decode cX10_check 36 = .ok (.ifCond .eq 18, 3) := by decide +kernel
theorem dX10_check_39 : decode cX10_check 39 = .ok (.aload_n 0, 1) := by decide +kernel
theorem dX10_check_40 : decode cX10_check 40 = .ok (.getfield 33, 3) := by decide +kernel
theorem dX10_check_43 : decode cX10_check 43 = .ok (.aload_n 0, 1) := by decide +kernel
theorem dX10_check_44 : decode cX10_check 44 = .ok (.getfield 37, 3) := by decide +kernel
theorem dX10_check_47 : decode cX10_check 47 = .ok (.iload_n 2, 1) := by decide +kernel
theorem dX10_check_48 : decode cX10_check 48 = .ok (.invokevirtual 315, 3) := by decide +kernel
theorem dX10_check_51 : decode cX10_check 51 = .ok (.goto 5, 3) := by decide +kernel
theorem dX10_check_54 : decode cX10_check 54 = .ok (.ldc 91, 2) := by decide +kernel
theorem dX10_check_56 : decode cX10_check 56 = .ok (.ireturn, 1) := by decide +kernel
theorem dX10_alike_0 : decode cX10_alike 0 = .ok (.aload_n 0, 1) := by decide +kernel
theorem dX10_alike_1 : decode cX10_alike 1 = .ok (.getfield 10, 3) := by decide +kernel
theorem dX10_alike_4 : decode cX10_alike 4 = .ok (.iload_n 1, 1) := by decide +kernel
theorem dX10_alike_5 : decode cX10_alike 5 = .ok (.invokevirtual 248, 3) := by decide +kernel
theorem dX10_alike_8 : decode cX10_alike 8 = .ok (.ifCond .eq 19, 3) := by decide +kernel
theorem dX10_alike_11 : decode cX10_alike 11 = .ok (.aload_n 0, 1) := by decide +kernel
theorem dX10_alike_12 : decode cX10_alike 12 = .ok (.getfield 10, 3) := by decide +kernel
theorem dX10_alike_15 : decode cX10_alike 15 = .ok (.iload_n 2, 1) := by decide +kernel
theorem dX10_alike_16 : decode cX10_alike 16 = .ok (.invokevirtual 248, 3) := by decide +kernel
theorem dX10_alike_19 : decode cX10_alike 19 = .ok (.ifCond .eq 8, 3) := by decide +kernel
theorem dX10_alike_22 : decode cX10_alike 22 = .ok (.iload_n 1, 1) := by decide +kernel
theorem dX10_alike_23 : decode cX10_alike 23 = .ok (.iload_n 2, 1) := by decide +kernel
theorem dX10_alike_24 : decode cX10_alike 24 = .ok (.if_icmp .ne 6, 3) := by decide +kernel
theorem dX10_alike_27 : decode cX10_alike 27 = .ok (.ldc 61, 2) := by decide +kernel
theorem dX10_alike_29 : decode cX10_alike 29 = .ok (.ireturn, 1) := by decide +kernel
theorem dX10_alike_30 : decode cX10_alike 30 = .ok (.aload_n 0, 1) := by decide +kernel
theorem dX10_alike_31 : decode cX10_alike 31 = .ok (.getfield 10, 3) := by decide +kernel
theorem dX10_alike_34 : decode cX10_alike 34 = .ok (.iload_n 1, 1) := by decide +kernel
theorem dX10_alike_35 : decode cX10_alike 35 = .ok (.iload_n 2, 1) := by decide +kernel
theorem dX10_alike_36 : decode cX10_alike 36 = .ok (.invokevirtual 319, 3) := by decide +kernel
theorem dX10_alike_39 : decode cX10_alike 39 = .ok (.invokestatic 83, 3) := by decide +kernel
theorem dX10_alike_42 : decode cX10_alike 42 = .ok (.ireturn, 1) := by decide +kernel
theorem dX10_unlike_0 : decode cX10_unlike 0 = .ok (.iconst 0, 1) := by decide +kernel
theorem dX10_unlike_1 : decode cX10_unlike 1 = .ok (.istore_n 1, 1) := by decide +kernel
theorem dX10_unlike_2 : decode cX10_unlike 2 = .ok (.ldc 169, 2) := by decide +kernel
theorem dX10_unlike_4 : decode cX10_unlike 4 = .ok (.istore_n 2, 1) := by decide +kernel
theorem dX10_unlike_5 : decode cX10_unlike 5 = .ok (.iconst 0, 1) := by decide +kernel
theorem dX10_unlike_6 : decode cX10_unlike 6 = .ok (.istore_n 3, 1) := by decide +kernel
theorem dX10_unlike_7 : decode cX10_unlike 7 = .ok (.iload_n 3, 1) := by decide +kernel
theorem dX10_unlike_8 : decode cX10_unlike 8 = .ok (.aload_n 0, 1) := by decide +kernel
theorem dX10_unlike_9 : decode cX10_unlike 9 = .ok (.getfield 10, 3) := by decide +kernel
theorem dX10_unlike_12 : decode cX10_unlike 12 = .ok (.getfield 217, 3) := by decide +kernel
theorem dX10_unlike_15 : decode cX10_unlike 15 = .ok (.if_icmp .ge 93, 3) := by decide +kernel
theorem dX10_unlike_18 : decode cX10_unlike 18 = .ok (.iload_n 3, 1) := by decide +kernel
theorem dX10_unlike_19 : decode cX10_unlike 19 = .ok (.iconst 1, 1) := by decide +kernel
theorem dX10_unlike_20 : decode cX10_unlike 20 = .ok (.iadd, 1) := by decide +kernel
theorem dX10_unlike_21 : decode cX10_unlike 21 = .ok (.istore 4, 2) := by decide +kernel
theorem dX10_unlike_23 : decode cX10_unlike 23 = .ok (.iload 4, 2) := by decide +kernel
theorem dX10_unlike_25 : decode cX10_unlike 25 = .ok (.aload_n 0, 1) := by decide +kernel
theorem dX10_unlike_26 : decode cX10_unlike 26 = .ok (.getfield 10, 3) := by decide +kernel
theorem dX10_unlike_29 : decode cX10_unlike 29 = .ok (.getfield 217, 3) := by decide +kernel
theorem dX10_unlike_32 : decode cX10_unlike 32 = .ok (.if_icmp .ge 70, 3) := by decide +kernel
theorem dX10_unlike_35 : decode cX10_unlike 35 = .ok (.aload_n 0, 1) := by decide +kernel
theorem dX10_unlike_36 : decode cX10_unlike 36 = .ok (.getfield 10, 3) := by decide +kernel
theorem dX10_unlike_39 : decode cX10_unlike 39 = .ok (.getfield 230, 3) := by decide +kernel
theorem dX10_unlike_42 : decode cX10_unlike 42 = .ok (.iload_n 3, 1) := by decide +kernel
theorem dX10_unlike_43 : decode cX10_unlike 43 = .ok (.aaload, 1) := by decide +kernel
theorem dX10_unlike_44 : decode cX10_unlike 44 = .ok (.getfield 239, 3) := by decide +kernel
theorem dX10_unlike_47 : decode cX10_unlike 47 = .ok (.aload_n 0, 1) := by decide +kernel
theorem dX10_unlike_48 : decode cX10_unlike 48 = .ok (.getfield 10, 3) := by decide +kernel
theorem dX10_unlike_51 : decode cX10_unlike 51 = .ok (.getfield 230, 3) := by decide +kernel
theorem dX10_unlike_54 : decode cX10_unlike 54 = .ok (.iload 4, 2) := by decide +kernel
theorem dX10_unlike_56 : decode cX10_unlike 56 = .ok (.aaload, 1) := by decide +kernel
theorem dX10_unlike_57 : decode cX10_unlike 57 = .ok (.getfield 239, 3) := by decide +kernel
theorem dX10_unlike_60 : decode cX10_unlike 60 = .ok (.isub, 1) := by decide +kernel
theorem dX10_unlike_61 : decode cX10_unlike 61 = .ok (.invokestatic 323, 3) := by decide +kernel
theorem dX10_unlike_64 : decode cX10_unlike 64 = .ok (.istore 5, 2) := by decide +kernel
theorem dX10_unlike_66 : decode cX10_unlike 66 = .ok (.iload 5, 2) := by decide +kernel
theorem dX10_unlike_68 : decode cX10_unlike 68 = .ok (.iload_n 1, 1) := by decide +kernel
theorem dX10_unlike_69 : decode cX10_unlike 69 = .ok (.if_icmp .le 27, 3) := by decide +kernel
theorem dX10_unlike_72 : decode cX10_unlike 72 = .ok (.aload_n 0, 1) := by decide +kernel
theorem dX10_unlike_73 : decode cX10_unlike 73 = .ok (.getfield 10, 3) := by decide +kernel
theorem dX10_unlike_76 : decode cX10_unlike 76 = .ok (.iload_n 3, 1) := by decide +kernel
theorem dX10_unlike_77 : decode cX10_unlike 77 = .ok (.iload 4, 2) := by decide +kernel
theorem dX10_unlike_79 : decode cX10_unlike 79 = .ok (.invokevirtual 319, 3) := by decide +kernel
theorem dX10_unlike_82 : decode cX10_unlike 82 = .ok (.ifCond .eq 14, 3) := by decide +kernel
theorem dX10_unlike_85 : decode cX10_unlike 85 = .ok (.iload 5, 2) := by decide +kernel
theorem dX10_unlike_87 : decode cX10_unlike 87 = .ok (.istore_n 1, 1) := by decide +kernel
theorem dX10_unlike_88 : decode cX10_unlike 88 = .ok (.bipush 100, 2) := by decide +kernel
theorem dX10_unlike_90 : decode cX10_unlike 90 = .ok (.iload_n 3, 1) := by decide +kernel
theorem dX10_unlike_91 : decode cX10_unlike 91 = .ok (.imul, 1) := by decide +kernel
theorem dX10_unlike_92 : decode cX10_unlike 92 = .ok (.iload 4, 2) := by decide +kernel
theorem dX10_unlike_94 : decode cX10_unlike 94 = .ok (.iadd, 1) := by decide +kernel
theorem dX10_unlike_95 : decode cX10_unlike 95 = .ok (.istore_n 2, 1) := by decide +kernel
theorem dX10_unlike_96 : decode cX10_unlike 96 = .ok (.iinc 4 1, 3) := by decide +kernel
theorem dX10_unlike_99 : decode cX10_unlike 99 = .ok (.goto (-76), 3) := by decide +kernel
theorem dX10_unlike_102 : decode cX10_unlike 102 = .ok (.iinc 3 1, 3) := by decide +kernel
theorem dX10_unlike_105 : decode cX10_unlike 105 = .ok (.goto (-98), 3) := by decide +kernel
theorem dX10_unlike_108 : decode cX10_unlike 108 = .ok (.iload_n 2, 1) := by decide +kernel
theorem dX10_unlike_109 : decode cX10_unlike 109 = .ok (.ireturn, 1) := by decide +kernel
theorem dX10_spread_0 : decode cX10_spread 0 = .ok (.iload_n 1, 1) := by decide +kernel
theorem dX10_spread_1 : decode cX10_spread 1 = .ok (.iconst 0, 1) := by decide +kernel
theorem dX10_spread_2 : decode cX10_spread 2 = .ok (.iconst 1, 1) := by decide +kernel
theorem dX10_spread_3 : decode cX10_spread 3 = .ok (.invokestatic 57, 3) := by decide +kernel
theorem dX10_spread_6 : decode cX10_spread 6 = .ok (.ifCond .ne 6, 3) := by decide +kernel
theorem dX10_spread_9 : decode cX10_spread 9 = .ok (.ldc 61, 2) := by decide +kernel
theorem dX10_spread_11 : decode cX10_spread 11 = .ok (.ireturn, 1) := by decide +kernel
theorem dX10_spread_12 : decode cX10_spread 12 = .ok (.iconst 0, 1) := by decide +kernel
theorem dX10_spread_13 : decode cX10_spread 13 = .ok (.istore_n 2, 1) := by decide +kernel
theorem dX10_spread_14 : decode cX10_spread 14 = .ok (.ldc_w 292, 3) := by decide +kernel
theorem dX10_spread_17 : decode cX10_spread 17 = .ok (.istore_n 3, 1) := by decide +kernel
theorem dX10_spread_18 : decode cX10_spread 18 = .ok (.iconst 0, 1) := by decide +kernel
theorem dX10_spread_19 : decode cX10_spread 19 = .ok (.istore 4, 2) := by decide +kernel
theorem dX10_spread_21 : decode cX10_spread 21 = .ok (.iload 4, 2) := by decide +kernel
theorem dX10_spread_23 : decode cX10_spread 23 = .ok (.aload_n 0, 1) := by decide +kernel
theorem dX10_spread_24 : decode cX10_spread 24 = .ok (.getfield 10, 3) := by decide +kernel
theorem dX10_spread_27 : decode cX10_spread 27 = .ok (.getfield 217, 3) := by decide +kernel
theorem dX10_spread_30 : decode cX10_spread 30 = .ok (.if_icmp .ge 63, 3) := by decide +kernel
theorem dX10_spread_33 : decode cX10_spread 33 = .ok (.aload_n 0, 1) := by decide +kernel
theorem dX10_spread_34 : decode cX10_spread 34 = .ok (.getfield 10, 3) := by decide +kernel
theorem dX10_spread_37 : decode cX10_spread 37 = .ok (.iload 4, 2) := by decide +kernel
theorem dX10_spread_39 : decode cX10_spread 39 = .ok (.iload_n 1, 1) := by decide +kernel
theorem dX10_spread_40 : decode cX10_spread 40 = .ok (.ifCond .ne 19, 3) := by decide +kernel
theorem dX10_spread_43 : decode cX10_spread 43 = .ok (.aload_n 0, 1) := by decide +kernel
theorem dX10_spread_44 : decode cX10_spread 44 = .ok (.getfield 10, 3) := by decide +kernel
theorem dX10_spread_47 : decode cX10_spread 47 = .ok (.getfield 230, 3) := by decide +kernel
theorem dX10_spread_50 : decode cX10_spread 50 = .ok (.iload 4, 2) := by decide +kernel
theorem dX10_spread_52 : decode cX10_spread 52 = .ok (.aaload, 1) := by decide +kernel
theorem dX10_spread_53 : decode cX10_spread 53 = .ok (.invokevirtual 253, 3) := by decide +kernel
theorem dX10_spread_56 : decode cX10_spread 56 = .ok (.goto 12, 3) := by decide +kernel
theorem dX10_spread_59 : decode cX10_spread 59 = .ok (.aload_n 0, 1) := by decide +kernel
theorem dX10_spread_60 : decode cX10_spread 60 = .ok (.getfield 10, 3) := by decide +kernel
theorem dX10_spread_63 : decode cX10_spread 63 = .ok (.iload 4, 2) := by decide +kernel
theorem dX10_spread_65 : decode cX10_spread 65 = .ok (.invokevirtual 277, 3) := by decide +kernel
theorem dX10_spread_68 : decode cX10_spread 68 = .ok (.invokevirtual 274, 3) := by decide +kernel
theorem dX10_spread_71 : decode cX10_spread 71 = .ok (.istore 5, 2) := by decide +kernel
theorem dX10_spread_73 : decode cX10_spread 73 = .ok (.iload_n 2, 1) := by decide +kernel
theorem dX10_spread_74 : decode cX10_spread 74 = .ok (.iload 5, 2) := by decide +kernel
theorem dX10_spread_76 : decode cX10_spread 76 = .ok (.invokestatic 326, 3) := by decide +kernel
theorem dX10_spread_79 : decode cX10_spread 79 = .ok (.istore_n 2, 1) := by decide +kernel
theorem dX10_spread_80 : decode cX10_spread 80 = .ok (.iload_n 3, 1) := by decide +kernel
theorem dX10_spread_81 : decode cX10_spread 81 = .ok (.iload 5, 2) := by decide +kernel
theorem dX10_spread_83 : decode cX10_spread 83 = .ok (.invokestatic 224, 3) := by decide +kernel
theorem dX10_spread_86 : decode cX10_spread 86 = .ok (.istore_n 3, 1) := by decide +kernel
theorem dX10_spread_87 : decode cX10_spread 87 = .ok (.iinc 4 1, 3) := by decide +kernel
theorem dX10_spread_90 : decode cX10_spread 90 = .ok (.goto (-69), 3) := by decide +kernel
theorem dX10_spread_93 : decode cX10_spread 93 = .ok (.iconst 0, 1) := by decide +kernel
theorem dX10_spread_94 : decode cX10_spread 94 = .ok (.iload_n 2, 1) := by decide +kernel
theorem dX10_spread_95 : decode cX10_spread 95 = .ok (.iload_n 3, 1) := by decide +kernel
theorem dX10_spread_96 : decode cX10_spread 96 = .ok (.isub, 1) := by decide +kernel
theorem dX10_spread_97 : decode cX10_spread 97 = .ok (.invokestatic 326, 3) := by decide +kernel
theorem dX10_spread_100 : decode cX10_spread 100 = .ok (.ireturn, 1) := by decide +kernel
theorem dX10_slip_0 : decode cX10_slip 0 = .ok (.aload_n 0, 1) := by decide +kernel
theorem dX10_slip_1 : decode cX10_slip 1 = .ok (.getfield 10, 3) := by decide +kernel
theorem dX10_slip_4 : decode cX10_slip 4 = .ok (.iload_n 1, 1) := by decide +kernel
theorem dX10_slip_5 : decode cX10_slip 5 = .ok (.invokevirtual 76, 3) := by decide +kernel
theorem dX10_slip_8 : decode cX10_slip 8 = .ok (.ifCond .eq 12, 3) := by decide +kernel
theorem dX10_slip_11 : decode cX10_slip 11 = .ok (.iload_n 2, 1) := by decide +kernel
theorem dX10_slip_12 : decode cX10_slip 12 = .ok (.iconst 0, 1) := by decide +kernel
theorem dX10_slip_13 : decode cX10_slip 13 = .ok (.iconst 1, 1) := by decide +kernel
theorem dX10_slip_14 : decode cX10_slip 14 = .ok (.invokestatic 57, 3) := by decide +kernel
theorem dX10_slip_17 : decode cX10_slip 17 = .ok (.ifCond .ne 6, 3) := by decide +kernel
theorem dX10_slip_20 : decode cX10_slip 20 = .ok (.ldc 61, 2) := by decide +kernel
theorem dX10_slip_22 : decode cX10_slip 22 = .ok (.ireturn, 1) := by decide +kernel
theorem dX10_slip_23 : decode cX10_slip 23 = .ok (.aload_n 0, 1) := by decide +kernel
theorem dX10_slip_24 : decode cX10_slip 24 = .ok (.getfield 50, 3) := by decide +kernel
theorem dX10_slip_27 : decode cX10_slip 27 = .ok (.iload_n 2, 1) := by decide +kernel
theorem dX10_slip_28 : decode cX10_slip 28 = .ok (.baload, 1) := by decide +kernel
theorem dX10_slip_29 : decode cX10_slip 29 = .ok (.ifCond .eq 7, 3) := by decide +kernel
theorem dX10_slip_32 : decode cX10_slip 32 = .ok (.ldc_w 329, 3) := by decide +kernel
theorem dX10_slip_35 : decode cX10_slip 35 = .ok (.ireturn, 1) := by decide +kernel
theorem dX10_slip_36 : decode cX10_slip 36 = .ok (.lconst 0, 1) := by decide +kernel
theorem dX10_slip_37 : decode cX10_slip 37 = .ok (.lstore_n 3, 1) := by decide +kernel
theorem dX10_slip_38 : decode cX10_slip 38 = .ok (.iconst 0, 1) := by decide +kernel
theorem dX10_slip_39 : decode cX10_slip 39 = .ok (.istore 5, 2) := by decide +kernel
theorem dX10_slip_41 : decode cX10_slip 41 = .ok (.iload 5, 2) := by decide +kernel
theorem dX10_slip_43 : decode cX10_slip 43 = .ok (.aload_n 0, 1) := by decide +kernel
theorem dX10_slip_44 : decode cX10_slip 44 = .ok (.getfield 54, 3) := by decide +kernel
theorem dX10_slip_47 : decode cX10_slip 47 = .ok (.iload_n 2, 1) := by decide +kernel
theorem dX10_slip_48 : decode cX10_slip 48 = .ok (.iaload, 1) := by decide +kernel
theorem dX10_slip_49 : decode cX10_slip 49 = .ok (.if_icmp .ge 69, 3) := by decide +kernel
theorem dX10_slip_52 : decode cX10_slip 52 = .ok (.aload_n 0, 1) := by decide +kernel
theorem dX10_slip_53 : decode cX10_slip 53 = .ok (.getfield 47, 3) := by decide +kernel
theorem dX10_slip_56 : decode cX10_slip 56 = .ok (.iload_n 2, 1) := by decide +kernel
theorem dX10_slip_57 : decode cX10_slip 57 = .ok (.aaload, 1) := by decide +kernel
theorem dX10_slip_58 : decode cX10_slip 58 = .ok (.iload 5, 2) := by decide +kernel
theorem dX10_slip_60 : decode cX10_slip 60 = .ok (.iaload, 1) := by decide +kernel
theorem dX10_slip_61 : decode cX10_slip 61 = .ok (.istore 6, 2) := by decide +kernel
theorem dX10_slip_63 : decode cX10_slip 63 = .ok (.iload 5, 2) := by decide +kernel
theorem dX10_slip_65 : decode cX10_slip 65 = .ok (.iconst 2, 1) := by decide +kernel
theorem dX10_slip_66 : decode cX10_slip 66 = .ok (.irem, 1) := by decide +kernel
theorem dX10_slip_67 : decode cX10_slip 67 = .ok (.ifCond .ne 7, 3) := by decide +kernel
theorem dX10_slip_70 : decode cX10_slip 70 = .ok (.iconst 1, 1) := by decide +kernel
theorem dX10_slip_71 : decode cX10_slip 71 = .ok (.goto 4, 3) := by decide +kernel
theorem dX10_slip_74 : decode cX10_slip 74 = .ok (.iconst 0, 1) := by decide +kernel
theorem dX10_slip_75 : decode cX10_slip 75 = .ok (.istore 7, 2) := by decide +kernel
theorem dX10_slip_77 : decode cX10_slip 77 = .ok (.iload 7, 2) := by decide +kernel
theorem dX10_slip_79 : decode cX10_slip 79 = .ok (.ifCond .eq 11, 3) := by decide +kernel
theorem dX10_slip_82 : decode cX10_slip 82 = .ok (.iload 6, 2) := by decide +kernel
theorem dX10_slip_84 : decode cX10_slip 84 = .ok (.ifCond .ge 17, 3) := by decide +kernel
theorem dX10_slip_87 : decode cX10_slip 87 = .ok (.goto 11, 3) := by decide +kernel
theorem dX10_slip_90 : decode cX10_slip 90 = .ok (.iload 6, 2) := by decide +kernel
theorem dX10_slip_92 : decode cX10_slip 92 = .ok (.i2l, 1) := by decide +kernel
theorem dX10_slip_93 : decode cX10_slip 93 = .ok (.lload_n 3, 1) := by decide +kernel
theorem dX10_slip_94 : decode cX10_slip 94 = .ok (.lcmp, 1) := by decide +kernel
theorem dX10_slip_95 : decode cX10_slip 95 = .ok (.ifCond .eq 6, 3) := by decide +kernel
theorem dX10_slip_98 : decode cX10_slip 98 = .ok (.iload 5, 2) := by decide +kernel
theorem dX10_slip_100 : decode cX10_slip 100 = .ok (.ireturn, 1) := by decide +kernel
theorem dX10_slip_101 : decode cX10_slip 101 = .ok (.iload 7, 2) := by decide +kernel
theorem dX10_slip_103 : decode cX10_slip 103 = .ok (.ifCond .eq 9, 3) := by decide +kernel
theorem dX10_slip_106 : decode cX10_slip 106 = .ok (.lload_n 3, 1) := by decide +kernel
theorem dX10_slip_107 : decode cX10_slip 107 = .ok (.iload 6, 2) := by decide +kernel
theorem dX10_slip_109 : decode cX10_slip 109 = .ok (.i2l, 1) := by decide +kernel
theorem dX10_slip_110 : decode cX10_slip 110 = .ok (.ladd, 1) := by decide +kernel
theorem dX10_slip_111 : decode cX10_slip 111 = .ok (.lstore_n 3, 1) := by decide +kernel
theorem dX10_slip_112 : decode cX10_slip 112 = .ok (.iinc 5 1, 3) := by decide +kernel
theorem dX10_slip_115 : decode cX10_slip 115 = .ok (.goto (-74), 3) := by decide +kernel
theorem dX10_slip_118 : decode cX10_slip 118 = .ok (.aload_n 0, 1) := by decide +kernel
theorem dX10_slip_119 : decode cX10_slip 119 = .ok (.getfield 54, 3) := by decide +kernel
theorem dX10_slip_122 : decode cX10_slip 122 = .ok (.iload_n 2, 1) := by decide +kernel
theorem dX10_slip_123 : decode cX10_slip 123 = .ok (.iaload, 1) := by decide +kernel
theorem dX10_slip_124 : decode cX10_slip 124 = .ok (.bipush 24, 2) := by decide +kernel
theorem dX10_slip_126 : decode cX10_slip 126 = .ok (.if_icmp .ge 6, 3) := by decide +kernel
theorem dX10_slip_129 : decode cX10_slip 129 = .ok (.ldc 169, 2) := by decide +kernel
theorem dX10_slip_131 : decode cX10_slip 131 = .ok (.ireturn, 1) := by decide +kernel
theorem dX10_slip_132 : decode cX10_slip 132 = .ok (.lload_n 3, 1) := by decide +kernel
theorem dX10_slip_133 : decode cX10_slip 133 = .ok (.ldc2_w 330, 3) := by decide +kernel
theorem dX10_slip_136 : decode cX10_slip 136 = .ok (.aload_n 0, 1) := by decide +kernel
theorem dX10_slip_137 : decode cX10_slip 137 = .ok (.getfield 10, 3) := by decide +kernel
theorem dX10_slip_140 : decode cX10_slip 140 = .ok (.iload_n 1, 1) := by decide +kernel
theorem dX10_slip_141 : decode cX10_slip 141 = .ok (.iconst 0, 1) := by decide +kernel
theorem dX10_slip_142 : decode cX10_slip 142 = .ok (.aload_n 0, 1) := by decide +kernel
theorem dX10_slip_143 : decode cX10_slip 143 = .ok (.getfield 10, 3) := by decide +kernel
theorem dX10_slip_146 : decode cX10_slip 146 = .ok (.getfield 108, 3) := by decide +kernel
theorem dX10_slip_149 : decode cX10_slip 149 = .ok (.aload_n 0, 1) := by decide +kernel
theorem dX10_slip_150 : decode cX10_slip 150 = .ok (.getfield 10, 3) := by decide +kernel
theorem dX10_slip_153 : decode cX10_slip 153 = .ok (.getfield 108, 3) := by decide +kernel
theorem dX10_slip_156 : decode cX10_slip 156 = .ok (.invokevirtual 118, 3) := by decide +kernel
theorem dX10_slip_159 : decode cX10_slip 159 = .ok (.i2l, 1) := by decide +kernel
theorem dX10_slip_160 : decode cX10_slip 160 = .ok (.lmul, 1) := by decide +kernel
theorem dX10_slip_161 : decode cX10_slip 161 = .ok (.lsub, 1) := by decide +kernel
theorem dX10_slip_162 : decode cX10_slip 162 = .ok (.invokestatic 332, 3) := by decide +kernel
theorem dX10_slip_165 : decode cX10_slip 165 = .ok (.lstore 5, 2) := by decide +kernel
theorem dX10_slip_167 : decode cX10_slip 167 = .ok (.lload 5, 2) := by decide +kernel
theorem dX10_slip_169 : decode cX10_slip 169 = .ok (.aload_n 0, 1) := by decide +kernel
theorem dX10_slip_170 : decode cX10_slip 170 = .ok (.getfield 10, 3) := by decide +kernel
theorem dX10_slip_173 : decode cX10_slip 173 = .ok (.getfield 128, 3) := by decide +kernel
theorem dX10_slip_176 : decode cX10_slip 176 = .ok (.bipush 15, 2) := by decide +kernel
theorem dX10_slip_178 : decode cX10_slip 178 = .ok (.iaload, 1) := by decide +kernel
theorem dX10_slip_179 : decode cX10_slip 179 = .ok (.i2l, 1) := by decide +kernel
theorem dX10_slip_180 : decode cX10_slip 180 = .ok (.lcmp, 1) := by decide +kernel
theorem dX10_slip_181 : decode cX10_slip 181 = .ok (.ifCond .le 8, 3) := by decide +kernel
theorem dX10_slip_184 : decode cX10_slip 184 = .ok (.bipush 23, 2) := by decide +kernel
theorem dX10_slip_186 : decode cX10_slip 186 = .ok (.goto 5, 3) := by decide +kernel
theorem dX10_slip_189 : decode cX10_slip 189 = .ok (.ldc 169, 2) := by decide +kernel
theorem dX10_slip_191 : decode cX10_slip 191 = .ok (.ireturn, 1) := by decide +kernel
theorem dX10_keep_0 : decode cX10_keep 0 = .ok (.aload_n 0, 1) := by decide +kernel
theorem dX10_keep_1 : decode cX10_keep 1 = .ok (.getfield 16, 3) := by decide +kernel
theorem dX10_keep_4 : decode cX10_keep 4 = .ok (.aload_n 0, 1) := by decide +kernel
theorem dX10_keep_5 : decode cX10_keep 5 = .ok (.getfield 10, 3) := by decide +kernel
theorem dX10_keep_8 : decode cX10_keep 8 = .ok (.invokevirtual 335, 3) := by decide +kernel
theorem dX10_keep_11 : decode cX10_keep 11 = .ok (.aload_n 0, 1) := by decide +kernel
theorem dX10_keep_12 : decode cX10_keep 12 = .ok (.iconst 1, 1) := by decide +kernel
theorem dX10_keep_13 : decode cX10_keep 13 = .ok (.putfield 19, 3) := by decide +kernel
theorem dX10_keep_16 : decode cX10_keep 16 = .ok (.aload_n 0, 1) := by decide +kernel
theorem dX10_keep_17 : decode cX10_keep 17 = .ok (.getfield 10, 3) := by decide +kernel
theorem dX10_keep_20 : decode cX10_keep 20 = .ok (.getfield 108, 3) := by decide +kernel
theorem dX10_keep_23 : decode cX10_keep 23 = .ok (.ireturn, 1) := by decide +kernel
theorem dX10_again_0 : decode cX10_again 0 = .ok (.aload_n 0, 1) := by decide +kernel
theorem dX10_again_1 : decode cX10_again 1 = .ok (.getfield 19, 3) := by decide +kernel
theorem dX10_again_4 : decode cX10_again 4 = .ok (.ifCond .ne 6, 3) := by decide +kernel
theorem dX10_again_7 : decode cX10_again 7 = .ok (.ldc 91, 2) := by decide +kernel
theorem dX10_again_9 : decode cX10_again 9 = .ok (.ireturn, 1) := by decide +kernel
theorem dX10_again_10 : decode cX10_again 10 = .ok (.aload_n 0, 1) := by decide +kernel
theorem dX10_again_11 : decode cX10_again 11 = .ok (.getfield 10, 3) := by decide +kernel
theorem dX10_again_14 : decode cX10_again 14 = .ok (.aload_n 0, 1) := by decide +kernel
theorem dX10_again_15 : decode cX10_again 15 = .ok (.getfield 16, 3) := by decide +kernel
theorem dX10_again_18 : decode cX10_again 18 = .ok (.invokevirtual 335, 3) := by decide +kernel
theorem dX10_again_21 : decode cX10_again 21 = .ok (.aload_n 0, 1) := by decide +kernel
theorem dX10_again_22 : decode cX10_again 22 = .ok (.getfield 10, 3) := by decide +kernel
theorem dX10_again_25 : decode cX10_again 25 = .ok (.getfield 108, 3) := by decide +kernel
theorem dX10_again_28 : decode cX10_again 28 = .ok (.ireturn, 1) := by decide +kernel
theorem dX10_sheet_0 : decode cX10_sheet 0 = .ok (.iload_n 1, 1) := by decide +kernel
theorem dX10_sheet_1 : decode cX10_sheet 1 = .ok (.iconst 0, 1) := by decide +kernel
theorem dX10_sheet_2 : decode cX10_sheet 2 = .ok (.iconst 1, 1) := by decide +kernel
theorem dX10_sheet_3 : decode cX10_sheet 3 = .ok (.invokestatic 57, 3) := by decide +kernel
theorem dX10_sheet_6 : decode cX10_sheet 6 = .ok (.ifCond .eq 9, 3) := by decide +kernel
theorem dX10_sheet_9 : decode cX10_sheet 9 = .ok (.iload_n 2, 1) := by decide +kernel
theorem dX10_sheet_10 : decode cX10_sheet 10 = .ok (.bipush 24, 2) := by decide +kernel
theorem dX10_sheet_12 : decode cX10_sheet 12 = .ok (.if_icmp .le 6, 3) := by decide +kernel
theorem dX10_sheet_15 : decode cX10_sheet 15 = .ok (.ldc 61, 2) := by decide +kernel
theorem dX10_sheet_17 : decode cX10_sheet 17 = .ok (.ireturn, 1) := by decide +kernel
theorem dX10_sheet_18 : decode cX10_sheet 18 = .ok (.iload_n 2, 1) := by decide +kernel
theorem dX10_sheet_19 : decode cX10_sheet 19 = .ok (.ifCond .ge 7, 3) := by decide +kernel
theorem dX10_sheet_22 : decode cX10_sheet 22 = .ok (.ldc_w 338, 3) := by decide +kernel
theorem dX10_sheet_25 : decode cX10_sheet 25 = .ok (.ireturn, 1) := by decide +kernel
theorem dX10_sheet_26 : decode cX10_sheet 26 = .ok (.iconst 0, 1) := by decide +kernel
theorem dX10_sheet_27 : decode cX10_sheet 27 = .ok (.istore_n 3, 1) := by decide +kernel
theorem dX10_sheet_28 : decode cX10_sheet 28 = .ok (.iload_n 3, 1) := by decide +kernel
theorem dX10_sheet_29 : decode cX10_sheet 29 = .ok (.iload_n 2, 1) := by decide +kernel
theorem dX10_sheet_30 : decode cX10_sheet 30 = .ok (.if_icmp .ge 18, 3) := by decide +kernel
theorem dX10_sheet_33 : decode cX10_sheet 33 = .ok (.aload_n 0, 1) := by decide +kernel
theorem dX10_sheet_34 : decode cX10_sheet 34 = .ok (.getfield 47, 3) := by decide +kernel
theorem dX10_sheet_37 : decode cX10_sheet 37 = .ok (.iload_n 1, 1) := by decide +kernel
theorem dX10_sheet_38 : decode cX10_sheet 38 = .ok (.aaload, 1) := by decide +kernel
theorem dX10_sheet_39 : decode cX10_sheet 39 = .ok (.iload_n 3, 1) := by decide +kernel
theorem dX10_sheet_40 : decode cX10_sheet 40 = .ok (.iconst 0, 1) := by decide +kernel
theorem dX10_sheet_41 : decode cX10_sheet 41 = .ok (.iastore, 1) := by decide +kernel
theorem dX10_sheet_42 : decode cX10_sheet 42 = .ok (.iinc 3 1, 3) := by decide +kernel
theorem dX10_sheet_45 : decode cX10_sheet 45 = .ok (.goto (-17), 3) := by decide +kernel
theorem dX10_sheet_48 : decode cX10_sheet 48 = .ok (.aload_n 0, 1) := by decide +kernel
theorem dX10_sheet_49 : decode cX10_sheet 49 = .ok (.getfield 54, 3) := by decide +kernel
theorem dX10_sheet_52 : decode cX10_sheet 52 = .ok (.iload_n 1, 1) := by decide +kernel
theorem dX10_sheet_53 : decode cX10_sheet 53 = .ok (.iload_n 2, 1) := by decide +kernel
theorem dX10_sheet_54 : decode cX10_sheet 54 = .ok (.iastore, 1) := by decide +kernel
theorem dX10_sheet_55 : decode cX10_sheet 55 = .ok (.aload_n 0, 1) := by decide +kernel
theorem dX10_sheet_56 : decode cX10_sheet 56 = .ok (.getfield 50, 3) := by decide +kernel
theorem dX10_sheet_59 : decode cX10_sheet 59 = .ok (.iload_n 1, 1) := by decide +kernel
theorem dX10_sheet_60 : decode cX10_sheet 60 = .ok (.iconst 0, 1) := by decide +kernel
theorem dX10_sheet_61 : decode cX10_sheet 61 = .ok (.bastore, 1) := by decide +kernel
theorem dX10_sheet_62 : decode cX10_sheet 62 = .ok (.iload_n 2, 1) := by decide +kernel
theorem dX10_sheet_63 : decode cX10_sheet 63 = .ok (.ireturn, 1) := by decide +kernel
theorem dX10_mark_0 : decode cX10_mark 0 = .ok (.iload_n 1, 1) := by decide +kernel
theorem dX10_mark_1 : decode cX10_mark 1 = .ok (.iconst 0, 1) := by decide +kernel
theorem dX10_mark_2 : decode cX10_mark 2 = .ok (.iconst 1, 1) := by decide +kernel
theorem dX10_mark_3 : decode cX10_mark 3 = .ok (.invokestatic 57, 3) := by decide +kernel
theorem dX10_mark_6 : decode cX10_mark 6 = .ok (.ifCond .ne 6, 3) := by decide +kernel
theorem dX10_mark_9 : decode cX10_mark 9 = .ok (.ldc 61, 2) := by decide +kernel
theorem dX10_mark_11 : decode cX10_mark 11 = .ok (.ireturn, 1) := by decide +kernel
theorem dX10_mark_12 : decode cX10_mark 12 = .ok (.aload_n 0, 1) := by decide +kernel
theorem dX10_mark_13 : decode cX10_mark 13 = .ok (.getfield 50, 3) := by decide +kernel
theorem dX10_mark_16 : decode cX10_mark 16 = .ok (.iload_n 1, 1) := by decide +kernel
theorem dX10_mark_17 : decode cX10_mark 17 = .ok (.baload, 1) := by decide +kernel
theorem dX10_mark_18 : decode cX10_mark 18 = .ok (.ifCond .eq 7, 3) := by decide +kernel
theorem dX10_mark_21 : decode cX10_mark 21 = .ok (.ldc_w 329, 3) := by decide +kernel
theorem dX10_mark_24 : decode cX10_mark 24 = .ok (.ireturn, 1) := by decide +kernel
theorem dX10_mark_25 : decode cX10_mark 25 = .ok (.iload_n 2, 1) := by decide +kernel
theorem dX10_mark_26 : decode cX10_mark 26 = .ok (.iconst 0, 1) := by decide +kernel
theorem dX10_mark_27 : decode cX10_mark 27 = .ok (.aload_n 0, 1) := by decide +kernel
theorem dX10_mark_28 : decode cX10_mark 28 = .ok (.getfield 54, 3) := by decide +kernel
theorem dX10_mark_31 : decode cX10_mark 31 = .ok (.iload_n 1, 1) := by decide +kernel
theorem dX10_mark_32 : decode cX10_mark 32 = .ok (.iaload, 1) := by decide +kernel
theorem dX10_mark_33 : decode cX10_mark 33 = .ok (.iconst 1, 1) := by decide +kernel
theorem dX10_mark_34 : decode cX10_mark 34 = .ok (.isub, 1) := by decide +kernel
theorem dX10_mark_35 : decode cX10_mark 35 = .ok (.invokestatic 57, 3) := by decide +kernel
theorem dX10_mark_38 : decode cX10_mark 38 = .ok (.ifCond .ne 7, 3) := by decide +kernel
theorem dX10_mark_41 : decode cX10_mark 41 = .ok (.ldc_w 339, 3) := by decide +kernel
theorem dX10_mark_44 : decode cX10_mark 44 = .ok (.ireturn, 1) := by decide +kernel
theorem dX10_mark_45 : decode cX10_mark 45 = .ok (.aload_n 0, 1) := by decide +kernel
theorem dX10_mark_46 : decode cX10_mark 46 = .ok (.getfield 47, 3) := by decide +kernel
theorem dX10_mark_49 : decode cX10_mark 49 = .ok (.iload_n 1, 1) := by decide +kernel
theorem dX10_mark_50 : decode cX10_mark 50 = .ok (.aaload, 1) := by decide +kernel
theorem dX10_mark_51 : decode cX10_mark 51 = .ok (.iload_n 2, 1) := by decide +kernel
theorem dX10_mark_52 : decode cX10_mark 52 = .ok (.iaload, 1) := by decide +kernel
theorem dX10_mark_53 : decode cX10_mark 53 = .ok (.istore 4, 2) := by decide +kernel
theorem dX10_mark_55 : decode cX10_mark 55 = .ok (.aload_n 0, 1) := by decide +kernel
theorem dX10_mark_56 : decode cX10_mark 56 = .ok (.getfield 47, 3) := by decide +kernel
theorem dX10_mark_59 : decode cX10_mark 59 = .ok (.iload_n 1, 1) := by decide +kernel
theorem dX10_mark_60 : decode cX10_mark 60 = .ok (.aaload, 1) := by decide +kernel
theorem dX10_mark_61 : decode cX10_mark 61 = .ok (.iload_n 2, 1) := by decide +kernel
theorem dX10_mark_62 : decode cX10_mark 62 = .ok (.iload_n 3, 1) := by decide +kernel
theorem dX10_mark_63 : decode cX10_mark 63 = .ok (.iastore, 1) := by decide +kernel
theorem dX10_mark_64 : decode cX10_mark 64 = .ok (.iload 4, 2) := by decide +kernel
theorem dX10_mark_66 : decode cX10_mark 66 = .ok (.ireturn, 1) := by decide +kernel
theorem dX10_copy_0 : decode cX10_copy 0 = .ok (.iload_n 1, 1) := by decide +kernel
theorem dX10_copy_1 : decode cX10_copy 1 = .ok (.iconst 0, 1) := by decide +kernel
theorem dX10_copy_2 : decode cX10_copy 2 = .ok (.iconst 1, 1) := by decide +kernel
theorem dX10_copy_3 : decode cX10_copy 3 = .ok (.invokestatic 57, 3) := by decide +kernel
theorem dX10_copy_6 : decode cX10_copy 6 = .ok (.ifCond .eq 12, 3) := by decide +kernel
theorem dX10_copy_9 : decode cX10_copy 9 = .ok (.iload_n 3, 1) := by decide +kernel
theorem dX10_copy_10 : decode cX10_copy 10 = .ok (.iconst 0, 1) := by decide +kernel
theorem dX10_copy_11 : decode cX10_copy 11 = .ok (.iconst 1, 1) := by decide +kernel
theorem dX10_copy_12 : decode cX10_copy 12 = .ok (.invokestatic 57, 3) := by decide +kernel
theorem dX10_copy_15 : decode cX10_copy 15 = .ok (.ifCond .ne 6, 3) := by decide +kernel
theorem dX10_copy_18 : decode cX10_copy 18 = .ok (.ldc 61, 2) := by decide +kernel
theorem dX10_copy_20 : decode cX10_copy 20 = .ok (.ireturn, 1) := by decide +kernel
theorem dX10_copy_21 : decode cX10_copy 21 = .ok (.aload_n 0, 1) := by decide +kernel
theorem dX10_copy_22 : decode cX10_copy 22 = .ok (.getfield 50, 3) := by decide +kernel
theorem dX10_copy_25 : decode cX10_copy 25 = .ok (.iload_n 1, 1) := by decide +kernel
theorem dX10_copy_26 : decode cX10_copy 26 = .ok (.baload, 1) := by decide +kernel
theorem dX10_copy_27 : decode cX10_copy 27 = .ok (.ifCond .ne 12, 3) := by decide +kernel
theorem dX10_copy_30 : decode cX10_copy 30 = .ok (.aload_n 0, 1) := by decide +kernel
theorem dX10_copy_31 : decode cX10_copy 31 = .ok (.getfield 50, 3) := by decide +kernel
theorem dX10_copy_34 : decode cX10_copy 34 = .ok (.iload_n 3, 1) := by decide +kernel
theorem dX10_copy_35 : decode cX10_copy 35 = .ok (.baload, 1) := by decide +kernel
theorem dX10_copy_36 : decode cX10_copy 36 = .ok (.ifCond .eq 7, 3) := by decide +kernel
theorem dX10_copy_39 : decode cX10_copy 39 = .ok (.ldc_w 329, 3) := by decide +kernel
theorem dX10_copy_42 : decode cX10_copy 42 = .ok (.ireturn, 1) := by decide +kernel
theorem dX10_copy_43 : decode cX10_copy 43 = .ok (.iload_n 2, 1) := by decide +kernel
theorem dX10_copy_44 : decode cX10_copy 44 = .ok (.iconst 0, 1) := by decide +kernel
theorem dX10_copy_45 : decode cX10_copy 45 = .ok (.aload_n 0, 1) := by decide +kernel
theorem dX10_copy_46 : decode cX10_copy 46 = .ok (.getfield 54, 3) := by decide +kernel
theorem dX10_copy_49 : decode cX10_copy 49 = .ok (.iload_n 1, 1) := by decide +kernel
theorem dX10_copy_50 : decode cX10_copy 50 = .ok (.iaload, 1) := by decide +kernel
theorem dX10_copy_51 : decode cX10_copy 51 = .ok (.invokestatic 57, 3) := by decide +kernel
theorem dX10_copy_54 : decode cX10_copy 54 = .ok (.ifCond .eq 18, 3) := by decide +kernel
theorem dX10_copy_57 : decode cX10_copy 57 = .ok (.iload 4, 2) := by decide +kernel
theorem dX10_copy_59 : decode cX10_copy 59 = .ok (.iconst 0, 1) := by decide +kernel
theorem dX10_copy_60 : decode cX10_copy 60 = .ok (.aload_n 0, 1) := by decide +kernel
theorem dX10_copy_61 : decode cX10_copy 61 = .ok (.getfield 54, 3) := by decide +kernel
theorem dX10_copy_64 : decode cX10_copy 64 = .ok (.iload_n 3, 1) := by decide +kernel
theorem dX10_copy_65 : decode cX10_copy 65 = .ok (.iaload, 1) := by decide +kernel
theorem dX10_copy_66 : decode cX10_copy 66 = .ok (.invokestatic 57, 3) := by decide +kernel
theorem dX10_copy_69 : decode cX10_copy 69 = .ok (.ifCond .ne 7, 3) := by decide +kernel
theorem dX10_copy_72 : decode cX10_copy 72 = .ok (.ldc_w 339, 3) := by decide +kernel
theorem dX10_copy_75 : decode cX10_copy 75 = .ok (.ireturn, 1) := by decide +kernel
theorem dX10_copy_76 : decode cX10_copy 76 = .ok (.iload 5, 2) := by decide +kernel
theorem dX10_copy_78 : decode cX10_copy 78 = .ok (.iconst 0, 1) := by decide +kernel
theorem dX10_copy_79 : decode cX10_copy 79 = .ok (.aload_n 0, 1) := by decide +kernel
theorem dX10_copy_80 : decode cX10_copy 80 = .ok (.getfield 54, 3) := by decide +kernel
theorem dX10_copy_83 : decode cX10_copy 83 = .ok (.iload_n 1, 1) := by decide +kernel
theorem dX10_copy_84 : decode cX10_copy 84 = .ok (.iaload, 1) := by decide +kernel
theorem dX10_copy_85 : decode cX10_copy 85 = .ok (.iload_n 2, 1) := by decide +kernel
theorem dX10_copy_86 : decode cX10_copy 86 = .ok (.isub, 1) := by decide +kernel
theorem dX10_copy_87 : decode cX10_copy 87 = .ok (.aload_n 0, 1) := by decide +kernel
theorem dX10_copy_88 : decode cX10_copy 88 = .ok (.getfield 54, 3) := by decide +kernel
theorem dX10_copy_91 : decode cX10_copy 91 = .ok (.iload_n 3, 1) := by decide +kernel
theorem dX10_copy_92 : decode cX10_copy 92 = .ok (.iaload, 1) := by decide +kernel
theorem dX10_copy_93 : decode cX10_copy 93 = .ok (.iload 4, 2) := by decide +kernel
theorem dX10_copy_95 : decode cX10_copy 95 = .ok (.isub, 1) := by decide +kernel
theorem dX10_copy_96 : decode cX10_copy 96 = .ok (.invokestatic 224, 3) := by decide +kernel
theorem dX10_copy_99 : decode cX10_copy 99 = .ok (.invokestatic 57, 3) := by decide +kernel
theorem dX10_copy_102 : decode cX10_copy 102 = .ok (.ifCond .ne 7, 3) := by decide +kernel
theorem dX10_copy_105 : decode cX10_copy 105 = .ok (.ldc_w 339, 3) := by decide +kernel
theorem dX10_copy_108 : decode cX10_copy 108 = .ok (.ireturn, 1) := by decide +kernel
theorem dX10_copy_109 : decode cX10_copy 109 = .ok (.aload_n 0, 1) := by decide +kernel
theorem dX10_copy_110 : decode cX10_copy 110 = .ok (.getfield 47, 3) := by decide +kernel
theorem dX10_copy_113 : decode cX10_copy 113 = .ok (.iload_n 1, 1) := by decide +kernel
theorem dX10_copy_114 : decode cX10_copy 114 = .ok (.aaload, 1) := by decide +kernel
theorem dX10_copy_115 : decode cX10_copy 115 = .ok (.iload_n 2, 1) := by decide +kernel
theorem dX10_copy_116 : decode cX10_copy 116 = .ok (.aload_n 0, 1) := by decide +kernel
theorem dX10_copy_117 : decode cX10_copy 117 = .ok (.getfield 47, 3) := by decide +kernel
theorem dX10_copy_120 : decode cX10_copy 120 = .ok (.iload_n 3, 1) := by decide +kernel
theorem dX10_copy_121 : decode cX10_copy 121 = .ok (.aaload, 1) := by decide +kernel
theorem dX10_copy_122 : decode cX10_copy 122 = .ok (.iload 4, 2) := by decide +kernel
theorem dX10_copy_124 : decode cX10_copy 124 = .ok (.iload 5, 2) := by decide +kernel
theorem dX10_copy_126 : decode cX10_copy 126 = .ok (.invokestatic 340, 3) := by decide +kernel
theorem dX10_copy_129 : decode cX10_copy 129 = .ok (.iload 5, 2) := by decide +kernel
theorem dX10_copy_131 : decode cX10_copy 131 = .ok (.ireturn, 1) := by decide +kernel
theorem dX10_count_0 : decode cX10_count 0 = .ok (.iload_n 1, 1) := by decide +kernel
theorem dX10_count_1 : decode cX10_count 1 = .ok (.tableswitch 135 0 9 #[55, 63, 71, 79, 87, 95, 103, 108, 119, 127], 55) := by decide +kernel
theorem dX10_count_56 : decode cX10_count 56 = .ok (.aload_n 0, 1) := by decide +kernel
theorem dX10_count_57 : decode cX10_count 57 = .ok (.getfield 10, 3) := by decide +kernel
theorem dX10_count_60 : decode cX10_count 60 = .ok (.getfield 62, 3) := by decide +kernel
theorem dX10_count_63 : decode cX10_count 63 = .ok (.ireturn, 1) := by decide +kernel
theorem dX10_count_64 : decode cX10_count 64 = .ok (.aload_n 0, 1) := by decide +kernel
theorem dX10_count_65 : decode cX10_count 65 = .ok (.getfield 10, 3) := by decide +kernel
theorem dX10_count_68 : decode cX10_count 68 = .ok (.getfield 96, 3) := by decide +kernel
theorem dX10_count_71 : decode cX10_count 71 = .ok (.ireturn, 1) := by decide +kernel
theorem dX10_count_72 : decode cX10_count 72 = .ok (.aload_n 0, 1) := by decide +kernel
theorem dX10_count_73 : decode cX10_count 73 = .ok (.getfield 10, 3) := by decide +kernel
theorem dX10_count_76 : decode cX10_count 76 = .ok (.getfield 131, 3) := by decide +kernel
theorem dX10_count_79 : decode cX10_count 79 = .ok (.ireturn, 1) := by decide +kernel
theorem dX10_count_80 : decode cX10_count 80 = .ok (.aload_n 0, 1) := by decide +kernel
theorem dX10_count_81 : decode cX10_count 81 = .ok (.getfield 10, 3) := by decide +kernel
theorem dX10_count_84 : decode cX10_count 84 = .ok (.getfield 217, 3) := by decide +kernel
theorem dX10_count_87 : decode cX10_count 87 = .ok (.ireturn, 1) := by decide +kernel
theorem dX10_count_88 : decode cX10_count 88 = .ok (.aload_n 0, 1) := by decide +kernel
theorem dX10_count_89 : decode cX10_count 89 = .ok (.getfield 10, 3) := by decide +kernel
theorem dX10_count_92 : decode cX10_count 92 = .ok (.invokevirtual 346, 3) := by decide +kernel
theorem dX10_count_95 : decode cX10_count 95 = .ok (.ireturn, 1) := by decide +kernel
theorem dX10_count_96 : decode cX10_count 96 = .ok (.aload_n 0, 1) := by decide +kernel
theorem dX10_count_97 : decode cX10_count 97 = .ok (.getfield 10, 3) := by decide +kernel
theorem dX10_count_100 : decode cX10_count 100 = .ok (.invokevirtual 349, 3) := by decide +kernel
theorem dX10_count_103 : decode cX10_count 103 = .ok (.ireturn, 1) := by decide +kernel
theorem dX10_count_104 : decode cX10_count 104 = .ok (.aload_n 0, 1) := by decide +kernel
theorem dX10_count_105 : decode cX10_count 105 = .ok (.getfield 41, 3) := by decide +kernel
theorem dX10_count_108 : decode cX10_count 108 = .ok (.ireturn, 1) := by decide +kernel
theorem dX10_count_109 : decode cX10_count 109 = .ok (.aload_n 0, 1) := by decide +kernel
theorem dX10_count_110 : decode cX10_count 110 = .ok (.getfield 26, 3) := by decide +kernel
theorem dX10_count_113 : decode cX10_count 113 = .ok (.getfield 173, 3) := by decide +kernel
theorem dX10_count_116 : decode cX10_count 116 = .ok (.getfield 177, 3) := by decide +kernel
theorem dX10_count_119 : decode cX10_count 119 = .ok (.ireturn, 1) := by decide +kernel
theorem dX10_count_120 : decode cX10_count 120 = .ok (.aload_n 0, 1) := by decide +kernel
theorem dX10_count_121 : decode cX10_count 121 = .ok (.getfield 10, 3) := by decide +kernel
theorem dX10_count_124 : decode cX10_count 124 = .ok (.getfield 108, 3) := by decide +kernel
theorem dX10_count_127 : decode cX10_count 127 = .ok (.ireturn, 1) := by decide +kernel
theorem dX10_count_128 : decode cX10_count 128 = .ok (.aload_n 0, 1) := by decide +kernel
theorem dX10_count_129 : decode cX10_count 129 = .ok (.getfield 10, 3) := by decide +kernel
theorem dX10_count_132 : decode cX10_count 132 = .ok (.invokevirtual 352, 3) := by decide +kernel
theorem dX10_count_135 : decode cX10_count 135 = .ok (.ireturn, 1) := by decide +kernel
theorem dX10_count_136 : decode cX10_count 136 = .ok (.ldc 61, 2) := by decide +kernel
theorem dX10_count_138 : decode cX10_count 138 = .ok (.ireturn, 1) := by decide +kernel
theorem dX10_isWithin_0 : decode cX10_isWithin 0 = .ok (.iload_n 0, 1) := by decide +kernel
theorem dX10_isWithin_1 : decode cX10_isWithin 1 = .ok (.iload_n 1, 1) := by decide +kernel
theorem dX10_isWithin_2 : decode cX10_isWithin 2 = .ok (.if_icmp .lt 12, 3) := by decide +kernel
theorem dX10_isWithin_5 : decode cX10_isWithin 5 = .ok (.iload_n 0, 1) := by decide +kernel
theorem dX10_isWithin_6 : decode cX10_isWithin 6 = .ok (.iload_n 2, 1) := by decide +kernel
theorem dX10_isWithin_7 : decode cX10_isWithin 7 = .ok (.if_icmp .gt 7, 3) := by decide +kernel
theorem dX10_isWithin_10 : decode cX10_isWithin 10 = .ok (.iconst 1, 1) := by decide +kernel
theorem dX10_isWithin_11 : decode cX10_isWithin 11 = .ok (.goto 4, 3) := by decide +kernel
theorem dX10_isWithin_14 : decode cX10_isWithin 14 = .ok (.iconst 0, 1) := by decide +kernel
theorem dX10_isWithin_15 : decode cX10_isWithin 15 = .ok (.ireturn, 1) := by decide +kernel
theorem dX10_oneIf_0 : decode cX10_oneIf 0 = .ok (.iload_n 0, 1) := by decide +kernel
theorem dX10_oneIf_1 : decode cX10_oneIf 1 = .ok (.ifCond .eq 7, 3) := by decide +kernel
theorem dX10_oneIf_4 : decode cX10_oneIf 4 = .ok (.iconst 1, 1) := by decide +kernel
theorem dX10_oneIf_5 : decode cX10_oneIf 5 = .ok (.goto 4, 3) := by decide +kernel
theorem dX10_oneIf_8 : decode cX10_oneIf 8 = .ok (.iconst 0, 1) := by decide +kernel
theorem dX10_oneIf_9 : decode cX10_oneIf 9 = .ok (.ireturn, 1) := by decide +kernel
theorem dX10_bounded_0 : decode cX10_bounded 0 = .ok (.iload_n 0, 1) := by decide +kernel
theorem dX10_bounded_1 : decode cX10_bounded 1 = .ok (.iload_n 1, 1) := by decide +kernel
theorem dX10_bounded_2 : decode cX10_bounded 2 = .ok (.invokestatic 326, 3) := by decide +kernel
theorem dX10_bounded_5 : decode cX10_bounded 5 = .ok (.iload_n 2, 1) := by decide +kernel
theorem dX10_bounded_6 : decode cX10_bounded 6 = .ok (.invokestatic 224, 3) := by decide +kernel
theorem dX10_bounded_9 : decode cX10_bounded 9 = .ok (.ireturn, 1) := by decide +kernel
