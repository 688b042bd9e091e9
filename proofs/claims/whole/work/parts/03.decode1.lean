theorem dX0_init_0 : decode cX0_init 0 = .ok (.aload_n 0, 1) := by decide +kernel
theorem dX0_init_1 : decode cX0_init 1 = .ok (.invokespecial 3, 3) := by decide +kernel
theorem dX0_init_4 : decode cX0_init 4 = .ok (.aload_n 0, 1) := by decide +kernel
theorem dX0_init_5 : decode cX0_init 5 = .ok (.bipush 10, 2) := by decide +kernel
theorem dX0_init_7 : decode cX0_init 7 = .ok (.newarray .int, 2) := by decide +kernel
theorem dX0_init_9 : decode cX0_init 9 = .ok (.putfield 11, 3) := by decide +kernel
theorem dX0_init_12 : decode cX0_init 12 = .ok (.return_, 1) := by decide +kernel
theorem dX0_tonguesLeft_0 : decode cX0_tonguesLeft 0 = .ok (.iconst 0, 1) := by decide +kernel
theorem dX0_tonguesLeft_1 : decode cX0_tonguesLeft 1 = .ok (.istore_n 3, 1) := by decide +kernel
theorem dX0_tonguesLeft_2 : decode cX0_tonguesLeft 2 = .ok (.iconst 0, 1) := by decide +kernel
theorem dX0_tonguesLeft_3 : decode cX0_tonguesLeft 3 = .ok (.istore 4, 2) := by decide +kernel
theorem dX0_tonguesLeft_5 : decode cX0_tonguesLeft 5 = .ok (.iload 4, 2) := by decide +kernel
theorem dX0_tonguesLeft_7 : decode cX0_tonguesLeft 7 = .ok (.bipush 10, 2) := by decide +kernel
theorem dX0_tonguesLeft_9 : decode cX0_tonguesLeft 9 = .ok (.if_icmp .ge 27, 3) := by decide +kernel
theorem dX0_tonguesLeft_12 : decode cX0_tonguesLeft 12 = .ok (.aload_n 0, 1) := by decide +kernel
theorem dX0_tonguesLeft_13 : decode cX0_tonguesLeft 13 = .ok (.aload_n 1, 1) := by decide +kernel
theorem dX0_tonguesLeft_14 : decode cX0_tonguesLeft 14 = .ok (.iload_n 2, 1) := by decide +kernel
theorem dX0_tonguesLeft_15 : decode cX0_tonguesLeft 15 = .ok (.iload 4, 2) := by decide +kernel
theorem dX0_tonguesLeft_17 : decode cX0_tonguesLeft 17 = .ok (.invokevirtual 15, 3) := by decide +kernel
theorem dX0_tonguesLeft_20 : decode cX0_tonguesLeft 20 = .ok (.ifCond .eq 10, 3) := by decide +kernel
theorem dX0_tonguesLeft_23 : decode cX0_tonguesLeft 23 = .ok (.iload_n 3, 1) := by decide +kernel
theorem dX0_tonguesLeft_24 : decode cX0_tonguesLeft 24 = .ok (.iconst 1, 1) := by decide +kernel
theorem dX0_tonguesLeft_25 : decode cX0_tonguesLeft 25 = .ok (.iload 4, 2) := by decide +kernel
theorem dX0_tonguesLeft_27 : decode cX0_tonguesLeft 27 = .ok (.ishl, 1) := by decide +kernel
theorem dX0_tonguesLeft_28 : decode cX0_tonguesLeft 28 = .ok (.ior, 1) := by decide +kernel
theorem dX0_tonguesLeft_29 : decode cX0_tonguesLeft 29 = .ok (.istore_n 3, 1) := by decide +kernel
theorem dX0_tonguesLeft_30 : decode cX0_tonguesLeft 30 = .ok (.iinc 4 1, 3) := by decide +kernel
theorem dX0_tonguesLeft_33 : decode cX0_tonguesLeft 33 = .ok (.goto (-28), 3) := by decide +kernel
theorem dX0_tonguesLeft_36 : decode cX0_tonguesLeft 36 = .ok (.iload_n 3, 1) := by decide +kernel
theorem dX0_tonguesLeft_37 : decode cX0_tonguesLeft 37 = .ok (.ireturn, 1) := by decide +kernel
theorem dX0_tongueFits_0 : decode cX0_tongueFits 0 = .ok (.aload_n 1, 1) := by decide +kernel
theorem dX0_tongueFits_1 : decode cX0_tongueFits 1 = .ok (.getfield 19, 3) := by decide +kernel
theorem dX0_tongueFits_4 : decode cX0_tongueFits 4 = .ok (.astore 4, 2) := by decide +kernel
theorem dX0_tongueFits_6 : decode cX0_tongueFits 6 = .ok (.aload_n 1, 1) := by decide +kernel
theorem dX0_tongueFits_7 : decode cX0_tongueFits 7 = .ok (.getfield 25, 3) := by decide +kernel
theorem dX0_tongueFits_10 : decode cX0_tongueFits 10 = .ok (.iload_n 2, 1) := by decide +kernel
theorem dX0_tongueFits_11 : decode cX0_tongueFits 11 = .ok (.aaload, 1) := by decide +kernel
theorem dX0_tongueFits_12 : decode cX0_tongueFits 12 = .ok (.getfield 29, 3) := by decide +kernel
theorem dX0_tongueFits_15 : decode cX0_tongueFits 15 = .ok (.istore 5, 2) := by decide +kernel
theorem dX0_tongueFits_17 : decode cX0_tongueFits 17 = .ok (.iconst 0, 1) := by decide +kernel
theorem dX0_tongueFits_18 : decode cX0_tongueFits 18 = .ok (.istore 6, 2) := by decide +kernel
theorem dX0_tongueFits_20 : decode cX0_tongueFits 20 = .ok (.iload 6, 2) := by decide +kernel
theorem dX0_tongueFits_22 : decode cX0_tongueFits 22 = .ok (.aload 4, 2) := by decide +kernel
theorem dX0_tongueFits_24 : decode cX0_tongueFits 24 = .ok (.getfield 35, 3) := by decide +kernel
theorem dX0_tongueFits_27 : decode cX0_tongueFits 27 = .ok (.if_icmp .ge 56, 3) := by decide +kernel
theorem dX0_tongueFits_30 : decode cX0_tongueFits 30 = .ok (.aload 4, 2) := by decide +kernel
theorem dX0_tongueFits_32 : decode cX0_tongueFits 32 = .ok (.iload 6, 2) := by decide +kernel
theorem dX0_tongueFits_34 : decode cX0_tongueFits 34 = .ok (.iconst 0, 1) := by decide +kernel
theorem dX0_tongueFits_35 : decode cX0_tongueFits 35 = .ok (.invokevirtual 40, 3) := by decide +kernel
theorem dX0_tongueFits_38 : decode cX0_tongueFits 38 = .ok (.iload_n 2, 1) := by decide +kernel
theorem dX0_tongueFits_39 : decode cX0_tongueFits 39 = .ok (.if_icmp .ne 38, 3) := by decide +kernel
theorem dX0_tongueFits_42 : decode cX0_tongueFits 42 = .ok (.iload 5, 2) := by decide +kernel
theorem dX0_tongueFits_44 : decode cX0_tongueFits 44 = .ok (.iload_n 3, 1) := by decide +kernel
theorem dX0_tongueFits_45 : decode cX0_tongueFits 45 = .ok (.aload 4, 2) := by decide +kernel
theorem dX0_tongueFits_47 : decode cX0_tongueFits 47 = .ok (.iload 6, 2) := by decide +kernel
theorem dX0_tongueFits_49 : decode cX0_tongueFits 49 = .ok (.iconst 1, 1) := by decide +kernel
theorem dX0_tongueFits_50 : decode cX0_tongueFits 50 = .ok (.invokevirtual 40, 3) := by decide +kernel
theorem dX0_tongueFits_53 : decode cX0_tongueFits 53 = .ok (.aload 4, 2) := by decide +kernel
theorem dX0_tongueFits_55 : decode cX0_tongueFits 55 = .ok (.iload 6, 2) := by decide +kernel
theorem dX0_tongueFits_57 : decode cX0_tongueFits 57 = .ok (.iconst 2, 1) := by decide +kernel
theorem dX0_tongueFits_58 : decode cX0_tongueFits 58 = .ok (.invokevirtual 40, 3) := by decide +kernel
theorem dX0_tongueFits_61 : decode cX0_tongueFits 61 = .ok (.invokestatic 44, 3) := by decide +kernel
theorem dX0_tongueFits_64 : decode cX0_tongueFits 64 = .ok (.aload 4, 2) := by decide +kernel
theorem dX0_tongueFits_66 : decode cX0_tongueFits 66 = .ok (.iload 6, 2) := by decide +kernel
theorem dX0_tongueFits_68 : decode cX0_tongueFits 68 = .ok (.iconst 3, 1) := by decide +kernel
theorem dX0_tongueFits_69 : decode cX0_tongueFits 69 = .ok (.invokevirtual 40, 3) := by decide +kernel
theorem dX0_tongueFits_72 : decode cX0_tongueFits 72 = .ok (.if_icmp .eq 5, 3) := by decide +kernel
theorem dX0_tongueFits_75 : decode cX0_tongueFits 75 = .ok (.iconst 0, 1) := by decide +kernel
theorem dX0_tongueFits_76 : decode cX0_tongueFits 76 = .ok (.ireturn, 1) := by decide +kernel
theorem dX0_tongueFits_77 : decode cX0_tongueFits 77 = .ok (.iinc 6 1, 3) := by decide +kernel
theorem dX0_tongueFits_80 : decode cX0_tongueFits 80 = .ok (.goto (-60), 3) := by decide +kernel
theorem dX0_tongueFits_83 : decode cX0_tongueFits 83 = .ok (.iconst 1, 1) := by decide +kernel
theorem dX0_tongueFits_84 : decode cX0_tongueFits 84 = .ok (.ireturn, 1) := by decide +kernel
theorem dX0_guestKindsLeft_0 : decode cX0_guestKindsLeft 0 = .ok (.iconst 0, 1) := by decide +kernel
theorem dX0_guestKindsLeft_1 : decode cX0_guestKindsLeft 1 = .ok (.istore_n 3, 1) := by decide +kernel
theorem dX0_guestKindsLeft_2 : decode cX0_guestKindsLeft 2 = .ok (.iconst 0, 1) := by decide +kernel
theorem dX0_guestKindsLeft_3 : decode cX0_guestKindsLeft 3 = .ok (.istore 4, 2) := by decide +kernel
theorem dX0_guestKindsLeft_5 : decode cX0_guestKindsLeft 5 = .ok (.iload 4, 2) := by decide +kernel
theorem dX0_guestKindsLeft_7 : decode cX0_guestKindsLeft 7 = .ok (.bipush 6, 2) := by decide +kernel
theorem dX0_guestKindsLeft_9 : decode cX0_guestKindsLeft 9 = .ok (.if_icmp .ge 30, 3) := by decide +kernel
theorem dX0_guestKindsLeft_12 : decode cX0_guestKindsLeft 12 = .ok (.aload_n 0, 1) := by decide +kernel
theorem dX0_guestKindsLeft_13 : decode cX0_guestKindsLeft 13 = .ok (.aload_n 1, 1) := by decide +kernel
theorem dX0_guestKindsLeft_14 : decode cX0_guestKindsLeft 14 = .ok (.getfield 48, 3) := by decide +kernel
theorem dX0_guestKindsLeft_17 : decode cX0_guestKindsLeft 17 = .ok (.iload_n 2, 1) := by decide +kernel
theorem dX0_guestKindsLeft_18 : decode cX0_guestKindsLeft 18 = .ok (.iload 4, 2) := by decide +kernel
theorem dX0_guestKindsLeft_20 : decode cX0_guestKindsLeft 20 = .ok (.invokevirtual 51, 3) := by decide +kernel
theorem dX0_guestKindsLeft_23 : decode cX0_guestKindsLeft 23 = .ok (.ifCond .eq 10, 3) := by decide +kernel
theorem dX0_guestKindsLeft_26 : decode cX0_guestKindsLeft 26 = .ok (.iload_n 3, 1) := by decide +kernel
theorem dX0_guestKindsLeft_27 : decode cX0_guestKindsLeft 27 = .ok (.iconst 1, 1) := by decide +kernel
theorem dX0_guestKindsLeft_28 : decode cX0_guestKindsLeft 28 = .ok (.iload 4, 2) := by decide +kernel
theorem dX0_guestKindsLeft_30 : decode cX0_guestKindsLeft 30 = .ok (.ishl, 1) := by decide +kernel
theorem dX0_guestKindsLeft_31 : decode cX0_guestKindsLeft 31 = .ok (.ior, 1) := by decide +kernel
theorem dX0_guestKindsLeft_32 : decode cX0_guestKindsLeft 32 = .ok (.istore_n 3, 1) := by decide +kernel
theorem dX0_guestKindsLeft_33 : decode cX0_guestKindsLeft 33 = .ok (.iinc 4 1, 3) := by decide +kernel
theorem dX0_guestKindsLeft_36 : decode cX0_guestKindsLeft 36 = .ok (.goto (-31), 3) := by decide +kernel
theorem dX0_guestKindsLeft_39 : decode cX0_guestKindsLeft 39 = .ok (.iload_n 3, 1) := by decide +kernel
theorem dX0_guestKindsLeft_40 : decode cX0_guestKindsLeft 40 = .ok (.ireturn, 1) := by decide +kernel
theorem dX0_guestKindFits_0 : decode cX0_guestKindFits 0 = .ok (.iconst 0, 1) := by decide +kernel
theorem dX0_guestKindFits_1 : decode cX0_guestKindFits 1 = .ok (.istore 4, 2) := by decide +kernel
theorem dX0_guestKindFits_3 : decode cX0_guestKindFits 3 = .ok (.iload 4, 2) := by decide +kernel
theorem dX0_guestKindFits_5 : decode cX0_guestKindFits 5 = .ok (.aload_n 1, 1) := by decide +kernel
theorem dX0_guestKindFits_6 : decode cX0_guestKindFits 6 = .ok (.getfield 35, 3) := by decide +kernel
theorem dX0_guestKindFits_9 : decode cX0_guestKindFits 9 = .ok (.if_icmp .ge 71, 3) := by decide +kernel
theorem dX0_guestKindFits_12 : decode cX0_guestKindFits 12 = .ok (.aload_n 1, 1) := by decide +kernel
theorem dX0_guestKindFits_13 : decode cX0_guestKindFits 13 = .ok (.iload 4, 2) := by decide +kernel
theorem dX0_guestKindFits_15 : decode cX0_guestKindFits 15 = .ok (.iconst 0, 1) := by decide +kernel
theorem dX0_guestKindFits_16 : decode cX0_guestKindFits 16 = .ok (.invokevirtual 40, 3) := by decide +kernel
theorem dX0_guestKindFits_19 : decode cX0_guestKindFits 19 = .ok (.iload_n 2, 1) := by decide +kernel
theorem dX0_guestKindFits_20 : decode cX0_guestKindFits 20 = .ok (.if_icmp .eq 6, 3) := by decide +kernel
theorem dX0_guestKindFits_23 : decode cX0_guestKindFits 23 = .ok (.goto 51, 3) := by decide +kernel
theorem dX0_guestKindFits_26 : decode cX0_guestKindFits 26 = .ok (.iload_n 3, 1) := by decide +kernel
theorem dX0_guestKindFits_27 : decode cX0_guestKindFits 27 = .ok (.aload_n 1, 1) := by decide +kernel
theorem dX0_guestKindFits_28 : decode cX0_guestKindFits 28 = .ok (.iload 4, 2) := by decide +kernel
theorem dX0_guestKindFits_30 : decode cX0_guestKindFits 30 = .ok (.iconst 1, 1) := by decide +kernel
theorem dX0_guestKindFits_31 : decode cX0_guestKindFits 31 = .ok (.invokevirtual 40, 3) := by decide +kernel
theorem dX0_guestKindFits_34 : decode cX0_guestKindFits 34 = .ok (.aload_n 1, 1) := by decide +kernel
theorem dX0_guestKindFits_35 : decode cX0_guestKindFits 35 = .ok (.iload 4, 2) := by decide +kernel
theorem dX0_guestKindFits_37 : decode cX0_guestKindFits 37 = .ok (.iconst 2, 1) := by decide +kernel
theorem dX0_guestKindFits_38 : decode cX0_guestKindFits 38 = .ok (.invokevirtual 40, 3) := by decide +kernel
theorem dX0_guestKindFits_41 : decode cX0_guestKindFits 41 = .ok (.aload_n 1, 1) := by decide +kernel
theorem dX0_guestKindFits_42 : decode cX0_guestKindFits 42 = .ok (.iload 4, 2) := by decide +kernel
theorem dX0_guestKindFits_44 : decode cX0_guestKindFits 44 = .ok (.iconst 3, 1) := by decide +kernel
theorem dX0_guestKindFits_45 : decode cX0_guestKindFits 45 = .ok (.invokevirtual 40, 3) := by decide +kernel
theorem dX0_guestKindFits_48 : decode cX0_guestKindFits 48 = .ok (.aload_n 1, 1) := by decide +kernel
theorem dX0_guestKindFits_49 : decode cX0_guestKindFits 49 = .ok (.iload 4, 2) := by decide +kernel
theorem dX0_guestKindFits_51 : decode cX0_guestKindFits 51 = .ok (.iconst 4, 1) := by decide +kernel
theorem dX0_guestKindFits_52 : decode cX0_guestKindFits 52 = .ok (.invokevirtual 40, 3) := by decide +kernel
theorem dX0_guestKindFits_55 : decode cX0_guestKindFits 55 = .ok (.invokestatic 55, 3) := by decide +kernel
theorem dX0_guestKindFits_58 : decode cX0_guestKindFits 58 = .ok (.istore 5, 2) := by decide +kernel
theorem dX0_guestKindFits_60 : decode cX0_guestKindFits 60 = .ok (.iload 5, 2) := by decide +kernel
theorem dX0_guestKindFits_62 : decode cX0_guestKindFits 62 = .ok (.aload_n 1, 1) := by decide +kernel
theorem dX0_guestKindFits_63 : decode cX0_guestKindFits 63 = .ok (.iload 4, 2) := by decide +kernel
theorem dX0_guestKindFits_65 : decode cX0_guestKindFits 65 = .ok (.iconst 5, 1) := by decide +kernel
theorem dX0_guestKindFits_66 : decode cX0_guestKindFits 66 = .ok (.invokevirtual 40, 3) := by decide +kernel
theorem dX0_guestKindFits_69 : decode cX0_guestKindFits 69 = .ok (.if_icmp .eq 5, 3) := by decide +kernel
theorem dX0_guestKindFits_72 : decode cX0_guestKindFits 72 = .ok (.iconst 0, 1) := by decide +kernel
theorem dX0_guestKindFits_73 : decode cX0_guestKindFits 73 = .ok (.ireturn, 1) := by decide +kernel
theorem dX0_guestKindFits_74 : decode cX0_guestKindFits 74 = .ok (.iinc 4 1, 3) := by decide +kernel
theorem dX0_guestKindFits_77 : decode cX0_guestKindFits 77 = .ok (.goto (-74), 3) := by decide +kernel
theorem dX0_guestKindFits_80 : decode cX0_guestKindFits 80 = .ok (.iconst 1, 1) := by decide +kernel
theorem dX0_guestKindFits_81 : decode cX0_guestKindFits 81 = .ok (.ireturn, 1) := by decide +kernel
theorem dX0_rowerKindsLeft_0 : decode cX0_rowerKindsLeft 0 = .ok (.iconst 0, 1) := by decide +kernel
theorem dX0_rowerKindsLeft_1 : decode cX0_rowerKindsLeft 1 = .ok (.istore_n 3, 1) := by decide +kernel
theorem dX0_rowerKindsLeft_2 : decode cX0_rowerKindsLeft 2 = .ok (.iconst 0, 1) := by decide +kernel
theorem dX0_rowerKindsLeft_3 : decode cX0_rowerKindsLeft 3 = .ok (.istore 4, 2) := by decide +kernel
theorem dX0_rowerKindsLeft_5 : decode cX0_rowerKindsLeft 5 = .ok (.iload 4, 2) := by decide +kernel
theorem dX0_rowerKindsLeft_7 : decode cX0_rowerKindsLeft 7 = .ok (.bipush 6, 2) := by decide +kernel
theorem dX0_rowerKindsLeft_9 : decode cX0_rowerKindsLeft 9 = .ok (.if_icmp .ge 30, 3) := by decide +kernel
theorem dX0_rowerKindsLeft_12 : decode cX0_rowerKindsLeft 12 = .ok (.aload_n 0, 1) := by decide +kernel
theorem dX0_rowerKindsLeft_13 : decode cX0_rowerKindsLeft 13 = .ok (.aload_n 1, 1) := by decide +kernel
theorem dX0_rowerKindsLeft_14 : decode cX0_rowerKindsLeft 14 = .ok (.getfield 61, 3) := by decide +kernel
theorem dX0_rowerKindsLeft_17 : decode cX0_rowerKindsLeft 17 = .ok (.iload_n 2, 1) := by decide +kernel
theorem dX0_rowerKindsLeft_18 : decode cX0_rowerKindsLeft 18 = .ok (.iload 4, 2) := by decide +kernel
theorem dX0_rowerKindsLeft_20 : decode cX0_rowerKindsLeft 20 = .ok (.invokevirtual 64, 3) := by decide +kernel
theorem dX0_rowerKindsLeft_23 : decode cX0_rowerKindsLeft 23 = .ok (.ifCond .eq 10, 3) := by decide +kernel
theorem dX0_rowerKindsLeft_26 : decode cX0_rowerKindsLeft 26 = .ok (.iload_n 3, 1) := by decide +kernel
theorem dX0_rowerKindsLeft_27 : decode cX0_rowerKindsLeft 27 = .ok (.iconst 1, 1) := by decide +kernel
theorem dX0_rowerKindsLeft_28 : decode cX0_rowerKindsLeft 28 = .ok (.iload 4, 2) := by decide +kernel
theorem dX0_rowerKindsLeft_30 : decode cX0_rowerKindsLeft 30 = .ok (.ishl, 1) := by decide +kernel
theorem dX0_rowerKindsLeft_31 : decode cX0_rowerKindsLeft 31 = .ok (.ior, 1) := by decide +kernel
theorem dX0_rowerKindsLeft_32 : decode cX0_rowerKindsLeft 32 = .ok (.istore_n 3, 1) := by decide +kernel
theorem dX0_rowerKindsLeft_33 : decode cX0_rowerKindsLeft 33 = .ok (.iinc 4 1, 3) := by decide +kernel
theorem dX0_rowerKindsLeft_36 : decode cX0_rowerKindsLeft 36 = .ok (.goto (-31), 3) := by decide +kernel
theorem dX0_rowerKindsLeft_39 : decode cX0_rowerKindsLeft 39 = .ok (.iload_n 3, 1) := by decide +kernel
theorem dX0_rowerKindsLeft_40 : decode cX0_rowerKindsLeft 40 = .ok (.ireturn, 1) := by decide +kernel
theorem dX0_rowerKindFits_0 : decode cX0_rowerKindFits 0 = .ok (.iconst 0, 1) := by decide +kernel
theorem dX0_rowerKindFits_1 : decode cX0_rowerKindFits 1 = .ok (.istore 4, 2) := by decide +kernel
theorem dX0_rowerKindFits_3 : decode cX0_rowerKindFits 3 = .ok (.iload 4, 2) := by decide +kernel
theorem dX0_rowerKindFits_5 : decode cX0_rowerKindFits 5 = .ok (.aload_n 1, 1) := by decide +kernel
theorem dX0_rowerKindFits_6 : decode cX0_rowerKindFits 6 = .ok (.getfield 35, 3) := by decide +kernel
theorem dX0_rowerKindFits_9 : decode cX0_rowerKindFits 9 = .ok (.if_icmp .ge 64, 3) := by decide +kernel
theorem dX0_rowerKindFits_12 : decode cX0_rowerKindFits 12 = .ok (.aload_n 1, 1) := by decide +kernel
theorem dX0_rowerKindFits_13 : decode cX0_rowerKindFits 13 = .ok (.iload 4, 2) := by decide +kernel
theorem dX0_rowerKindFits_15 : decode cX0_rowerKindFits 15 = .ok (.iconst 0, 1) := by decide +kernel
theorem dX0_rowerKindFits_16 : decode cX0_rowerKindFits 16 = .ok (.invokevirtual 40, 3) := by decide +kernel
theorem dX0_rowerKindFits_19 : decode cX0_rowerKindFits 19 = .ok (.iload_n 2, 1) := by decide +kernel
theorem dX0_rowerKindFits_20 : decode cX0_rowerKindFits 20 = .ok (.if_icmp .eq 6, 3) := by decide +kernel
theorem dX0_rowerKindFits_23 : decode cX0_rowerKindFits 23 = .ok (.goto 44, 3) := by decide +kernel
theorem dX0_rowerKindFits_26 : decode cX0_rowerKindFits 26 = .ok (.iload_n 3, 1) := by decide +kernel
theorem dX0_rowerKindFits_27 : decode cX0_rowerKindFits 27 = .ok (.aload_n 1, 1) := by decide +kernel
theorem dX0_rowerKindFits_28 : decode cX0_rowerKindFits 28 = .ok (.iload 4, 2) := by decide +kernel
theorem dX0_rowerKindFits_30 : decode cX0_rowerKindFits 30 = .ok (.iconst 1, 1) := by decide +kernel
theorem dX0_rowerKindFits_31 : decode cX0_rowerKindFits 31 = .ok (.invokevirtual 40, 3) := by decide +kernel
theorem dX0_rowerKindFits_34 : decode cX0_rowerKindFits 34 = .ok (.aload_n 1, 1) := by decide +kernel
theorem dX0_rowerKindFits_35 : decode cX0_rowerKindFits 35 = .ok (.iload 4, 2) := by decide +kernel
theorem dX0_rowerKindFits_37 : decode cX0_rowerKindFits 37 = .ok (.iconst 2, 1) := by decide +kernel
theorem dX0_rowerKindFits_38 : decode cX0_rowerKindFits 38 = .ok (.invokevirtual 40, 3) := by decide +kernel
theorem dX0_rowerKindFits_41 : decode cX0_rowerKindFits 41 = .ok (.aload_n 1, 1) := by decide +kernel
theorem dX0_rowerKindFits_42 : decode cX0_rowerKindFits 42 = .ok (.iload 4, 2) := by decide +kernel
theorem dX0_rowerKindFits_44 : decode cX0_rowerKindFits 44 = .ok (.iconst 3, 1) := by decide +kernel
theorem dX0_rowerKindFits_45 : decode cX0_rowerKindFits 45 = .ok (.invokevirtual 40, 3) := by decide +kernel
theorem dX0_rowerKindFits_48 : decode cX0_rowerKindFits 48 = .ok (.invokestatic 44, 3) := by decide +kernel
theorem dX0_rowerKindFits_51 : decode cX0_rowerKindFits 51 = .ok (.istore 5, 2) := by decide +kernel
theorem dX0_rowerKindFits_53 : decode cX0_rowerKindFits 53 = .ok (.iload 5, 2) := by decide +kernel
theorem dX0_rowerKindFits_55 : decode cX0_rowerKindFits 55 = .ok (.aload_n 1, 1) := by decide +kernel
theorem dX0_rowerKindFits_56 : decode cX0_rowerKindFits 56 = .ok (.iload 4, 2) := by decide +kernel
theorem dX0_rowerKindFits_58 : decode cX0_rowerKindFits 58 = .ok (.iconst 4, 1) := by decide +kernel
theorem dX0_rowerKindFits_59 : decode cX0_rowerKindFits 59 = .ok (.invokevirtual 40, 3) := by decide +kernel
theorem dX0_rowerKindFits_62 : decode cX0_rowerKindFits 62 = .ok (.if_icmp .eq 5, 3) := by decide +kernel
theorem dX0_rowerKindFits_65 : decode cX0_rowerKindFits 65 = .ok (.iconst 0, 1) := by decide +kernel
theorem dX0_rowerKindFits_66 : decode cX0_rowerKindFits 66 = .ok (.ireturn, 1) := by decide +kernel
theorem dX0_rowerKindFits_67 : decode cX0_rowerKindFits 67 = .ok (.iinc 4 1, 3) := by decide +kernel
theorem dX0_rowerKindFits_70 : decode cX0_rowerKindFits 70 = .ok (.goto (-67), 3) := by decide +kernel
theorem dX0_rowerKindFits_73 : decode cX0_rowerKindFits 73 = .ok (.iconst 1, 1) := by decide +kernel
theorem dX0_rowerKindFits_74 : decode cX0_rowerKindFits 74 = .ok (.ireturn, 1) := by decide +kernel
theorem dX0_bestTelling_0 : decode cX0_bestTelling 0 = .ok (.aload_n 0, 1) := by decide +kernel
theorem dX0_bestTelling_1 : decode cX0_bestTelling 1 = .ok (.aload_n 1, 1) := by decide +kernel
theorem dX0_bestTelling_2 : decode cX0_bestTelling 2 = .ok (.iload_n 2, 1) := by decide +kernel
theorem dX0_bestTelling_3 : decode cX0_bestTelling 3 = .ok (.invokevirtual 67, 3) := by decide +kernel
theorem dX0_bestTelling_6 : decode cX0_bestTelling 6 = .ok (.istore_n 3, 1) := by decide +kernel
theorem dX0_bestTelling_7 : decode cX0_bestTelling 7 = .ok (.aload_n 1, 1) := by decide +kernel
theorem dX0_bestTelling_8 : decode cX0_bestTelling 8 = .ok (.getfield 25, 3) := by decide +kernel
theorem dX0_bestTelling_11 : decode cX0_bestTelling 11 = .ok (.iload_n 2, 1) := by decide +kernel
theorem dX0_bestTelling_12 : decode cX0_bestTelling 12 = .ok (.aaload, 1) := by decide +kernel
theorem dX0_bestTelling_13 : decode cX0_bestTelling 13 = .ok (.getfield 29, 3) := by decide +kernel
theorem dX0_bestTelling_16 : decode cX0_bestTelling 16 = .ok (.istore 4, 2) := by decide +kernel
theorem dX0_bestTelling_18 : decode cX0_bestTelling 18 = .ok (.aload_n 0, 1) := by decide +kernel
theorem dX0_bestTelling_19 : decode cX0_bestTelling 19 = .ok (.invokevirtual 71, 3) := by decide +kernel
theorem dX0_bestTelling_22 : decode cX0_bestTelling 22 = .ok (.iconst 0, 1) := by decide +kernel
theorem dX0_bestTelling_23 : decode cX0_bestTelling 23 = .ok (.istore 5, 2) := by decide +kernel
theorem dX0_bestTelling_25 : decode cX0_bestTelling 25 = .ok (.iload 5, 2) := by decide +kernel
theorem dX0_bestTelling_27 : decode cX0_bestTelling 27 = .ok (.bipush 9, 2) := by decide +kernel
theorem dX0_bestTelling_29 : decode cX0_bestTelling 29 = .ok (.if_icmp .gt 100, 3) := by decide +kernel
theorem dX0_bestTelling_32 : decode cX0_bestTelling 32 = .ok (.aload_n 0, 1) := by decide +kernel
theorem dX0_bestTelling_33 : decode cX0_bestTelling 33 = .ok (.invokevirtual 74, 3) := by decide +kernel
theorem dX0_bestTelling_36 : decode cX0_bestTelling 36 = .ok (.ifCond .eq 93, 3) := by decide +kernel
theorem dX0_bestTelling_39 : decode cX0_bestTelling 39 = .ok (.iconst 0, 1) := by decide +kernel
theorem dX0_bestTelling_40 : decode cX0_bestTelling 40 = .ok (.istore 6, 2) := by decide +kernel
theorem dX0_bestTelling_42 : decode cX0_bestTelling 42 = .ok (.iload 6, 2) := by decide +kernel
theorem dX0_bestTelling_44 : decode cX0_bestTelling 44 = .ok (.bipush 30, 2) := by decide +kernel
theorem dX0_bestTelling_46 : decode cX0_bestTelling 46 = .ok (.if_icmp .gt 77, 3) := by decide +kernel
theorem dX0_bestTelling_49 : decode cX0_bestTelling 49 = .ok (.aload_n 0, 1) := by decide +kernel
theorem dX0_bestTelling_50 : decode cX0_bestTelling 50 = .ok (.invokevirtual 74, 3) := by decide +kernel
theorem dX0_bestTelling_53 : decode cX0_bestTelling 53 = .ok (.ifCond .eq 70, 3) := by decide +kernel
theorem dX0_bestTelling_56 : decode cX0_bestTelling 56 = .ok (.iconst 0, 1) := by decide +kernel
theorem dX0_bestTelling_57 : decode cX0_bestTelling 57 = .ok (.istore 7, 2) := by decide +kernel
theorem dX0_bestTelling_59 : decode cX0_bestTelling 59 = .ok (.iload 7, 2) := by decide +kernel
theorem dX0_bestTelling_61 : decode cX0_bestTelling 61 = .ok (.bipush 10, 2) := by decide +kernel
theorem dX0_bestTelling_63 : decode cX0_bestTelling 63 = .ok (.if_icmp .ge 40, 3) := by decide +kernel
theorem dX0_bestTelling_66 : decode cX0_bestTelling 66 = .ok (.aload_n 0, 1) := by decide +kernel
theorem dX0_bestTelling_67 : decode cX0_bestTelling 67 = .ok (.getfield 11, 3) := by decide +kernel
theorem dX0_bestTelling_70 : decode cX0_bestTelling 70 = .ok (.iload 7, 2) := by decide +kernel
theorem dX0_bestTelling_72 : decode cX0_bestTelling 72 = .ok (.iload_n 3, 1) := by decide +kernel
theorem dX0_bestTelling_73 : decode cX0_bestTelling 73 = .ok (.iload 7, 2) := by decide +kernel
theorem dX0_bestTelling_75 : decode cX0_bestTelling 75 = .ok (.invokestatic 78, 3) := by decide +kernel
theorem dX0_bestTelling_78 : decode cX0_bestTelling 78 = .ok (.ifCond .eq 17, 3) := by decide +kernel
theorem dX0_bestTelling_81 : decode cX0_bestTelling 81 = .ok (.iload 4, 2) := by decide +kernel
theorem dX0_bestTelling_83 : decode cX0_bestTelling 83 = .ok (.iload 7, 2) := by decide +kernel
theorem dX0_bestTelling_85 : decode cX0_bestTelling 85 = .ok (.iload 5, 2) := by decide +kernel
theorem dX0_bestTelling_87 : decode cX0_bestTelling 87 = .ok (.iload 6, 2) := by decide +kernel
theorem dX0_bestTelling_89 : decode cX0_bestTelling 89 = .ok (.invokestatic 44, 3) := by decide +kernel
theorem dX0_bestTelling_92 : decode cX0_bestTelling 92 = .ok (.goto 4, 3) := by decide +kernel
theorem dX0_bestTelling_95 : decode cX0_bestTelling 95 = .ok (.iconst (-1), 1) := by decide +kernel
theorem dX0_bestTelling_96 : decode cX0_bestTelling 96 = .ok (.iastore, 1) := by decide +kernel
theorem dX0_bestTelling_97 : decode cX0_bestTelling 97 = .ok (.iinc 7 1, 3) := by decide +kernel
theorem dX0_bestTelling_100 : decode cX0_bestTelling 100 = .ok (.goto (-41), 3) := by decide +kernel
theorem dX0_bestTelling_103 : decode cX0_bestTelling 103 = .ok (.aload_n 0, 1) := by decide +kernel
theorem dX0_bestTelling_104 : decode cX0_bestTelling 104 = .ok (.bipush 100, 2) := by decide +kernel
theorem dX0_bestTelling_106 : decode cX0_bestTelling 106 = .ok (.iload 5, 2) := by decide +kernel
theorem dX0_bestTelling_108 : decode cX0_bestTelling 108 = .ok (.imul, 1) := by decide +kernel
theorem dX0_bestTelling_109 : decode cX0_bestTelling 109 = .ok (.iload 6, 2) := by decide +kernel
theorem dX0_bestTelling_111 : decode cX0_bestTelling 111 = .ok (.iadd, 1) := by decide +kernel
theorem dX0_bestTelling_112 : decode cX0_bestTelling 112 = .ok (.bipush 10, 2) := by decide +kernel
theorem dX0_bestTelling_114 : decode cX0_bestTelling 114 = .ok (.invokevirtual 82, 3) := by decide +kernel
theorem dX0_bestTelling_117 : decode cX0_bestTelling 117 = .ok (.iinc 6 1, 3) := by decide +kernel
theorem dX0_bestTelling_120 : decode cX0_bestTelling 120 = .ok (.goto (-78), 3) := by decide +kernel
theorem dX0_bestTelling_123 : decode cX0_bestTelling 123 = .ok (.iinc 5 1, 3) := by decide +kernel
theorem dX0_bestTelling_126 : decode cX0_bestTelling 126 = .ok (.goto (-101), 3) := by decide +kernel
theorem dX0_bestTelling_129 : decode cX0_bestTelling 129 = .ok (.aload_n 0, 1) := by decide +kernel
theorem dX0_bestTelling_130 : decode cX0_bestTelling 130 = .ok (.getfield 86, 3) := by decide +kernel
theorem dX0_bestTelling_133 : decode cX0_bestTelling 133 = .ok (.ireturn, 1) := by decide +kernel
theorem dX0_bestAsking_0 : decode cX0_bestAsking 0 = .ok (.aload_n 0, 1) := by decide +kernel
theorem dX0_bestAsking_1 : decode cX0_bestAsking 1 = .ok (.aload_n 1, 1) := by decide +kernel
theorem dX0_bestAsking_2 : decode cX0_bestAsking 2 = .ok (.iload_n 2, 1) := by decide +kernel
theorem dX0_bestAsking_3 : decode cX0_bestAsking 3 = .ok (.invokevirtual 89, 3) := by decide +kernel
theorem dX0_bestAsking_6 : decode cX0_bestAsking 6 = .ok (.istore_n 3, 1) := by decide +kernel
theorem dX0_bestAsking_7 : decode cX0_bestAsking 7 = .ok (.aload_n 1, 1) := by decide +kernel
theorem dX0_bestAsking_8 : decode cX0_bestAsking 8 = .ok (.getfield 25, 3) := by decide +kernel
theorem dX0_bestAsking_11 : decode cX0_bestAsking 11 = .ok (.iload_n 2, 1) := by decide +kernel
theorem dX0_bestAsking_12 : decode cX0_bestAsking 12 = .ok (.aaload, 1) := by decide +kernel
theorem dX0_bestAsking_13 : decode cX0_bestAsking 13 = .ok (.getfield 92, 3) := by decide +kernel
theorem dX0_bestAsking_16 : decode cX0_bestAsking 16 = .ok (.istore 4, 2) := by decide +kernel
theorem dX0_bestAsking_18 : decode cX0_bestAsking 18 = .ok (.aload_n 0, 1) := by decide +kernel
theorem dX0_bestAsking_19 : decode cX0_bestAsking 19 = .ok (.invokevirtual 71, 3) := by decide +kernel
theorem dX0_bestAsking_22 : decode cX0_bestAsking 22 = .ok (.iconst 0, 1) := by decide +kernel
theorem dX0_bestAsking_23 : decode cX0_bestAsking 23 = .ok (.istore 5, 2) := by decide +kernel
theorem dX0_bestAsking_25 : decode cX0_bestAsking 25 = .ok (.iload 5, 2) := by decide +kernel
theorem dX0_bestAsking_27 : decode cX0_bestAsking 27 = .ok (.bipush 9, 2) := by decide +kernel
theorem dX0_bestAsking_29 : decode cX0_bestAsking 29 = .ok (.if_icmp .gt 100, 3) := by decide +kernel
theorem dX0_bestAsking_32 : decode cX0_bestAsking 32 = .ok (.aload_n 0, 1) := by decide +kernel
theorem dX0_bestAsking_33 : decode cX0_bestAsking 33 = .ok (.invokevirtual 74, 3) := by decide +kernel
theorem dX0_bestAsking_36 : decode cX0_bestAsking 36 = .ok (.ifCond .eq 93, 3) := by decide +kernel
theorem dX0_bestAsking_39 : decode cX0_bestAsking 39 = .ok (.iconst 0, 1) := by decide +kernel
theorem dX0_bestAsking_40 : decode cX0_bestAsking 40 = .ok (.istore 6, 2) := by decide +kernel
theorem dX0_bestAsking_42 : decode cX0_bestAsking 42 = .ok (.iload 6, 2) := by decide +kernel
theorem dX0_bestAsking_44 : decode cX0_bestAsking 44 = .ok (.bipush 30, 2) := by decide +kernel
theorem dX0_bestAsking_46 : decode cX0_bestAsking 46 = .ok (.if_icmp .gt 77, 3) := by decide +kernel
theorem dX0_bestAsking_49 : decode cX0_bestAsking 49 = .ok (.aload_n 0, 1) := by decide +kernel
theorem dX0_bestAsking_50 : decode cX0_bestAsking 50 = .ok (.invokevirtual 74, 3) := by decide +kernel
theorem dX0_bestAsking_53 : decode cX0_bestAsking 53 = .ok (.ifCond .eq 70, 3) := by decide +kernel
theorem dX0_bestAsking_56 : decode cX0_bestAsking 56 = .ok (.iconst 0, 1) := by decide +kernel
theorem dX0_bestAsking_57 : decode cX0_bestAsking 57 = .ok (.istore 7, 2) := by decide +kernel
theorem dX0_bestAsking_59 : decode cX0_bestAsking 59 = .ok (.iload 7, 2) := by decide +kernel
theorem dX0_bestAsking_61 : decode cX0_bestAsking 61 = .ok (.bipush 6, 2) := by decide +kernel
theorem dX0_bestAsking_63 : decode cX0_bestAsking 63 = .ok (.if_icmp .ge 40, 3) := by decide +kernel
theorem dX0_bestAsking_66 : decode cX0_bestAsking 66 = .ok (.aload_n 0, 1) := by decide +kernel
theorem dX0_bestAsking_67 : decode cX0_bestAsking 67 = .ok (.getfield 11, 3) := by decide +kernel
theorem dX0_bestAsking_70 : decode cX0_bestAsking 70 = .ok (.iload 7, 2) := by decide +kernel
theorem dX0_bestAsking_72 : decode cX0_bestAsking 72 = .ok (.iload_n 3, 1) := by decide +kernel
theorem dX0_bestAsking_73 : decode cX0_bestAsking 73 = .ok (.iload 7, 2) := by decide +kernel
theorem dX0_bestAsking_75 : decode cX0_bestAsking 75 = .ok (.invokestatic 78, 3) := by decide +kernel
theorem dX0_bestAsking_78 : decode cX0_bestAsking 78 = .ok (.ifCond .eq 17, 3) := by decide +kernel
theorem dX0_bestAsking_81 : decode cX0_bestAsking 81 = .ok (.iload 7, 2) := by decide +kernel
theorem dX0_bestAsking_83 : decode cX0_bestAsking 83 = .ok (.iload 4, 2) := by decide +kernel
theorem dX0_bestAsking_85 : decode cX0_bestAsking 85 = .ok (.iload 5, 2) := by decide +kernel
theorem dX0_bestAsking_87 : decode cX0_bestAsking 87 = .ok (.iload 6, 2) := by decide +kernel
theorem dX0_bestAsking_89 : decode cX0_bestAsking 89 = .ok (.invokestatic 44, 3) := by decide +kernel
theorem dX0_bestAsking_92 : decode cX0_bestAsking 92 = .ok (.goto 4, 3) := by decide +kernel
theorem dX0_bestAsking_95 : decode cX0_bestAsking 95 = .ok (.iconst (-1), 1) := by decide +kernel
theorem dX0_bestAsking_96 : decode cX0_bestAsking 96 = .ok (.iastore, 1) := by decide +kernel
theorem dX0_bestAsking_97 : decode cX0_bestAsking 97 = .ok (.iinc 7 1, 3) := by decide +kernel
theorem dX0_bestAsking_100 : decode cX0_bestAsking 100 = .ok (.goto (-41), 3) := by decide +kernel
theorem dX0_bestAsking_103 : decode cX0_bestAsking 103 = .ok (.aload_n 0, 1) := by decide +kernel
theorem dX0_bestAsking_104 : decode cX0_bestAsking 104 = .ok (.bipush 100, 2) := by decide +kernel
theorem dX0_bestAsking_106 : decode cX0_bestAsking 106 = .ok (.iload 5, 2) := by decide +kernel
theorem dX0_bestAsking_108 : decode cX0_bestAsking 108 = .ok (.imul, 1) := by decide +kernel
theorem dX0_bestAsking_109 : decode cX0_bestAsking 109 = .ok (.iload 6, 2) := by decide +kernel
theorem dX0_bestAsking_111 : decode cX0_bestAsking 111 = .ok (.iadd, 1) := by decide +kernel
theorem dX0_bestAsking_112 : decode cX0_bestAsking 112 = .ok (.bipush 6, 2) := by decide +kernel
theorem dX0_bestAsking_114 : decode cX0_bestAsking 114 = .ok (.invokevirtual 82, 3) := by decide +kernel
theorem dX0_bestAsking_117 : decode cX0_bestAsking 117 = .ok (.iinc 6 1, 3) := by decide +kernel
theorem dX0_bestAsking_120 : decode cX0_bestAsking 120 = .ok (.goto (-78), 3) := by decide +kernel
theorem dX0_bestAsking_123 : decode cX0_bestAsking 123 = .ok (.iinc 5 1, 3) := by decide +kernel
theorem dX0_bestAsking_126 : decode cX0_bestAsking 126 = .ok (.goto (-101), 3) := by decide +kernel
theorem dX0_bestAsking_129 : decode cX0_bestAsking 129 = .ok (.aload_n 0, 1) := by decide +kernel
theorem dX0_bestAsking_130 : decode cX0_bestAsking 130 = .ok (.getfield 86, 3) := by decide +kernel
theorem dX0_bestAsking_133 : decode cX0_bestAsking 133 = .ok (.ireturn, 1) := by decide +kernel
theorem dX0_bestLook_0 : decode cX0_bestLook 0 = .ok (.aload_n 0, 1) := by decide +kernel
theorem dX0_bestLook_1 : decode cX0_bestLook 1 = .ok (.aload_n 1, 1) := by decide +kernel
theorem dX0_bestLook_2 : decode cX0_bestLook 2 = .ok (.iload_n 2, 1) := by decide +kernel
theorem dX0_bestLook_3 : decode cX0_bestLook 3 = .ok (.invokevirtual 95, 3) := by decide +kernel
theorem dX0_bestLook_6 : decode cX0_bestLook 6 = .ok (.istore_n 3, 1) := by decide +kernel
theorem dX0_bestLook_7 : decode cX0_bestLook 7 = .ok (.aload_n 1, 1) := by decide +kernel
theorem dX0_bestLook_8 : decode cX0_bestLook 8 = .ok (.getfield 98, 3) := by decide +kernel
theorem dX0_bestLook_11 : decode cX0_bestLook 11 = .ok (.iload_n 2, 1) := by decide +kernel
theorem dX0_bestLook_12 : decode cX0_bestLook 12 = .ok (.aaload, 1) := by decide +kernel
theorem dX0_bestLook_13 : decode cX0_bestLook 13 = .ok (.astore 4, 2) := by decide +kernel
theorem dX0_bestLook_15 : decode cX0_bestLook 15 = .ok (.aload_n 0, 1) := by decide +kernel
theorem dX0_bestLook_16 : decode cX0_bestLook 16 = .ok (.invokevirtual 71, 3) := by decide +kernel
theorem dX0_bestLook_19 : decode cX0_bestLook 19 = .ok (.iconst 0, 1) := by decide +kernel
theorem dX0_bestLook_20 : decode cX0_bestLook 20 = .ok (.istore 5, 2) := by decide +kernel
theorem dX0_bestLook_22 : decode cX0_bestLook 22 = .ok (.iload 5, 2) := by decide +kernel
theorem dX0_bestLook_24 : decode cX0_bestLook 24 = .ok (.bipush 9, 2) := by decide +kernel
theorem dX0_bestLook_26 : decode cX0_bestLook 26 = .ok (.if_icmp .gt 108, 3) := by decide +kernel
theorem dX0_bestLook_29 : decode cX0_bestLook 29 = .ok (.aload_n 0, 1) := by decide +kernel
theorem dX0_bestLook_30 : decode cX0_bestLook 30 = .ok (.invokevirtual 74, 3) := by decide +kernel
theorem dX0_bestLook_33 : decode cX0_bestLook 33 = .ok (.ifCond .eq 101, 3) := by decide +kernel
theorem dX0_bestLook_36 : decode cX0_bestLook 36 = .ok (.iconst 0, 1) := by decide +kernel
theorem dX0_bestLook_37 : decode cX0_bestLook 37 = .ok (.istore 6, 2) := by decide +kernel
theorem dX0_bestLook_39 : decode cX0_bestLook 39 = .ok (.iload 6, 2) := by decide +kernel
theorem dX0_bestLook_41 : decode cX0_bestLook 41 = .ok (.bipush 20, 2) := by decide +kernel
theorem dX0_bestLook_43 : decode cX0_bestLook 43 = .ok (.if_icmp .gt 85, 3) := by decide +kernel
theorem dX0_bestLook_46 : decode cX0_bestLook 46 = .ok (.aload_n 0, 1) := by decide +kernel
theorem dX0_bestLook_47 : decode cX0_bestLook 47 = .ok (.invokevirtual 74, 3) := by decide +kernel
theorem dX0_bestLook_50 : decode cX0_bestLook 50 = .ok (.ifCond .eq 78, 3) := by decide +kernel
theorem dX0_bestLook_53 : decode cX0_bestLook 53 = .ok (.iconst 0, 1) := by decide +kernel
theorem dX0_bestLook_54 : decode cX0_bestLook 54 = .ok (.istore 7, 2) := by decide +kernel
theorem dX0_bestLook_56 : decode cX0_bestLook 56 = .ok (.iload 7, 2) := by decide +kernel
theorem dX0_bestLook_58 : decode cX0_bestLook 58 = .ok (.bipush 6, 2) := by decide +kernel
theorem dX0_bestLook_60 : decode cX0_bestLook 60 = .ok (.if_icmp .ge 48, 3) := by decide +kernel
theorem dX0_bestLook_63 : decode cX0_bestLook 63 = .ok (.aload_n 0, 1) := by decide +kernel
theorem dX0_bestLook_64 : decode cX0_bestLook 64 = .ok (.getfield 11, 3) := by decide +kernel
theorem dX0_bestLook_67 : decode cX0_bestLook 67 = .ok (.iload 7, 2) := by decide +kernel
theorem dX0_bestLook_69 : decode cX0_bestLook 69 = .ok (.iload_n 3, 1) := by decide +kernel
theorem dX0_bestLook_70 : decode cX0_bestLook 70 = .ok (.iload 7, 2) := by decide +kernel
theorem dX0_bestLook_72 : decode cX0_bestLook 72 = .ok (.invokestatic 78, 3) := by decide +kernel
theorem dX0_bestLook_75 : decode cX0_bestLook 75 = .ok (.ifCond .eq 25, 3) := by decide +kernel
theorem dX0_bestLook_78 : decode cX0_bestLook 78 = .ok (.iload 7, 2) := by decide +kernel
theorem dX0_bestLook_80 : decode cX0_bestLook 80 = .ok (.aload 4, 2) := by decide +kernel
theorem dX0_bestLook_82 : decode cX0_bestLook 82 = .ok (.getfield 102, 3) := by decide +kernel
theorem dX0_bestLook_85 : decode cX0_bestLook 85 = .ok (.aload 4, 2) := by decide +kernel
theorem dX0_bestLook_87 : decode cX0_bestLook 87 = .ok (.getfield 105, 3) := by decide +kernel
theorem dX0_bestLook_90 : decode cX0_bestLook 90 = .ok (.iload 6, 2) := by decide +kernel
theorem dX0_bestLook_92 : decode cX0_bestLook 92 = .ok (.iload 5, 2) := by decide +kernel
theorem dX0_bestLook_94 : decode cX0_bestLook 94 = .ok (.invokestatic 55, 3) := by decide +kernel
theorem dX0_bestLook_97 : decode cX0_bestLook 97 = .ok (.goto 4, 3) := by decide +kernel
theorem dX0_bestLook_100 : decode cX0_bestLook 100 = .ok (.iconst (-1), 1) := by decide +kernel
theorem dX0_bestLook_101 : decode cX0_bestLook 101 = .ok (.iastore, 1) := by decide +kernel
theorem dX0_bestLook_102 : decode cX0_bestLook 102 = .ok (.iinc 7 1, 3) := by decide +kernel
theorem dX0_bestLook_105 : decode cX0_bestLook 105 = .ok (.goto (-49), 3) := by decide +kernel
theorem dX0_bestLook_108 : decode cX0_bestLook 108 = .ok (.aload_n 0, 1) := by decide +kernel
theorem dX0_bestLook_109 : decode cX0_bestLook 109 = .ok (.bipush 100, 2) := by decide +kernel
theorem dX0_bestLook_111 : decode cX0_bestLook 111 = .ok (.iload 5, 2) := by decide +kernel
theorem dX0_bestLook_113 : decode cX0_bestLook 113 = .ok (.imul, 1) := by decide +kernel
theorem dX0_bestLook_114 : decode cX0_bestLook 114 = .ok (.iload 6, 2) := by decide +kernel
theorem dX0_bestLook_116 : decode cX0_bestLook 116 = .ok (.iadd, 1) := by decide +kernel
theorem dX0_bestLook_117 : decode cX0_bestLook 117 = .ok (.bipush 6, 2) := by decide +kernel
theorem dX0_bestLook_119 : decode cX0_bestLook 119 = .ok (.invokevirtual 82, 3) := by decide +kernel
theorem dX0_bestLook_122 : decode cX0_bestLook 122 = .ok (.iinc 6 1, 3) := by decide +kernel
theorem dX0_bestLook_125 : decode cX0_bestLook 125 = .ok (.goto (-86), 3) := by decide +kernel
theorem dX0_bestLook_128 : decode cX0_bestLook 128 = .ok (.iinc 5 1, 3) := by decide +kernel
theorem dX0_bestLook_131 : decode cX0_bestLook 131 = .ok (.goto (-109), 3) := by decide +kernel
theorem dX0_bestLook_134 : decode cX0_bestLook 134 = .ok (.aload_n 0, 1) := by decide +kernel
theorem dX0_bestLook_135 : decode cX0_bestLook 135 = .ok (.getfield 86, 3) := by decide +kernel
theorem dX0_bestLook_138 : decode cX0_bestLook 138 = .ok (.ireturn, 1) := by decide +kernel
theorem dX0_isIn_0 : decode cX0_isIn 0 = .ok (.iload_n 0, 1) := by decide +kernel
theorem dX0_isIn_1 : decode cX0_isIn 1 = .ok (.iconst 1, 1) := by decide +kernel
theorem dX0_isIn_2 : decode cX0_isIn 2 = .ok (.iload_n 1, 1) := by decide +kernel
theorem dX0_isIn_3 : decode cX0_isIn 3 = .ok (.ishl, 1) := by decide +kernel
theorem dX0_isIn_4 : decode cX0_isIn 4 = .ok (.iand, 1) := by decide +kernel
theorem dX0_isIn_5 : decode cX0_isIn 5 = .ok (.ifCond .eq 7, 3) := by decide +kernel
theorem dX0_isIn_8 : decode cX0_isIn 8 = .ok (.iconst 1, 1) := by decide +kernel
theorem dX0_isIn_9 : decode cX0_isIn 9 = .ok (.goto 4, 3) := by decide +kernel
theorem dX0_isIn_12 : decode cX0_isIn 12 = .ok (.iconst 0, 1) := by decide +kernel
theorem dX0_isIn_13 : decode cX0_isIn 13 = .ok (.ireturn, 1) := by decide +kernel
theorem dX0_startOver_0 : decode cX0_startOver 0 = .ok (.aload_n 0, 1) := by decide +kernel
theorem dX0_startOver_1 : decode cX0_startOver 1 = .ok (.iconst (-1), 1) := by decide +kernel
theorem dX0_startOver_2 : decode cX0_startOver 2 = .ok (.putfield 86, 3) := by decide +kernel
theorem dX0_startOver_5 : decode cX0_startOver 5 = .ok (.aload_n 0, 1) := by decide +kernel
theorem dX0_startOver_6 : decode cX0_startOver 6 = .ok (.bipush 11, 2) := by decide +kernel
theorem dX0_startOver_8 : decode cX0_startOver 8 = .ok (.putfield 108, 3) := by decide +kernel
theorem dX0_startOver_11 : decode cX0_startOver 11 = .ok (.return_, 1) := by decide +kernel
theorem dX0_isOpen_0 : decode cX0_isOpen 0 = .ok (.aload_n 0, 1) := by decide +kernel
theorem dX0_isOpen_1 : decode cX0_isOpen 1 = .ok (.getfield 108, 3) := by decide +kernel
theorem dX0_isOpen_4 : decode cX0_isOpen 4 = .ok (.iconst 1, 1) := by decide +kernel
theorem dX0_isOpen_5 : decode cX0_isOpen 5 = .ok (.if_icmp .le 7, 3) := by decide +kernel
theorem dX0_isOpen_8 : decode cX0_isOpen 8 = .ok (.iconst 1, 1) := by decide +kernel
theorem dX0_isOpen_9 : decode cX0_isOpen 9 = .ok (.goto 4, 3) := by decide +kernel
theorem dX0_isOpen_12 : decode cX0_isOpen 12 = .ok (.iconst 0, 1) := by decide +kernel
theorem dX0_isOpen_13 : decode cX0_isOpen 13 = .ok (.ireturn, 1) := by decide +kernel
theorem dX0_weigh_0 : decode cX0_weigh 0 = .ok (.aload_n 0, 1) := by decide +kernel
theorem dX0_weigh_1 : decode cX0_weigh 1 = .ok (.iload_n 2, 1) := by decide +kernel
theorem dX0_weigh_2 : decode cX0_weigh 2 = .ok (.invokevirtual 111, 3) := by decide +kernel
theorem dX0_weigh_5 : decode cX0_weigh 5 = .ok (.istore_n 3, 1) := by decide +kernel
theorem dX0_weigh_6 : decode cX0_weigh 6 = .ok (.iload_n 3, 1) := by decide +kernel
theorem dX0_weigh_7 : decode cX0_weigh 7 = .ok (.ifCond .le 21, 3) := by decide +kernel
theorem dX0_weigh_10 : decode cX0_weigh 10 = .ok (.iload_n 3, 1) := by decide +kernel
theorem dX0_weigh_11 : decode cX0_weigh 11 = .ok (.aload_n 0, 1) := by decide +kernel
theorem dX0_weigh_12 : decode cX0_weigh 12 = .ok (.getfield 108, 3) := by decide +kernel
theorem dX0_weigh_15 : decode cX0_weigh 15 = .ok (.if_icmp .ge 13, 3) := by decide +kernel
theorem dX0_weigh_18 : decode cX0_weigh 18 = .ok (.aload_n 0, 1) := by decide +kernel
theorem dX0_weigh_19 : decode cX0_weigh 19 = .ok (.iload_n 1, 1) := by decide +kernel
theorem dX0_weigh_20 : decode cX0_weigh 20 = .ok (.putfield 86, 3) := by decide +kernel
theorem dX0_weigh_23 : decode cX0_weigh 23 = .ok (.aload_n 0, 1) := by decide +kernel
theorem dX0_weigh_24 : decode cX0_weigh 24 = .ok (.iload_n 3, 1) := by decide +kernel
theorem dX0_weigh_25 : decode cX0_weigh 25 = .ok (.putfield 108, 3) := by decide +kernel
theorem dX0_weigh_28 : decode cX0_weigh 28 = .ok (.return_, 1) := by decide +kernel
theorem dX0_largestCrowd_0 : decode cX0_largestCrowd 0 = .ok (.iconst 0, 1) := by decide +kernel
theorem dX0_largestCrowd_1 : decode cX0_largestCrowd 1 = .ok (.istore_n 2, 1) := by decide +kernel
theorem dX0_largestCrowd_2 : decode cX0_largestCrowd 2 = .ok (.iconst 0, 1) := by decide +kernel
theorem dX0_largestCrowd_3 : decode cX0_largestCrowd 3 = .ok (.istore_n 3, 1) := by decide +kernel
theorem dX0_largestCrowd_4 : decode cX0_largestCrowd 4 = .ok (.iload_n 3, 1) := by decide +kernel
theorem dX0_largestCrowd_5 : decode cX0_largestCrowd 5 = .ok (.iload_n 1, 1) := by decide +kernel
theorem dX0_largestCrowd_6 : decode cX0_largestCrowd 6 = .ok (.if_icmp .ge 66, 3) := by decide +kernel
theorem dX0_largestCrowd_9 : decode cX0_largestCrowd 9 = .ok (.aload_n 0, 1) := by decide +kernel
theorem dX0_largestCrowd_10 : decode cX0_largestCrowd 10 = .ok (.getfield 11, 3) := by decide +kernel
theorem dX0_largestCrowd_13 : decode cX0_largestCrowd 13 = .ok (.iload_n 3, 1) := by decide +kernel
theorem dX0_largestCrowd_14 : decode cX0_largestCrowd 14 = .ok (.iaload, 1) := by decide +kernel
theorem dX0_largestCrowd_15 : decode cX0_largestCrowd 15 = .ok (.iconst (-1), 1) := by decide +kernel
theorem dX0_largestCrowd_16 : decode cX0_largestCrowd 16 = .ok (.if_icmp .ne 6, 3) := by decide +kernel
theorem dX0_largestCrowd_19 : decode cX0_largestCrowd 19 = .ok (.goto 47, 3) := by decide +kernel
theorem dX0_largestCrowd_22 : decode cX0_largestCrowd 22 = .ok (.iconst 0, 1) := by decide +kernel
theorem dX0_largestCrowd_23 : decode cX0_largestCrowd 23 = .ok (.istore 4, 2) := by decide +kernel
theorem dX0_largestCrowd_25 : decode cX0_largestCrowd 25 = .ok (.iload_n 3, 1) := by decide +kernel
theorem dX0_largestCrowd_26 : decode cX0_largestCrowd 26 = .ok (.istore 5, 2) := by decide +kernel
theorem dX0_largestCrowd_28 : decode cX0_largestCrowd 28 = .ok (.iload 5, 2) := by decide +kernel
theorem dX0_largestCrowd_30 : decode cX0_largestCrowd 30 = .ok (.iload_n 1, 1) := by decide +kernel
theorem dX0_largestCrowd_31 : decode cX0_largestCrowd 31 = .ok (.if_icmp .ge 28, 3) := by decide +kernel
theorem dX0_largestCrowd_34 : decode cX0_largestCrowd 34 = .ok (.aload_n 0, 1) := by decide +kernel
theorem dX0_largestCrowd_35 : decode cX0_largestCrowd 35 = .ok (.getfield 11, 3) := by decide +kernel
theorem dX0_largestCrowd_38 : decode cX0_largestCrowd 38 = .ok (.iload 5, 2) := by decide +kernel
theorem dX0_largestCrowd_40 : decode cX0_largestCrowd 40 = .ok (.iaload, 1) := by decide +kernel
theorem dX0_largestCrowd_41 : decode cX0_largestCrowd 41 = .ok (.aload_n 0, 1) := by decide +kernel
theorem dX0_largestCrowd_42 : decode cX0_largestCrowd 42 = .ok (.getfield 11, 3) := by decide +kernel
theorem dX0_largestCrowd_45 : decode cX0_largestCrowd 45 = .ok (.iload_n 3, 1) := by decide +kernel
theorem dX0_largestCrowd_46 : decode cX0_largestCrowd 46 = .ok (.iaload, 1) := by decide +kernel
theorem dX0_largestCrowd_47 : decode cX0_largestCrowd 47 = .ok (.if_icmp .ne 6, 3) := by decide +kernel
theorem dX0_largestCrowd_50 : decode cX0_largestCrowd 50 = .ok (.iinc 4 1, 3) := by decide +kernel
theorem dX0_largestCrowd_53 : decode cX0_largestCrowd 53 = .ok (.iinc 5 1, 3) := by decide +kernel
theorem dX0_largestCrowd_56 : decode cX0_largestCrowd 56 = .ok (.goto (-28), 3) := by decide +kernel
theorem dX0_largestCrowd_59 : decode cX0_largestCrowd 59 = .ok (.iload_n 2, 1) := by decide +kernel
theorem dX0_largestCrowd_60 : decode cX0_largestCrowd 60 = .ok (.iload 4, 2) := by decide +kernel
theorem dX0_largestCrowd_62 : decode cX0_largestCrowd 62 = .ok (.invokestatic 115, 3) := by decide +kernel
theorem dX0_largestCrowd_65 : decode cX0_largestCrowd 65 = .ok (.istore_n 2, 1) := by decide +kernel
theorem dX0_largestCrowd_66 : decode cX0_largestCrowd 66 = .ok (.iinc 3 1, 3) := by decide +kernel
theorem dX0_largestCrowd_69 : decode cX0_largestCrowd 69 = .ok (.goto (-65), 3) := by decide +kernel
theorem dX0_largestCrowd_72 : decode cX0_largestCrowd 72 = .ok (.iload_n 2, 1) := by decide +kernel
theorem dX0_largestCrowd_73 : decode cX0_largestCrowd 73 = .ok (.ireturn, 1) := by decide +kernel
theorem dX1_init_0 : decode cX1_init 0 = .ok (.aload_n 0, 1) := by decide +kernel
theorem dX1_init_1 : decode cX1_init 1 = .ok (.invokespecial 3, 3) := by decide +kernel
theorem dX1_init_4 : decode cX1_init 4 = .ok (.return_, 1) := by decide +kernel
theorem dX1_take_0 : decode cX1_take 0 = .ok (.aload_n 0, 1) := by decide +kernel
theorem dX1_take_1 : decode cX1_take 1 = .ok (.aload_n 1, 1) := by decide +kernel
theorem dX1_take_2 : decode cX1_take 2 = .ok (.getfield 9, 3) := by decide +kernel
theorem dX1_take_5 : decode cX1_take 5 = .ok (.putfield 9, 3) := by decide +kernel
theorem dX1_take_8 : decode cX1_take 8 = .ok (.aload_n 0, 1) := by decide +kernel
theorem dX1_take_9 : decode cX1_take 9 = .ok (.aload_n 1, 1) := by decide +kernel
theorem dX1_take_10 : decode cX1_take 10 = .ok (.getfield 15, 3) := by decide +kernel
theorem dX1_take_13 : decode cX1_take 13 = .ok (.putfield 15, 3) := by decide +kernel
theorem dX1_take_16 : decode cX1_take 16 = .ok (.aload_n 0, 1) := by decide +kernel
theorem dX1_take_17 : decode cX1_take 17 = .ok (.aload_n 1, 1) := by decide +kernel
theorem dX1_take_18 : decode cX1_take 18 = .ok (.getfield 18, 3) := by decide +kernel
theorem dX1_take_21 : decode cX1_take 21 = .ok (.putfield 18, 3) := by decide +kernel
theorem dX1_take_24 : decode cX1_take 24 = .ok (.aload_n 0, 1) := by decide +kernel
theorem dX1_take_25 : decode cX1_take 25 = .ok (.aload_n 1, 1) := by decide +kernel
theorem dX1_take_26 : decode cX1_take 26 = .ok (.getfield 21, 3) := by decide +kernel
theorem dX1_take_29 : decode cX1_take 29 = .ok (.putfield 21, 3) := by decide +kernel
theorem dX1_take_32 : decode cX1_take 32 = .ok (.aload_n 0, 1) := by decide +kernel
theorem dX1_take_33 : decode cX1_take 33 = .ok (.aload_n 1, 1) := by decide +kernel
theorem dX1_take_34 : decode cX1_take 34 = .ok (.getfield 24, 3) := by decide +kernel
theorem dX1_take_37 : decode cX1_take 37 = .ok (.putfield 24, 3) := by decide +kernel
theorem dX1_take_40 : decode cX1_take 40 = .ok (.aload_n 0, 1) := by decide +kernel
theorem dX1_take_41 : decode cX1_take 41 = .ok (.aload_n 1, 1) := by decide +kernel
theorem dX1_take_42 : decode cX1_take 42 = .ok (.getfield 27, 3) := by decide +kernel
theorem dX1_take_45 : decode cX1_take 45 = .ok (.putfield 27, 3) := by decide +kernel
theorem dX1_take_48 : decode cX1_take 48 = .ok (.return_, 1) := by decide +kernel
theorem dX1_come_0 : decode cX1_come 0 = .ok (.aload_n 0, 1) := by decide +kernel
theorem dX1_come_1 : decode cX1_come 1 = .ok (.iload_n 1, 1) := by decide +kernel
theorem dX1_come_2 : decode cX1_come 2 = .ok (.putfield 9, 3) := by decide +kernel
theorem dX1_come_5 : decode cX1_come 5 = .ok (.aload_n 0, 1) := by decide +kernel
theorem dX1_come_6 : decode cX1_come 6 = .ok (.iload_n 2, 1) := by decide +kernel
theorem dX1_come_7 : decode cX1_come 7 = .ok (.putfield 15, 3) := by decide +kernel
theorem dX1_come_10 : decode cX1_come 10 = .ok (.aload_n 0, 1) := by decide +kernel
theorem dX1_come_11 : decode cX1_come 11 = .ok (.iconst 0, 1) := by decide +kernel
theorem dX1_come_12 : decode cX1_come 12 = .ok (.putfield 18, 3) := by decide +kernel
theorem dX1_come_15 : decode cX1_come 15 = .ok (.aload_n 0, 1) := by decide +kernel
theorem dX1_come_16 : decode cX1_come 16 = .ok (.iconst 0, 1) := by decide +kernel
theorem dX1_come_17 : decode cX1_come 17 = .ok (.putfield 21, 3) := by decide +kernel
theorem dX1_come_20 : decode cX1_come 20 = .ok (.aload_n 0, 1) := by decide +kernel
theorem dX1_come_21 : decode cX1_come 21 = .ok (.invokevirtual 30, 3) := by decide +kernel
theorem dX1_come_24 : decode cX1_come 24 = .ok (.return_, 1) := by decide +kernel
theorem dX1_getIn_0 : decode cX1_getIn 0 = .ok (.aload_n 0, 1) := by decide +kernel
theorem dX1_getIn_1 : decode cX1_getIn 1 = .ok (.iconst 0, 1) := by decide +kernel
theorem dX1_getIn_2 : decode cX1_getIn 2 = .ok (.putfield 24, 3) := by decide +kernel
theorem dX1_getIn_5 : decode cX1_getIn 5 = .ok (.aload_n 0, 1) := by decide +kernel
theorem dX1_getIn_6 : decode cX1_getIn 6 = .ok (.iconst 0, 1) := by decide +kernel
theorem dX1_getIn_7 : decode cX1_getIn 7 = .ok (.putfield 27, 3) := by decide +kernel
theorem dX1_getIn_10 : decode cX1_getIn 10 = .ok (.return_, 1) := by decide +kernel
theorem dX1_isTold_0 : decode cX1_isTold 0 = .ok (.aload_n 0, 1) := by decide +kernel
theorem dX1_isTold_1 : decode cX1_isTold 1 = .ok (.getfield 18, 3) := by decide +kernel
theorem dX1_isTold_4 : decode cX1_isTold 4 = .ok (.aload_n 0, 1) := by decide +kernel
theorem dX1_isTold_5 : decode cX1_isTold 5 = .ok (.getfield 15, 3) := by decide +kernel
theorem dX1_isTold_8 : decode cX1_isTold 8 = .ok (.if_icmp .lt 7, 3) := by decide +kernel
theorem dX1_isTold_11 : decode cX1_isTold 11 = .ok (.iconst 1, 1) := by decide +kernel
theorem dX1_isTold_12 : decode cX1_isTold 12 = .ok (.goto 4, 3) := by decide +kernel
theorem dX1_isTold_15 : decode cX1_isTold 15 = .ok (.iconst 0, 1) := by decide +kernel
theorem dX1_isTold_16 : decode cX1_isTold 16 = .ok (.ireturn, 1) := by decide +kernel
theorem dX1_goTo_0 : decode cX1_goTo 0 = .ok (.aload_n 0, 1) := by decide +kernel
theorem dX1_goTo_1 : decode cX1_goTo 1 = .ok (.sipush 999, 3) := by decide +kernel
theorem dX1_goTo_4 : decode cX1_goTo 4 = .ok (.aload_n 0, 1) := by decide +kernel
theorem dX1_goTo_5 : decode cX1_goTo 5 = .ok (.getfield 27, 3) := by decide +kernel
theorem dX1_goTo_8 : decode cX1_goTo 8 = .ok (.iload_n 2, 1) := by decide +kernel
theorem dX1_goTo_9 : decode cX1_goTo 9 = .ok (.iadd, 1) := by decide +kernel
theorem dX1_goTo_10 : decode cX1_goTo 10 = .ok (.invokestatic 33, 3) := by decide +kernel
theorem dX1_goTo_13 : decode cX1_goTo 13 = .ok (.putfield 27, 3) := by decide +kernel
theorem dX1_goTo_16 : decode cX1_goTo 16 = .ok (.aload_n 0, 1) := by decide +kernel
theorem dX1_goTo_17 : decode cX1_goTo 17 = .ok (.iload_n 1, 1) := by decide +kernel
theorem dX1_goTo_18 : decode cX1_goTo 18 = .ok (.putfield 24, 3) := by decide +kernel
theorem dX1_goTo_21 : decode cX1_goTo 21 = .ok (.return_, 1) := by decide +kernel
theorem dX1_takenIn_0 : decode cX1_takenIn 0 = .ok (.iload_n 1, 1) := by decide +kernel
theorem dX1_takenIn_1 : decode cX1_takenIn 1 = .ok (.aload_n 0, 1) := by decide +kernel
theorem dX1_takenIn_2 : decode cX1_takenIn 2 = .ok (.getfield 15, 3) := by decide +kernel
theorem dX1_takenIn_5 : decode cX1_takenIn 5 = .ok (.aload_n 0, 1) := by decide +kernel
theorem dX1_takenIn_6 : decode cX1_takenIn 6 = .ok (.getfield 18, 3) := by decide +kernel
theorem dX1_takenIn_9 : decode cX1_takenIn 9 = .ok (.isub, 1) := by decide +kernel
theorem dX1_takenIn_10 : decode cX1_takenIn 10 = .ok (.invokestatic 33, 3) := by decide +kernel
theorem dX1_takenIn_13 : decode cX1_takenIn 13 = .ok (.ireturn, 1) := by decide +kernel
theorem dX1_hear_0 : decode cX1_hear 0 = .ok (.aload_n 0, 1) := by decide +kernel
theorem dX1_hear_1 : decode cX1_hear 1 = .ok (.iload_n 1, 1) := by decide +kernel
theorem dX1_hear_2 : decode cX1_hear 2 = .ok (.invokevirtual 39, 3) := by decide +kernel
theorem dX1_hear_5 : decode cX1_hear 5 = .ok (.istore_n 3, 1) := by decide +kernel
theorem dX1_hear_6 : decode cX1_hear 6 = .ok (.aload_n 0, 1) := by decide +kernel
theorem dX1_hear_7 : decode cX1_hear 7 = .ok (.sipush 999, 3) := by decide +kernel
theorem dX1_hear_10 : decode cX1_hear 10 = .ok (.aload_n 0, 1) := by decide +kernel
theorem dX1_hear_11 : decode cX1_hear 11 = .ok (.getfield 21, 3) := by decide +kernel
theorem dX1_hear_14 : decode cX1_hear 14 = .ok (.aload_n 0, 1) := by decide +kernel
theorem dX1_hear_15 : decode cX1_hear 15 = .ok (.getfield 9, 3) := by decide +kernel
theorem dX1_hear_18 : decode cX1_hear 18 = .ok (.aload_n 0, 1) := by decide +kernel
theorem dX1_hear_19 : decode cX1_hear 19 = .ok (.getfield 15, 3) := by decide +kernel
theorem dX1_hear_22 : decode cX1_hear 22 = .ok (.aload_n 0, 1) := by decide +kernel
theorem dX1_hear_23 : decode cX1_hear 23 = .ok (.getfield 18, 3) := by decide +kernel
theorem dX1_hear_26 : decode cX1_hear 26 = .ok (.iload_n 3, 1) := by decide +kernel
theorem dX1_hear_27 : decode cX1_hear 27 = .ok (.iload_n 2, 1) := by decide +kernel
theorem dX1_hear_28 : decode cX1_hear 28 = .ok (.invokestatic 43, 3) := by decide +kernel
theorem dX1_hear_31 : decode cX1_hear 31 = .ok (.iadd, 1) := by decide +kernel
theorem dX1_hear_32 : decode cX1_hear 32 = .ok (.invokestatic 33, 3) := by decide +kernel
theorem dX1_hear_35 : decode cX1_hear 35 = .ok (.putfield 21, 3) := by decide +kernel
theorem dX1_hear_38 : decode cX1_hear 38 = .ok (.aload_n 0, 1) := by decide +kernel
theorem dX1_hear_39 : decode cX1_hear 39 = .ok (.dup, 1) := by decide +kernel
theorem dX1_hear_40 : decode cX1_hear 40 = .ok (.getfield 18, 3) := by decide +kernel
theorem dX1_hear_43 : decode cX1_hear 43 = .ok (.iload_n 3, 1) := by decide +kernel
theorem dX1_hear_44 : decode cX1_hear 44 = .ok (.iadd, 1) := by decide +kernel
theorem dX1_hear_45 : decode cX1_hear 45 = .ok (.putfield 18, 3) := by decide +kernel
theorem dX1_hear_48 : decode cX1_hear 48 = .ok (.return_, 1) := by decide +kernel
theorem dX1_fact_0 : decode cX1_fact 0 = .ok (.iload_n 1, 1) := by decide +kernel
theorem dX1_fact_1 : decode cX1_fact 1 = .ok (.tableswitch 60 0 4 #[35, 40, 45, 50, 55], 35) := by decide +kernel
theorem dX1_fact_36 : decode cX1_fact 36 = .ok (.aload_n 0, 1) := by decide +kernel
theorem dX1_fact_37 : decode cX1_fact 37 = .ok (.getfield 9, 3) := by decide +kernel
theorem dX1_fact_40 : decode cX1_fact 40 = .ok (.ireturn, 1) := by decide +kernel
theorem dX1_fact_41 : decode cX1_fact 41 = .ok (.aload_n 0, 1) := by decide +kernel
theorem dX1_fact_42 : decode cX1_fact 42 = .ok (.getfield 15, 3) := by decide +kernel
theorem dX1_fact_45 : decode cX1_fact 45 = .ok (.ireturn, 1) := by decide +kernel
theorem dX1_fact_46 : decode cX1_fact 46 = .ok (.aload_n 0, 1) := by decide +kernel
theorem dX1_fact_47 : decode cX1_fact 47 = .ok (.getfield 18, 3) := by decide +kernel
theorem dX1_fact_50 : decode cX1_fact 50 = .ok (.ireturn, 1) := by decide +kernel
theorem dX1_fact_51 : decode cX1_fact 51 = .ok (.aload_n 0, 1) := by decide +kernel
theorem dX1_fact_52 : decode cX1_fact 52 = .ok (.getfield 21, 3) := by decide +kernel
theorem dX1_fact_55 : decode cX1_fact 55 = .ok (.ireturn, 1) := by decide +kernel
theorem dX1_fact_56 : decode cX1_fact 56 = .ok (.aload_n 0, 1) := by decide +kernel
theorem dX1_fact_57 : decode cX1_fact 57 = .ok (.getfield 24, 3) := by decide +kernel
theorem dX1_fact_60 : decode cX1_fact 60 = .ok (.ireturn, 1) := by decide +kernel
theorem dX1_fact_61 : decode cX1_fact 61 = .ok (.aload_n 0, 1) := by decide +kernel
theorem dX1_fact_62 : decode cX1_fact 62 = .ok (.getfield 27, 3) := by decide +kernel
theorem dX1_fact_65 : decode cX1_fact 65 = .ok (.ireturn, 1) := by decide +kernel
theorem dX1_hurtOf_0 : decode cX1_hurtOf 0 = .ok (.iload_n 3, 1) := by decide +kernel
theorem dX1_hurtOf_1 : decode cX1_hurtOf 1 = .ok (.istore 5, 2) := by decide +kernel
theorem dX1_hurtOf_3 : decode cX1_hurtOf 3 = .ok (.iload 4, 2) := by decide +kernel
theorem dX1_hurtOf_5 : decode cX1_hurtOf 5 = .ok (.iconst 5, 1) := by decide +kernel
theorem dX1_hurtOf_6 : decode cX1_hurtOf 6 = .ok (.if_icmp .ge 10, 3) := by decide +kernel
theorem dX1_hurtOf_9 : decode cX1_hurtOf 9 = .ok (.iconst 2, 1) := by decide +kernel
theorem dX1_hurtOf_10 : decode cX1_hurtOf 10 = .ok (.iload 5, 2) := by decide +kernel
theorem dX1_hurtOf_12 : decode cX1_hurtOf 12 = .ok (.imul, 1) := by decide +kernel
theorem dX1_hurtOf_13 : decode cX1_hurtOf 13 = .ok (.goto 5, 3) := by decide +kernel
theorem dX1_hurtOf_16 : decode cX1_hurtOf 16 = .ok (.iload 5, 2) := by decide +kernel
theorem dX1_hurtOf_18 : decode cX1_hurtOf 18 = .ok (.istore 6, 2) := by decide +kernel
theorem dX1_hurtOf_20 : decode cX1_hurtOf 20 = .ok (.iload_n 3, 1) := by decide +kernel
theorem dX1_hurtOf_21 : decode cX1_hurtOf 21 = .ok (.ifCond .eq 14, 3) := by decide +kernel
theorem dX1_hurtOf_24 : decode cX1_hurtOf 24 = .ok (.iload 5, 2) := by decide +kernel
theorem dX1_hurtOf_26 : decode cX1_hurtOf 26 = .ok (.iload_n 1, 1) := by decide +kernel
theorem dX1_hurtOf_27 : decode cX1_hurtOf 27 = .ok (.iload_n 2, 1) := by decide +kernel
theorem dX1_hurtOf_28 : decode cX1_hurtOf 28 = .ok (.isub, 1) := by decide +kernel
theorem dX1_hurtOf_29 : decode cX1_hurtOf 29 = .ok (.iconst 4, 1) := by decide +kernel
theorem dX1_hurtOf_30 : decode cX1_hurtOf 30 = .ok (.idiv, 1) := by decide +kernel
theorem dX1_hurtOf_31 : decode cX1_hurtOf 31 = .ok (.iadd, 1) := by decide +kernel
theorem dX1_hurtOf_32 : decode cX1_hurtOf 32 = .ok (.goto 5, 3) := by decide +kernel
theorem dX1_hurtOf_35 : decode cX1_hurtOf 35 = .ok (.iload 5, 2) := by decide +kernel
theorem dX1_hurtOf_37 : decode cX1_hurtOf 37 = .ok (.istore 7, 2) := by decide +kernel
theorem dX1_hurtOf_39 : decode cX1_hurtOf 39 = .ok (.iload_n 3, 1) := by decide +kernel
theorem dX1_hurtOf_40 : decode cX1_hurtOf 40 = .ok (.ifCond .eq 10, 3) := by decide +kernel
theorem dX1_hurtOf_43 : decode cX1_hurtOf 43 = .ok (.iload 6, 2) := by decide +kernel
theorem dX1_hurtOf_45 : decode cX1_hurtOf 45 = .ok (.iconst 3, 1) := by decide +kernel
theorem dX1_hurtOf_46 : decode cX1_hurtOf 46 = .ok (.iadd, 1) := by decide +kernel
theorem dX1_hurtOf_47 : decode cX1_hurtOf 47 = .ok (.goto 5, 3) := by decide +kernel
theorem dX1_hurtOf_50 : decode cX1_hurtOf 50 = .ok (.iload 6, 2) := by decide +kernel
theorem dX1_hurtOf_52 : decode cX1_hurtOf 52 = .ok (.istore 8, 2) := by decide +kernel
theorem dX1_hurtOf_54 : decode cX1_hurtOf 54 = .ok (.iload_n 0, 1) := by decide +kernel
theorem dX1_hurtOf_55 : decode cX1_hurtOf 55 = .ok (.tableswitch 62 1 5 #[33, 36, 39, 42, 54], 33) := by decide +kernel
theorem dX1_hurtOf_88 : decode cX1_hurtOf 88 = .ok (.iload 6, 2) := by decide +kernel
theorem dX1_hurtOf_90 : decode cX1_hurtOf 90 = .ok (.ireturn, 1) := by decide +kernel
theorem dX1_hurtOf_91 : decode cX1_hurtOf 91 = .ok (.iload 7, 2) := by decide +kernel
theorem dX1_hurtOf_93 : decode cX1_hurtOf 93 = .ok (.ireturn, 1) := by decide +kernel
theorem dX1_hurtOf_94 : decode cX1_hurtOf 94 = .ok (.iload 8, 2) := by decide +kernel
theorem dX1_hurtOf_96 : decode cX1_hurtOf 96 = .ok (.ireturn, 1) := by decide +kernel
theorem dX1_hurtOf_97 : decode cX1_hurtOf 97 = .ok (.iload_n 3, 1) := by decide +kernel
theorem dX1_hurtOf_98 : decode cX1_hurtOf 98 = .ok (.iconst 3, 1) := by decide +kernel
theorem dX1_hurtOf_99 : decode cX1_hurtOf 99 = .ok (.if_icmp .ge 7, 3) := by decide +kernel
theorem dX1_hurtOf_102 : decode cX1_hurtOf 102 = .ok (.iconst 0, 1) := by decide +kernel
theorem dX1_hurtOf_103 : decode cX1_hurtOf 103 = .ok (.goto 5, 3) := by decide +kernel
theorem dX1_hurtOf_106 : decode cX1_hurtOf 106 = .ok (.iload 8, 2) := by decide +kernel
theorem dX1_hurtOf_108 : decode cX1_hurtOf 108 = .ok (.ireturn, 1) := by decide +kernel
theorem dX1_hurtOf_109 : decode cX1_hurtOf 109 = .ok (.bipush 9, 2) := by decide +kernel
theorem dX1_hurtOf_111 : decode cX1_hurtOf 111 = .ok (.iload 7, 2) := by decide +kernel
theorem dX1_hurtOf_113 : decode cX1_hurtOf 113 = .ok (.invokestatic 33, 3) := by decide +kernel
theorem dX1_hurtOf_116 : decode cX1_hurtOf 116 = .ok (.ireturn, 1) := by decide +kernel
theorem dX1_hurtOf_117 : decode cX1_hurtOf 117 = .ok (.iload 5, 2) := by decide +kernel
theorem dX1_hurtOf_119 : decode cX1_hurtOf 119 = .ok (.ireturn, 1) := by decide +kernel
theorem dX2_init_0 : decode cX2_init 0 = .ok (.aload_n 0, 1) := by decide +kernel
theorem dX2_init_1 : decode cX2_init 1 = .ok (.invokespecial 1, 3) := by decide +kernel
theorem dX2_init_4 : decode cX2_init 4 = .ok (.aload_n 0, 1) := by decide +kernel
theorem dX2_init_5 : decode cX2_init 5 = .ok (.new 7, 3) := by decide +kernel
theorem dX2_init_8 : decode cX2_init 8 = .ok (.dup, 1) := by decide +kernel
theorem dX2_init_9 : decode cX2_init 9 = .ok (.invokespecial 9, 3) := by decide +kernel
theorem dX2_init_12 : decode cX2_init 12 = .ok (.putfield 10, 3) := by decide +kernel
theorem dX2_init_15 : decode cX2_init 15 = .ok (.aload_n 0, 1) := by decide +kernel
theorem dX2_init_16 : decode cX2_init 16 = .ok (.lconst 0, 1) := by decide +kernel
theorem dX2_init_17 : decode cX2_init 17 = .ok (.putfield 16, 3) := by decide +kernel
theorem dX2_init_20 : decode cX2_init 20 = .ok (.aload_n 0, 1) := by decide +kernel
theorem dX2_init_21 : decode cX2_init 21 = .ok (.lconst 1, 1) := by decide +kernel
theorem dX2_init_22 : decode cX2_init 22 = .ok (.putfield 20, 3) := by decide +kernel
theorem dX2_init_25 : decode cX2_init 25 = .ok (.return_, 1) := by decide +kernel
theorem dX2_chance_0 : decode cX2_chance 0 = .ok (.lconst 0, 1) := by decide +kernel
theorem dX2_chance_1 : decode cX2_chance 1 = .ok (.lstore 7, 2) := by decide +kernel
theorem dX2_chance_3 : decode cX2_chance 3 = .ok (.iconst 0, 1) := by decide +kernel
theorem dX2_chance_4 : decode cX2_chance 4 = .ok (.istore 9, 2) := by decide +kernel
theorem dX2_chance_6 : decode cX2_chance 6 = .ok (.iload 9, 2) := by decide +kernel
theorem dX2_chance_8 : decode cX2_chance 8 = .ok (.iconst 1, 1) := by decide +kernel
theorem dX2_chance_9 : decode cX2_chance 9 = .ok (.aload 4, 2) := by decide +kernel
theorem dX2_chance_11 : decode cX2_chance 11 = .ok (.getfield 23, 3) := by decide +kernel
theorem dX2_chance_14 : decode cX2_chance 14 = .ok (.ishl, 1) := by decide +kernel
theorem dX2_chance_15 : decode cX2_chance 15 = .ok (.if_icmp .ge 49, 3) := by decide +kernel
theorem dX2_chance_18 : decode cX2_chance 18 = .ok (.aload_n 0, 1) := by decide +kernel
theorem dX2_chance_19 : decode cX2_chance 19 = .ok (.aload_n 1, 1) := by decide +kernel
theorem dX2_chance_20 : decode cX2_chance 20 = .ok (.aload_n 2, 1) := by decide +kernel
theorem dX2_chance_21 : decode cX2_chance 21 = .ok (.aload_n 3, 1) := by decide +kernel
theorem dX2_chance_22 : decode cX2_chance 22 = .ok (.aload 4, 2) := by decide +kernel
theorem dX2_chance_24 : decode cX2_chance 24 = .ok (.iload 9, 2) := by decide +kernel
theorem dX2_chance_26 : decode cX2_chance 26 = .ok (.invokevirtual 29, 3) := by decide +kernel
theorem dX2_chance_29 : decode cX2_chance 29 = .ok (.aload_n 0, 1) := by decide +kernel
theorem dX2_chance_30 : decode cX2_chance 30 = .ok (.getfield 10, 3) := by decide +kernel
theorem dX2_chance_33 : decode cX2_chance 33 = .ok (.getfield 33, 3) := by decide +kernel
theorem dX2_chance_36 : decode cX2_chance 36 = .ok (.iload 5, 2) := by decide +kernel
theorem dX2_chance_38 : decode cX2_chance 38 = .ok (.if_icmp .lt 20, 3) := by decide +kernel
theorem dX2_chance_41 : decode cX2_chance 41 = .ok (.lload 7, 2) := by decide +kernel
theorem dX2_chance_43 : decode cX2_chance 43 = .ok (.aload 4, 2) := by decide +kernel
theorem dX2_chance_45 : decode cX2_chance 45 = .ok (.getfield 23, 3) := by decide +kernel
theorem dX2_chance_48 : decode cX2_chance 48 = .ok (.iload 9, 2) := by decide +kernel
theorem dX2_chance_50 : decode cX2_chance 50 = .ok (.iload 6, 2) := by decide +kernel
theorem dX2_chance_52 : decode cX2_chance 52 = .ok (.invokestatic 36, 3) := by decide +kernel
theorem dX2_chance_55 : decode cX2_chance 55 = .ok (.ladd, 1) := by decide +kernel
theorem dX2_chance_56 : decode cX2_chance 56 = .ok (.lstore 7, 2) := by decide +kernel
theorem dX2_chance_58 : decode cX2_chance 58 = .ok (.iinc 9 1, 3) := by decide +kernel
theorem dX2_chance_61 : decode cX2_chance 61 = .ok (.goto (-55), 3) := by decide +kernel
theorem dX2_chance_64 : decode cX2_chance 64 = .ok (.aload_n 0, 1) := by decide +kernel
theorem dX2_chance_65 : decode cX2_chance 65 = .ok (.lload 7, 2) := by decide +kernel
theorem dX2_chance_67 : decode cX2_chance 67 = .ok (.aload 4, 2) := by decide +kernel
theorem dX2_chance_69 : decode cX2_chance 69 = .ok (.getfield 23, 3) := by decide +kernel
theorem dX2_chance_72 : decode cX2_chance 72 = .ok (.invokestatic 40, 3) := by decide +kernel
theorem dX2_chance_75 : decode cX2_chance 75 = .ok (.invokevirtual 44, 3) := by decide +kernel
theorem dX2_chance_78 : decode cX2_chance 78 = .ok (.return_, 1) := by decide +kernel
theorem dX2_meanHurt_0 : decode cX2_meanHurt 0 = .ok (.lconst 0, 1) := by decide +kernel
theorem dX2_meanHurt_1 : decode cX2_meanHurt 1 = .ok (.lstore 6, 2) := by decide +kernel
theorem dX2_meanHurt_3 : decode cX2_meanHurt 3 = .ok (.iconst 0, 1) := by decide +kernel
theorem dX2_meanHurt_4 : decode cX2_meanHurt 4 = .ok (.istore 8, 2) := by decide +kernel
theorem dX2_meanHurt_6 : decode cX2_meanHurt 6 = .ok (.iload 8, 2) := by decide +kernel
theorem dX2_meanHurt_8 : decode cX2_meanHurt 8 = .ok (.iconst 1, 1) := by decide +kernel
theorem dX2_meanHurt_9 : decode cX2_meanHurt 9 = .ok (.aload 4, 2) := by decide +kernel
theorem dX2_meanHurt_11 : decode cX2_meanHurt 11 = .ok (.getfield 23, 3) := by decide +kernel
theorem dX2_meanHurt_14 : decode cX2_meanHurt 14 = .ok (.ishl, 1) := by decide +kernel
theorem dX2_meanHurt_15 : decode cX2_meanHurt 15 = .ok (.if_icmp .ge 46, 3) := by decide +kernel
theorem dX2_meanHurt_18 : decode cX2_meanHurt 18 = .ok (.aload_n 0, 1) := by decide +kernel
theorem dX2_meanHurt_19 : decode cX2_meanHurt 19 = .ok (.aload_n 1, 1) := by decide +kernel
theorem dX2_meanHurt_20 : decode cX2_meanHurt 20 = .ok (.aload_n 2, 1) := by decide +kernel
theorem dX2_meanHurt_21 : decode cX2_meanHurt 21 = .ok (.aload_n 3, 1) := by decide +kernel
theorem dX2_meanHurt_22 : decode cX2_meanHurt 22 = .ok (.aload 4, 2) := by decide +kernel
theorem dX2_meanHurt_24 : decode cX2_meanHurt 24 = .ok (.iload 8, 2) := by decide +kernel
theorem dX2_meanHurt_26 : decode cX2_meanHurt 26 = .ok (.invokevirtual 29, 3) := by decide +kernel
theorem dX2_meanHurt_29 : decode cX2_meanHurt 29 = .ok (.lload 6, 2) := by decide +kernel
theorem dX2_meanHurt_31 : decode cX2_meanHurt 31 = .ok (.aload 4, 2) := by decide +kernel
theorem dX2_meanHurt_33 : decode cX2_meanHurt 33 = .ok (.getfield 23, 3) := by decide +kernel
theorem dX2_meanHurt_36 : decode cX2_meanHurt 36 = .ok (.iload 8, 2) := by decide +kernel
theorem dX2_meanHurt_38 : decode cX2_meanHurt 38 = .ok (.iload 5, 2) := by decide +kernel
theorem dX2_meanHurt_40 : decode cX2_meanHurt 40 = .ok (.invokestatic 36, 3) := by decide +kernel
theorem dX2_meanHurt_43 : decode cX2_meanHurt 43 = .ok (.aload_n 0, 1) := by decide +kernel
theorem dX2_meanHurt_44 : decode cX2_meanHurt 44 = .ok (.getfield 10, 3) := by decide +kernel
theorem dX2_meanHurt_47 : decode cX2_meanHurt 47 = .ok (.getfield 48, 3) := by decide +kernel
theorem dX2_meanHurt_50 : decode cX2_meanHurt 50 = .ok (.i2l, 1) := by decide +kernel
theorem dX2_meanHurt_51 : decode cX2_meanHurt 51 = .ok (.lmul, 1) := by decide +kernel
theorem dX2_meanHurt_52 : decode cX2_meanHurt 52 = .ok (.ladd, 1) := by decide +kernel
theorem dX2_meanHurt_53 : decode cX2_meanHurt 53 = .ok (.lstore 6, 2) := by decide +kernel
theorem dX2_meanHurt_55 : decode cX2_meanHurt 55 = .ok (.iinc 8 1, 3) := by decide +kernel
theorem dX2_meanHurt_58 : decode cX2_meanHurt 58 = .ok (.goto (-52), 3) := by decide +kernel
theorem dX2_meanHurt_61 : decode cX2_meanHurt 61 = .ok (.aload_n 0, 1) := by decide +kernel
theorem dX2_meanHurt_62 : decode cX2_meanHurt 62 = .ok (.lload 6, 2) := by decide +kernel
theorem dX2_meanHurt_64 : decode cX2_meanHurt 64 = .ok (.aload 4, 2) := by decide +kernel
theorem dX2_meanHurt_66 : decode cX2_meanHurt 66 = .ok (.getfield 23, 3) := by decide +kernel
theorem dX2_meanHurt_69 : decode cX2_meanHurt 69 = .ok (.invokestatic 40, 3) := by decide +kernel
theorem dX2_meanHurt_72 : decode cX2_meanHurt 72 = .ok (.invokevirtual 44, 3) := by decide +kernel
theorem dX2_meanHurt_75 : decode cX2_meanHurt 75 = .ok (.return_, 1) := by decide +kernel
theorem dX2_goAlong_0 : decode cX2_goAlong 0 = .ok (.aload_n 0, 1) := by decide +kernel
theorem dX2_goAlong_1 : decode cX2_goAlong 1 = .ok (.getfield 10, 3) := by decide +kernel
theorem dX2_goAlong_4 : decode cX2_goAlong 4 = .ok (.aload_n 2, 1) := by decide +kernel
theorem dX2_goAlong_5 : decode cX2_goAlong 5 = .ok (.invokevirtual 51, 3) := by decide +kernel
theorem dX2_goAlong_8 : decode cX2_goAlong 8 = .ok (.iconst 0, 1) := by decide +kernel
theorem dX2_goAlong_9 : decode cX2_goAlong 9 = .ok (.istore 6, 2) := by decide +kernel
theorem dX2_goAlong_11 : decode cX2_goAlong 11 = .ok (.iload 6, 2) := by decide +kernel
theorem dX2_goAlong_13 : decode cX2_goAlong 13 = .ok (.aload 4, 2) := by decide +kernel
theorem dX2_goAlong_15 : decode cX2_goAlong 15 = .ok (.getfield 23, 3) := by decide +kernel
theorem dX2_goAlong_18 : decode cX2_goAlong 18 = .ok (.if_icmp .ge 65, 3) := by decide +kernel
theorem dX2_goAlong_21 : decode cX2_goAlong 21 = .ok (.aload 4, 2) := by decide +kernel
theorem dX2_goAlong_23 : decode cX2_goAlong 23 = .ok (.getfield 55, 3) := by decide +kernel
theorem dX2_goAlong_26 : decode cX2_goAlong 26 = .ok (.iload 6, 2) := by decide +kernel
theorem dX2_goAlong_28 : decode cX2_goAlong 28 = .ok (.iaload, 1) := by decide +kernel
theorem dX2_goAlong_29 : decode cX2_goAlong 29 = .ok (.istore 7, 2) := by decide +kernel
theorem dX2_goAlong_31 : decode cX2_goAlong 31 = .ok (.iload 5, 2) := by decide +kernel
theorem dX2_goAlong_33 : decode cX2_goAlong 33 = .ok (.iconst 1, 1) := by decide +kernel
theorem dX2_goAlong_34 : decode cX2_goAlong 34 = .ok (.iload 6, 2) := by decide +kernel
theorem dX2_goAlong_36 : decode cX2_goAlong 36 = .ok (.ishl, 1) := by decide +kernel
theorem dX2_goAlong_37 : decode cX2_goAlong 37 = .ok (.iand, 1) := by decide +kernel
theorem dX2_goAlong_38 : decode cX2_goAlong 38 = .ok (.ifCond .ne 17, 3) := by decide +kernel
theorem dX2_goAlong_41 : decode cX2_goAlong 41 = .ok (.aload_n 1, 1) := by decide +kernel
theorem dX2_goAlong_42 : decode cX2_goAlong 42 = .ok (.aload_n 0, 1) := by decide +kernel
theorem dX2_goAlong_43 : decode cX2_goAlong 43 = .ok (.getfield 10, 3) := by decide +kernel
theorem dX2_goAlong_46 : decode cX2_goAlong 46 = .ok (.aload_n 3, 1) := by decide +kernel
theorem dX2_goAlong_47 : decode cX2_goAlong 47 = .ok (.iload 7, 2) := by decide +kernel
theorem dX2_goAlong_49 : decode cX2_goAlong 49 = .ok (.invokevirtual 59, 3) := by decide +kernel
theorem dX2_goAlong_52 : decode cX2_goAlong 52 = .ok (.goto 25, 3) := by decide +kernel
theorem dX2_goAlong_55 : decode cX2_goAlong 55 = .ok (.aload_n 0, 1) := by decide +kernel
theorem dX2_goAlong_56 : decode cX2_goAlong 56 = .ok (.getfield 10, 3) := by decide +kernel
theorem dX2_goAlong_59 : decode cX2_goAlong 59 = .ok (.iload 7, 2) := by decide +kernel
theorem dX2_goAlong_61 : decode cX2_goAlong 61 = .ok (.aload_n 1, 1) := by decide +kernel
theorem dX2_goAlong_62 : decode cX2_goAlong 62 = .ok (.aload_n 0, 1) := by decide +kernel
theorem dX2_goAlong_63 : decode cX2_goAlong 63 = .ok (.getfield 10, 3) := by decide +kernel
theorem dX2_goAlong_66 : decode cX2_goAlong 66 = .ok (.getfield 65, 3) := by decide +kernel
theorem dX2_goAlong_69 : decode cX2_goAlong 69 = .ok (.iload 7, 2) := by decide +kernel
theorem dX2_goAlong_71 : decode cX2_goAlong 71 = .ok (.invokevirtual 68, 3) := by decide +kernel
theorem dX2_goAlong_74 : decode cX2_goAlong 74 = .ok (.invokevirtual 72, 3) := by decide +kernel
theorem dX2_goAlong_77 : decode cX2_goAlong 77 = .ok (.iinc 6 1, 3) := by decide +kernel
theorem dX2_goAlong_80 : decode cX2_goAlong 80 = .ok (.goto (-69), 3) := by decide +kernel
theorem dX2_goAlong_83 : decode cX2_goAlong 83 = .ok (.return_, 1) := by decide +kernel
theorem dX2_weight_0 : decode cX2_weight 0 = .ok (.lconst 1, 1) := by decide +kernel
theorem dX2_weight_1 : decode cX2_weight 1 = .ok (.lstore_n 3, 1) := by decide +kernel
theorem dX2_weight_2 : decode cX2_weight 2 = .ok (.iconst 0, 1) := by decide +kernel
theorem dX2_weight_3 : decode cX2_weight 3 = .ok (.istore 5, 2) := by decide +kernel
theorem dX2_weight_5 : decode cX2_weight 5 = .ok (.iload 5, 2) := by decide +kernel
theorem dX2_weight_7 : decode cX2_weight 7 = .ok (.iload_n 0, 1) := by decide +kernel
theorem dX2_weight_8 : decode cX2_weight 8 = .ok (.if_icmp .ge 31, 3) := by decide +kernel
theorem dX2_weight_11 : decode cX2_weight 11 = .ok (.lload_n 3, 1) := by decide +kernel
theorem dX2_weight_12 : decode cX2_weight 12 = .ok (.iload_n 1, 1) := by decide +kernel
theorem dX2_weight_13 : decode cX2_weight 13 = .ok (.iconst 1, 1) := by decide +kernel
theorem dX2_weight_14 : decode cX2_weight 14 = .ok (.iload 5, 2) := by decide +kernel
theorem dX2_weight_16 : decode cX2_weight 16 = .ok (.ishl, 1) := by decide +kernel
theorem dX2_weight_17 : decode cX2_weight 17 = .ok (.iand, 1) := by decide +kernel
theorem dX2_weight_18 : decode cX2_weight 18 = .ok (.ifCond .ne 11, 3) := by decide +kernel
theorem dX2_weight_21 : decode cX2_weight 21 = .ok (.bipush 10, 2) := by decide +kernel
theorem dX2_weight_23 : decode cX2_weight 23 = .ok (.iload_n 2, 1) := by decide +kernel
theorem dX2_weight_24 : decode cX2_weight 24 = .ok (.isub, 1) := by decide +kernel
theorem dX2_weight_25 : decode cX2_weight 25 = .ok (.i2l, 1) := by decide +kernel
theorem dX2_weight_26 : decode cX2_weight 26 = .ok (.goto 5, 3) := by decide +kernel
theorem dX2_weight_29 : decode cX2_weight 29 = .ok (.iload_n 2, 1) := by decide +kernel
theorem dX2_weight_30 : decode cX2_weight 30 = .ok (.i2l, 1) := by decide +kernel
theorem dX2_weight_31 : decode cX2_weight 31 = .ok (.lmul, 1) := by decide +kernel
theorem dX2_weight_32 : decode cX2_weight 32 = .ok (.lstore_n 3, 1) := by decide +kernel
theorem dX2_weight_33 : decode cX2_weight 33 = .ok (.iinc 5 1, 3) := by decide +kernel
theorem dX2_weight_36 : decode cX2_weight 36 = .ok (.goto (-31), 3) := by decide +kernel
theorem dX2_weight_39 : decode cX2_weight 39 = .ok (.lload_n 3, 1) := by decide +kernel
theorem dX2_weight_40 : decode cX2_weight 40 = .ok (.lreturn, 1) := by decide +kernel
theorem dX2_tenToThe_0 : decode cX2_tenToThe 0 = .ok (.lconst 1, 1) := by decide +kernel
theorem dX2_tenToThe_1 : decode cX2_tenToThe 1 = .ok (.lstore_n 1, 1) := by decide +kernel
theorem dX2_tenToThe_2 : decode cX2_tenToThe 2 = .ok (.iconst 0, 1) := by decide +kernel
theorem dX2_tenToThe_3 : decode cX2_tenToThe 3 = .ok (.istore_n 3, 1) := by decide +kernel
theorem dX2_tenToThe_4 : decode cX2_tenToThe 4 = .ok (.iload_n 3, 1) := by decide +kernel
theorem dX2_tenToThe_5 : decode cX2_tenToThe 5 = .ok (.iload_n 0, 1) := by decide +kernel
theorem dX2_tenToThe_6 : decode cX2_tenToThe 6 = .ok (.if_icmp .ge 15, 3) := by decide +kernel
theorem dX2_tenToThe_9 : decode cX2_tenToThe 9 = .ok (.lload_n 1, 1) := by decide +kernel
theorem dX2_tenToThe_10 : decode cX2_tenToThe 10 = .ok (.ldc2_w 76, 3) := by decide +kernel
theorem dX2_tenToThe_13 : decode cX2_tenToThe 13 = .ok (.lmul, 1) := by decide +kernel
theorem dX2_tenToThe_14 : decode cX2_tenToThe 14 = .ok (.lstore_n 1, 1) := by decide +kernel
theorem dX2_tenToThe_15 : decode cX2_tenToThe 15 = .ok (.iinc 3 1, 3) := by decide +kernel
theorem dX2_tenToThe_18 : decode cX2_tenToThe 18 = .ok (.goto (-14), 3) := by decide +kernel
theorem dX2_tenToThe_21 : decode cX2_tenToThe 21 = .ok (.lload_n 1, 1) := by decide +kernel
theorem dX2_tenToThe_22 : decode cX2_tenToThe 22 = .ok (.lreturn, 1) := by decide +kernel
theorem dX2_setFraction_0 : decode cX2_setFraction 0 = .ok (.lload_n 1, 1) := by decide +kernel
theorem dX2_setFraction_1 : decode cX2_setFraction 1 = .ok (.lstore 5, 2) := by decide +kernel
theorem dX2_setFraction_3 : decode cX2_setFraction 3 = .ok (.lload_n 3, 1) := by decide +kernel
theorem dX2_setFraction_4 : decode cX2_setFraction 4 = .ok (.lstore 7, 2) := by decide +kernel
theorem dX2_setFraction_6 : decode cX2_setFraction 6 = .ok (.iconst 0, 1) := by decide +kernel
theorem dX2_setFraction_7 : decode cX2_setFraction 7 = .ok (.istore 9, 2) := by decide +kernel
theorem dX2_setFraction_9 : decode cX2_setFraction 9 = .ok (.iload 9, 2) := by decide +kernel
theorem dX2_setFraction_11 : decode cX2_setFraction 11 = .ok (.bipush 100, 2) := by decide +kernel
theorem dX2_setFraction_13 : decode cX2_setFraction 13 = .ok (.if_icmp .ge 31, 3) := by decide +kernel
theorem dX2_setFraction_16 : decode cX2_setFraction 16 = .ok (.lload 7, 2) := by decide +kernel
theorem dX2_setFraction_18 : decode cX2_setFraction 18 = .ok (.lconst 0, 1) := by decide +kernel
theorem dX2_setFraction_19 : decode cX2_setFraction 19 = .ok (.lcmp, 1) := by decide +kernel
theorem dX2_setFraction_20 : decode cX2_setFraction 20 = .ok (.ifCond .eq 24, 3) := by decide +kernel
theorem dX2_setFraction_23 : decode cX2_setFraction 23 = .ok (.lload 5, 2) := by decide +kernel
theorem dX2_setFraction_25 : decode cX2_setFraction 25 = .ok (.lload 7, 2) := by decide +kernel
theorem dX2_setFraction_27 : decode cX2_setFraction 27 = .ok (.lrem, 1) := by decide +kernel
theorem dX2_setFraction_28 : decode cX2_setFraction 28 = .ok (.lstore 10, 2) := by decide +kernel
theorem dX2_setFraction_30 : decode cX2_setFraction 30 = .ok (.lload 7, 2) := by decide +kernel
theorem dX2_setFraction_32 : decode cX2_setFraction 32 = .ok (.lstore 5, 2) := by decide +kernel
theorem dX2_setFraction_34 : decode cX2_setFraction 34 = .ok (.lload 10, 2) := by decide +kernel
theorem dX2_setFraction_36 : decode cX2_setFraction 36 = .ok (.lstore 7, 2) := by decide +kernel
theorem dX2_setFraction_38 : decode cX2_setFraction 38 = .ok (.iinc 9 1, 3) := by decide +kernel
theorem dX2_setFraction_41 : decode cX2_setFraction 41 = .ok (.goto (-32), 3) := by decide +kernel
theorem dX2_setFraction_44 : decode cX2_setFraction 44 = .ok (.lload 5, 2) := by decide +kernel
theorem dX2_setFraction_46 : decode cX2_setFraction 46 = .ok (.lconst 0, 1) := by decide +kernel
theorem dX2_setFraction_47 : decode cX2_setFraction 47 = .ok (.lcmp, 1) := by decide +kernel
theorem dX2_setFraction_48 : decode cX2_setFraction 48 = .ok (.ifCond .le 19, 3) := by decide +kernel
theorem dX2_setFraction_51 : decode cX2_setFraction 51 = .ok (.aload_n 0, 1) := by decide +kernel
theorem dX2_setFraction_52 : decode cX2_setFraction 52 = .ok (.lload_n 1, 1) := by decide +kernel
theorem dX2_setFraction_53 : decode cX2_setFraction 53 = .ok (.lload 5, 2) := by decide +kernel
theorem dX2_setFraction_55 : decode cX2_setFraction 55 = .ok (.ldiv, 1) := by decide +kernel
theorem dX2_setFraction_56 : decode cX2_setFraction 56 = .ok (.putfield 16, 3) := by decide +kernel
theorem dX2_setFraction_59 : decode cX2_setFraction 59 = .ok (.aload_n 0, 1) := by decide +kernel
theorem dX2_setFraction_60 : decode cX2_setFraction 60 = .ok (.lload_n 3, 1) := by decide +kernel
theorem dX2_setFraction_61 : decode cX2_setFraction 61 = .ok (.lload 5, 2) := by decide +kernel
theorem dX2_setFraction_63 : decode cX2_setFraction 63 = .ok (.ldiv, 1) := by decide +kernel
theorem dX2_setFraction_64 : decode cX2_setFraction 64 = .ok (.putfield 20, 3) := by decide +kernel
theorem dX2_setFraction_67 : decode cX2_setFraction 67 = .ok (.return_, 1) := by decide +kernel
theorem dX3_init_0 : decode cX3_init 0 = .ok (.aload_n 0, 1) := by decide +kernel
theorem dX3_init_1 : decode cX3_init 1 = .ok (.invokespecial 1, 3) := by decide +kernel
theorem dX3_init_4 : decode cX3_init 4 = .ok (.aload_n 0, 1) := by decide +kernel
theorem dX3_init_5 : decode cX3_init 5 = .ok (.iconst 4, 1) := by decide +kernel
theorem dX3_init_6 : decode cX3_init 6 = .ok (.newarray .int, 2) := by decide +kernel
theorem dX3_init_8 : decode cX3_init 8 = .ok (.putfield 9, 3) := by decide +kernel
theorem dX3_init_11 : decode cX3_init 11 = .ok (.aload_n 0, 1) := by decide +kernel
theorem dX3_init_12 : decode cX3_init 12 = .ok (.bipush 16, 2) := by decide +kernel
theorem dX3_init_14 : decode cX3_init 14 = .ok (.newarray .int, 2) := by decide +kernel
theorem dX3_init_16 : decode cX3_init 16 = .ok (.putfield 13, 3) := by decide +kernel
theorem dX3_init_19 : decode cX3_init 19 = .ok (.return_, 1) := by decide +kernel
theorem dX3_search_0 : decode cX3_search 0 = .ok (.iconst 0, 1) := by decide +kernel
theorem dX3_search_1 : decode cX3_search 1 = .ok (.istore_n 3, 1) := by decide +kernel
theorem dX3_search_2 : decode cX3_search 2 = .ok (.iload_n 3, 1) := by decide +kernel
theorem dX3_search_3 : decode cX3_search 3 = .ok (.iconst 4, 1) := by decide +kernel
theorem dX3_search_4 : decode cX3_search 4 = .ok (.if_icmp .ge 57, 3) := by decide +kernel
theorem dX3_search_7 : decode cX3_search 7 = .ok (.getstatic 16, 3) := by decide +kernel
theorem dX3_search_10 : decode cX3_search 10 = .ok (.iload_n 3, 1) := by decide +kernel
theorem dX3_search_11 : decode cX3_search 11 = .ok (.iaload, 1) := by decide +kernel
theorem dX3_search_12 : decode cX3_search 12 = .ok (.istore 4, 2) := by decide +kernel
theorem dX3_search_14 : decode cX3_search 14 = .ok (.aload_n 1, 1) := by decide +kernel
theorem dX3_search_15 : decode cX3_search 15 = .ok (.aload_n 2, 1) := by decide +kernel
theorem dX3_search_16 : decode cX3_search 16 = .ok (.iload 4, 2) := by decide +kernel
theorem dX3_search_18 : decode cX3_search 18 = .ok (.aload_n 1, 1) := by decide +kernel
theorem dX3_search_19 : decode cX3_search 19 = .ok (.getfield 19, 3) := by decide +kernel
theorem dX3_search_22 : decode cX3_search 22 = .ok (.invokevirtual 25, 3) := by decide +kernel
theorem dX3_search_25 : decode cX3_search 25 = .ok (.invokevirtual 31, 3) := by decide +kernel
theorem dX3_search_28 : decode cX3_search 28 = .ok (.istore 5, 2) := by decide +kernel
theorem dX3_search_30 : decode cX3_search 30 = .ok (.aload_n 0, 1) := by decide +kernel
theorem dX3_search_31 : decode cX3_search 31 = .ok (.getfield 9, 3) := by decide +kernel
theorem dX3_search_34 : decode cX3_search 34 = .ok (.iload_n 3, 1) := by decide +kernel
theorem dX3_search_35 : decode cX3_search 35 = .ok (.aload_n 1, 1) := by decide +kernel
theorem dX3_search_36 : decode cX3_search 36 = .ok (.getfield 35, 3) := by decide +kernel
theorem dX3_search_39 : decode cX3_search 39 = .ok (.aload_n 1, 1) := by decide +kernel
theorem dX3_search_40 : decode cX3_search 40 = .ok (.getfield 38, 3) := by decide +kernel
theorem dX3_search_43 : decode cX3_search 43 = .ok (.aload_n 1, 1) := by decide +kernel
theorem dX3_search_44 : decode cX3_search 44 = .ok (.getfield 41, 3) := by decide +kernel
theorem dX3_search_47 : decode cX3_search 47 = .ok (.iload 5, 2) := by decide +kernel
theorem dX3_search_49 : decode cX3_search 49 = .ok (.iload 4, 2) := by decide +kernel
theorem dX3_search_51 : decode cX3_search 51 = .ok (.invokestatic 44, 3) := by decide +kernel
theorem dX3_search_54 : decode cX3_search 54 = .ok (.iastore, 1) := by decide +kernel
theorem dX3_search_55 : decode cX3_search 55 = .ok (.iinc 3 1, 3) := by decide +kernel
theorem dX3_search_58 : decode cX3_search 58 = .ok (.goto (-56), 3) := by decide +kernel
theorem dX3_search_61 : decode cX3_search 61 = .ok (.aload_n 0, 1) := by decide +kernel
theorem dX3_search_62 : decode cX3_search 62 = .ok (.iconst 0, 1) := by decide +kernel
theorem dX3_search_63 : decode cX3_search 63 = .ok (.putfield 48, 3) := by decide +kernel
theorem dX3_search_66 : decode cX3_search 66 = .ok (.iconst 0, 1) := by decide +kernel
theorem dX3_search_67 : decode cX3_search 67 = .ok (.istore_n 3, 1) := by decide +kernel
theorem dX3_search_68 : decode cX3_search 68 = .ok (.iload_n 3, 1) := by decide +kernel
theorem dX3_search_69 : decode cX3_search 69 = .ok (.iconst 4, 1) := by decide +kernel
theorem dX3_search_70 : decode cX3_search 70 = .ok (.if_icmp .ge 60, 3) := by decide +kernel
theorem dX3_search_73 : decode cX3_search 73 = .ok (.iconst 0, 1) := by decide +kernel
theorem dX3_search_74 : decode cX3_search 74 = .ok (.istore 4, 2) := by decide +kernel
theorem dX3_search_76 : decode cX3_search 76 = .ok (.iload 4, 2) := by decide +kernel
theorem dX3_search_78 : decode cX3_search 78 = .ok (.iconst 4, 1) := by decide +kernel
theorem dX3_search_79 : decode cX3_search 79 = .ok (.if_icmp .ge 45, 3) := by decide +kernel
theorem dX3_search_82 : decode cX3_search 82 = .ok (.aload_n 0, 1) := by decide +kernel
theorem dX3_search_83 : decode cX3_search 83 = .ok (.iload_n 3, 1) := by decide +kernel
theorem dX3_search_84 : decode cX3_search 84 = .ok (.iload 4, 2) := by decide +kernel
theorem dX3_search_86 : decode cX3_search 86 = .ok (.invokevirtual 51, 3) := by decide +kernel
theorem dX3_search_89 : decode cX3_search 89 = .ok (.ifCond .eq 29, 3) := by decide +kernel
theorem dX3_search_92 : decode cX3_search 92 = .ok (.aload_n 0, 1) := by decide +kernel
theorem dX3_search_93 : decode cX3_search 93 = .ok (.getfield 13, 3) := by decide +kernel
theorem dX3_search_96 : decode cX3_search 96 = .ok (.aload_n 0, 1) := by decide +kernel
theorem dX3_search_97 : decode cX3_search 97 = .ok (.getfield 48, 3) := by decide +kernel
theorem dX3_search_100 : decode cX3_search 100 = .ok (.bipush 10, 2) := by decide +kernel
theorem dX3_search_102 : decode cX3_search 102 = .ok (.iload_n 3, 1) := by decide +kernel
theorem dX3_search_103 : decode cX3_search 103 = .ok (.imul, 1) := by decide +kernel
theorem dX3_search_104 : decode cX3_search 104 = .ok (.iload 4, 2) := by decide +kernel
theorem dX3_search_106 : decode cX3_search 106 = .ok (.iadd, 1) := by decide +kernel
theorem dX3_search_107 : decode cX3_search 107 = .ok (.iastore, 1) := by decide +kernel
theorem dX3_search_108 : decode cX3_search 108 = .ok (.aload_n 0, 1) := by decide +kernel
theorem dX3_search_109 : decode cX3_search 109 = .ok (.dup, 1) := by decide +kernel
theorem dX3_search_110 : decode cX3_search 110 = .ok (.getfield 48, 3) := by decide +kernel
theorem dX3_search_113 : decode cX3_search 113 = .ok (.iconst 1, 1) := by decide +kernel
theorem dX3_search_114 : decode cX3_search 114 = .ok (.iadd, 1) := by decide +kernel
theorem dX3_search_115 : decode cX3_search 115 = .ok (.putfield 48, 3) := by decide +kernel
theorem dX3_search_118 : decode cX3_search 118 = .ok (.iinc 4 1, 3) := by decide +kernel
theorem dX3_search_121 : decode cX3_search 121 = .ok (.goto (-45), 3) := by decide +kernel
theorem dX3_search_124 : decode cX3_search 124 = .ok (.iinc 3 1, 3) := by decide +kernel
theorem dX3_search_127 : decode cX3_search 127 = .ok (.goto (-59), 3) := by decide +kernel
theorem dX3_search_130 : decode cX3_search 130 = .ok (.return_, 1) := by decide +kernel
theorem dX3_rests_0 : decode cX3_rests 0 = .ok (.iconst 0, 1) := by decide +kernel
theorem dX3_rests_1 : decode cX3_rests 1 = .ok (.istore_n 3, 1) := by decide +kernel
theorem dX3_rests_2 : decode cX3_rests 2 = .ok (.iload_n 3, 1) := by decide +kernel
theorem dX3_rests_3 : decode cX3_rests 3 = .ok (.iconst 4, 1) := by decide +kernel
theorem dX3_rests_4 : decode cX3_rests 4 = .ok (.if_icmp .ge 41, 3) := by decide +kernel
theorem dX3_rests_7 : decode cX3_rests 7 = .ok (.aload_n 0, 1) := by decide +kernel
theorem dX3_rests_8 : decode cX3_rests 8 = .ok (.iload_n 3, 1) := by decide +kernel
theorem dX3_rests_9 : decode cX3_rests 9 = .ok (.iload_n 2, 1) := by decide +kernel
theorem dX3_rests_10 : decode cX3_rests 10 = .ok (.invokevirtual 55, 3) := by decide +kernel
theorem dX3_rests_13 : decode cX3_rests 13 = .ok (.aload_n 0, 1) := by decide +kernel
theorem dX3_rests_14 : decode cX3_rests 14 = .ok (.iload_n 1, 1) := by decide +kernel
theorem dX3_rests_15 : decode cX3_rests 15 = .ok (.iload_n 2, 1) := by decide +kernel
theorem dX3_rests_16 : decode cX3_rests 16 = .ok (.invokevirtual 55, 3) := by decide +kernel
theorem dX3_rests_19 : decode cX3_rests 19 = .ok (.if_icmp .gt 18, 3) := by decide +kernel
theorem dX3_rests_22 : decode cX3_rests 22 = .ok (.aload_n 0, 1) := by decide +kernel
theorem dX3_rests_23 : decode cX3_rests 23 = .ok (.iload_n 1, 1) := by decide +kernel
theorem dX3_rests_24 : decode cX3_rests 24 = .ok (.iload_n 3, 1) := by decide +kernel
theorem dX3_rests_25 : decode cX3_rests 25 = .ok (.invokevirtual 58, 3) := by decide +kernel
theorem dX3_rests_28 : decode cX3_rests 28 = .ok (.aload_n 0, 1) := by decide +kernel
theorem dX3_rests_29 : decode cX3_rests 29 = .ok (.iload_n 1, 1) := by decide +kernel
theorem dX3_rests_30 : decode cX3_rests 30 = .ok (.iload_n 2, 1) := by decide +kernel
theorem dX3_rests_31 : decode cX3_rests 31 = .ok (.invokevirtual 58, 3) := by decide +kernel
theorem dX3_rests_34 : decode cX3_rests 34 = .ok (.if_icmp .le 5, 3) := by decide +kernel
theorem dX3_rests_37 : decode cX3_rests 37 = .ok (.iconst 0, 1) := by decide +kernel
theorem dX3_rests_38 : decode cX3_rests 38 = .ok (.ireturn, 1) := by decide +kernel
theorem dX3_rests_39 : decode cX3_rests 39 = .ok (.iinc 3 1, 3) := by decide +kernel
theorem dX3_rests_42 : decode cX3_rests 42 = .ok (.goto (-40), 3) := by decide +kernel
theorem dX3_rests_45 : decode cX3_rests 45 = .ok (.iconst 1, 1) := by decide +kernel
theorem dX3_rests_46 : decode cX3_rests 46 = .ok (.ireturn, 1) := by decide +kernel
theorem dX3_toGuest_0 : decode cX3_toGuest 0 = .ok (.bipush 10, 2) := by decide +kernel
theorem dX3_toGuest_2 : decode cX3_toGuest 2 = .ok (.aload_n 0, 1) := by decide +kernel
theorem dX3_toGuest_3 : decode cX3_toGuest 3 = .ok (.getfield 9, 3) := by decide +kernel
theorem dX3_toGuest_6 : decode cX3_toGuest 6 = .ok (.iload_n 1, 1) := by decide +kernel
theorem dX3_toGuest_7 : decode cX3_toGuest 7 = .ok (.iload_n 2, 1) := by decide +kernel
theorem dX3_toGuest_8 : decode cX3_toGuest 8 = .ok (.invokestatic 61, 3) := by decide +kernel
theorem dX3_toGuest_11 : decode cX3_toGuest 11 = .ok (.iaload, 1) := by decide +kernel
theorem dX3_toGuest_12 : decode cX3_toGuest 12 = .ok (.isub, 1) := by decide +kernel
theorem dX3_toGuest_13 : decode cX3_toGuest 13 = .ok (.iload_n 1, 1) := by decide +kernel
theorem dX3_toGuest_14 : decode cX3_toGuest 14 = .ok (.isub, 1) := by decide +kernel
theorem dX3_toGuest_15 : decode cX3_toGuest 15 = .ok (.ireturn, 1) := by decide +kernel
theorem dX3_toRower_0 : decode cX3_toRower 0 = .ok (.bipush 10, 2) := by decide +kernel
theorem dX3_toRower_2 : decode cX3_toRower 2 = .ok (.aload_n 0, 1) := by decide +kernel
theorem dX3_toRower_3 : decode cX3_toRower 3 = .ok (.getfield 9, 3) := by decide +kernel
theorem dX3_toRower_6 : decode cX3_toRower 6 = .ok (.iload_n 1, 1) := by decide +kernel
theorem dX3_toRower_7 : decode cX3_toRower 7 = .ok (.iload_n 2, 1) := by decide +kernel
theorem dX3_toRower_8 : decode cX3_toRower 8 = .ok (.invokestatic 61, 3) := by decide +kernel
theorem dX3_toRower_11 : decode cX3_toRower 11 = .ok (.iaload, 1) := by decide +kernel
theorem dX3_toRower_12 : decode cX3_toRower 12 = .ok (.isub, 1) := by decide +kernel
theorem dX3_toRower_13 : decode cX3_toRower 13 = .ok (.iconst 2, 1) := by decide +kernel
theorem dX3_toRower_14 : decode cX3_toRower 14 = .ok (.iload_n 2, 1) := by decide +kernel
theorem dX3_toRower_15 : decode cX3_toRower 15 = .ok (.imul, 1) := by decide +kernel
theorem dX3_toRower_16 : decode cX3_toRower 16 = .ok (.isub, 1) := by decide +kernel
theorem dX3_toRower_17 : decode cX3_toRower 17 = .ok (.ireturn, 1) := by decide +kernel
theorem dX4_init_0 : decode cX4_init 0 = .ok (.aload_n 0, 1) := by decide +kernel
theorem dX4_init_1 : decode cX4_init 1 = .ok (.invokespecial 3, 3) := by decide +kernel
theorem dX4_init_4 : decode cX4_init 4 = .ok (.aload_n 0, 1) := by decide +kernel
theorem dX4_init_5 : decode cX4_init 5 = .ok (.bipush 8, 2) := by decide +kernel
theorem dX4_init_7 : decode cX4_init 7 = .ok (.newarray .int, 2) := by decide +kernel
theorem dX4_init_9 : decode cX4_init 9 = .ok (.putfield 9, 3) := by decide +kernel
theorem dX4_init_12 : decode cX4_init 12 = .ok (.aload_n 0, 1) := by decide +kernel
theorem dX4_init_13 : decode cX4_init 13 = .ok (.bipush 64, 2) := by decide +kernel
theorem dX4_init_15 : decode cX4_init 15 = .ok (.newarray .int, 2) := by decide +kernel
theorem dX4_init_17 : decode cX4_init 17 = .ok (.putfield 15, 3) := by decide +kernel
theorem dX4_init_20 : decode cX4_init 20 = .ok (.aload_n 0, 1) := by decide +kernel
theorem dX4_init_21 : decode cX4_init 21 = .ok (.iconst 3, 1) := by decide +kernel
theorem dX4_init_22 : decode cX4_init 22 = .ok (.anewarray 18, 3) := by decide +kernel
theorem dX4_init_25 : decode cX4_init 25 = .ok (.putfield 20, 3) := by decide +kernel
theorem dX4_init_28 : decode cX4_init 28 = .ok (.aload_n 0, 1) := by decide +kernel
theorem dX4_init_29 : decode cX4_init 29 = .ok (.iconst 4, 1) := by decide +kernel
theorem dX4_init_30 : decode cX4_init 30 = .ok (.anewarray 24, 3) := by decide +kernel
theorem dX4_init_33 : decode cX4_init 33 = .ok (.putfield 26, 3) := by decide +kernel
theorem dX4_init_36 : decode cX4_init 36 = .ok (.aload_n 0, 1) := by decide +kernel
theorem dX4_init_37 : decode cX4_init 37 = .ok (.new 30, 3) := by decide +kernel
theorem dX4_init_40 : decode cX4_init 40 = .ok (.dup, 1) := by decide +kernel
theorem dX4_init_41 : decode cX4_init 41 = .ok (.iconst 4, 1) := by decide +kernel
theorem dX4_init_42 : decode cX4_init 42 = .ok (.iconst 5, 1) := by decide +kernel
theorem dX4_init_43 : decode cX4_init 43 = .ok (.invokespecial 32, 3) := by decide +kernel
theorem dX4_init_46 : decode cX4_init 46 = .ok (.putfield 35, 3) := by decide +kernel
theorem dX4_init_49 : decode cX4_init 49 = .ok (.aload_n 0, 1) := by decide +kernel
theorem dX4_init_50 : decode cX4_init 50 = .ok (.new 30, 3) := by decide +kernel
theorem dX4_init_53 : decode cX4_init 53 = .ok (.dup, 1) := by decide +kernel
theorem dX4_init_54 : decode cX4_init 54 = .ok (.bipush 6, 2) := by decide +kernel
theorem dX4_init_56 : decode cX4_init 56 = .ok (.bipush 6, 2) := by decide +kernel
theorem dX4_init_58 : decode cX4_init 58 = .ok (.invokespecial 32, 3) := by decide +kernel
theorem dX4_init_61 : decode cX4_init 61 = .ok (.putfield 39, 3) := by decide +kernel
theorem dX4_init_64 : decode cX4_init 64 = .ok (.aload_n 0, 1) := by decide +kernel
theorem dX4_init_65 : decode cX4_init 65 = .ok (.new 30, 3) := by decide +kernel
theorem dX4_init_68 : decode cX4_init 68 = .ok (.dup, 1) := by decide +kernel
theorem dX4_init_69 : decode cX4_init 69 = .ok (.iconst 5, 1) := by decide +kernel
theorem dX4_init_70 : decode cX4_init 70 = .ok (.bipush 6, 2) := by decide +kernel
theorem dX4_init_72 : decode cX4_init 72 = .ok (.invokespecial 32, 3) := by decide +kernel
theorem dX4_init_75 : decode cX4_init 75 = .ok (.putfield 42, 3) := by decide +kernel
theorem dX4_init_78 : decode cX4_init 78 = .ok (.aload_n 0, 1) := by decide +kernel
theorem dX4_init_79 : decode cX4_init 79 = .ok (.new 45, 3) := by decide +kernel
theorem dX4_init_82 : decode cX4_init 82 = .ok (.dup, 1) := by decide +kernel
theorem dX4_init_83 : decode cX4_init 83 = .ok (.invokespecial 47, 3) := by decide +kernel
theorem dX4_init_86 : decode cX4_init 86 = .ok (.putfield 48, 3) := by decide +kernel
theorem dX4_init_89 : decode cX4_init 89 = .ok (.iconst 0, 1) := by decide +kernel
theorem dX4_init_90 : decode cX4_init 90 = .ok (.istore_n 1, 1) := by decide +kernel
theorem dX4_init_91 : decode cX4_init 91 = .ok (.iload_n 1, 1) := by decide +kernel
theorem dX4_init_92 : decode cX4_init 92 = .ok (.iconst 3, 1) := by decide +kernel
theorem dX4_init_93 : decode cX4_init 93 = .ok (.if_icmp .ge 22, 3) := by decide +kernel
theorem dX4_init_96 : decode cX4_init 96 = .ok (.aload_n 0, 1) := by decide +kernel
theorem dX4_init_97 : decode cX4_init 97 = .ok (.getfield 20, 3) := by decide +kernel
theorem dX4_init_100 : decode cX4_init 100 = .ok (.iload_n 1, 1) := by decide +kernel
theorem dX4_init_101 : decode cX4_init 101 = .ok (.new 18, 3) := by decide +kernel
theorem dX4_init_104 : decode cX4_init 104 = .ok (.dup, 1) := by decide +kernel
theorem dX4_init_105 : decode cX4_init 105 = .ok (.invokespecial 52, 3) := by decide +kernel
theorem dX4_init_108 : decode cX4_init 108 = .ok (.aastore, 1) := by decide +kernel
theorem dX4_init_109 : decode cX4_init 109 = .ok (.iinc 1 1, 3) := by decide +kernel
theorem dX4_init_112 : decode cX4_init 112 = .ok (.goto (-21), 3) := by decide +kernel
theorem dX4_init_115 : decode cX4_init 115 = .ok (.iconst 0, 1) := by decide +kernel
theorem dX4_init_116 : decode cX4_init 116 = .ok (.istore_n 1, 1) := by decide +kernel
theorem dX4_init_117 : decode cX4_init 117 = .ok (.iload_n 1, 1) := by decide +kernel
theorem dX4_init_118 : decode cX4_init 118 = .ok (.iconst 4, 1) := by decide +kernel
theorem dX4_init_119 : decode cX4_init 119 = .ok (.if_icmp .ge 22, 3) := by decide +kernel
theorem dX4_init_122 : decode cX4_init 122 = .ok (.aload_n 0, 1) := by decide +kernel
theorem dX4_init_123 : decode cX4_init 123 = .ok (.getfield 26, 3) := by decide +kernel
theorem dX4_init_126 : decode cX4_init 126 = .ok (.iload_n 1, 1) := by decide +kernel
theorem dX4_init_127 : decode cX4_init 127 = .ok (.new 24, 3) := by decide +kernel
theorem dX4_init_130 : decode cX4_init 130 = .ok (.dup, 1) := by decide +kernel
theorem dX4_init_131 : decode cX4_init 131 = .ok (.invokespecial 53, 3) := by decide +kernel
theorem dX4_init_134 : decode cX4_init 134 = .ok (.aastore, 1) := by decide +kernel
theorem dX4_init_135 : decode cX4_init 135 = .ok (.iinc 1 1, 3) := by decide +kernel
theorem dX4_init_138 : decode cX4_init 138 = .ok (.goto (-21), 3) := by decide +kernel
theorem dX4_init_141 : decode cX4_init 141 = .ok (.return_, 1) := by decide +kernel
theorem dX4_begin_0 : decode cX4_begin 0 = .ok (.iconst 0, 1) := by decide +kernel
theorem dX4_begin_1 : decode cX4_begin 1 = .ok (.istore_n 2, 1) := by decide +kernel
theorem dX4_begin_2 : decode cX4_begin 2 = .ok (.iload_n 2, 1) := by decide +kernel
theorem dX4_begin_3 : decode cX4_begin 3 = .ok (.bipush 8, 2) := by decide +kernel
theorem dX4_begin_5 : decode cX4_begin 5 = .ok (.if_icmp .ge 16, 3) := by decide +kernel
theorem dX4_begin_8 : decode cX4_begin 8 = .ok (.aload_n 0, 1) := by decide +kernel
theorem dX4_begin_9 : decode cX4_begin 9 = .ok (.getfield 9, 3) := by decide +kernel
theorem dX4_begin_12 : decode cX4_begin 12 = .ok (.iload_n 2, 1) := by decide +kernel
theorem dX4_begin_13 : decode cX4_begin 13 = .ok (.iload_n 1, 1) := by decide +kernel
theorem dX4_begin_14 : decode cX4_begin 14 = .ok (.iastore, 1) := by decide +kernel
theorem dX4_begin_15 : decode cX4_begin 15 = .ok (.iinc 2 1, 3) := by decide +kernel
theorem dX4_begin_18 : decode cX4_begin 18 = .ok (.goto (-16), 3) := by decide +kernel
theorem dX4_begin_21 : decode cX4_begin 21 = .ok (.iconst 0, 1) := by decide +kernel
theorem dX4_begin_22 : decode cX4_begin 22 = .ok (.istore_n 2, 1) := by decide +kernel
theorem dX4_begin_23 : decode cX4_begin 23 = .ok (.iload_n 2, 1) := by decide +kernel
theorem dX4_begin_24 : decode cX4_begin 24 = .ok (.aload_n 0, 1) := by decide +kernel
theorem dX4_begin_25 : decode cX4_begin 25 = .ok (.getfield 15, 3) := by decide +kernel
theorem dX4_begin_28 : decode cX4_begin 28 = .ok (.arraylength, 1) := by decide +kernel
theorem dX4_begin_29 : decode cX4_begin 29 = .ok (.if_icmp .ge 16, 3) := by decide +kernel
theorem dX4_begin_32 : decode cX4_begin 32 = .ok (.aload_n 0, 1) := by decide +kernel
theorem dX4_begin_33 : decode cX4_begin 33 = .ok (.getfield 15, 3) := by decide +kernel
theorem dX4_begin_36 : decode cX4_begin 36 = .ok (.iload_n 2, 1) := by decide +kernel
theorem dX4_begin_37 : decode cX4_begin 37 = .ok (.iconst 0, 1) := by decide +kernel
theorem dX4_begin_38 : decode cX4_begin 38 = .ok (.iastore, 1) := by decide +kernel
theorem dX4_begin_39 : decode cX4_begin 39 = .ok (.iinc 2 1, 3) := by decide +kernel
theorem dX4_begin_42 : decode cX4_begin 42 = .ok (.goto (-19), 3) := by decide +kernel
theorem dX4_begin_45 : decode cX4_begin 45 = .ok (.aload_n 0, 1) := by decide +kernel
theorem dX4_begin_46 : decode cX4_begin 46 = .ok (.iconst 0, 1) := by decide +kernel
theorem dX4_begin_47 : decode cX4_begin 47 = .ok (.putfield 54, 3) := by decide +kernel
theorem dX4_begin_50 : decode cX4_begin 50 = .ok (.aload_n 0, 1) := by decide +kernel
theorem dX4_begin_51 : decode cX4_begin 51 = .ok (.iconst 0, 1) := by decide +kernel
theorem dX4_begin_52 : decode cX4_begin 52 = .ok (.putfield 58, 3) := by decide +kernel
theorem dX4_begin_55 : decode cX4_begin 55 = .ok (.aload_n 0, 1) := by decide +kernel
theorem dX4_begin_56 : decode cX4_begin 56 = .ok (.getfield 35, 3) := by decide +kernel
theorem dX4_begin_59 : decode cX4_begin 59 = .ok (.iconst 0, 1) := by decide +kernel
theorem dX4_begin_60 : decode cX4_begin 60 = .ok (.putfield 61, 3) := by decide +kernel
theorem dX4_begin_63 : decode cX4_begin 63 = .ok (.aload_n 0, 1) := by decide +kernel
theorem dX4_begin_64 : decode cX4_begin 64 = .ok (.getfield 39, 3) := by decide +kernel
theorem dX4_begin_67 : decode cX4_begin 67 = .ok (.iconst 0, 1) := by decide +kernel
theorem dX4_begin_68 : decode cX4_begin 68 = .ok (.putfield 61, 3) := by decide +kernel
theorem dX4_begin_71 : decode cX4_begin 71 = .ok (.aload_n 0, 1) := by decide +kernel
theorem dX4_begin_72 : decode cX4_begin 72 = .ok (.getfield 42, 3) := by decide +kernel
theorem dX4_begin_75 : decode cX4_begin 75 = .ok (.iconst 0, 1) := by decide +kernel
theorem dX4_begin_76 : decode cX4_begin 76 = .ok (.putfield 61, 3) := by decide +kernel
theorem dX4_begin_79 : decode cX4_begin 79 = .ok (.aload_n 0, 1) := by decide +kernel
theorem dX4_begin_80 : decode cX4_begin 80 = .ok (.getfield 48, 3) := by decide +kernel
theorem dX4_begin_83 : decode cX4_begin 83 = .ok (.iconst 0, 1) := by decide +kernel
theorem dX4_begin_84 : decode cX4_begin 84 = .ok (.putfield 64, 3) := by decide +kernel
theorem dX4_begin_87 : decode cX4_begin 87 = .ok (.return_, 1) := by decide +kernel
theorem dX4_take_0 : decode cX4_take 0 = .ok (.aload_n 1, 1) := by decide +kernel
theorem dX4_take_1 : decode cX4_take 1 = .ok (.getfield 9, 3) := by decide +kernel
theorem dX4_take_4 : decode cX4_take 4 = .ok (.iconst 0, 1) := by decide +kernel
theorem dX4_take_5 : decode cX4_take 5 = .ok (.aload_n 0, 1) := by decide +kernel
theorem dX4_take_6 : decode cX4_take 6 = .ok (.getfield 9, 3) := by decide +kernel
theorem dX4_take_9 : decode cX4_take 9 = .ok (.iconst 0, 1) := by decide +kernel
theorem dX4_take_10 : decode cX4_take 10 = .ok (.bipush 8, 2) := by decide +kernel
theorem dX4_take_12 : decode cX4_take 12 = .ok (.invokestatic 65, 3) := by decide +kernel
theorem dX4_take_15 : decode cX4_take 15 = .ok (.aload_n 1, 1) := by decide +kernel
theorem dX4_take_16 : decode cX4_take 16 = .ok (.getfield 15, 3) := by decide +kernel
theorem dX4_take_19 : decode cX4_take 19 = .ok (.iconst 0, 1) := by decide +kernel
theorem dX4_take_20 : decode cX4_take 20 = .ok (.aload_n 0, 1) := by decide +kernel
theorem dX4_take_21 : decode cX4_take 21 = .ok (.getfield 15, 3) := by decide +kernel
theorem dX4_take_24 : decode cX4_take 24 = .ok (.iconst 0, 1) := by decide +kernel
theorem dX4_take_25 : decode cX4_take 25 = .ok (.aload_n 0, 1) := by decide +kernel
theorem dX4_take_26 : decode cX4_take 26 = .ok (.getfield 15, 3) := by decide +kernel
theorem dX4_take_29 : decode cX4_take 29 = .ok (.arraylength, 1) := by decide +kernel
theorem dX4_take_30 : decode cX4_take 30 = .ok (.invokestatic 65, 3) := by decide +kernel
theorem dX4_take_33 : decode cX4_take 33 = .ok (.iconst 0, 1) := by decide +kernel
theorem dX4_take_34 : decode cX4_take 34 = .ok (.istore_n 2, 1) := by decide +kernel
theorem dX4_take_35 : decode cX4_take 35 = .ok (.iload_n 2, 1) := by decide +kernel
theorem dX4_take_36 : decode cX4_take 36 = .ok (.iconst 3, 1) := by decide +kernel
theorem dX4_take_37 : decode cX4_take 37 = .ok (.if_icmp .ge 24, 3) := by decide +kernel
theorem dX4_take_40 : decode cX4_take 40 = .ok (.aload_n 0, 1) := by decide +kernel
theorem dX4_take_41 : decode cX4_take 41 = .ok (.getfield 20, 3) := by decide +kernel
theorem dX4_take_44 : decode cX4_take 44 = .ok (.iload_n 2, 1) := by decide +kernel
theorem dX4_take_45 : decode cX4_take 45 = .ok (.aaload, 1) := by decide +kernel
theorem dX4_take_46 : decode cX4_take 46 = .ok (.aload_n 1, 1) := by decide +kernel
theorem dX4_take_47 : decode cX4_take 47 = .ok (.getfield 20, 3) := by decide +kernel
theorem dX4_take_50 : decode cX4_take 50 = .ok (.iload_n 2, 1) := by decide +kernel
theorem dX4_take_51 : decode cX4_take 51 = .ok (.aaload, 1) := by decide +kernel
theorem dX4_take_52 : decode cX4_take 52 = .ok (.invokevirtual 71, 3) := by decide +kernel
theorem dX4_take_55 : decode cX4_take 55 = .ok (.iinc 2 1, 3) := by decide +kernel
theorem dX4_take_58 : decode cX4_take 58 = .ok (.goto (-23), 3) := by decide +kernel
theorem dX4_take_61 : decode cX4_take 61 = .ok (.iconst 0, 1) := by decide +kernel
theorem dX4_take_62 : decode cX4_take 62 = .ok (.istore_n 2, 1) := by decide +kernel
theorem dX4_take_63 : decode cX4_take 63 = .ok (.iload_n 2, 1) := by decide +kernel
theorem dX4_take_64 : decode cX4_take 64 = .ok (.iconst 4, 1) := by decide +kernel
theorem dX4_take_65 : decode cX4_take 65 = .ok (.if_icmp .ge 24, 3) := by decide +kernel
theorem dX4_take_68 : decode cX4_take 68 = .ok (.aload_n 0, 1) := by decide +kernel
theorem dX4_take_69 : decode cX4_take 69 = .ok (.getfield 26, 3) := by decide +kernel
theorem dX4_take_72 : decode cX4_take 72 = .ok (.iload_n 2, 1) := by decide +kernel
theorem dX4_take_73 : decode cX4_take 73 = .ok (.aaload, 1) := by decide +kernel
theorem dX4_take_74 : decode cX4_take 74 = .ok (.aload_n 1, 1) := by decide +kernel
theorem dX4_take_75 : decode cX4_take 75 = .ok (.getfield 26, 3) := by decide +kernel
theorem dX4_take_78 : decode cX4_take 78 = .ok (.iload_n 2, 1) := by decide +kernel
theorem dX4_take_79 : decode cX4_take 79 = .ok (.aaload, 1) := by decide +kernel
theorem dX4_take_80 : decode cX4_take 80 = .ok (.invokevirtual 75, 3) := by decide +kernel
theorem dX4_take_83 : decode cX4_take 83 = .ok (.iinc 2 1, 3) := by decide +kernel
theorem dX4_take_86 : decode cX4_take 86 = .ok (.goto (-23), 3) := by decide +kernel
theorem dX4_take_89 : decode cX4_take 89 = .ok (.aload_n 0, 1) := by decide +kernel
theorem dX4_take_90 : decode cX4_take 90 = .ok (.aload_n 1, 1) := by decide +kernel
theorem dX4_take_91 : decode cX4_take 91 = .ok (.getfield 54, 3) := by decide +kernel
theorem dX4_take_94 : decode cX4_take 94 = .ok (.putfield 54, 3) := by decide +kernel
theorem dX4_take_97 : decode cX4_take 97 = .ok (.aload_n 0, 1) := by decide +kernel
theorem dX4_take_98 : decode cX4_take 98 = .ok (.aload_n 1, 1) := by decide +kernel
theorem dX4_take_99 : decode cX4_take 99 = .ok (.getfield 58, 3) := by decide +kernel
theorem dX4_take_102 : decode cX4_take 102 = .ok (.putfield 58, 3) := by decide +kernel
theorem dX4_take_105 : decode cX4_take 105 = .ok (.aload_n 0, 1) := by decide +kernel
theorem dX4_take_106 : decode cX4_take 106 = .ok (.getfield 35, 3) := by decide +kernel
theorem dX4_take_109 : decode cX4_take 109 = .ok (.aload_n 1, 1) := by decide +kernel
theorem dX4_take_110 : decode cX4_take 110 = .ok (.getfield 35, 3) := by decide +kernel
theorem dX4_take_113 : decode cX4_take 113 = .ok (.invokevirtual 78, 3) := by decide +kernel
theorem dX4_take_116 : decode cX4_take 116 = .ok (.aload_n 0, 1) := by decide +kernel
theorem dX4_take_117 : decode cX4_take 117 = .ok (.getfield 39, 3) := by decide +kernel
theorem dX4_take_120 : decode cX4_take 120 = .ok (.aload_n 1, 1) := by decide +kernel
theorem dX4_take_121 : decode cX4_take 121 = .ok (.getfield 39, 3) := by decide +kernel
theorem dX4_take_124 : decode cX4_take 124 = .ok (.invokevirtual 78, 3) := by decide +kernel
theorem dX4_take_127 : decode cX4_take 127 = .ok (.aload_n 0, 1) := by decide +kernel
theorem dX4_take_128 : decode cX4_take 128 = .ok (.getfield 42, 3) := by decide +kernel
theorem dX4_take_131 : decode cX4_take 131 = .ok (.aload_n 1, 1) := by decide +kernel
theorem dX4_take_132 : decode cX4_take 132 = .ok (.getfield 42, 3) := by decide +kernel
theorem dX4_take_135 : decode cX4_take 135 = .ok (.invokevirtual 78, 3) := by decide +kernel
theorem dX4_take_138 : decode cX4_take 138 = .ok (.aload_n 0, 1) := by decide +kernel
theorem dX4_take_139 : decode cX4_take 139 = .ok (.getfield 48, 3) := by decide +kernel
theorem dX4_take_142 : decode cX4_take 142 = .ok (.aload_n 1, 1) := by decide +kernel
theorem dX4_take_143 : decode cX4_take 143 = .ok (.getfield 48, 3) := by decide +kernel
theorem dX4_take_146 : decode cX4_take 146 = .ok (.invokevirtual 81, 3) := by decide +kernel
theorem dX4_take_149 : decode cX4_take 149 = .ok (.return_, 1) := by decide +kernel
theorem dX4_dig_0 : decode cX4_dig 0 = .ok (.aload_n 0, 1) := by decide +kernel
theorem dX4_dig_1 : decode cX4_dig 1 = .ok (.getfield 15, 3) := by decide +kernel
theorem dX4_dig_4 : decode cX4_dig 4 = .ok (.iload_n 1, 1) := by decide +kernel
theorem dX4_dig_5 : decode cX4_dig 5 = .ok (.bipush 8, 2) := by decide +kernel
theorem dX4_dig_7 : decode cX4_dig 7 = .ok (.imul, 1) := by decide +kernel
theorem dX4_dig_8 : decode cX4_dig 8 = .ok (.iload_n 2, 1) := by decide +kernel
theorem dX4_dig_9 : decode cX4_dig 9 = .ok (.iadd, 1) := by decide +kernel
theorem dX4_dig_10 : decode cX4_dig 10 = .ok (.iload_n 3, 1) := by decide +kernel
theorem dX4_dig_11 : decode cX4_dig 11 = .ok (.iastore, 1) := by decide +kernel
theorem dX4_dig_12 : decode cX4_dig 12 = .ok (.aload_n 0, 1) := by decide +kernel
theorem dX4_dig_13 : decode cX4_dig 13 = .ok (.getfield 15, 3) := by decide +kernel
theorem dX4_dig_16 : decode cX4_dig 16 = .ok (.iload_n 2, 1) := by decide +kernel
theorem dX4_dig_17 : decode cX4_dig 17 = .ok (.bipush 8, 2) := by decide +kernel
theorem dX4_dig_19 : decode cX4_dig 19 = .ok (.imul, 1) := by decide +kernel
theorem dX4_dig_20 : decode cX4_dig 20 = .ok (.iload_n 1, 1) := by decide +kernel
theorem dX4_dig_21 : decode cX4_dig 21 = .ok (.iadd, 1) := by decide +kernel
theorem dX4_dig_22 : decode cX4_dig 22 = .ok (.iload_n 3, 1) := by decide +kernel
theorem dX4_dig_23 : decode cX4_dig 23 = .ok (.iastore, 1) := by decide +kernel
theorem dX4_dig_24 : decode cX4_dig 24 = .ok (.return_, 1) := by decide +kernel
theorem dX4_strokesBetween_0 : decode cX4_strokesBetween 0 = .ok (.aload_n 0, 1) := by decide +kernel
theorem dX4_strokesBetween_1 : decode cX4_strokesBetween 1 = .ok (.getfield 15, 3) := by decide +kernel
theorem dX4_strokesBetween_4 : decode cX4_strokesBetween 4 = .ok (.iload_n 1, 1) := by decide +kernel
theorem dX4_strokesBetween_5 : decode cX4_strokesBetween 5 = .ok (.bipush 8, 2) := by decide +kernel
theorem dX4_strokesBetween_7 : decode cX4_strokesBetween 7 = .ok (.imul, 1) := by decide +kernel
theorem dX4_strokesBetween_8 : decode cX4_strokesBetween 8 = .ok (.iload_n 2, 1) := by decide +kernel
theorem dX4_strokesBetween_9 : decode cX4_strokesBetween 9 = .ok (.iadd, 1) := by decide +kernel
theorem dX4_strokesBetween_10 : decode cX4_strokesBetween 10 = .ok (.iaload, 1) := by decide +kernel
theorem dX4_strokesBetween_11 : decode cX4_strokesBetween 11 = .ok (.ireturn, 1) := by decide +kernel
theorem dX4_addRower_0 : decode cX4_addRower 0 = .ok (.aload_n 0, 1) := by decide +kernel
theorem dX4_addRower_1 : decode cX4_addRower 1 = .ok (.getfield 54, 3) := by decide +kernel
theorem dX4_addRower_4 : decode cX4_addRower 4 = .ok (.iconst 3, 1) := by decide +kernel
theorem dX4_addRower_5 : decode cX4_addRower 5 = .ok (.if_icmp .ge 39, 3) := by decide +kernel
theorem dX4_addRower_8 : decode cX4_addRower 8 = .ok (.aload_n 0, 1) := by decide +kernel
theorem dX4_addRower_9 : decode cX4_addRower 9 = .ok (.getfield 20, 3) := by decide +kernel
theorem dX4_addRower_12 : decode cX4_addRower 12 = .ok (.aload_n 0, 1) := by decide +kernel
theorem dX4_addRower_13 : decode cX4_addRower 13 = .ok (.getfield 54, 3) := by decide +kernel
theorem dX4_addRower_16 : decode cX4_addRower 16 = .ok (.aaload, 1) := by decide +kernel
theorem dX4_addRower_17 : decode cX4_addRower 17 = .ok (.iload_n 1, 1) := by decide +kernel
theorem dX4_addRower_18 : decode cX4_addRower 18 = .ok (.putfield 84, 3) := by decide +kernel
theorem dX4_addRower_21 : decode cX4_addRower 21 = .ok (.aload_n 0, 1) := by decide +kernel
theorem dX4_addRower_22 : decode cX4_addRower 22 = .ok (.getfield 20, 3) := by decide +kernel
theorem dX4_addRower_25 : decode cX4_addRower 25 = .ok (.aload_n 0, 1) := by decide +kernel
theorem dX4_addRower_26 : decode cX4_addRower 26 = .ok (.getfield 54, 3) := by decide +kernel
theorem dX4_addRower_29 : decode cX4_addRower 29 = .ok (.aaload, 1) := by decide +kernel
theorem dX4_addRower_30 : decode cX4_addRower 30 = .ok (.iload_n 2, 1) := by decide +kernel
theorem dX4_addRower_31 : decode cX4_addRower 31 = .ok (.putfield 87, 3) := by decide +kernel
theorem dX4_addRower_34 : decode cX4_addRower 34 = .ok (.aload_n 0, 1) := by decide +kernel
theorem dX4_addRower_35 : decode cX4_addRower 35 = .ok (.dup, 1) := by decide +kernel
theorem dX4_addRower_36 : decode cX4_addRower 36 = .ok (.getfield 54, 3) := by decide +kernel
theorem dX4_addRower_39 : decode cX4_addRower 39 = .ok (.iconst 1, 1) := by decide +kernel
theorem dX4_addRower_40 : decode cX4_addRower 40 = .ok (.iadd, 1) := by decide +kernel
theorem dX4_addRower_41 : decode cX4_addRower 41 = .ok (.putfield 54, 3) := by decide +kernel
theorem dX4_addRower_44 : decode cX4_addRower 44 = .ok (.return_, 1) := by decide +kernel
theorem dX4_addGuest_0 : decode cX4_addGuest 0 = .ok (.aload_n 0, 1) := by decide +kernel
theorem dX4_addGuest_1 : decode cX4_addGuest 1 = .ok (.getfield 58, 3) := by decide +kernel
theorem dX4_addGuest_4 : decode cX4_addGuest 4 = .ok (.iconst 4, 1) := by decide +kernel
theorem dX4_addGuest_5 : decode cX4_addGuest 5 = .ok (.if_icmp .ge 27, 3) := by decide +kernel
theorem dX4_addGuest_8 : decode cX4_addGuest 8 = .ok (.aload_n 0, 1) := by decide +kernel
theorem dX4_addGuest_9 : decode cX4_addGuest 9 = .ok (.getfield 26, 3) := by decide +kernel
theorem dX4_addGuest_12 : decode cX4_addGuest 12 = .ok (.aload_n 0, 1) := by decide +kernel
theorem dX4_addGuest_13 : decode cX4_addGuest 13 = .ok (.getfield 58, 3) := by decide +kernel
theorem dX4_addGuest_16 : decode cX4_addGuest 16 = .ok (.aaload, 1) := by decide +kernel
theorem dX4_addGuest_17 : decode cX4_addGuest 17 = .ok (.iload_n 1, 1) := by decide +kernel
theorem dX4_addGuest_18 : decode cX4_addGuest 18 = .ok (.iload_n 2, 1) := by decide +kernel
theorem dX4_addGuest_19 : decode cX4_addGuest 19 = .ok (.invokevirtual 90, 3) := by decide +kernel
theorem dX4_addGuest_22 : decode cX4_addGuest 22 = .ok (.aload_n 0, 1) := by decide +kernel
theorem dX4_addGuest_23 : decode cX4_addGuest 23 = .ok (.dup, 1) := by decide +kernel
theorem dX4_addGuest_24 : decode cX4_addGuest 24 = .ok (.getfield 58, 3) := by decide +kernel
theorem dX4_addGuest_27 : decode cX4_addGuest 27 = .ok (.iconst 1, 1) := by decide +kernel
theorem dX4_addGuest_28 : decode cX4_addGuest 28 = .ok (.iadd, 1) := by decide +kernel
theorem dX4_addGuest_29 : decode cX4_addGuest 29 = .ok (.putfield 58, 3) := by decide +kernel
theorem dX4_addGuest_32 : decode cX4_addGuest 32 = .ok (.return_, 1) := by decide +kernel
theorem dX4_canRow_0 : decode cX4_canRow 0 = .ok (.aload_n 1, 1) := by decide +kernel
theorem dX4_canRow_1 : decode cX4_canRow 1 = .ok (.getfield 93, 3) := by decide +kernel
theorem dX4_canRow_4 : decode cX4_canRow 4 = .ok (.bipush 7, 2) := by decide +kernel
theorem dX4_canRow_6 : decode cX4_canRow 6 = .ok (.if_icmp .eq 19, 3) := by decide +kernel
theorem dX4_canRow_9 : decode cX4_canRow 9 = .ok (.aload_n 0, 1) := by decide +kernel
theorem dX4_canRow_10 : decode cX4_canRow 10 = .ok (.aload_n 1, 1) := by decide +kernel
theorem dX4_canRow_11 : decode cX4_canRow 11 = .ok (.getfield 93, 3) := by decide +kernel
theorem dX4_canRow_14 : decode cX4_canRow 14 = .ok (.iload_n 2, 1) := by decide +kernel
theorem dX4_canRow_15 : decode cX4_canRow 15 = .ok (.invokevirtual 96, 3) := by decide +kernel
theorem dX4_canRow_18 : decode cX4_canRow 18 = .ok (.ifCond .le 7, 3) := by decide +kernel
theorem dX4_canRow_21 : decode cX4_canRow 21 = .ok (.iconst 1, 1) := by decide +kernel
theorem dX4_canRow_22 : decode cX4_canRow 22 = .ok (.goto 4, 3) := by decide +kernel
theorem dX4_canRow_25 : decode cX4_canRow 25 = .ok (.iconst 0, 1) := by decide +kernel
theorem dX4_canRow_26 : decode cX4_canRow 26 = .ok (.ireturn, 1) := by decide +kernel
theorem dX4_carry_0 : decode cX4_carry 0 = .ok (.aload_n 1, 1) := by decide +kernel
theorem dX4_carry_1 : decode cX4_carry 1 = .ok (.iload_n 3, 1) := by decide +kernel
theorem dX4_carry_2 : decode cX4_carry 2 = .ok (.aload_n 0, 1) := by decide +kernel
theorem dX4_carry_3 : decode cX4_carry 3 = .ok (.aload_n 1, 1) := by decide +kernel
theorem dX4_carry_4 : decode cX4_carry 4 = .ok (.getfield 93, 3) := by decide +kernel
theorem dX4_carry_7 : decode cX4_carry 7 = .ok (.iload_n 3, 1) := by decide +kernel
theorem dX4_carry_8 : decode cX4_carry 8 = .ok (.invokevirtual 96, 3) := by decide +kernel
theorem dX4_carry_11 : decode cX4_carry 11 = .ok (.invokevirtual 100, 3) := by decide +kernel
theorem dX4_carry_14 : decode cX4_carry 14 = .ok (.aload_n 1, 1) := by decide +kernel
theorem dX4_carry_15 : decode cX4_carry 15 = .ok (.aload_n 2, 1) := by decide +kernel
theorem dX4_carry_16 : decode cX4_carry 16 = .ok (.aload_n 0, 1) := by decide +kernel
theorem dX4_carry_17 : decode cX4_carry 17 = .ok (.getfield 9, 3) := by decide +kernel
theorem dX4_carry_20 : decode cX4_carry 20 = .ok (.iload_n 3, 1) := by decide +kernel
theorem dX4_carry_21 : decode cX4_carry 21 = .ok (.iaload, 1) := by decide +kernel
theorem dX4_carry_22 : decode cX4_carry 22 = .ok (.aload_n 1, 1) := by decide +kernel
theorem dX4_carry_23 : decode cX4_carry 23 = .ok (.getfield 103, 3) := by decide +kernel
theorem dX4_carry_26 : decode cX4_carry 26 = .ok (.invokevirtual 106, 3) := by decide +kernel
theorem dX4_carry_29 : decode cX4_carry 29 = .ok (.aload_n 0, 1) := by decide +kernel
theorem dX4_carry_30 : decode cX4_carry 30 = .ok (.getfield 9, 3) := by decide +kernel
theorem dX4_carry_33 : decode cX4_carry 33 = .ok (.iload_n 3, 1) := by decide +kernel
theorem dX4_carry_34 : decode cX4_carry 34 = .ok (.iaload, 1) := by decide +kernel
theorem dX4_carry_35 : decode cX4_carry 35 = .ok (.invokevirtual 109, 3) := by decide +kernel
theorem dX4_carry_38 : decode cX4_carry 38 = .ok (.return_, 1) := by decide +kernel
theorem dX4_pass_0 : decode cX4_pass 0 = .ok (.iload_n 1, 1) := by decide +kernel
theorem dX4_pass_1 : decode cX4_pass 1 = .ok (.aload_n 0, 1) := by decide +kernel
theorem dX4_pass_2 : decode cX4_pass 2 = .ok (.getfield 58, 3) := by decide +kernel
theorem dX4_pass_5 : decode cX4_pass 5 = .ok (.if_icmp .lt 4, 3) := by decide +kernel
theorem dX4_pass_8 : decode cX4_pass 8 = .ok (.return_, 1) := by decide +kernel
theorem dX4_pass_9 : decode cX4_pass 9 = .ok (.aload_n 0, 1) := by decide +kernel
theorem dX4_pass_10 : decode cX4_pass 10 = .ok (.getfield 26, 3) := by decide +kernel
theorem dX4_pass_13 : decode cX4_pass 13 = .ok (.iload_n 1, 1) := by decide +kernel
theorem dX4_pass_14 : decode cX4_pass 14 = .ok (.aaload, 1) := by decide +kernel
theorem dX4_pass_15 : decode cX4_pass 15 = .ok (.astore 4, 2) := by decide +kernel
theorem dX4_pass_17 : decode cX4_pass 17 = .ok (.iload_n 2, 1) := by decide +kernel
theorem dX4_pass_18 : decode cX4_pass 18 = .ok (.aload_n 0, 1) := by decide +kernel
theorem dX4_pass_19 : decode cX4_pass 19 = .ok (.getfield 54, 3) := by decide +kernel
theorem dX4_pass_22 : decode cX4_pass 22 = .ok (.if_icmp .ge 29, 3) := by decide +kernel
theorem dX4_pass_25 : decode cX4_pass 25 = .ok (.aload_n 0, 1) := by decide +kernel
theorem dX4_pass_26 : decode cX4_pass 26 = .ok (.aload 4, 2) := by decide +kernel
theorem dX4_pass_28 : decode cX4_pass 28 = .ok (.iload_n 3, 1) := by decide +kernel
theorem dX4_pass_29 : decode cX4_pass 29 = .ok (.invokevirtual 112, 3) := by decide +kernel
theorem dX4_pass_32 : decode cX4_pass 32 = .ok (.ifCond .eq 19, 3) := by decide +kernel
theorem dX4_pass_35 : decode cX4_pass 35 = .ok (.aload_n 0, 1) := by decide +kernel
theorem dX4_pass_36 : decode cX4_pass 36 = .ok (.aload 4, 2) := by decide +kernel
theorem dX4_pass_38 : decode cX4_pass 38 = .ok (.aload_n 0, 1) := by decide +kernel
theorem dX4_pass_39 : decode cX4_pass 39 = .ok (.getfield 20, 3) := by decide +kernel
theorem dX4_pass_42 : decode cX4_pass 42 = .ok (.iload_n 2, 1) := by decide +kernel
theorem dX4_pass_43 : decode cX4_pass 43 = .ok (.aaload, 1) := by decide +kernel
theorem dX4_pass_44 : decode cX4_pass 44 = .ok (.iload_n 3, 1) := by decide +kernel
theorem dX4_pass_45 : decode cX4_pass 45 = .ok (.invokevirtual 116, 3) := by decide +kernel
theorem dX4_pass_48 : decode cX4_pass 48 = .ok (.goto 18, 3) := by decide +kernel
theorem dX4_pass_51 : decode cX4_pass 51 = .ok (.aload 4, 2) := by decide +kernel
theorem dX4_pass_53 : decode cX4_pass 53 = .ok (.getfield 93, 3) := by decide +kernel
theorem dX4_pass_56 : decode cX4_pass 56 = .ok (.bipush 7, 2) := by decide +kernel
theorem dX4_pass_58 : decode cX4_pass 58 = .ok (.if_icmp .ne 8, 3) := by decide +kernel
theorem dX4_pass_61 : decode cX4_pass 61 = .ok (.aload 4, 2) := by decide +kernel
theorem dX4_pass_63 : decode cX4_pass 63 = .ok (.invokevirtual 120, 3) := by decide +kernel
theorem dX4_pass_66 : decode cX4_pass 66 = .ok (.return_, 1) := by decide +kernel
theorem dX4_neighbours_0 : decode cX4_neighbours 0 = .ok (.iconst 0, 1) := by decide +kernel
theorem dX4_neighbours_1 : decode cX4_neighbours 1 = .ok (.istore_n 2, 1) := by decide +kernel
theorem dX4_neighbours_2 : decode cX4_neighbours 2 = .ok (.iconst 0, 1) := by decide +kernel
theorem dX4_neighbours_3 : decode cX4_neighbours 3 = .ok (.istore_n 3, 1) := by decide +kernel
theorem dX4_neighbours_4 : decode cX4_neighbours 4 = .ok (.iload_n 3, 1) := by decide +kernel
theorem dX4_neighbours_5 : decode cX4_neighbours 5 = .ok (.bipush 8, 2) := by decide +kernel
theorem dX4_neighbours_7 : decode cX4_neighbours 7 = .ok (.if_icmp .ge 24, 3) := by decide +kernel
theorem dX4_neighbours_10 : decode cX4_neighbours 10 = .ok (.aload_n 0, 1) := by decide +kernel
theorem dX4_neighbours_11 : decode cX4_neighbours 11 = .ok (.iload_n 1, 1) := by decide +kernel
theorem dX4_neighbours_12 : decode cX4_neighbours 12 = .ok (.iload_n 3, 1) := by decide +kernel
theorem dX4_neighbours_13 : decode cX4_neighbours 13 = .ok (.invokevirtual 96, 3) := by decide +kernel
theorem dX4_neighbours_16 : decode cX4_neighbours 16 = .ok (.ifCond .le 9, 3) := by decide +kernel
theorem dX4_neighbours_19 : decode cX4_neighbours 19 = .ok (.iload_n 2, 1) := by decide +kernel
theorem dX4_neighbours_20 : decode cX4_neighbours 20 = .ok (.iconst 1, 1) := by decide +kernel
theorem dX4_neighbours_21 : decode cX4_neighbours 21 = .ok (.iload_n 3, 1) := by decide +kernel
theorem dX4_neighbours_22 : decode cX4_neighbours 22 = .ok (.ishl, 1) := by decide +kernel
theorem dX4_neighbours_23 : decode cX4_neighbours 23 = .ok (.ior, 1) := by decide +kernel
theorem dX4_neighbours_24 : decode cX4_neighbours 24 = .ok (.istore_n 2, 1) := by decide +kernel
theorem dX4_neighbours_25 : decode cX4_neighbours 25 = .ok (.iinc 3 1, 3) := by decide +kernel
theorem dX4_neighbours_28 : decode cX4_neighbours 28 = .ok (.goto (-24), 3) := by decide +kernel
theorem dX4_neighbours_31 : decode cX4_neighbours 31 = .ok (.iload_n 2, 1) := by decide +kernel
theorem dX4_neighbours_32 : decode cX4_neighbours 32 = .ok (.ireturn, 1) := by decide +kernel
theorem dX4_guestsAt_0 : decode cX4_guestsAt 0 = .ok (.iconst 0, 1) := by decide +kernel
theorem dX4_guestsAt_1 : decode cX4_guestsAt 1 = .ok (.istore_n 2, 1) := by decide +kernel
theorem dX4_guestsAt_2 : decode cX4_guestsAt 2 = .ok (.iconst 0, 1) := by decide +kernel
theorem dX4_guestsAt_3 : decode cX4_guestsAt 3 = .ok (.istore_n 3, 1) := by decide +kernel
theorem dX4_guestsAt_4 : decode cX4_guestsAt 4 = .ok (.iload_n 3, 1) := by decide +kernel
theorem dX4_guestsAt_5 : decode cX4_guestsAt 5 = .ok (.aload_n 0, 1) := by decide +kernel
theorem dX4_guestsAt_6 : decode cX4_guestsAt 6 = .ok (.getfield 58, 3) := by decide +kernel
theorem dX4_guestsAt_9 : decode cX4_guestsAt 9 = .ok (.if_icmp .ge 28, 3) := by decide +kernel
theorem dX4_guestsAt_12 : decode cX4_guestsAt 12 = .ok (.aload_n 0, 1) := by decide +kernel
theorem dX4_guestsAt_13 : decode cX4_guestsAt 13 = .ok (.getfield 26, 3) := by decide +kernel
theorem dX4_guestsAt_16 : decode cX4_guestsAt 16 = .ok (.iload_n 3, 1) := by decide +kernel
theorem dX4_guestsAt_17 : decode cX4_guestsAt 17 = .ok (.aaload, 1) := by decide +kernel
theorem dX4_guestsAt_18 : decode cX4_guestsAt 18 = .ok (.getfield 93, 3) := by decide +kernel
theorem dX4_guestsAt_21 : decode cX4_guestsAt 21 = .ok (.iload_n 1, 1) := by decide +kernel
theorem dX4_guestsAt_22 : decode cX4_guestsAt 22 = .ok (.if_icmp .ne 9, 3) := by decide +kernel
theorem dX4_guestsAt_25 : decode cX4_guestsAt 25 = .ok (.iload_n 2, 1) := by decide +kernel
theorem dX4_guestsAt_26 : decode cX4_guestsAt 26 = .ok (.iconst 1, 1) := by decide +kernel
theorem dX4_guestsAt_27 : decode cX4_guestsAt 27 = .ok (.iload_n 3, 1) := by decide +kernel
theorem dX4_guestsAt_28 : decode cX4_guestsAt 28 = .ok (.ishl, 1) := by decide +kernel
theorem dX4_guestsAt_29 : decode cX4_guestsAt 29 = .ok (.ior, 1) := by decide +kernel
theorem dX4_guestsAt_30 : decode cX4_guestsAt 30 = .ok (.istore_n 2, 1) := by decide +kernel
theorem dX4_guestsAt_31 : decode cX4_guestsAt 31 = .ok (.iinc 3 1, 3) := by decide +kernel
theorem dX4_guestsAt_34 : decode cX4_guestsAt 34 = .ok (.goto (-30), 3) := by decide +kernel
theorem dX4_guestsAt_37 : decode cX4_guestsAt 37 = .ok (.iload_n 2, 1) := by decide +kernel
theorem dX4_guestsAt_38 : decode cX4_guestsAt 38 = .ok (.ireturn, 1) := by decide +kernel
theorem dX4_toldBits_0 : decode cX4_toldBits 0 = .ok (.iconst 0, 1) := by decide +kernel
theorem dX4_toldBits_1 : decode cX4_toldBits 1 = .ok (.istore_n 1, 1) := by decide +kernel
theorem dX4_toldBits_2 : decode cX4_toldBits 2 = .ok (.iconst 0, 1) := by decide +kernel
theorem dX4_toldBits_3 : decode cX4_toldBits 3 = .ok (.istore_n 2, 1) := by decide +kernel
theorem dX4_toldBits_4 : decode cX4_toldBits 4 = .ok (.iload_n 2, 1) := by decide +kernel
theorem dX4_toldBits_5 : decode cX4_toldBits 5 = .ok (.aload_n 0, 1) := by decide +kernel
theorem dX4_toldBits_6 : decode cX4_toldBits 6 = .ok (.getfield 58, 3) := by decide +kernel
theorem dX4_toldBits_9 : decode cX4_toldBits 9 = .ok (.if_icmp .ge 27, 3) := by decide +kernel
theorem dX4_toldBits_12 : decode cX4_toldBits 12 = .ok (.aload_n 0, 1) := by decide +kernel
theorem dX4_toldBits_13 : decode cX4_toldBits 13 = .ok (.getfield 26, 3) := by decide +kernel
theorem dX4_toldBits_16 : decode cX4_toldBits 16 = .ok (.iload_n 2, 1) := by decide +kernel
theorem dX4_toldBits_17 : decode cX4_toldBits 17 = .ok (.aaload, 1) := by decide +kernel
theorem dX4_toldBits_18 : decode cX4_toldBits 18 = .ok (.invokevirtual 123, 3) := by decide +kernel
theorem dX4_toldBits_21 : decode cX4_toldBits 21 = .ok (.ifCond .eq 9, 3) := by decide +kernel
theorem dX4_toldBits_24 : decode cX4_toldBits 24 = .ok (.iload_n 1, 1) := by decide +kernel
theorem dX4_toldBits_25 : decode cX4_toldBits 25 = .ok (.iconst 1, 1) := by decide +kernel
theorem dX4_toldBits_26 : decode cX4_toldBits 26 = .ok (.iload_n 2, 1) := by decide +kernel
theorem dX4_toldBits_27 : decode cX4_toldBits 27 = .ok (.ishl, 1) := by decide +kernel
theorem dX4_toldBits_28 : decode cX4_toldBits 28 = .ok (.ior, 1) := by decide +kernel
theorem dX4_toldBits_29 : decode cX4_toldBits 29 = .ok (.istore_n 1, 1) := by decide +kernel
theorem dX4_toldBits_30 : decode cX4_toldBits 30 = .ok (.iinc 2 1, 3) := by decide +kernel
theorem dX4_toldBits_33 : decode cX4_toldBits 33 = .ok (.goto (-29), 3) := by decide +kernel
theorem dX4_toldBits_36 : decode cX4_toldBits 36 = .ok (.iload_n 1, 1) := by decide +kernel
theorem dX4_toldBits_37 : decode cX4_toldBits 37 = .ok (.ireturn, 1) := by decide +kernel
theorem dX4_canalCount_0 : decode cX4_canalCount 0 = .ok (.iconst 0, 1) := by decide +kernel
theorem dX4_canalCount_1 : decode cX4_canalCount 1 = .ok (.istore_n 1, 1) := by decide +kernel
theorem dX4_canalCount_2 : decode cX4_canalCount 2 = .ok (.iconst 0, 1) := by decide +kernel
theorem dX4_canalCount_3 : decode cX4_canalCount 3 = .ok (.istore_n 2, 1) := by decide +kernel
theorem dX4_canalCount_4 : decode cX4_canalCount 4 = .ok (.iload_n 2, 1) := by decide +kernel
theorem dX4_canalCount_5 : decode cX4_canalCount 5 = .ok (.bipush 8, 2) := by decide +kernel
theorem dX4_canalCount_7 : decode cX4_canalCount 7 = .ok (.if_icmp .ge 20, 3) := by decide +kernel
theorem dX4_canalCount_10 : decode cX4_canalCount 10 = .ok (.iload_n 1, 1) := by decide +kernel
theorem dX4_canalCount_11 : decode cX4_canalCount 11 = .ok (.aload_n 0, 1) := by decide +kernel
theorem dX4_canalCount_12 : decode cX4_canalCount 12 = .ok (.iload_n 2, 1) := by decide +kernel
theorem dX4_canalCount_13 : decode cX4_canalCount 13 = .ok (.invokevirtual 127, 3) := by decide +kernel
theorem dX4_canalCount_16 : decode cX4_canalCount 16 = .ok (.invokestatic 131, 3) := by decide +kernel
theorem dX4_canalCount_19 : decode cX4_canalCount 19 = .ok (.iadd, 1) := by decide +kernel
theorem dX4_canalCount_20 : decode cX4_canalCount 20 = .ok (.istore_n 1, 1) := by decide +kernel
theorem dX4_canalCount_21 : decode cX4_canalCount 21 = .ok (.iinc 2 1, 3) := by decide +kernel
theorem dX4_canalCount_24 : decode cX4_canalCount 24 = .ok (.goto (-20), 3) := by decide +kernel
theorem dX4_canalCount_27 : decode cX4_canalCount 27 = .ok (.iload_n 1, 1) := by decide +kernel
theorem dX4_canalCount_28 : decode cX4_canalCount 28 = .ok (.iconst 2, 1) := by decide +kernel
theorem dX4_canalCount_29 : decode cX4_canalCount 29 = .ok (.idiv, 1) := by decide +kernel
theorem dX4_canalCount_30 : decode cX4_canalCount 30 = .ok (.ireturn, 1) := by decide +kernel
theorem dX4_sum_0 : decode cX4_sum 0 = .ok (.iconst 0, 1) := by decide +kernel
theorem dX4_sum_1 : decode cX4_sum 1 = .ok (.istore_n 2, 1) := by decide +kernel
theorem dX4_sum_2 : decode cX4_sum 2 = .ok (.iconst 0, 1) := by decide +kernel
theorem dX4_sum_3 : decode cX4_sum 3 = .ok (.istore_n 3, 1) := by decide +kernel
theorem dX4_sum_4 : decode cX4_sum 4 = .ok (.iload_n 3, 1) := by decide +kernel
theorem dX4_sum_5 : decode cX4_sum 5 = .ok (.aload_n 0, 1) := by decide +kernel
theorem dX4_sum_6 : decode cX4_sum 6 = .ok (.getfield 58, 3) := by decide +kernel
theorem dX4_sum_9 : decode cX4_sum 9 = .ok (.if_icmp .ge 22, 3) := by decide +kernel
theorem dX4_sum_12 : decode cX4_sum 12 = .ok (.iload_n 2, 1) := by decide +kernel
theorem dX4_sum_13 : decode cX4_sum 13 = .ok (.aload_n 0, 1) := by decide +kernel
theorem dX4_sum_14 : decode cX4_sum 14 = .ok (.getfield 26, 3) := by decide +kernel
theorem dX4_sum_17 : decode cX4_sum 17 = .ok (.iload_n 3, 1) := by decide +kernel
theorem dX4_sum_18 : decode cX4_sum 18 = .ok (.aaload, 1) := by decide +kernel
theorem dX4_sum_19 : decode cX4_sum 19 = .ok (.iload_n 1, 1) := by decide +kernel
theorem dX4_sum_20 : decode cX4_sum 20 = .ok (.invokevirtual 136, 3) := by decide +kernel
theorem dX4_sum_23 : decode cX4_sum 23 = .ok (.iadd, 1) := by decide +kernel
theorem dX4_sum_24 : decode cX4_sum 24 = .ok (.istore_n 2, 1) := by decide +kernel
theorem dX4_sum_25 : decode cX4_sum 25 = .ok (.iinc 3 1, 3) := by decide +kernel
theorem dX4_sum_28 : decode cX4_sum 28 = .ok (.goto (-24), 3) := by decide +kernel
theorem dX4_sum_31 : decode cX4_sum 31 = .ok (.iload_n 2, 1) := by decide +kernel
theorem dX4_sum_32 : decode cX4_sum 32 = .ok (.ireturn, 1) := by decide +kernel
theorem dX4_measureFrom_0 : decode cX4_measureFrom 0 = .ok (.iconst 0, 1) := by decide +kernel
theorem dX4_measureFrom_1 : decode cX4_measureFrom 1 = .ok (.istore_n 3, 1) := by decide +kernel
theorem dX4_measureFrom_2 : decode cX4_measureFrom 2 = .ok (.iload_n 3, 1) := by decide +kernel
theorem dX4_measureFrom_3 : decode cX4_measureFrom 3 = .ok (.bipush 8, 2) := by decide +kernel
theorem dX4_measureFrom_5 : decode cX4_measureFrom 5 = .ok (.if_icmp .ge 13, 3) := by decide +kernel
theorem dX4_measureFrom_8 : decode cX4_measureFrom 8 = .ok (.aload_n 2, 1) := by decide +kernel
theorem dX4_measureFrom_9 : decode cX4_measureFrom 9 = .ok (.iload_n 3, 1) := by decide +kernel
theorem dX4_measureFrom_10 : decode cX4_measureFrom 10 = .ok (.iconst (-1), 1) := by decide +kernel
theorem dX4_measureFrom_11 : decode cX4_measureFrom 11 = .ok (.iastore, 1) := by decide +kernel
theorem dX4_measureFrom_12 : decode cX4_measureFrom 12 = .ok (.iinc 3 1, 3) := by decide +kernel
theorem dX4_measureFrom_15 : decode cX4_measureFrom 15 = .ok (.goto (-13), 3) := by decide +kernel
theorem dX4_measureFrom_18 : decode cX4_measureFrom 18 = .ok (.aload_n 2, 1) := by decide +kernel
theorem dX4_measureFrom_19 : decode cX4_measureFrom 19 = .ok (.iload_n 1, 1) := by decide +kernel
theorem dX4_measureFrom_20 : decode cX4_measureFrom 20 = .ok (.iconst 0, 1) := by decide +kernel
theorem dX4_measureFrom_21 : decode cX4_measureFrom 21 = .ok (.iastore, 1) := by decide +kernel
theorem dX4_measureFrom_22 : decode cX4_measureFrom 22 = .ok (.iconst 1, 1) := by decide +kernel
theorem dX4_measureFrom_23 : decode cX4_measureFrom 23 = .ok (.istore_n 3, 1) := by decide +kernel
theorem dX4_measureFrom_24 : decode cX4_measureFrom 24 = .ok (.iload_n 3, 1) := by decide +kernel
theorem dX4_measureFrom_25 : decode cX4_measureFrom 25 = .ok (.bipush 8, 2) := by decide +kernel
theorem dX4_measureFrom_27 : decode cX4_measureFrom 27 = .ok (.if_icmp .ge 32, 3) := by decide +kernel
theorem dX4_measureFrom_30 : decode cX4_measureFrom 30 = .ok (.iconst 0, 1) := by decide +kernel
theorem dX4_measureFrom_31 : decode cX4_measureFrom 31 = .ok (.istore 4, 2) := by decide +kernel
theorem dX4_measureFrom_33 : decode cX4_measureFrom 33 = .ok (.iload 4, 2) := by decide +kernel
theorem dX4_measureFrom_35 : decode cX4_measureFrom 35 = .ok (.bipush 8, 2) := by decide +kernel
theorem dX4_measureFrom_37 : decode cX4_measureFrom 37 = .ok (.if_icmp .ge 16, 3) := by decide +kernel
theorem dX4_measureFrom_40 : decode cX4_measureFrom 40 = .ok (.aload_n 0, 1) := by decide +kernel
theorem dX4_measureFrom_41 : decode cX4_measureFrom 41 = .ok (.iload 4, 2) := by decide +kernel
theorem dX4_measureFrom_43 : decode cX4_measureFrom 43 = .ok (.aload_n 2, 1) := by decide +kernel
theorem dX4_measureFrom_44 : decode cX4_measureFrom 44 = .ok (.invokevirtual 139, 3) := by decide +kernel
theorem dX4_measureFrom_47 : decode cX4_measureFrom 47 = .ok (.iinc 4 1, 3) := by decide +kernel
theorem dX4_measureFrom_50 : decode cX4_measureFrom 50 = .ok (.goto (-17), 3) := by decide +kernel
theorem dX4_measureFrom_53 : decode cX4_measureFrom 53 = .ok (.iinc 3 1, 3) := by decide +kernel
theorem dX4_measureFrom_56 : decode cX4_measureFrom 56 = .ok (.goto (-32), 3) := by decide +kernel
theorem dX4_measureFrom_59 : decode cX4_measureFrom 59 = .ok (.return_, 1) := by decide +kernel
theorem dX4_shorten_0 : decode cX4_shorten 0 = .ok (.aload_n 2, 1) := by decide +kernel
theorem dX4_shorten_1 : decode cX4_shorten 1 = .ok (.iload_n 1, 1) := by decide +kernel
theorem dX4_shorten_2 : decode cX4_shorten 2 = .ok (.iaload, 1) := by decide +kernel
theorem dX4_shorten_3 : decode cX4_shorten 3 = .ok (.iconst (-1), 1) := by decide +kernel
theorem dX4_shorten_4 : decode cX4_shorten 4 = .ok (.if_icmp .ne 4, 3) := by decide +kernel
theorem dX4_shorten_7 : decode cX4_shorten 7 = .ok (.return_, 1) := by decide +kernel
theorem dX4_shorten_8 : decode cX4_shorten 8 = .ok (.iconst 0, 1) := by decide +kernel
theorem dX4_shorten_9 : decode cX4_shorten 9 = .ok (.istore_n 3, 1) := by decide +kernel
theorem dX4_shorten_10 : decode cX4_shorten 10 = .ok (.iload_n 3, 1) := by decide +kernel
theorem dX4_shorten_11 : decode cX4_shorten 11 = .ok (.bipush 8, 2) := by decide +kernel
theorem dX4_shorten_13 : decode cX4_shorten 13 = .ok (.if_icmp .ge 50, 3) := by decide +kernel
theorem dX4_shorten_16 : decode cX4_shorten 16 = .ok (.aload_n 0, 1) := by decide +kernel
theorem dX4_shorten_17 : decode cX4_shorten 17 = .ok (.iload_n 1, 1) := by decide +kernel
theorem dX4_shorten_18 : decode cX4_shorten 18 = .ok (.iload_n 3, 1) := by decide +kernel
theorem dX4_shorten_19 : decode cX4_shorten 19 = .ok (.invokevirtual 96, 3) := by decide +kernel
theorem dX4_shorten_22 : decode cX4_shorten 22 = .ok (.istore 4, 2) := by decide +kernel
theorem dX4_shorten_24 : decode cX4_shorten 24 = .ok (.iload 4, 2) := by decide +kernel
theorem dX4_shorten_26 : decode cX4_shorten 26 = .ok (.ifCond .le 31, 3) := by decide +kernel
theorem dX4_shorten_29 : decode cX4_shorten 29 = .ok (.aload_n 2, 1) := by decide +kernel
theorem dX4_shorten_30 : decode cX4_shorten 30 = .ok (.iload_n 3, 1) := by decide +kernel
theorem dX4_shorten_31 : decode cX4_shorten 31 = .ok (.iaload, 1) := by decide +kernel
theorem dX4_shorten_32 : decode cX4_shorten 32 = .ok (.iconst (-1), 1) := by decide +kernel
theorem dX4_shorten_33 : decode cX4_shorten 33 = .ok (.if_icmp .eq 15, 3) := by decide +kernel
theorem dX4_shorten_36 : decode cX4_shorten 36 = .ok (.aload_n 2, 1) := by decide +kernel
theorem dX4_shorten_37 : decode cX4_shorten 37 = .ok (.iload_n 1, 1) := by decide +kernel
theorem dX4_shorten_38 : decode cX4_shorten 38 = .ok (.iaload, 1) := by decide +kernel
theorem dX4_shorten_39 : decode cX4_shorten 39 = .ok (.iload 4, 2) := by decide +kernel
theorem dX4_shorten_41 : decode cX4_shorten 41 = .ok (.iadd, 1) := by decide +kernel
theorem dX4_shorten_42 : decode cX4_shorten 42 = .ok (.aload_n 2, 1) := by decide +kernel
theorem dX4_shorten_43 : decode cX4_shorten 43 = .ok (.iload_n 3, 1) := by decide +kernel
theorem dX4_shorten_44 : decode cX4_shorten 44 = .ok (.iaload, 1) := by decide +kernel
theorem dX4_shorten_45 : decode cX4_shorten 45 = .ok (.if_icmp .ge 12, 3) := by decide +kernel
theorem dX4_shorten_48 : decode cX4_shorten 48 = .ok (.aload_n 2, 1) := by decide +kernel
theorem dX4_shorten_49 : decode cX4_shorten 49 = .ok (.iload_n 3, 1) := by decide +kernel
theorem dX4_shorten_50 : decode cX4_shorten 50 = .ok (.aload_n 2, 1) := by decide +kernel
theorem dX4_shorten_51 : decode cX4_shorten 51 = .ok (.iload_n 1, 1) := by decide +kernel
theorem dX4_shorten_52 : decode cX4_shorten 52 = .ok (.iaload, 1) := by decide +kernel
theorem dX4_shorten_53 : decode cX4_shorten 53 = .ok (.iload 4, 2) := by decide +kernel
theorem dX4_shorten_55 : decode cX4_shorten 55 = .ok (.iadd, 1) := by decide +kernel
theorem dX4_shorten_56 : decode cX4_shorten 56 = .ok (.iastore, 1) := by decide +kernel
theorem dX4_shorten_57 : decode cX4_shorten 57 = .ok (.iinc 3 1, 3) := by decide +kernel
theorem dX4_shorten_60 : decode cX4_shorten 60 = .ok (.goto (-50), 3) := by decide +kernel
theorem dX4_shorten_63 : decode cX4_shorten 63 = .ok (.return_, 1) := by decide +kernel
theorem dX4_fold_0 : decode cX4_fold 0 = .ok (.lload_n 1, 1) := by decide +kernel
theorem dX4_fold_1 : decode cX4_fold 1 = .ok (.lstore_n 3, 1) := by decide +kernel
theorem dX4_fold_2 : decode cX4_fold 2 = .ok (.iconst 0, 1) := by decide +kernel
theorem dX4_fold_3 : decode cX4_fold 3 = .ok (.istore 5, 2) := by decide +kernel
theorem dX4_fold_5 : decode cX4_fold 5 = .ok (.iload 5, 2) := by decide +kernel
theorem dX4_fold_7 : decode cX4_fold 7 = .ok (.bipush 8, 2) := by decide +kernel
theorem dX4_fold_9 : decode cX4_fold 9 = .ok (.if_icmp .ge 24, 3) := by decide +kernel
theorem dX4_fold_12 : decode cX4_fold 12 = .ok (.ldc2_w 143, 3) := by decide +kernel
theorem dX4_fold_15 : decode cX4_fold 15 = .ok (.lload_n 3, 1) := by decide +kernel
theorem dX4_fold_16 : decode cX4_fold 16 = .ok (.lmul, 1) := by decide +kernel
theorem dX4_fold_17 : decode cX4_fold 17 = .ok (.aload_n 0, 1) := by decide +kernel
theorem dX4_fold_18 : decode cX4_fold 18 = .ok (.getfield 9, 3) := by decide +kernel
theorem dX4_fold_21 : decode cX4_fold 21 = .ok (.iload 5, 2) := by decide +kernel
theorem dX4_fold_23 : decode cX4_fold 23 = .ok (.iaload, 1) := by decide +kernel
theorem dX4_fold_24 : decode cX4_fold 24 = .ok (.i2l, 1) := by decide +kernel
theorem dX4_fold_25 : decode cX4_fold 25 = .ok (.ladd, 1) := by decide +kernel
theorem dX4_fold_26 : decode cX4_fold 26 = .ok (.lstore_n 3, 1) := by decide +kernel
theorem dX4_fold_27 : decode cX4_fold 27 = .ok (.iinc 5 1, 3) := by decide +kernel
theorem dX4_fold_30 : decode cX4_fold 30 = .ok (.goto (-25), 3) := by decide +kernel
theorem dX4_fold_33 : decode cX4_fold 33 = .ok (.iconst 0, 1) := by decide +kernel
theorem dX4_fold_34 : decode cX4_fold 34 = .ok (.istore 5, 2) := by decide +kernel
theorem dX4_fold_36 : decode cX4_fold 36 = .ok (.iload 5, 2) := by decide +kernel
theorem dX4_fold_38 : decode cX4_fold 38 = .ok (.bipush 7, 2) := by decide +kernel
theorem dX4_fold_40 : decode cX4_fold 40 = .ok (.if_icmp .ge 44, 3) := by decide +kernel
theorem dX4_fold_43 : decode cX4_fold 43 = .ok (.iload 5, 2) := by decide +kernel
theorem dX4_fold_45 : decode cX4_fold 45 = .ok (.iconst 1, 1) := by decide +kernel
theorem dX4_fold_46 : decode cX4_fold 46 = .ok (.iadd, 1) := by decide +kernel
theorem dX4_fold_47 : decode cX4_fold 47 = .ok (.istore 6, 2) := by decide +kernel
theorem dX4_fold_49 : decode cX4_fold 49 = .ok (.iload 6, 2) := by decide +kernel
theorem dX4_fold_51 : decode cX4_fold 51 = .ok (.bipush 8, 2) := by decide +kernel
theorem dX4_fold_53 : decode cX4_fold 53 = .ok (.if_icmp .ge 25, 3) := by decide +kernel
theorem dX4_fold_56 : decode cX4_fold 56 = .ok (.ldc2_w 143, 3) := by decide +kernel
theorem dX4_fold_59 : decode cX4_fold 59 = .ok (.lload_n 3, 1) := by decide +kernel
theorem dX4_fold_60 : decode cX4_fold 60 = .ok (.lmul, 1) := by decide +kernel
theorem dX4_fold_61 : decode cX4_fold 61 = .ok (.aload_n 0, 1) := by decide +kernel
theorem dX4_fold_62 : decode cX4_fold 62 = .ok (.iload 5, 2) := by decide +kernel
theorem dX4_fold_64 : decode cX4_fold 64 = .ok (.iload 6, 2) := by decide +kernel
theorem dX4_fold_66 : decode cX4_fold 66 = .ok (.invokevirtual 96, 3) := by decide +kernel
theorem dX4_fold_69 : decode cX4_fold 69 = .ok (.i2l, 1) := by decide +kernel
theorem dX4_fold_70 : decode cX4_fold 70 = .ok (.ladd, 1) := by decide +kernel
theorem dX4_fold_71 : decode cX4_fold 71 = .ok (.lstore_n 3, 1) := by decide +kernel
theorem dX4_fold_72 : decode cX4_fold 72 = .ok (.iinc 6 1, 3) := by decide +kernel
theorem dX4_fold_75 : decode cX4_fold 75 = .ok (.goto (-26), 3) := by decide +kernel
theorem dX4_fold_78 : decode cX4_fold 78 = .ok (.iinc 5 1, 3) := by decide +kernel
theorem dX4_fold_81 : decode cX4_fold 81 = .ok (.goto (-45), 3) := by decide +kernel
theorem dX4_fold_84 : decode cX4_fold 84 = .ok (.iconst 0, 1) := by decide +kernel
theorem dX4_fold_85 : decode cX4_fold 85 = .ok (.istore 5, 2) := by decide +kernel
theorem dX4_fold_87 : decode cX4_fold 87 = .ok (.iload 5, 2) := by decide +kernel
theorem dX4_fold_89 : decode cX4_fold 89 = .ok (.aload_n 0, 1) := by decide +kernel
theorem dX4_fold_90 : decode cX4_fold 90 = .ok (.getfield 54, 3) := by decide +kernel
theorem dX4_fold_93 : decode cX4_fold 93 = .ok (.if_icmp .ge 45, 3) := by decide +kernel
theorem dX4_fold_96 : decode cX4_fold 96 = .ok (.ldc2_w 143, 3) := by decide +kernel
theorem dX4_fold_99 : decode cX4_fold 99 = .ok (.lload_n 3, 1) := by decide +kernel
theorem dX4_fold_100 : decode cX4_fold 100 = .ok (.lmul, 1) := by decide +kernel
theorem dX4_fold_101 : decode cX4_fold 101 = .ok (.aload_n 0, 1) := by decide +kernel
theorem dX4_fold_102 : decode cX4_fold 102 = .ok (.getfield 20, 3) := by decide +kernel
theorem dX4_fold_105 : decode cX4_fold 105 = .ok (.iload 5, 2) := by decide +kernel
theorem dX4_fold_107 : decode cX4_fold 107 = .ok (.aaload, 1) := by decide +kernel
theorem dX4_fold_108 : decode cX4_fold 108 = .ok (.getfield 84, 3) := by decide +kernel
theorem dX4_fold_111 : decode cX4_fold 111 = .ok (.i2l, 1) := by decide +kernel
theorem dX4_fold_112 : decode cX4_fold 112 = .ok (.ladd, 1) := by decide +kernel
theorem dX4_fold_113 : decode cX4_fold 113 = .ok (.lstore_n 3, 1) := by decide +kernel
theorem dX4_fold_114 : decode cX4_fold 114 = .ok (.ldc2_w 143, 3) := by decide +kernel
theorem dX4_fold_117 : decode cX4_fold 117 = .ok (.lload_n 3, 1) := by decide +kernel
theorem dX4_fold_118 : decode cX4_fold 118 = .ok (.lmul, 1) := by decide +kernel
theorem dX4_fold_119 : decode cX4_fold 119 = .ok (.aload_n 0, 1) := by decide +kernel
theorem dX4_fold_120 : decode cX4_fold 120 = .ok (.getfield 20, 3) := by decide +kernel
theorem dX4_fold_123 : decode cX4_fold 123 = .ok (.iload 5, 2) := by decide +kernel
theorem dX4_fold_125 : decode cX4_fold 125 = .ok (.aaload, 1) := by decide +kernel
theorem dX4_fold_126 : decode cX4_fold 126 = .ok (.getfield 87, 3) := by decide +kernel
theorem dX4_fold_129 : decode cX4_fold 129 = .ok (.i2l, 1) := by decide +kernel
theorem dX4_fold_130 : decode cX4_fold 130 = .ok (.ladd, 1) := by decide +kernel
theorem dX4_fold_131 : decode cX4_fold 131 = .ok (.lstore_n 3, 1) := by decide +kernel
theorem dX4_fold_132 : decode cX4_fold 132 = .ok (.iinc 5 1, 3) := by decide +kernel
theorem dX4_fold_135 : decode cX4_fold 135 = .ok (.goto (-48), 3) := by decide +kernel
theorem dX4_fold_138 : decode cX4_fold 138 = .ok (.iconst 0, 1) := by decide +kernel
theorem dX4_fold_139 : decode cX4_fold 139 = .ok (.istore 5, 2) := by decide +kernel
theorem dX4_fold_141 : decode cX4_fold 141 = .ok (.iload 5, 2) := by decide +kernel
theorem dX4_fold_143 : decode cX4_fold 143 = .ok (.aload_n 0, 1) := by decide +kernel
theorem dX4_fold_144 : decode cX4_fold 144 = .ok (.getfield 58, 3) := by decide +kernel
theorem dX4_fold_147 : decode cX4_fold 147 = .ok (.if_icmp .ge 44, 3) := by decide +kernel
theorem dX4_fold_150 : decode cX4_fold 150 = .ok (.iconst 0, 1) := by decide +kernel
theorem dX4_fold_151 : decode cX4_fold 151 = .ok (.istore 6, 2) := by decide +kernel
theorem dX4_fold_153 : decode cX4_fold 153 = .ok (.iload 6, 2) := by decide +kernel
theorem dX4_fold_155 : decode cX4_fold 155 = .ok (.iconst 5, 1) := by decide +kernel
theorem dX4_fold_156 : decode cX4_fold 156 = .ok (.if_icmp .gt 29, 3) := by decide +kernel
theorem dX4_fold_159 : decode cX4_fold 159 = .ok (.ldc2_w 143, 3) := by decide +kernel
theorem dX4_fold_162 : decode cX4_fold 162 = .ok (.lload_n 3, 1) := by decide +kernel
theorem dX4_fold_163 : decode cX4_fold 163 = .ok (.lmul, 1) := by decide +kernel
theorem dX4_fold_164 : decode cX4_fold 164 = .ok (.aload_n 0, 1) := by decide +kernel
theorem dX4_fold_165 : decode cX4_fold 165 = .ok (.getfield 26, 3) := by decide +kernel
theorem dX4_fold_168 : decode cX4_fold 168 = .ok (.iload 5, 2) := by decide +kernel
theorem dX4_fold_170 : decode cX4_fold 170 = .ok (.aaload, 1) := by decide +kernel
theorem dX4_fold_171 : decode cX4_fold 171 = .ok (.iload 6, 2) := by decide +kernel
theorem dX4_fold_173 : decode cX4_fold 173 = .ok (.invokevirtual 136, 3) := by decide +kernel
theorem dX4_fold_176 : decode cX4_fold 176 = .ok (.i2l, 1) := by decide +kernel
theorem dX4_fold_177 : decode cX4_fold 177 = .ok (.ladd, 1) := by decide +kernel
theorem dX4_fold_178 : decode cX4_fold 178 = .ok (.lstore_n 3, 1) := by decide +kernel
theorem dX4_fold_179 : decode cX4_fold 179 = .ok (.iinc 6 1, 3) := by decide +kernel
theorem dX4_fold_182 : decode cX4_fold 182 = .ok (.goto (-29), 3) := by decide +kernel
theorem dX4_fold_185 : decode cX4_fold 185 = .ok (.iinc 5 1, 3) := by decide +kernel
theorem dX4_fold_188 : decode cX4_fold 188 = .ok (.goto (-47), 3) := by decide +kernel
theorem dX4_fold_191 : decode cX4_fold 191 = .ok (.lload_n 3, 1) := by decide +kernel
theorem dX4_fold_192 : decode cX4_fold 192 = .ok (.lreturn, 1) := by decide +kernel
theorem dX5_init_0 : decode cX5_init 0 = .ok (.aload_n 0, 1) := by decide +kernel
theorem dX5_init_1 : decode cX5_init 1 = .ok (.invokespecial 5, 3) := by decide +kernel
theorem dX5_init_4 : decode cX5_init 4 = .ok (.aload_n 0, 1) := by decide +kernel
theorem dX5_init_5 : decode cX5_init 5 = .ok (.sipush 128, 3) := by decide +kernel
theorem dX5_init_8 : decode cX5_init 8 = .ok (.newarray .int, 2) := by decide +kernel
theorem dX5_init_10 : decode cX5_init 10 = .ok (.putfield 11, 3) := by decide +kernel
theorem dX5_init_13 : decode cX5_init 13 = .ok (.return_, 1) := by decide +kernel
theorem dX5_keep_0 : decode cX5_keep 0 = .ok (.aload_n 0, 1) := by decide +kernel
theorem dX5_keep_1 : decode cX5_keep 1 = .ok (.getfield 15, 3) := by decide +kernel
theorem dX5_keep_4 : decode cX5_keep 4 = .ok (.bipush 8, 2) := by decide +kernel
theorem dX5_keep_6 : decode cX5_keep 6 = .ok (.if_icmp .lt 31, 3) := by decide +kernel
theorem dX5_keep_9 : decode cX5_keep 9 = .ok (.aload_n 0, 1) := by decide +kernel
theorem dX5_keep_10 : decode cX5_keep 10 = .ok (.getfield 11, 3) := by decide +kernel
theorem dX5_keep_13 : decode cX5_keep 13 = .ok (.bipush 16, 2) := by decide +kernel
theorem dX5_keep_15 : decode cX5_keep 15 = .ok (.aload_n 0, 1) := by decide +kernel
theorem dX5_keep_16 : decode cX5_keep 16 = .ok (.getfield 11, 3) := by decide +kernel
theorem dX5_keep_19 : decode cX5_keep 19 = .ok (.iconst 0, 1) := by decide +kernel
theorem dX5_keep_20 : decode cX5_keep 20 = .ok (.aload_n 0, 1) := by decide +kernel
theorem dX5_keep_21 : decode cX5_keep 21 = .ok (.getfield 11, 3) := by decide +kernel
theorem dX5_keep_24 : decode cX5_keep 24 = .ok (.arraylength, 1) := by decide +kernel
theorem dX5_keep_25 : decode cX5_keep 25 = .ok (.bipush 16, 2) := by decide +kernel
theorem dX5_keep_27 : decode cX5_keep 27 = .ok (.isub, 1) := by decide +kernel
theorem dX5_keep_28 : decode cX5_keep 28 = .ok (.invokestatic 19, 3) := by decide +kernel
theorem dX5_keep_31 : decode cX5_keep 31 = .ok (.aload_n 0, 1) := by decide +kernel
theorem dX5_keep_32 : decode cX5_keep 32 = .ok (.bipush 7, 2) := by decide +kernel
theorem dX5_keep_34 : decode cX5_keep 34 = .ok (.putfield 15, 3) := by decide +kernel
theorem dX5_keep_37 : decode cX5_keep 37 = .ok (.iconst 0, 1) := by decide +kernel
theorem dX5_keep_38 : decode cX5_keep 38 = .ok (.istore_n 2, 1) := by decide +kernel
theorem dX5_keep_39 : decode cX5_keep 39 = .ok (.iload_n 2, 1) := by decide +kernel
theorem dX5_keep_40 : decode cX5_keep 40 = .ok (.iconst 4, 1) := by decide +kernel
theorem dX5_keep_41 : decode cX5_keep 41 = .ok (.if_icmp .ge 79, 3) := by decide +kernel
theorem dX5_keep_44 : decode cX5_keep 44 = .ok (.aload_n 0, 1) := by decide +kernel
theorem dX5_keep_45 : decode cX5_keep 45 = .ok (.getfield 15, 3) := by decide +kernel
theorem dX5_keep_48 : decode cX5_keep 48 = .ok (.bipush 16, 2) := by decide +kernel
theorem dX5_keep_50 : decode cX5_keep 50 = .ok (.imul, 1) := by decide +kernel
theorem dX5_keep_51 : decode cX5_keep 51 = .ok (.iload_n 2, 1) := by decide +kernel
theorem dX5_keep_52 : decode cX5_keep 52 = .ok (.iconst 4, 1) := by decide +kernel
theorem dX5_keep_53 : decode cX5_keep 53 = .ok (.imul, 1) := by decide +kernel
theorem dX5_keep_54 : decode cX5_keep 54 = .ok (.iadd, 1) := by decide +kernel
theorem dX5_keep_55 : decode cX5_keep 55 = .ok (.istore_n 3, 1) := by decide +kernel
theorem dX5_keep_56 : decode cX5_keep 56 = .ok (.aload_n 1, 1) := by decide +kernel
theorem dX5_keep_57 : decode cX5_keep 57 = .ok (.getfield 25, 3) := by decide +kernel
theorem dX5_keep_60 : decode cX5_keep 60 = .ok (.iload_n 2, 1) := by decide +kernel
theorem dX5_keep_61 : decode cX5_keep 61 = .ok (.aaload, 1) := by decide +kernel
theorem dX5_keep_62 : decode cX5_keep 62 = .ok (.astore 4, 2) := by decide +kernel
theorem dX5_keep_64 : decode cX5_keep 64 = .ok (.aload_n 0, 1) := by decide +kernel
theorem dX5_keep_65 : decode cX5_keep 65 = .ok (.getfield 11, 3) := by decide +kernel
theorem dX5_keep_68 : decode cX5_keep 68 = .ok (.iload_n 3, 1) := by decide +kernel
theorem dX5_keep_69 : decode cX5_keep 69 = .ok (.aload 4, 2) := by decide +kernel
theorem dX5_keep_71 : decode cX5_keep 71 = .ok (.getfield 31, 3) := by decide +kernel
theorem dX5_keep_74 : decode cX5_keep 74 = .ok (.iastore, 1) := by decide +kernel
theorem dX5_keep_75 : decode cX5_keep 75 = .ok (.aload_n 0, 1) := by decide +kernel
theorem dX5_keep_76 : decode cX5_keep 76 = .ok (.getfield 11, 3) := by decide +kernel
theorem dX5_keep_79 : decode cX5_keep 79 = .ok (.iload_n 3, 1) := by decide +kernel
theorem dX5_keep_80 : decode cX5_keep 80 = .ok (.iconst 1, 1) := by decide +kernel
theorem dX5_keep_81 : decode cX5_keep 81 = .ok (.iadd, 1) := by decide +kernel
theorem dX5_keep_82 : decode cX5_keep 82 = .ok (.aload 4, 2) := by decide +kernel
theorem dX5_keep_84 : decode cX5_keep 84 = .ok (.getfield 36, 3) := by decide +kernel
theorem dX5_keep_87 : decode cX5_keep 87 = .ok (.iastore, 1) := by decide +kernel
theorem dX5_keep_88 : decode cX5_keep 88 = .ok (.aload_n 0, 1) := by decide +kernel
theorem dX5_keep_89 : decode cX5_keep 89 = .ok (.getfield 11, 3) := by decide +kernel
theorem dX5_keep_92 : decode cX5_keep 92 = .ok (.iload_n 3, 1) := by decide +kernel
theorem dX5_keep_93 : decode cX5_keep 93 = .ok (.iconst 2, 1) := by decide +kernel
theorem dX5_keep_94 : decode cX5_keep 94 = .ok (.iadd, 1) := by decide +kernel
theorem dX5_keep_95 : decode cX5_keep 95 = .ok (.aload 4, 2) := by decide +kernel
theorem dX5_keep_97 : decode cX5_keep 97 = .ok (.getfield 39, 3) := by decide +kernel
theorem dX5_keep_100 : decode cX5_keep 100 = .ok (.iastore, 1) := by decide +kernel
theorem dX5_keep_101 : decode cX5_keep 101 = .ok (.aload_n 0, 1) := by decide +kernel
theorem dX5_keep_102 : decode cX5_keep 102 = .ok (.getfield 11, 3) := by decide +kernel
theorem dX5_keep_105 : decode cX5_keep 105 = .ok (.iload_n 3, 1) := by decide +kernel
theorem dX5_keep_106 : decode cX5_keep 106 = .ok (.iconst 3, 1) := by decide +kernel
theorem dX5_keep_107 : decode cX5_keep 107 = .ok (.iadd, 1) := by decide +kernel
theorem dX5_keep_108 : decode cX5_keep 108 = .ok (.aload 4, 2) := by decide +kernel
theorem dX5_keep_110 : decode cX5_keep 110 = .ok (.getfield 42, 3) := by decide +kernel
theorem dX5_keep_113 : decode cX5_keep 113 = .ok (.iastore, 1) := by decide +kernel
theorem dX5_keep_114 : decode cX5_keep 114 = .ok (.iinc 2 1, 3) := by decide +kernel
theorem dX5_keep_117 : decode cX5_keep 117 = .ok (.goto (-78), 3) := by decide +kernel
theorem dX5_keep_120 : decode cX5_keep 120 = .ok (.aload_n 0, 1) := by decide +kernel
theorem dX5_keep_121 : decode cX5_keep 121 = .ok (.dup, 1) := by decide +kernel
theorem dX5_keep_122 : decode cX5_keep 122 = .ok (.getfield 15, 3) := by decide +kernel
theorem dX5_keep_125 : decode cX5_keep 125 = .ok (.iconst 1, 1) := by decide +kernel
theorem dX5_keep_126 : decode cX5_keep 126 = .ok (.iadd, 1) := by decide +kernel
theorem dX5_keep_127 : decode cX5_keep 127 = .ok (.putfield 15, 3) := by decide +kernel
theorem dX5_keep_130 : decode cX5_keep 130 = .ok (.return_, 1) := by decide +kernel
theorem dX5_giveBack_0 : decode cX5_giveBack 0 = .ok (.aload_n 0, 1) := by decide +kernel
theorem dX5_giveBack_1 : decode cX5_giveBack 1 = .ok (.getfield 15, 3) := by decide +kernel
theorem dX5_giveBack_4 : decode cX5_giveBack 4 = .ok (.ifCond .gt 4, 3) := by decide +kernel
theorem dX5_giveBack_7 : decode cX5_giveBack 7 = .ok (.return_, 1) := by decide +kernel
theorem dX5_giveBack_8 : decode cX5_giveBack 8 = .ok (.aload_n 0, 1) := by decide +kernel
theorem dX5_giveBack_9 : decode cX5_giveBack 9 = .ok (.dup, 1) := by decide +kernel
theorem dX5_giveBack_10 : decode cX5_giveBack 10 = .ok (.getfield 15, 3) := by decide +kernel
theorem dX5_giveBack_13 : decode cX5_giveBack 13 = .ok (.iconst 1, 1) := by decide +kernel
theorem dX5_giveBack_14 : decode cX5_giveBack 14 = .ok (.isub, 1) := by decide +kernel
theorem dX5_giveBack_15 : decode cX5_giveBack 15 = .ok (.putfield 15, 3) := by decide +kernel
theorem dX5_giveBack_18 : decode cX5_giveBack 18 = .ok (.iconst 0, 1) := by decide +kernel
theorem dX5_giveBack_19 : decode cX5_giveBack 19 = .ok (.istore_n 2, 1) := by decide +kernel
theorem dX5_giveBack_20 : decode cX5_giveBack 20 = .ok (.iload_n 2, 1) := by decide +kernel
theorem dX5_giveBack_21 : decode cX5_giveBack 21 = .ok (.iconst 4, 1) := by decide +kernel
theorem dX5_giveBack_22 : decode cX5_giveBack 22 = .ok (.if_icmp .ge 79, 3) := by decide +kernel
theorem dX5_giveBack_25 : decode cX5_giveBack 25 = .ok (.aload_n 0, 1) := by decide +kernel
theorem dX5_giveBack_26 : decode cX5_giveBack 26 = .ok (.getfield 15, 3) := by decide +kernel
theorem dX5_giveBack_29 : decode cX5_giveBack 29 = .ok (.bipush 16, 2) := by decide +kernel
theorem dX5_giveBack_31 : decode cX5_giveBack 31 = .ok (.imul, 1) := by decide +kernel
theorem dX5_giveBack_32 : decode cX5_giveBack 32 = .ok (.iload_n 2, 1) := by decide +kernel
theorem dX5_giveBack_33 : decode cX5_giveBack 33 = .ok (.iconst 4, 1) := by decide +kernel
theorem dX5_giveBack_34 : decode cX5_giveBack 34 = .ok (.imul, 1) := by decide +kernel
theorem dX5_giveBack_35 : decode cX5_giveBack 35 = .ok (.iadd, 1) := by decide +kernel
theorem dX5_giveBack_36 : decode cX5_giveBack 36 = .ok (.istore_n 3, 1) := by decide +kernel
theorem dX5_giveBack_37 : decode cX5_giveBack 37 = .ok (.aload_n 1, 1) := by decide +kernel
theorem dX5_giveBack_38 : decode cX5_giveBack 38 = .ok (.getfield 25, 3) := by decide +kernel
theorem dX5_giveBack_41 : decode cX5_giveBack 41 = .ok (.iload_n 2, 1) := by decide +kernel
theorem dX5_giveBack_42 : decode cX5_giveBack 42 = .ok (.aaload, 1) := by decide +kernel
theorem dX5_giveBack_43 : decode cX5_giveBack 43 = .ok (.astore 4, 2) := by decide +kernel
theorem dX5_giveBack_45 : decode cX5_giveBack 45 = .ok (.aload 4, 2) := by decide +kernel
theorem dX5_giveBack_47 : decode cX5_giveBack 47 = .ok (.aload_n 0, 1) := by decide +kernel
theorem dX5_giveBack_48 : decode cX5_giveBack 48 = .ok (.getfield 11, 3) := by decide +kernel
theorem dX5_giveBack_51 : decode cX5_giveBack 51 = .ok (.iload_n 3, 1) := by decide +kernel
theorem dX5_giveBack_52 : decode cX5_giveBack 52 = .ok (.iaload, 1) := by decide +kernel
theorem dX5_giveBack_53 : decode cX5_giveBack 53 = .ok (.putfield 31, 3) := by decide +kernel
theorem dX5_giveBack_56 : decode cX5_giveBack 56 = .ok (.aload 4, 2) := by decide +kernel
theorem dX5_giveBack_58 : decode cX5_giveBack 58 = .ok (.aload_n 0, 1) := by decide +kernel
theorem dX5_giveBack_59 : decode cX5_giveBack 59 = .ok (.getfield 11, 3) := by decide +kernel
theorem dX5_giveBack_62 : decode cX5_giveBack 62 = .ok (.iload_n 3, 1) := by decide +kernel
theorem dX5_giveBack_63 : decode cX5_giveBack 63 = .ok (.iconst 1, 1) := by decide +kernel
theorem dX5_giveBack_64 : decode cX5_giveBack 64 = .ok (.iadd, 1) := by decide +kernel
theorem dX5_giveBack_65 : decode cX5_giveBack 65 = .ok (.iaload, 1) := by decide +kernel
theorem dX5_giveBack_66 : decode cX5_giveBack 66 = .ok (.putfield 36, 3) := by decide +kernel
theorem dX5_giveBack_69 : decode cX5_giveBack 69 = .ok (.aload 4, 2) := by decide +kernel
theorem dX5_giveBack_71 : decode cX5_giveBack 71 = .ok (.aload_n 0, 1) := by decide +kernel
theorem dX5_giveBack_72 : decode cX5_giveBack 72 = .ok (.getfield 11, 3) := by decide +kernel
theorem dX5_giveBack_75 : decode cX5_giveBack 75 = .ok (.iload_n 3, 1) := by decide +kernel
theorem dX5_giveBack_76 : decode cX5_giveBack 76 = .ok (.iconst 2, 1) := by decide +kernel
theorem dX5_giveBack_77 : decode cX5_giveBack 77 = .ok (.iadd, 1) := by decide +kernel
theorem dX5_giveBack_78 : decode cX5_giveBack 78 = .ok (.iaload, 1) := by decide +kernel
theorem dX5_giveBack_79 : decode cX5_giveBack 79 = .ok (.putfield 39, 3) := by decide +kernel
theorem dX5_giveBack_82 : decode cX5_giveBack 82 = .ok (.aload 4, 2) := by decide +kernel
theorem dX5_giveBack_84 : decode cX5_giveBack 84 = .ok (.aload_n 0, 1) := by decide +kernel
theorem dX5_giveBack_85 : decode cX5_giveBack 85 = .ok (.getfield 11, 3) := by decide +kernel
theorem dX5_giveBack_88 : decode cX5_giveBack 88 = .ok (.iload_n 3, 1) := by decide +kernel
theorem dX5_giveBack_89 : decode cX5_giveBack 89 = .ok (.iconst 3, 1) := by decide +kernel
theorem dX5_giveBack_90 : decode cX5_giveBack 90 = .ok (.iadd, 1) := by decide +kernel
theorem dX5_giveBack_91 : decode cX5_giveBack 91 = .ok (.iaload, 1) := by decide +kernel
theorem dX5_giveBack_92 : decode cX5_giveBack 92 = .ok (.putfield 42, 3) := by decide +kernel
theorem dX5_giveBack_95 : decode cX5_giveBack 95 = .ok (.iinc 2 1, 3) := by decide +kernel
theorem dX5_giveBack_98 : decode cX5_giveBack 98 = .ok (.goto (-78), 3) := by decide +kernel
theorem dX5_giveBack_101 : decode cX5_giveBack 101 = .ok (.return_, 1) := by decide +kernel
theorem dX5_take_0 : decode cX5_take 0 = .ok (.aload_n 1, 1) := by decide +kernel
theorem dX5_take_1 : decode cX5_take 1 = .ok (.getfield 11, 3) := by decide +kernel
theorem dX5_take_4 : decode cX5_take 4 = .ok (.iconst 0, 1) := by decide +kernel
theorem dX5_take_5 : decode cX5_take 5 = .ok (.aload_n 0, 1) := by decide +kernel
theorem dX5_take_6 : decode cX5_take 6 = .ok (.getfield 11, 3) := by decide +kernel
theorem dX5_take_9 : decode cX5_take 9 = .ok (.iconst 0, 1) := by decide +kernel
theorem dX5_take_10 : decode cX5_take 10 = .ok (.aload_n 0, 1) := by decide +kernel
theorem dX5_take_11 : decode cX5_take 11 = .ok (.getfield 11, 3) := by decide +kernel
theorem dX5_take_14 : decode cX5_take 14 = .ok (.arraylength, 1) := by decide +kernel
theorem dX5_take_15 : decode cX5_take 15 = .ok (.invokestatic 19, 3) := by decide +kernel
theorem dX5_take_18 : decode cX5_take 18 = .ok (.aload_n 0, 1) := by decide +kernel
theorem dX5_take_19 : decode cX5_take 19 = .ok (.aload_n 1, 1) := by decide +kernel
theorem dX5_take_20 : decode cX5_take 20 = .ok (.getfield 15, 3) := by decide +kernel
theorem dX5_take_23 : decode cX5_take 23 = .ok (.putfield 15, 3) := by decide +kernel
theorem dX5_take_26 : decode cX5_take 26 = .ok (.return_, 1) := by decide +kernel
theorem dX6_init_0 : decode cX6_init 0 = .ok (.aload_n 0, 1) := by decide +kernel
theorem dX6_init_1 : decode cX6_init 1 = .ok (.invokespecial 3, 3) := by decide +kernel
theorem dX6_init_4 : decode cX6_init 4 = .ok (.aload_n 0, 1) := by decide +kernel
theorem dX6_init_5 : decode cX6_init 5 = .ok (.sipush 150, 3) := by decide +kernel
theorem dX6_init_8 : decode cX6_init 8 = .ok (.newarray .int, 2) := by decide +kernel
theorem dX6_init_10 : decode cX6_init 10 = .ok (.putfield 9, 3) := by decide +kernel
theorem dX6_init_13 : decode cX6_init 13 = .ok (.aload_n 0, 1) := by decide +kernel
theorem dX6_init_14 : decode cX6_init 14 = .ok (.iconst 3, 1) := by decide +kernel
theorem dX6_init_15 : decode cX6_init 15 = .ok (.newarray .int, 2) := by decide +kernel
theorem dX6_init_17 : decode cX6_init 17 = .ok (.putfield 15, 3) := by decide +kernel
theorem dX6_init_20 : decode cX6_init 20 = .ok (.return_, 1) := by decide +kernel
theorem dX6_build_0 : decode cX6_build 0 = .ok (.aload_n 0, 1) := by decide +kernel
theorem dX6_build_1 : decode cX6_build 1 = .ok (.iload_n 3, 1) := by decide +kernel
theorem dX6_build_2 : decode cX6_build 2 = .ok (.sipush 150, 3) := by decide +kernel
theorem dX6_build_5 : decode cX6_build 5 = .ok (.invokestatic 18, 3) := by decide +kernel
theorem dX6_build_8 : decode cX6_build 8 = .ok (.putfield 24, 3) := by decide +kernel
theorem dX6_build_11 : decode cX6_build 11 = .ok (.iconst 0, 1) := by decide +kernel
theorem dX6_build_12 : decode cX6_build 12 = .ok (.istore 4, 2) := by decide +kernel
theorem dX6_build_14 : decode cX6_build 14 = .ok (.iload 4, 2) := by decide +kernel
theorem dX6_build_16 : decode cX6_build 16 = .ok (.aload_n 0, 1) := by decide +kernel
theorem dX6_build_17 : decode cX6_build 17 = .ok (.getfield 24, 3) := by decide +kernel
theorem dX6_build_20 : decode cX6_build 20 = .ok (.if_icmp .ge 20, 3) := by decide +kernel
theorem dX6_build_23 : decode cX6_build 23 = .ok (.aload_n 0, 1) := by decide +kernel
theorem dX6_build_24 : decode cX6_build 24 = .ok (.getfield 9, 3) := by decide +kernel
theorem dX6_build_27 : decode cX6_build 27 = .ok (.iload 4, 2) := by decide +kernel
theorem dX6_build_29 : decode cX6_build 29 = .ok (.aload_n 2, 1) := by decide +kernel
theorem dX6_build_30 : decode cX6_build 30 = .ok (.iload 4, 2) := by decide +kernel
theorem dX6_build_32 : decode cX6_build 32 = .ok (.baload, 1) := by decide +kernel
theorem dX6_build_33 : decode cX6_build 33 = .ok (.iastore, 1) := by decide +kernel
theorem dX6_build_34 : decode cX6_build 34 = .ok (.iinc 4 1, 3) := by decide +kernel
theorem dX6_build_37 : decode cX6_build 37 = .ok (.goto (-23), 3) := by decide +kernel
theorem dX6_build_40 : decode cX6_build 40 = .ok (.aload_n 0, 1) := by decide +kernel
theorem dX6_build_41 : decode cX6_build 41 = .ok (.iconst 0, 1) := by decide +kernel
theorem dX6_build_42 : decode cX6_build 42 = .ok (.putfield 28, 3) := by decide +kernel
theorem dX6_build_45 : decode cX6_build 45 = .ok (.aload_n 0, 1) := by decide +kernel
theorem dX6_build_46 : decode cX6_build 46 = .ok (.invokevirtual 31, 3) := by decide +kernel
theorem dX6_build_49 : decode cX6_build 49 = .ok (.iconst 0, 1) := by decide +kernel
theorem dX6_build_50 : decode cX6_build 50 = .ok (.istore 4, 2) := by decide +kernel
theorem dX6_build_52 : decode cX6_build 52 = .ok (.iload 4, 2) := by decide +kernel
theorem dX6_build_54 : decode cX6_build 54 = .ok (.sipush 150, 3) := by decide +kernel
theorem dX6_build_57 : decode cX6_build 57 = .ok (.if_icmp .ge 41, 3) := by decide +kernel
theorem dX6_build_60 : decode cX6_build 60 = .ok (.aload_n 0, 1) := by decide +kernel
theorem dX6_build_61 : decode cX6_build 61 = .ok (.getfield 34, 3) := by decide +kernel
theorem dX6_build_64 : decode cX6_build 64 = .ok (.ifCond .ne 8, 3) := by decide +kernel
theorem dX6_build_67 : decode cX6_build 67 = .ok (.iload 4, 2) := by decide +kernel
theorem dX6_build_69 : decode cX6_build 69 = .ok (.ifCond .ne 29, 3) := by decide +kernel
theorem dX6_build_72 : decode cX6_build 72 = .ok (.aload_n 0, 1) := by decide +kernel
theorem dX6_build_73 : decode cX6_build 73 = .ok (.aload_n 1, 1) := by decide +kernel
theorem dX6_build_74 : decode cX6_build 74 = .ok (.iload 4, 2) := by decide +kernel
theorem dX6_build_76 : decode cX6_build 76 = .ok (.ifCond .ne 7, 3) := by decide +kernel
theorem dX6_build_79 : decode cX6_build 79 = .ok (.iconst 1, 1) := by decide +kernel
theorem dX6_build_80 : decode cX6_build 80 = .ok (.goto 4, 3) := by decide +kernel
theorem dX6_build_83 : decode cX6_build 83 = .ok (.iconst 0, 1) := by decide +kernel
theorem dX6_build_84 : decode cX6_build 84 = .ok (.invokevirtual 37, 3) := by decide +kernel
theorem dX6_build_87 : decode cX6_build 87 = .ok (.ifCond .ne 5, 3) := by decide +kernel
theorem dX6_build_90 : decode cX6_build 90 = .ok (.iconst (-1), 1) := by decide +kernel
theorem dX6_build_91 : decode cX6_build 91 = .ok (.ireturn, 1) := by decide +kernel
theorem dX6_build_92 : decode cX6_build 92 = .ok (.iinc 4 1, 3) := by decide +kernel
theorem dX6_build_95 : decode cX6_build 95 = .ok (.goto (-43), 3) := by decide +kernel
theorem dX6_build_98 : decode cX6_build 98 = .ok (.iload 4, 2) := by decide +kernel
theorem dX6_build_100 : decode cX6_build 100 = .ok (.ireturn, 1) := by decide +kernel
theorem dX6_readItem_0 : decode cX6_readItem 0 = .ok (.aload_n 0, 1) := by decide +kernel
theorem dX6_readItem_1 : decode cX6_readItem 1 = .ok (.invokevirtual 41, 3) := by decide +kernel
theorem dX6_readItem_4 : decode cX6_readItem 4 = .ok (.istore_n 3, 1) := by decide +kernel
theorem dX6_readItem_5 : decode cX6_readItem 5 = .ok (.iload_n 3, 1) := by decide +kernel
theorem dX6_readItem_6 : decode cX6_readItem 6 = .ok (.iconst (-1), 1) := by decide +kernel
theorem dX6_readItem_7 : decode cX6_readItem 7 = .ok (.if_icmp .eq 24, 3) := by decide +kernel
theorem dX6_readItem_10 : decode cX6_readItem 10 = .ok (.iload_n 2, 1) := by decide +kernel
theorem dX6_readItem_11 : decode cX6_readItem 11 = .ok (.iload_n 3, 1) := by decide +kernel
theorem dX6_readItem_12 : decode cX6_readItem 12 = .ok (.ifCond .ne 7, 3) := by decide +kernel
theorem dX6_readItem_15 : decode cX6_readItem 15 = .ok (.iconst 1, 1) := by decide +kernel
theorem dX6_readItem_16 : decode cX6_readItem 16 = .ok (.goto 4, 3) := by decide +kernel
theorem dX6_readItem_19 : decode cX6_readItem 19 = .ok (.iconst 0, 1) := by decide +kernel
theorem dX6_readItem_20 : decode cX6_readItem 20 = .ok (.if_icmp .ne 11, 3) := by decide +kernel
theorem dX6_readItem_23 : decode cX6_readItem 23 = .ok (.aload_n 1, 1) := by decide +kernel
theorem dX6_readItem_24 : decode cX6_readItem 24 = .ok (.iload_n 3, 1) := by decide +kernel
theorem dX6_readItem_25 : decode cX6_readItem 25 = .ok (.invokestatic 45, 3) := by decide +kernel
theorem dX6_readItem_28 : decode cX6_readItem 28 = .ok (.ifCond .eq 5, 3) := by decide +kernel
theorem dX6_readItem_31 : decode cX6_readItem 31 = .ok (.iconst 0, 1) := by decide +kernel
theorem dX6_readItem_32 : decode cX6_readItem 32 = .ok (.ireturn, 1) := by decide +kernel
theorem dX6_readItem_33 : decode cX6_readItem 33 = .ok (.aload_n 0, 1) := by decide +kernel
theorem dX6_readItem_34 : decode cX6_readItem 34 = .ok (.invokevirtual 31, 3) := by decide +kernel
theorem dX6_readItem_37 : decode cX6_readItem 37 = .ok (.iconst 0, 1) := by decide +kernel
theorem dX6_readItem_38 : decode cX6_readItem 38 = .ok (.istore 4, 2) := by decide +kernel
theorem dX6_readItem_40 : decode cX6_readItem 40 = .ok (.iload 4, 2) := by decide +kernel
theorem dX6_readItem_42 : decode cX6_readItem 42 = .ok (.getstatic 49, 3) := by decide +kernel
theorem dX6_readItem_45 : decode cX6_readItem 45 = .ok (.iload_n 3, 1) := by decide +kernel
theorem dX6_readItem_46 : decode cX6_readItem 46 = .ok (.iaload, 1) := by decide +kernel
theorem dX6_readItem_47 : decode cX6_readItem 47 = .ok (.if_icmp .ge 45, 3) := by decide +kernel
theorem dX6_readItem_50 : decode cX6_readItem 50 = .ok (.aload_n 0, 1) := by decide +kernel
theorem dX6_readItem_51 : decode cX6_readItem 51 = .ok (.getfield 34, 3) := by decide +kernel
theorem dX6_readItem_54 : decode cX6_readItem 54 = .ok (.iconst 2, 1) := by decide +kernel
theorem dX6_readItem_55 : decode cX6_readItem 55 = .ok (.if_icmp .ne 14, 3) := by decide +kernel
theorem dX6_readItem_58 : decode cX6_readItem 58 = .ok (.aload_n 0, 1) := by decide +kernel
theorem dX6_readItem_59 : decode cX6_readItem 59 = .ok (.aload_n 1, 1) := by decide +kernel
theorem dX6_readItem_60 : decode cX6_readItem 60 = .ok (.iload_n 3, 1) := by decide +kernel
theorem dX6_readItem_61 : decode cX6_readItem 61 = .ok (.iload 4, 2) := by decide +kernel
theorem dX6_readItem_63 : decode cX6_readItem 63 = .ok (.invokevirtual 52, 3) := by decide +kernel
theorem dX6_readItem_66 : decode cX6_readItem 66 = .ok (.ifCond .ne 5, 3) := by decide +kernel
theorem dX6_readItem_69 : decode cX6_readItem 69 = .ok (.iconst 0, 1) := by decide +kernel
theorem dX6_readItem_70 : decode cX6_readItem 70 = .ok (.ireturn, 1) := by decide +kernel
theorem dX6_readItem_71 : decode cX6_readItem 71 = .ok (.aload_n 0, 1) := by decide +kernel
theorem dX6_readItem_72 : decode cX6_readItem 72 = .ok (.getfield 15, 3) := by decide +kernel
theorem dX6_readItem_75 : decode cX6_readItem 75 = .ok (.iload 4, 2) := by decide +kernel
theorem dX6_readItem_77 : decode cX6_readItem 77 = .ok (.aload_n 0, 1) := by decide +kernel
theorem dX6_readItem_78 : decode cX6_readItem 78 = .ok (.getfield 56, 3) := by decide +kernel
theorem dX6_readItem_81 : decode cX6_readItem 81 = .ok (.iastore, 1) := by decide +kernel
theorem dX6_readItem_82 : decode cX6_readItem 82 = .ok (.aload_n 0, 1) := by decide +kernel
theorem dX6_readItem_83 : decode cX6_readItem 83 = .ok (.invokevirtual 31, 3) := by decide +kernel
theorem dX6_readItem_86 : decode cX6_readItem 86 = .ok (.iinc 4 1, 3) := by decide +kernel
theorem dX6_readItem_89 : decode cX6_readItem 89 = .ok (.goto (-49), 3) := by decide +kernel
theorem dX6_readItem_92 : decode cX6_readItem 92 = .ok (.aload_n 0, 1) := by decide +kernel
theorem dX6_readItem_93 : decode cX6_readItem 93 = .ok (.getfield 34, 3) := by decide +kernel
theorem dX6_readItem_96 : decode cX6_readItem 96 = .ok (.iconst 3, 1) := by decide +kernel
theorem dX6_readItem_97 : decode cX6_readItem 97 = .ok (.if_icmp .eq 5, 3) := by decide +kernel
theorem dX6_readItem_100 : decode cX6_readItem 100 = .ok (.iconst 0, 1) := by decide +kernel
theorem dX6_readItem_101 : decode cX6_readItem 101 = .ok (.ireturn, 1) := by decide +kernel
theorem dX6_readItem_102 : decode cX6_readItem 102 = .ok (.aload_n 0, 1) := by decide +kernel
theorem dX6_readItem_103 : decode cX6_readItem 103 = .ok (.invokevirtual 31, 3) := by decide +kernel
theorem dX6_readItem_106 : decode cX6_readItem 106 = .ok (.aload_n 0, 1) := by decide +kernel
theorem dX6_readItem_107 : decode cX6_readItem 107 = .ok (.aload_n 1, 1) := by decide +kernel
theorem dX6_readItem_108 : decode cX6_readItem 108 = .ok (.iload_n 3, 1) := by decide +kernel
theorem dX6_readItem_109 : decode cX6_readItem 109 = .ok (.invokevirtual 59, 3) := by decide +kernel
theorem dX6_readItem_112 : decode cX6_readItem 112 = .ok (.iconst 1, 1) := by decide +kernel
theorem dX6_readItem_113 : decode cX6_readItem 113 = .ok (.ireturn, 1) := by decide +kernel
theorem dX6_isOneTooMany_0 : decode cX6_isOneTooMany 0 = .ok (.iload_n 1, 1) := by decide +kernel
theorem dX6_isOneTooMany_1 : decode cX6_isOneTooMany 1 = .ok (.iconst 3, 1) := by decide +kernel
theorem dX6_isOneTooMany_2 : decode cX6_isOneTooMany 2 = .ok (.if_icmp .ne 11, 3) := by decide +kernel
theorem dX6_isOneTooMany_5 : decode cX6_isOneTooMany 5 = .ok (.aload_n 0, 1) := by decide +kernel
theorem dX6_isOneTooMany_6 : decode cX6_isOneTooMany 6 = .ok (.getfield 63, 3) := by decide +kernel
theorem dX6_isOneTooMany_9 : decode cX6_isOneTooMany 9 = .ok (.iconst 3, 1) := by decide +kernel
theorem dX6_isOneTooMany_10 : decode cX6_isOneTooMany 10 = .ok (.if_icmp .ge 16, 3) := by decide +kernel
theorem dX6_isOneTooMany_13 : decode cX6_isOneTooMany 13 = .ok (.iload_n 1, 1) := by decide +kernel
theorem dX6_isOneTooMany_14 : decode cX6_isOneTooMany 14 = .ok (.iconst 4, 1) := by decide +kernel
theorem dX6_isOneTooMany_15 : decode cX6_isOneTooMany 15 = .ok (.if_icmp .ne 15, 3) := by decide +kernel
theorem dX6_isOneTooMany_18 : decode cX6_isOneTooMany 18 = .ok (.aload_n 0, 1) := by decide +kernel
theorem dX6_isOneTooMany_19 : decode cX6_isOneTooMany 19 = .ok (.getfield 68, 3) := by decide +kernel
theorem dX6_isOneTooMany_22 : decode cX6_isOneTooMany 22 = .ok (.iconst 4, 1) := by decide +kernel
theorem dX6_isOneTooMany_23 : decode cX6_isOneTooMany 23 = .ok (.if_icmp .lt 7, 3) := by decide +kernel
theorem dX6_isOneTooMany_26 : decode cX6_isOneTooMany 26 = .ok (.iconst 1, 1) := by decide +kernel
theorem dX6_isOneTooMany_27 : decode cX6_isOneTooMany 27 = .ok (.goto 4, 3) := by decide +kernel
theorem dX6_isOneTooMany_30 : decode cX6_isOneTooMany 30 = .ok (.iconst 0, 1) := by decide +kernel
theorem dX6_isOneTooMany_31 : decode cX6_isOneTooMany 31 = .ok (.ireturn, 1) := by decide +kernel
theorem dX6_fits_0 : decode cX6_fits 0 = .ok (.iload_n 2, 1) := by decide +kernel
theorem dX6_fits_1 : decode cX6_fits 1 = .ok (.tableswitch 158 0 4 #[35, 50, 86, 92, 127], 35) := by decide +kernel
theorem dX6_fits_36 : decode cX6_fits 36 = .ok (.aload_n 0, 1) := by decide +kernel
theorem dX6_fits_37 : decode cX6_fits 37 = .ok (.getfield 56, 3) := by decide +kernel
theorem dX6_fits_40 : decode cX6_fits 40 = .ok (.bipush 9, 2) := by decide +kernel
theorem dX6_fits_42 : decode cX6_fits 42 = .ok (.if_icmp .gt 7, 3) := by decide +kernel
theorem dX6_fits_45 : decode cX6_fits 45 = .ok (.iconst 1, 1) := by decide +kernel
theorem dX6_fits_46 : decode cX6_fits 46 = .ok (.goto 4, 3) := by decide +kernel
theorem dX6_fits_49 : decode cX6_fits 49 = .ok (.iconst 0, 1) := by decide +kernel
theorem dX6_fits_50 : decode cX6_fits 50 = .ok (.ireturn, 1) := by decide +kernel
theorem dX6_fits_51 : decode cX6_fits 51 = .ok (.iload_n 3, 1) := by decide +kernel
theorem dX6_fits_52 : decode cX6_fits 52 = .ok (.ifCond .ne 20, 3) := by decide +kernel
theorem dX6_fits_55 : decode cX6_fits 55 = .ok (.aload_n 0, 1) := by decide +kernel
theorem dX6_fits_56 : decode cX6_fits 56 = .ok (.getfield 56, 3) := by decide +kernel
theorem dX6_fits_59 : decode cX6_fits 59 = .ok (.bipush 8, 2) := by decide +kernel
theorem dX6_fits_61 : decode cX6_fits 61 = .ok (.if_icmp .ge 7, 3) := by decide +kernel
theorem dX6_fits_64 : decode cX6_fits 64 = .ok (.iconst 1, 1) := by decide +kernel
theorem dX6_fits_65 : decode cX6_fits 65 = .ok (.goto 21, 3) := by decide +kernel
theorem dX6_fits_68 : decode cX6_fits 68 = .ok (.iconst 0, 1) := by decide +kernel
theorem dX6_fits_69 : decode cX6_fits 69 = .ok (.goto 17, 3) := by decide +kernel
theorem dX6_fits_72 : decode cX6_fits 72 = .ok (.aload_n 0, 1) := by decide +kernel
theorem dX6_fits_73 : decode cX6_fits 73 = .ok (.getfield 56, 3) := by decide +kernel
theorem dX6_fits_76 : decode cX6_fits 76 = .ok (.bipush 9, 2) := by decide +kernel
theorem dX6_fits_78 : decode cX6_fits 78 = .ok (.if_icmp .gt 7, 3) := by decide +kernel
theorem dX6_fits_81 : decode cX6_fits 81 = .ok (.iconst 1, 1) := by decide +kernel
theorem dX6_fits_82 : decode cX6_fits 82 = .ok (.goto 4, 3) := by decide +kernel
theorem dX6_fits_85 : decode cX6_fits 85 = .ok (.iconst 0, 1) := by decide +kernel
theorem dX6_fits_86 : decode cX6_fits 86 = .ok (.ireturn, 1) := by decide +kernel
theorem dX6_fits_87 : decode cX6_fits 87 = .ok (.aload_n 0, 1) := by decide +kernel
theorem dX6_fits_88 : decode cX6_fits 88 = .ok (.iload_n 3, 1) := by decide +kernel
theorem dX6_fits_89 : decode cX6_fits 89 = .ok (.invokevirtual 71, 3) := by decide +kernel
theorem dX6_fits_92 : decode cX6_fits 92 = .ok (.ireturn, 1) := by decide +kernel
theorem dX6_fits_93 : decode cX6_fits 93 = .ok (.iload_n 3, 1) := by decide +kernel
theorem dX6_fits_94 : decode cX6_fits 94 = .ok (.ifCond .ne 19, 3) := by decide +kernel
theorem dX6_fits_97 : decode cX6_fits 97 = .ok (.aload_n 0, 1) := by decide +kernel
theorem dX6_fits_98 : decode cX6_fits 98 = .ok (.getfield 56, 3) := by decide +kernel
theorem dX6_fits_101 : decode cX6_fits 101 = .ok (.iconst 5, 1) := by decide +kernel
theorem dX6_fits_102 : decode cX6_fits 102 = .ok (.if_icmp .gt 7, 3) := by decide +kernel
theorem dX6_fits_105 : decode cX6_fits 105 = .ok (.iconst 1, 1) := by decide +kernel
theorem dX6_fits_106 : decode cX6_fits 106 = .ok (.goto 21, 3) := by decide +kernel
theorem dX6_fits_109 : decode cX6_fits 109 = .ok (.iconst 0, 1) := by decide +kernel
theorem dX6_fits_110 : decode cX6_fits 110 = .ok (.goto 17, 3) := by decide +kernel
theorem dX6_fits_113 : decode cX6_fits 113 = .ok (.aload_n 0, 1) := by decide +kernel
theorem dX6_fits_114 : decode cX6_fits 114 = .ok (.getfield 56, 3) := by decide +kernel
theorem dX6_fits_117 : decode cX6_fits 117 = .ok (.bipush 9, 2) := by decide +kernel
theorem dX6_fits_119 : decode cX6_fits 119 = .ok (.if_icmp .gt 7, 3) := by decide +kernel
theorem dX6_fits_122 : decode cX6_fits 122 = .ok (.iconst 1, 1) := by decide +kernel
theorem dX6_fits_123 : decode cX6_fits 123 = .ok (.goto 4, 3) := by decide +kernel
theorem dX6_fits_126 : decode cX6_fits 126 = .ok (.iconst 0, 1) := by decide +kernel
theorem dX6_fits_127 : decode cX6_fits 127 = .ok (.ireturn, 1) := by decide +kernel
theorem dX6_fits_128 : decode cX6_fits 128 = .ok (.iload_n 3, 1) := by decide +kernel
theorem dX6_fits_129 : decode cX6_fits 129 = .ok (.ifCond .ne 19, 3) := by decide +kernel
theorem dX6_fits_132 : decode cX6_fits 132 = .ok (.aload_n 0, 1) := by decide +kernel
theorem dX6_fits_133 : decode cX6_fits 133 = .ok (.getfield 56, 3) := by decide +kernel
theorem dX6_fits_136 : decode cX6_fits 136 = .ok (.iconst 5, 1) := by decide +kernel
theorem dX6_fits_137 : decode cX6_fits 137 = .ok (.if_icmp .gt 7, 3) := by decide +kernel
theorem dX6_fits_140 : decode cX6_fits 140 = .ok (.iconst 1, 1) := by decide +kernel
theorem dX6_fits_141 : decode cX6_fits 141 = .ok (.goto 17, 3) := by decide +kernel
theorem dX6_fits_144 : decode cX6_fits 144 = .ok (.iconst 0, 1) := by decide +kernel
theorem dX6_fits_145 : decode cX6_fits 145 = .ok (.goto 13, 3) := by decide +kernel
theorem dX6_fits_148 : decode cX6_fits 148 = .ok (.aload_n 0, 1) := by decide +kernel
theorem dX6_fits_149 : decode cX6_fits 149 = .ok (.getfield 56, 3) := by decide +kernel
theorem dX6_fits_152 : decode cX6_fits 152 = .ok (.iconst 1, 1) := by decide +kernel
theorem dX6_fits_153 : decode cX6_fits 153 = .ok (.bipush 40, 2) := by decide +kernel
theorem dX6_fits_155 : decode cX6_fits 155 = .ok (.invokestatic 75, 3) := by decide +kernel
theorem dX6_fits_158 : decode cX6_fits 158 = .ok (.ireturn, 1) := by decide +kernel
theorem dX6_fits_159 : decode cX6_fits 159 = .ok (.aload_n 0, 1) := by decide +kernel
theorem dX6_fits_160 : decode cX6_fits 160 = .ok (.aload_n 1, 1) := by decide +kernel
theorem dX6_fits_161 : decode cX6_fits 161 = .ok (.iload_n 3, 1) := by decide +kernel
theorem dX6_fits_162 : decode cX6_fits 162 = .ok (.invokevirtual 79, 3) := by decide +kernel
theorem dX6_fits_165 : decode cX6_fits 165 = .ok (.ireturn, 1) := by decide +kernel
theorem dX6_fitsCanal_0 : decode cX6_fitsCanal 0 = .ok (.iload_n 1, 1) := by decide +kernel
theorem dX6_fitsCanal_1 : decode cX6_fitsCanal 1 = .ok (.iconst 2, 1) := by decide +kernel
theorem dX6_fitsCanal_2 : decode cX6_fitsCanal 2 = .ok (.if_icmp .ne 18, 3) := by decide +kernel
theorem dX6_fitsCanal_5 : decode cX6_fitsCanal 5 = .ok (.aload_n 0, 1) := by decide +kernel
theorem dX6_fitsCanal_6 : decode cX6_fitsCanal 6 = .ok (.getfield 56, 3) := by decide +kernel
theorem dX6_fitsCanal_9 : decode cX6_fitsCanal 9 = .ok (.bipush 9, 2) := by decide +kernel
theorem dX6_fitsCanal_11 : decode cX6_fitsCanal 11 = .ok (.if_icmp .gt 7, 3) := by decide +kernel
theorem dX6_fitsCanal_14 : decode cX6_fitsCanal 14 = .ok (.iconst 1, 1) := by decide +kernel
theorem dX6_fitsCanal_15 : decode cX6_fitsCanal 15 = .ok (.goto 4, 3) := by decide +kernel
theorem dX6_fitsCanal_18 : decode cX6_fitsCanal 18 = .ok (.iconst 0, 1) := by decide +kernel
theorem dX6_fitsCanal_19 : decode cX6_fitsCanal 19 = .ok (.ireturn, 1) := by decide +kernel
theorem dX6_fitsCanal_20 : decode cX6_fitsCanal 20 = .ok (.aload_n 0, 1) := by decide +kernel
theorem dX6_fitsCanal_21 : decode cX6_fitsCanal 21 = .ok (.getfield 56, 3) := by decide +kernel
theorem dX6_fitsCanal_24 : decode cX6_fitsCanal 24 = .ok (.bipush 8, 2) := by decide +kernel
theorem dX6_fitsCanal_26 : decode cX6_fitsCanal 26 = .ok (.if_icmp .ge 24, 3) := by decide +kernel
theorem dX6_fitsCanal_29 : decode cX6_fitsCanal 29 = .ok (.iload_n 1, 1) := by decide +kernel
theorem dX6_fitsCanal_30 : decode cX6_fitsCanal 30 = .ok (.ifCond .eq 16, 3) := by decide +kernel
theorem dX6_fitsCanal_33 : decode cX6_fitsCanal 33 = .ok (.aload_n 0, 1) := by decide +kernel
theorem dX6_fitsCanal_34 : decode cX6_fitsCanal 34 = .ok (.getfield 56, 3) := by decide +kernel
theorem dX6_fitsCanal_37 : decode cX6_fitsCanal 37 = .ok (.aload_n 0, 1) := by decide +kernel
theorem dX6_fitsCanal_38 : decode cX6_fitsCanal 38 = .ok (.getfield 15, 3) := by decide +kernel
theorem dX6_fitsCanal_41 : decode cX6_fitsCanal 41 = .ok (.iconst 0, 1) := by decide +kernel
theorem dX6_fitsCanal_42 : decode cX6_fitsCanal 42 = .ok (.iaload, 1) := by decide +kernel
theorem dX6_fitsCanal_43 : decode cX6_fitsCanal 43 = .ok (.if_icmp .eq 7, 3) := by decide +kernel
theorem dX6_fitsCanal_46 : decode cX6_fitsCanal 46 = .ok (.iconst 1, 1) := by decide +kernel
theorem dX6_fitsCanal_47 : decode cX6_fitsCanal 47 = .ok (.goto 4, 3) := by decide +kernel
theorem dX6_fitsCanal_50 : decode cX6_fitsCanal 50 = .ok (.iconst 0, 1) := by decide +kernel
theorem dX6_fitsCanal_51 : decode cX6_fitsCanal 51 = .ok (.ireturn, 1) := by decide +kernel
theorem dX6_fitsRow_0 : decode cX6_fitsRow 0 = .ok (.iload_n 2, 1) := by decide +kernel
theorem dX6_fitsRow_1 : decode cX6_fitsRow 1 = .ok (.lookupswitch 61 #[(0, 27), (1, 44)], 27) := by decide +kernel
theorem dX6_fitsRow_28 : decode cX6_fitsRow 28 = .ok (.aload_n 0, 1) := by decide +kernel
theorem dX6_fitsRow_29 : decode cX6_fitsRow 29 = .ok (.getfield 56, 3) := by decide +kernel
theorem dX6_fitsRow_32 : decode cX6_fitsRow 32 = .ok (.aload_n 1, 1) := by decide +kernel
theorem dX6_fitsRow_33 : decode cX6_fitsRow 33 = .ok (.getfield 68, 3) := by decide +kernel
theorem dX6_fitsRow_36 : decode cX6_fitsRow 36 = .ok (.if_icmp .ge 7, 3) := by decide +kernel
theorem dX6_fitsRow_39 : decode cX6_fitsRow 39 = .ok (.iconst 1, 1) := by decide +kernel
theorem dX6_fitsRow_40 : decode cX6_fitsRow 40 = .ok (.goto 4, 3) := by decide +kernel
theorem dX6_fitsRow_43 : decode cX6_fitsRow 43 = .ok (.iconst 0, 1) := by decide +kernel
theorem dX6_fitsRow_44 : decode cX6_fitsRow 44 = .ok (.ireturn, 1) := by decide +kernel
theorem dX6_fitsRow_45 : decode cX6_fitsRow 45 = .ok (.aload_n 0, 1) := by decide +kernel
theorem dX6_fitsRow_46 : decode cX6_fitsRow 46 = .ok (.getfield 56, 3) := by decide +kernel
theorem dX6_fitsRow_49 : decode cX6_fitsRow 49 = .ok (.aload_n 1, 1) := by decide +kernel
theorem dX6_fitsRow_50 : decode cX6_fitsRow 50 = .ok (.getfield 63, 3) := by decide +kernel
theorem dX6_fitsRow_53 : decode cX6_fitsRow 53 = .ok (.if_icmp .ge 7, 3) := by decide +kernel
theorem dX6_fitsRow_56 : decode cX6_fitsRow 56 = .ok (.iconst 1, 1) := by decide +kernel
theorem dX6_fitsRow_57 : decode cX6_fitsRow 57 = .ok (.goto 4, 3) := by decide +kernel
theorem dX6_fitsRow_60 : decode cX6_fitsRow 60 = .ok (.iconst 0, 1) := by decide +kernel
theorem dX6_fitsRow_61 : decode cX6_fitsRow 61 = .ok (.ireturn, 1) := by decide +kernel
theorem dX6_fitsRow_62 : decode cX6_fitsRow 62 = .ok (.aload_n 0, 1) := by decide +kernel
theorem dX6_fitsRow_63 : decode cX6_fitsRow 63 = .ok (.getfield 56, 3) := by decide +kernel
theorem dX6_fitsRow_66 : decode cX6_fitsRow 66 = .ok (.bipush 8, 2) := by decide +kernel
theorem dX6_fitsRow_68 : decode cX6_fitsRow 68 = .ok (.if_icmp .ge 29, 3) := by decide +kernel
theorem dX6_fitsRow_71 : decode cX6_fitsRow 71 = .ok (.aload_n 1, 1) := by decide +kernel
theorem dX6_fitsRow_72 : decode cX6_fitsRow 72 = .ok (.aload_n 1, 1) := by decide +kernel
theorem dX6_fitsRow_73 : decode cX6_fitsRow 73 = .ok (.getfield 82, 3) := by decide +kernel
theorem dX6_fitsRow_76 : decode cX6_fitsRow 76 = .ok (.aload_n 0, 1) := by decide +kernel
theorem dX6_fitsRow_77 : decode cX6_fitsRow 77 = .ok (.getfield 15, 3) := by decide +kernel
theorem dX6_fitsRow_80 : decode cX6_fitsRow 80 = .ok (.iconst 0, 1) := by decide +kernel
theorem dX6_fitsRow_81 : decode cX6_fitsRow 81 = .ok (.iaload, 1) := by decide +kernel
theorem dX6_fitsRow_82 : decode cX6_fitsRow 82 = .ok (.aaload, 1) := by decide +kernel
theorem dX6_fitsRow_83 : decode cX6_fitsRow 83 = .ok (.aload_n 0, 1) := by decide +kernel
theorem dX6_fitsRow_84 : decode cX6_fitsRow 84 = .ok (.getfield 56, 3) := by decide +kernel
theorem dX6_fitsRow_87 : decode cX6_fitsRow 87 = .ok (.invokevirtual 86, 3) := by decide +kernel
theorem dX6_fitsRow_90 : decode cX6_fitsRow 90 = .ok (.ifCond .eq 7, 3) := by decide +kernel
theorem dX6_fitsRow_93 : decode cX6_fitsRow 93 = .ok (.iconst 1, 1) := by decide +kernel
theorem dX6_fitsRow_94 : decode cX6_fitsRow 94 = .ok (.goto 4, 3) := by decide +kernel
theorem dX6_fitsRow_97 : decode cX6_fitsRow 97 = .ok (.iconst 0, 1) := by decide +kernel
theorem dX6_fitsRow_98 : decode cX6_fitsRow 98 = .ok (.ireturn, 1) := by decide +kernel
theorem dX6_apply_0 : decode cX6_apply 0 = .ok (.iload_n 2, 1) := by decide +kernel
theorem dX6_apply_1 : decode cX6_apply 1 = .ok (.tableswitch 131 0 4 #[35, 48, 68, 93, 112], 35) := by decide +kernel
theorem dX6_apply_36 : decode cX6_apply 36 = .ok (.aload_n 1, 1) := by decide +kernel
theorem dX6_apply_37 : decode cX6_apply 37 = .ok (.aload_n 0, 1) := by decide +kernel
theorem dX6_apply_38 : decode cX6_apply 38 = .ok (.getfield 15, 3) := by decide +kernel
theorem dX6_apply_41 : decode cX6_apply 41 = .ok (.iconst 0, 1) := by decide +kernel
theorem dX6_apply_42 : decode cX6_apply 42 = .ok (.iaload, 1) := by decide +kernel
theorem dX6_apply_43 : decode cX6_apply 43 = .ok (.invokevirtual 90, 3) := by decide +kernel
theorem dX6_apply_46 : decode cX6_apply 46 = .ok (.goto 118, 3) := by decide +kernel
theorem dX6_apply_49 : decode cX6_apply 49 = .ok (.aload_n 1, 1) := by decide +kernel
theorem dX6_apply_50 : decode cX6_apply 50 = .ok (.getfield 94, 3) := by decide +kernel
theorem dX6_apply_53 : decode cX6_apply 53 = .ok (.aload_n 0, 1) := by decide +kernel
theorem dX6_apply_54 : decode cX6_apply 54 = .ok (.getfield 15, 3) := by decide +kernel
theorem dX6_apply_57 : decode cX6_apply 57 = .ok (.iconst 0, 1) := by decide +kernel
theorem dX6_apply_58 : decode cX6_apply 58 = .ok (.iaload, 1) := by decide +kernel
theorem dX6_apply_59 : decode cX6_apply 59 = .ok (.aload_n 0, 1) := by decide +kernel
theorem dX6_apply_60 : decode cX6_apply 60 = .ok (.getfield 15, 3) := by decide +kernel
theorem dX6_apply_63 : decode cX6_apply 63 = .ok (.iconst 1, 1) := by decide +kernel
theorem dX6_apply_64 : decode cX6_apply 64 = .ok (.iaload, 1) := by decide +kernel
theorem dX6_apply_65 : decode cX6_apply 65 = .ok (.iastore, 1) := by decide +kernel
theorem dX6_apply_66 : decode cX6_apply 66 = .ok (.goto 98, 3) := by decide +kernel
theorem dX6_apply_69 : decode cX6_apply 69 = .ok (.aload_n 1, 1) := by decide +kernel
theorem dX6_apply_70 : decode cX6_apply 70 = .ok (.aload_n 0, 1) := by decide +kernel
theorem dX6_apply_71 : decode cX6_apply 71 = .ok (.getfield 15, 3) := by decide +kernel
theorem dX6_apply_74 : decode cX6_apply 74 = .ok (.iconst 0, 1) := by decide +kernel
theorem dX6_apply_75 : decode cX6_apply 75 = .ok (.iaload, 1) := by decide +kernel
theorem dX6_apply_76 : decode cX6_apply 76 = .ok (.aload_n 0, 1) := by decide +kernel
theorem dX6_apply_77 : decode cX6_apply 77 = .ok (.getfield 15, 3) := by decide +kernel
theorem dX6_apply_80 : decode cX6_apply 80 = .ok (.iconst 1, 1) := by decide +kernel
theorem dX6_apply_81 : decode cX6_apply 81 = .ok (.iaload, 1) := by decide +kernel
theorem dX6_apply_82 : decode cX6_apply 82 = .ok (.aload_n 0, 1) := by decide +kernel
theorem dX6_apply_83 : decode cX6_apply 83 = .ok (.getfield 15, 3) := by decide +kernel
theorem dX6_apply_86 : decode cX6_apply 86 = .ok (.iconst 2, 1) := by decide +kernel
theorem dX6_apply_87 : decode cX6_apply 87 = .ok (.iaload, 1) := by decide +kernel
theorem dX6_apply_88 : decode cX6_apply 88 = .ok (.invokevirtual 97, 3) := by decide +kernel
theorem dX6_apply_91 : decode cX6_apply 91 = .ok (.goto 73, 3) := by decide +kernel
theorem dX6_apply_94 : decode cX6_apply 94 = .ok (.aload_n 1, 1) := by decide +kernel
theorem dX6_apply_95 : decode cX6_apply 95 = .ok (.aload_n 0, 1) := by decide +kernel
theorem dX6_apply_96 : decode cX6_apply 96 = .ok (.getfield 15, 3) := by decide +kernel
theorem dX6_apply_99 : decode cX6_apply 99 = .ok (.iconst 0, 1) := by decide +kernel
theorem dX6_apply_100 : decode cX6_apply 100 = .ok (.iaload, 1) := by decide +kernel
theorem dX6_apply_101 : decode cX6_apply 101 = .ok (.aload_n 0, 1) := by decide +kernel
theorem dX6_apply_102 : decode cX6_apply 102 = .ok (.getfield 15, 3) := by decide +kernel
theorem dX6_apply_105 : decode cX6_apply 105 = .ok (.iconst 1, 1) := by decide +kernel
theorem dX6_apply_106 : decode cX6_apply 106 = .ok (.iaload, 1) := by decide +kernel
theorem dX6_apply_107 : decode cX6_apply 107 = .ok (.invokevirtual 101, 3) := by decide +kernel
theorem dX6_apply_110 : decode cX6_apply 110 = .ok (.goto 54, 3) := by decide +kernel
theorem dX6_apply_113 : decode cX6_apply 113 = .ok (.aload_n 1, 1) := by decide +kernel
theorem dX6_apply_114 : decode cX6_apply 114 = .ok (.aload_n 0, 1) := by decide +kernel
theorem dX6_apply_115 : decode cX6_apply 115 = .ok (.getfield 15, 3) := by decide +kernel
theorem dX6_apply_118 : decode cX6_apply 118 = .ok (.iconst 0, 1) := by decide +kernel
theorem dX6_apply_119 : decode cX6_apply 119 = .ok (.iaload, 1) := by decide +kernel
theorem dX6_apply_120 : decode cX6_apply 120 = .ok (.aload_n 0, 1) := by decide +kernel
theorem dX6_apply_121 : decode cX6_apply 121 = .ok (.getfield 15, 3) := by decide +kernel
theorem dX6_apply_124 : decode cX6_apply 124 = .ok (.iconst 1, 1) := by decide +kernel
theorem dX6_apply_125 : decode cX6_apply 125 = .ok (.iaload, 1) := by decide +kernel
theorem dX6_apply_126 : decode cX6_apply 126 = .ok (.invokevirtual 105, 3) := by decide +kernel
theorem dX6_apply_129 : decode cX6_apply 129 = .ok (.goto 35, 3) := by decide +kernel
theorem dX6_apply_132 : decode cX6_apply 132 = .ok (.aload_n 1, 1) := by decide +kernel
theorem dX6_apply_133 : decode cX6_apply 133 = .ok (.aload_n 1, 1) := by decide +kernel
theorem dX6_apply_134 : decode cX6_apply 134 = .ok (.getfield 82, 3) := by decide +kernel
theorem dX6_apply_137 : decode cX6_apply 137 = .ok (.aload_n 0, 1) := by decide +kernel
theorem dX6_apply_138 : decode cX6_apply 138 = .ok (.getfield 15, 3) := by decide +kernel
theorem dX6_apply_141 : decode cX6_apply 141 = .ok (.iconst 0, 1) := by decide +kernel
theorem dX6_apply_142 : decode cX6_apply 142 = .ok (.iaload, 1) := by decide +kernel
theorem dX6_apply_143 : decode cX6_apply 143 = .ok (.aaload, 1) := by decide +kernel
theorem dX6_apply_144 : decode cX6_apply 144 = .ok (.aload_n 1, 1) := by decide +kernel
theorem dX6_apply_145 : decode cX6_apply 145 = .ok (.getfield 108, 3) := by decide +kernel
theorem dX6_apply_148 : decode cX6_apply 148 = .ok (.aload_n 0, 1) := by decide +kernel
theorem dX6_apply_149 : decode cX6_apply 149 = .ok (.getfield 15, 3) := by decide +kernel
theorem dX6_apply_152 : decode cX6_apply 152 = .ok (.iconst 1, 1) := by decide +kernel
theorem dX6_apply_153 : decode cX6_apply 153 = .ok (.iaload, 1) := by decide +kernel
theorem dX6_apply_154 : decode cX6_apply 154 = .ok (.aaload, 1) := by decide +kernel
theorem dX6_apply_155 : decode cX6_apply 155 = .ok (.aload_n 0, 1) := by decide +kernel
theorem dX6_apply_156 : decode cX6_apply 156 = .ok (.getfield 15, 3) := by decide +kernel
theorem dX6_apply_159 : decode cX6_apply 159 = .ok (.iconst 2, 1) := by decide +kernel
theorem dX6_apply_160 : decode cX6_apply 160 = .ok (.iaload, 1) := by decide +kernel
theorem dX6_apply_161 : decode cX6_apply 161 = .ok (.invokevirtual 112, 3) := by decide +kernel
theorem dX6_apply_164 : decode cX6_apply 164 = .ok (.return_, 1) := by decide +kernel
theorem dX6_wordAtHand_0 : decode cX6_wordAtHand 0 = .ok (.aload_n 0, 1) := by decide +kernel
theorem dX6_wordAtHand_1 : decode cX6_wordAtHand 1 = .ok (.getfield 34, 3) := by decide +kernel
theorem dX6_wordAtHand_4 : decode cX6_wordAtHand 4 = .ok (.iconst 1, 1) := by decide +kernel
theorem dX6_wordAtHand_5 : decode cX6_wordAtHand 5 = .ok (.if_icmp .eq 5, 3) := by decide +kernel
theorem dX6_wordAtHand_8 : decode cX6_wordAtHand 8 = .ok (.iconst (-1), 1) := by decide +kernel
theorem dX6_wordAtHand_9 : decode cX6_wordAtHand 9 = .ok (.ireturn, 1) := by decide +kernel
theorem dX6_wordAtHand_10 : decode cX6_wordAtHand 10 = .ok (.aload_n 0, 1) := by decide +kernel
theorem dX6_wordAtHand_11 : decode cX6_wordAtHand 11 = .ok (.ldc 116, 2) := by decide +kernel
theorem dX6_wordAtHand_13 : decode cX6_wordAtHand 13 = .ok (.invokevirtual 118, 3) := by decide +kernel
theorem dX6_wordAtHand_16 : decode cX6_wordAtHand 16 = .ok (.ifCond .eq 5, 3) := by decide +kernel
theorem dX6_wordAtHand_19 : decode cX6_wordAtHand 19 = .ok (.iconst 0, 1) := by decide +kernel
theorem dX6_wordAtHand_20 : decode cX6_wordAtHand 20 = .ok (.ireturn, 1) := by decide +kernel
theorem dX6_wordAtHand_21 : decode cX6_wordAtHand 21 = .ok (.aload_n 0, 1) := by decide +kernel
theorem dX6_wordAtHand_22 : decode cX6_wordAtHand 22 = .ok (.ldc 122, 2) := by decide +kernel
theorem dX6_wordAtHand_24 : decode cX6_wordAtHand 24 = .ok (.invokevirtual 118, 3) := by decide +kernel
theorem dX6_wordAtHand_27 : decode cX6_wordAtHand 27 = .ok (.ifCond .eq 5, 3) := by decide +kernel
theorem dX6_wordAtHand_30 : decode cX6_wordAtHand 30 = .ok (.iconst 1, 1) := by decide +kernel
theorem dX6_wordAtHand_31 : decode cX6_wordAtHand 31 = .ok (.ireturn, 1) := by decide +kernel
theorem dX6_wordAtHand_32 : decode cX6_wordAtHand 32 = .ok (.aload_n 0, 1) := by decide +kernel
theorem dX6_wordAtHand_33 : decode cX6_wordAtHand 33 = .ok (.ldc 124, 2) := by decide +kernel
theorem dX6_wordAtHand_35 : decode cX6_wordAtHand 35 = .ok (.invokevirtual 118, 3) := by decide +kernel
theorem dX6_wordAtHand_38 : decode cX6_wordAtHand 38 = .ok (.ifCond .eq 5, 3) := by decide +kernel
theorem dX6_wordAtHand_41 : decode cX6_wordAtHand 41 = .ok (.iconst 2, 1) := by decide +kernel
theorem dX6_wordAtHand_42 : decode cX6_wordAtHand 42 = .ok (.ireturn, 1) := by decide +kernel
theorem dX6_wordAtHand_43 : decode cX6_wordAtHand 43 = .ok (.aload_n 0, 1) := by decide +kernel
theorem dX6_wordAtHand_44 : decode cX6_wordAtHand 44 = .ok (.ldc 126, 2) := by decide +kernel
theorem dX6_wordAtHand_46 : decode cX6_wordAtHand 46 = .ok (.invokevirtual 118, 3) := by decide +kernel
theorem dX6_wordAtHand_49 : decode cX6_wordAtHand 49 = .ok (.ifCond .eq 5, 3) := by decide +kernel
theorem dX6_wordAtHand_52 : decode cX6_wordAtHand 52 = .ok (.iconst 3, 1) := by decide +kernel
theorem dX6_wordAtHand_53 : decode cX6_wordAtHand 53 = .ok (.ireturn, 1) := by decide +kernel
theorem dX6_wordAtHand_54 : decode cX6_wordAtHand 54 = .ok (.aload_n 0, 1) := by decide +kernel
theorem dX6_wordAtHand_55 : decode cX6_wordAtHand 55 = .ok (.ldc 128, 2) := by decide +kernel
theorem dX6_wordAtHand_57 : decode cX6_wordAtHand 57 = .ok (.invokevirtual 118, 3) := by decide +kernel
theorem dX6_wordAtHand_60 : decode cX6_wordAtHand 60 = .ok (.ifCond .eq 5, 3) := by decide +kernel
theorem dX6_wordAtHand_63 : decode cX6_wordAtHand 63 = .ok (.iconst 4, 1) := by decide +kernel
theorem dX6_wordAtHand_64 : decode cX6_wordAtHand 64 = .ok (.ireturn, 1) := by decide +kernel
theorem dX6_wordAtHand_65 : decode cX6_wordAtHand 65 = .ok (.aload_n 0, 1) := by decide +kernel
theorem dX6_wordAtHand_66 : decode cX6_wordAtHand 66 = .ok (.ldc 130, 2) := by decide +kernel
theorem dX6_wordAtHand_68 : decode cX6_wordAtHand 68 = .ok (.invokevirtual 118, 3) := by decide +kernel
theorem dX6_wordAtHand_71 : decode cX6_wordAtHand 71 = .ok (.ifCond .eq 7, 3) := by decide +kernel
theorem dX6_wordAtHand_74 : decode cX6_wordAtHand 74 = .ok (.iconst 5, 1) := by decide +kernel
theorem dX6_wordAtHand_75 : decode cX6_wordAtHand 75 = .ok (.goto 4, 3) := by decide +kernel
theorem dX6_wordAtHand_78 : decode cX6_wordAtHand 78 = .ok (.iconst (-1), 1) := by decide +kernel
theorem dX6_wordAtHand_79 : decode cX6_wordAtHand 79 = .ok (.ireturn, 1) := by decide +kernel
theorem dX6_isWord_0 : decode cX6_isWord 0 = .ok (.aload_n 0, 1) := by decide +kernel
theorem dX6_isWord_1 : decode cX6_isWord 1 = .ok (.getfield 28, 3) := by decide +kernel
theorem dX6_isWord_4 : decode cX6_isWord 4 = .ok (.aload_n 0, 1) := by decide +kernel
theorem dX6_isWord_5 : decode cX6_isWord 5 = .ok (.getfield 132, 3) := by decide +kernel
theorem dX6_isWord_8 : decode cX6_isWord 8 = .ok (.isub, 1) := by decide +kernel
theorem dX6_isWord_9 : decode cX6_isWord 9 = .ok (.aload_n 1, 1) := by decide +kernel
theorem dX6_isWord_10 : decode cX6_isWord 10 = .ok (.invokevirtual 135, 3) := by decide +kernel
theorem dX6_isWord_13 : decode cX6_isWord 13 = .ok (.if_icmp .eq 5, 3) := by decide +kernel
theorem dX6_isWord_16 : decode cX6_isWord 16 = .ok (.iconst 0, 1) := by decide +kernel
theorem dX6_isWord_17 : decode cX6_isWord 17 = .ok (.ireturn, 1) := by decide +kernel
theorem dX6_isWord_18 : decode cX6_isWord 18 = .ok (.iconst 0, 1) := by decide +kernel
theorem dX6_isWord_19 : decode cX6_isWord 19 = .ok (.istore_n 2, 1) := by decide +kernel
theorem dX6_isWord_20 : decode cX6_isWord 20 = .ok (.iload_n 2, 1) := by decide +kernel
theorem dX6_isWord_21 : decode cX6_isWord 21 = .ok (.aload_n 1, 1) := by decide +kernel
theorem dX6_isWord_22 : decode cX6_isWord 22 = .ok (.invokevirtual 135, 3) := by decide +kernel
theorem dX6_isWord_25 : decode cX6_isWord 25 = .ok (.if_icmp .ge 30, 3) := by decide +kernel
theorem dX6_isWord_28 : decode cX6_isWord 28 = .ok (.aload_n 0, 1) := by decide +kernel
theorem dX6_isWord_29 : decode cX6_isWord 29 = .ok (.getfield 9, 3) := by decide +kernel
theorem dX6_isWord_32 : decode cX6_isWord 32 = .ok (.aload_n 0, 1) := by decide +kernel
theorem dX6_isWord_33 : decode cX6_isWord 33 = .ok (.getfield 132, 3) := by decide +kernel
theorem dX6_isWord_36 : decode cX6_isWord 36 = .ok (.iload_n 2, 1) := by decide +kernel
theorem dX6_isWord_37 : decode cX6_isWord 37 = .ok (.iadd, 1) := by decide +kernel
theorem dX6_isWord_38 : decode cX6_isWord 38 = .ok (.iaload, 1) := by decide +kernel
theorem dX6_isWord_39 : decode cX6_isWord 39 = .ok (.aload_n 1, 1) := by decide +kernel
theorem dX6_isWord_40 : decode cX6_isWord 40 = .ok (.iload_n 2, 1) := by decide +kernel
theorem dX6_isWord_41 : decode cX6_isWord 41 = .ok (.invokevirtual 139, 3) := by decide +kernel
theorem dX6_isWord_44 : decode cX6_isWord 44 = .ok (.if_icmp .eq 5, 3) := by decide +kernel
theorem dX6_isWord_47 : decode cX6_isWord 47 = .ok (.iconst 0, 1) := by decide +kernel
theorem dX6_isWord_48 : decode cX6_isWord 48 = .ok (.ireturn, 1) := by decide +kernel
theorem dX6_isWord_49 : decode cX6_isWord 49 = .ok (.iinc 2 1, 3) := by decide +kernel
theorem dX6_isWord_52 : decode cX6_isWord 52 = .ok (.goto (-32), 3) := by decide +kernel
theorem dX6_isWord_55 : decode cX6_isWord 55 = .ok (.iconst 1, 1) := by decide +kernel
theorem dX6_isWord_56 : decode cX6_isWord 56 = .ok (.ireturn, 1) := by decide +kernel
theorem dX6_advance_0 : decode cX6_advance 0 = .ok (.aload_n 0, 1) := by decide +kernel
theorem dX6_advance_1 : decode cX6_advance 1 = .ok (.getfield 28, 3) := by decide +kernel
theorem dX6_advance_4 : decode cX6_advance 4 = .ok (.aload_n 0, 1) := by decide +kernel
theorem dX6_advance_5 : decode cX6_advance 5 = .ok (.getfield 24, 3) := by decide +kernel
theorem dX6_advance_8 : decode cX6_advance 8 = .ok (.if_icmp .ge 30, 3) := by decide +kernel
theorem dX6_advance_11 : decode cX6_advance 11 = .ok (.aload_n 0, 1) := by decide +kernel
theorem dX6_advance_12 : decode cX6_advance 12 = .ok (.getfield 9, 3) := by decide +kernel
theorem dX6_advance_15 : decode cX6_advance 15 = .ok (.aload_n 0, 1) := by decide +kernel
theorem dX6_advance_16 : decode cX6_advance 16 = .ok (.getfield 28, 3) := by decide +kernel
theorem dX6_advance_19 : decode cX6_advance 19 = .ok (.iaload, 1) := by decide +kernel
theorem dX6_advance_20 : decode cX6_advance 20 = .ok (.bipush 32, 2) := by decide +kernel
theorem dX6_advance_22 : decode cX6_advance 22 = .ok (.if_icmp .ne 16, 3) := by decide +kernel
theorem dX6_advance_25 : decode cX6_advance 25 = .ok (.aload_n 0, 1) := by decide +kernel
theorem dX6_advance_26 : decode cX6_advance 26 = .ok (.dup, 1) := by decide +kernel
theorem dX6_advance_27 : decode cX6_advance 27 = .ok (.getfield 28, 3) := by decide +kernel
theorem dX6_advance_30 : decode cX6_advance 30 = .ok (.iconst 1, 1) := by decide +kernel
theorem dX6_advance_31 : decode cX6_advance 31 = .ok (.iadd, 1) := by decide +kernel
theorem dX6_advance_32 : decode cX6_advance 32 = .ok (.putfield 28, 3) := by decide +kernel
theorem dX6_advance_35 : decode cX6_advance 35 = .ok (.goto (-35), 3) := by decide +kernel
theorem dX6_advance_38 : decode cX6_advance 38 = .ok (.aload_n 0, 1) := by decide +kernel
theorem dX6_advance_39 : decode cX6_advance 39 = .ok (.aload_n 0, 1) := by decide +kernel
theorem dX6_advance_40 : decode cX6_advance 40 = .ok (.getfield 28, 3) := by decide +kernel
theorem dX6_advance_43 : decode cX6_advance 43 = .ok (.putfield 132, 3) := by decide +kernel
theorem dX6_advance_46 : decode cX6_advance 46 = .ok (.aload_n 0, 1) := by decide +kernel
theorem dX6_advance_47 : decode cX6_advance 47 = .ok (.getfield 28, 3) := by decide +kernel
theorem dX6_advance_50 : decode cX6_advance 50 = .ok (.aload_n 0, 1) := by decide +kernel
theorem dX6_advance_51 : decode cX6_advance 51 = .ok (.getfield 24, 3) := by decide +kernel
theorem dX6_advance_54 : decode cX6_advance 54 = .ok (.if_icmp .lt 11, 3) := by decide +kernel
theorem dX6_advance_57 : decode cX6_advance 57 = .ok (.aload_n 0, 1) := by decide +kernel
theorem dX6_advance_58 : decode cX6_advance 58 = .ok (.iconst 0, 1) := by decide +kernel
theorem dX6_advance_59 : decode cX6_advance 59 = .ok (.putfield 34, 3) := by decide +kernel
theorem dX6_advance_62 : decode cX6_advance 62 = .ok (.goto 121, 3) := by decide +kernel
theorem dX6_advance_65 : decode cX6_advance 65 = .ok (.aload_n 0, 1) := by decide +kernel
theorem dX6_advance_66 : decode cX6_advance 66 = .ok (.getfield 9, 3) := by decide +kernel
theorem dX6_advance_69 : decode cX6_advance 69 = .ok (.aload_n 0, 1) := by decide +kernel
theorem dX6_advance_70 : decode cX6_advance 70 = .ok (.getfield 28, 3) := by decide +kernel
theorem dX6_advance_73 : decode cX6_advance 73 = .ok (.iaload, 1) := by decide +kernel
theorem dX6_advance_74 : decode cX6_advance 74 = .ok (.bipush 59, 2) := by decide +kernel
theorem dX6_advance_76 : decode cX6_advance 76 = .ok (.if_icmp .ne 21, 3) := by decide +kernel
theorem dX6_advance_79 : decode cX6_advance 79 = .ok (.aload_n 0, 1) := by decide +kernel
theorem dX6_advance_80 : decode cX6_advance 80 = .ok (.iconst 3, 1) := by decide +kernel
theorem dX6_advance_81 : decode cX6_advance 81 = .ok (.putfield 34, 3) := by decide +kernel
theorem dX6_advance_84 : decode cX6_advance 84 = .ok (.aload_n 0, 1) := by decide +kernel
theorem dX6_advance_85 : decode cX6_advance 85 = .ok (.dup, 1) := by decide +kernel
theorem dX6_advance_86 : decode cX6_advance 86 = .ok (.getfield 28, 3) := by decide +kernel
theorem dX6_advance_89 : decode cX6_advance 89 = .ok (.iconst 1, 1) := by decide +kernel
theorem dX6_advance_90 : decode cX6_advance 90 = .ok (.iadd, 1) := by decide +kernel
theorem dX6_advance_91 : decode cX6_advance 91 = .ok (.putfield 28, 3) := by decide +kernel
theorem dX6_advance_94 : decode cX6_advance 94 = .ok (.goto 89, 3) := by decide +kernel
theorem dX6_advance_97 : decode cX6_advance 97 = .ok (.aload_n 0, 1) := by decide +kernel
theorem dX6_advance_98 : decode cX6_advance 98 = .ok (.getfield 9, 3) := by decide +kernel
theorem dX6_advance_101 : decode cX6_advance 101 = .ok (.aload_n 0, 1) := by decide +kernel
theorem dX6_advance_102 : decode cX6_advance 102 = .ok (.getfield 28, 3) := by decide +kernel
theorem dX6_advance_105 : decode cX6_advance 105 = .ok (.iaload, 1) := by decide +kernel
theorem dX6_advance_106 : decode cX6_advance 106 = .ok (.invokestatic 143, 3) := by decide +kernel
theorem dX6_advance_109 : decode cX6_advance 109 = .ok (.ifCond .eq 47, 3) := by decide +kernel
theorem dX6_advance_112 : decode cX6_advance 112 = .ok (.aload_n 0, 1) := by decide +kernel
theorem dX6_advance_113 : decode cX6_advance 113 = .ok (.iconst 1, 1) := by decide +kernel
theorem dX6_advance_114 : decode cX6_advance 114 = .ok (.putfield 34, 3) := by decide +kernel
theorem dX6_advance_117 : decode cX6_advance 117 = .ok (.aload_n 0, 1) := by decide +kernel
theorem dX6_advance_118 : decode cX6_advance 118 = .ok (.getfield 28, 3) := by decide +kernel
theorem dX6_advance_121 : decode cX6_advance 121 = .ok (.aload_n 0, 1) := by decide +kernel
theorem dX6_advance_122 : decode cX6_advance 122 = .ok (.getfield 24, 3) := by decide +kernel
theorem dX6_advance_125 : decode cX6_advance 125 = .ok (.if_icmp .ge 58, 3) := by decide +kernel
theorem dX6_advance_128 : decode cX6_advance 128 = .ok (.aload_n 0, 1) := by decide +kernel
theorem dX6_advance_129 : decode cX6_advance 129 = .ok (.getfield 9, 3) := by decide +kernel
theorem dX6_advance_132 : decode cX6_advance 132 = .ok (.aload_n 0, 1) := by decide +kernel
theorem dX6_advance_133 : decode cX6_advance 133 = .ok (.getfield 28, 3) := by decide +kernel
theorem dX6_advance_136 : decode cX6_advance 136 = .ok (.iaload, 1) := by decide +kernel
theorem dX6_advance_137 : decode cX6_advance 137 = .ok (.invokestatic 143, 3) := by decide +kernel
theorem dX6_advance_140 : decode cX6_advance 140 = .ok (.ifCond .eq 43, 3) := by decide +kernel
theorem dX6_advance_143 : decode cX6_advance 143 = .ok (.aload_n 0, 1) := by decide +kernel
theorem dX6_advance_144 : decode cX6_advance 144 = .ok (.dup, 1) := by decide +kernel
theorem dX6_advance_145 : decode cX6_advance 145 = .ok (.getfield 28, 3) := by decide +kernel
theorem dX6_advance_148 : decode cX6_advance 148 = .ok (.iconst 1, 1) := by decide +kernel
theorem dX6_advance_149 : decode cX6_advance 149 = .ok (.iadd, 1) := by decide +kernel
theorem dX6_advance_150 : decode cX6_advance 150 = .ok (.putfield 28, 3) := by decide +kernel
theorem dX6_advance_153 : decode cX6_advance 153 = .ok (.goto (-36), 3) := by decide +kernel
theorem dX6_advance_156 : decode cX6_advance 156 = .ok (.aload_n 0, 1) := by decide +kernel
theorem dX6_advance_157 : decode cX6_advance 157 = .ok (.getfield 9, 3) := by decide +kernel
theorem dX6_advance_160 : decode cX6_advance 160 = .ok (.aload_n 0, 1) := by decide +kernel
theorem dX6_advance_161 : decode cX6_advance 161 = .ok (.getfield 28, 3) := by decide +kernel
theorem dX6_advance_164 : decode cX6_advance 164 = .ok (.iaload, 1) := by decide +kernel
theorem dX6_advance_165 : decode cX6_advance 165 = .ok (.invokestatic 146, 3) := by decide +kernel
theorem dX6_advance_168 : decode cX6_advance 168 = .ok (.ifCond .eq 10, 3) := by decide +kernel
theorem dX6_advance_171 : decode cX6_advance 171 = .ok (.aload_n 0, 1) := by decide +kernel
theorem dX6_advance_172 : decode cX6_advance 172 = .ok (.invokevirtual 149, 3) := by decide +kernel
theorem dX6_advance_175 : decode cX6_advance 175 = .ok (.goto 8, 3) := by decide +kernel
theorem dX6_advance_178 : decode cX6_advance 178 = .ok (.aload_n 0, 1) := by decide +kernel
theorem dX6_advance_179 : decode cX6_advance 179 = .ok (.iconst 4, 1) := by decide +kernel
theorem dX6_advance_180 : decode cX6_advance 180 = .ok (.putfield 34, 3) := by decide +kernel
theorem dX6_advance_183 : decode cX6_advance 183 = .ok (.return_, 1) := by decide +kernel
theorem dX6_takeNumber_0 : decode cX6_takeNumber 0 = .ok (.aload_n 0, 1) := by decide +kernel
theorem dX6_takeNumber_1 : decode cX6_takeNumber 1 = .ok (.iconst 0, 1) := by decide +kernel
theorem dX6_takeNumber_2 : decode cX6_takeNumber 2 = .ok (.putfield 56, 3) := by decide +kernel
theorem dX6_takeNumber_5 : decode cX6_takeNumber 5 = .ok (.aload_n 0, 1) := by decide +kernel
theorem dX6_takeNumber_6 : decode cX6_takeNumber 6 = .ok (.getfield 28, 3) := by decide +kernel
theorem dX6_takeNumber_9 : decode cX6_takeNumber 9 = .ok (.aload_n 0, 1) := by decide +kernel
theorem dX6_takeNumber_10 : decode cX6_takeNumber 10 = .ok (.getfield 24, 3) := by decide +kernel
theorem dX6_takeNumber_13 : decode cX6_takeNumber 13 = .ok (.if_icmp .ge 61, 3) := by decide +kernel
theorem dX6_takeNumber_16 : decode cX6_takeNumber 16 = .ok (.aload_n 0, 1) := by decide +kernel
theorem dX6_takeNumber_17 : decode cX6_takeNumber 17 = .ok (.getfield 9, 3) := by decide +kernel
theorem dX6_takeNumber_20 : decode cX6_takeNumber 20 = .ok (.aload_n 0, 1) := by decide +kernel
theorem dX6_takeNumber_21 : decode cX6_takeNumber 21 = .ok (.getfield 28, 3) := by decide +kernel
theorem dX6_takeNumber_24 : decode cX6_takeNumber 24 = .ok (.iaload, 1) := by decide +kernel
theorem dX6_takeNumber_25 : decode cX6_takeNumber 25 = .ok (.invokestatic 146, 3) := by decide +kernel
theorem dX6_takeNumber_28 : decode cX6_takeNumber 28 = .ok (.ifCond .eq 46, 3) := by decide +kernel
theorem dX6_takeNumber_31 : decode cX6_takeNumber 31 = .ok (.aload_n 0, 1) := by decide +kernel
theorem dX6_takeNumber_32 : decode cX6_takeNumber 32 = .ok (.sipush 1000, 3) := by decide +kernel
theorem dX6_takeNumber_35 : decode cX6_takeNumber 35 = .ok (.bipush 10, 2) := by decide +kernel
theorem dX6_takeNumber_37 : decode cX6_takeNumber 37 = .ok (.aload_n 0, 1) := by decide +kernel
theorem dX6_takeNumber_38 : decode cX6_takeNumber 38 = .ok (.getfield 56, 3) := by decide +kernel
theorem dX6_takeNumber_41 : decode cX6_takeNumber 41 = .ok (.imul, 1) := by decide +kernel
theorem dX6_takeNumber_42 : decode cX6_takeNumber 42 = .ok (.aload_n 0, 1) := by decide +kernel
theorem dX6_takeNumber_43 : decode cX6_takeNumber 43 = .ok (.getfield 9, 3) := by decide +kernel
theorem dX6_takeNumber_46 : decode cX6_takeNumber 46 = .ok (.aload_n 0, 1) := by decide +kernel
theorem dX6_takeNumber_47 : decode cX6_takeNumber 47 = .ok (.getfield 28, 3) := by decide +kernel
theorem dX6_takeNumber_50 : decode cX6_takeNumber 50 = .ok (.iaload, 1) := by decide +kernel
theorem dX6_takeNumber_51 : decode cX6_takeNumber 51 = .ok (.iadd, 1) := by decide +kernel
theorem dX6_takeNumber_52 : decode cX6_takeNumber 52 = .ok (.bipush 48, 2) := by decide +kernel
theorem dX6_takeNumber_54 : decode cX6_takeNumber 54 = .ok (.isub, 1) := by decide +kernel
theorem dX6_takeNumber_55 : decode cX6_takeNumber 55 = .ok (.invokestatic 18, 3) := by decide +kernel
theorem dX6_takeNumber_58 : decode cX6_takeNumber 58 = .ok (.putfield 56, 3) := by decide +kernel
theorem dX6_takeNumber_61 : decode cX6_takeNumber 61 = .ok (.aload_n 0, 1) := by decide +kernel
theorem dX6_takeNumber_62 : decode cX6_takeNumber 62 = .ok (.dup, 1) := by decide +kernel
theorem dX6_takeNumber_63 : decode cX6_takeNumber 63 = .ok (.getfield 28, 3) := by decide +kernel
theorem dX6_takeNumber_66 : decode cX6_takeNumber 66 = .ok (.iconst 1, 1) := by decide +kernel
theorem dX6_takeNumber_67 : decode cX6_takeNumber 67 = .ok (.iadd, 1) := by decide +kernel
theorem dX6_takeNumber_68 : decode cX6_takeNumber 68 = .ok (.putfield 28, 3) := by decide +kernel
theorem dX6_takeNumber_71 : decode cX6_takeNumber 71 = .ok (.goto (-66), 3) := by decide +kernel
theorem dX6_takeNumber_74 : decode cX6_takeNumber 74 = .ok (.aload_n 0, 1) := by decide +kernel
theorem dX6_takeNumber_75 : decode cX6_takeNumber 75 = .ok (.aload_n 0, 1) := by decide +kernel
theorem dX6_takeNumber_76 : decode cX6_takeNumber 76 = .ok (.getfield 28, 3) := by decide +kernel
theorem dX6_takeNumber_79 : decode cX6_takeNumber 79 = .ok (.aload_n 0, 1) := by decide +kernel
theorem dX6_takeNumber_80 : decode cX6_takeNumber 80 = .ok (.getfield 132, 3) := by decide +kernel
theorem dX6_takeNumber_83 : decode cX6_takeNumber 83 = .ok (.isub, 1) := by decide +kernel
theorem dX6_takeNumber_84 : decode cX6_takeNumber 84 = .ok (.iconst 2, 1) := by decide +kernel
theorem dX6_takeNumber_85 : decode cX6_takeNumber 85 = .ok (.if_icmp .gt 7, 3) := by decide +kernel
theorem dX6_takeNumber_88 : decode cX6_takeNumber 88 = .ok (.iconst 2, 1) := by decide +kernel
theorem dX6_takeNumber_89 : decode cX6_takeNumber 89 = .ok (.goto 4, 3) := by decide +kernel
theorem dX6_takeNumber_92 : decode cX6_takeNumber 92 = .ok (.iconst 4, 1) := by decide +kernel
theorem dX6_takeNumber_93 : decode cX6_takeNumber 93 = .ok (.putfield 34, 3) := by decide +kernel
theorem dX6_takeNumber_96 : decode cX6_takeNumber 96 = .ok (.return_, 1) := by decide +kernel
theorem dX6_isLetter_0 : decode cX6_isLetter 0 = .ok (.iload_n 0, 1) := by decide +kernel
theorem dX6_isLetter_1 : decode cX6_isLetter 1 = .ok (.bipush 97, 2) := by decide +kernel
theorem dX6_isLetter_3 : decode cX6_isLetter 3 = .ok (.bipush 122, 2) := by decide +kernel
theorem dX6_isLetter_5 : decode cX6_isLetter 5 = .ok (.invokestatic 75, 3) := by decide +kernel
theorem dX6_isLetter_8 : decode cX6_isLetter 8 = .ok (.ireturn, 1) := by decide +kernel
theorem dX6_isFigure_0 : decode cX6_isFigure 0 = .ok (.iload_n 0, 1) := by decide +kernel
theorem dX6_isFigure_1 : decode cX6_isFigure 1 = .ok (.bipush 48, 2) := by decide +kernel
theorem dX6_isFigure_3 : decode cX6_isFigure 3 = .ok (.bipush 57, 2) := by decide +kernel
theorem dX6_isFigure_5 : decode cX6_isFigure 5 = .ok (.invokestatic 75, 3) := by decide +kernel
theorem dX6_isFigure_8 : decode cX6_isFigure 8 = .ok (.ireturn, 1) := by decide +kernel
theorem dX7_init_0 : decode cX7_init 0 = .ok (.aload_n 0, 1) := by decide +kernel
theorem dX7_init_1 : decode cX7_init 1 = .ok (.invokespecial 1, 3) := by decide +kernel
theorem dX7_init_4 : decode cX7_init 4 = .ok (.return_, 1) := by decide +kernel
theorem dX7_take_0 : decode cX7_take 0 = .ok (.aload_n 0, 1) := by decide +kernel
theorem dX7_take_1 : decode cX7_take 1 = .ok (.aload_n 1, 1) := by decide +kernel
theorem dX7_take_2 : decode cX7_take 2 = .ok (.getfield 7, 3) := by decide +kernel
theorem dX7_take_5 : decode cX7_take 5 = .ok (.putfield 7, 3) := by decide +kernel
theorem dX7_take_8 : decode cX7_take 8 = .ok (.aload_n 0, 1) := by decide +kernel
theorem dX7_take_9 : decode cX7_take 9 = .ok (.aload_n 1, 1) := by decide +kernel
theorem dX7_take_10 : decode cX7_take 10 = .ok (.getfield 13, 3) := by decide +kernel
theorem dX7_take_13 : decode cX7_take 13 = .ok (.putfield 13, 3) := by decide +kernel
theorem dX7_take_16 : decode cX7_take 16 = .ok (.return_, 1) := by decide +kernel
theorem dX7_tells_0 : decode cX7_tells 0 = .ok (.aload_n 0, 1) := by decide +kernel
theorem dX7_tells_1 : decode cX7_tells 1 = .ok (.getfield 7, 3) := by decide +kernel
theorem dX7_tells_4 : decode cX7_tells 4 = .ok (.aload_n 0, 1) := by decide +kernel
theorem dX7_tells_5 : decode cX7_tells 5 = .ok (.getfield 13, 3) := by decide +kernel
theorem dX7_tells_8 : decode cX7_tells 8 = .ok (.iload_n 1, 1) := by decide +kernel
theorem dX7_tells_9 : decode cX7_tells 9 = .ok (.iload_n 2, 1) := by decide +kernel
theorem dX7_tells_10 : decode cX7_tells 10 = .ok (.invokestatic 16, 3) := by decide +kernel
theorem dX7_tells_13 : decode cX7_tells 13 = .ok (.ireturn, 1) := by decide +kernel
theorem dX7_toldBy_0 : decode cX7_toldBy 0 = .ok (.iload_n 1, 1) := by decide +kernel
theorem dX7_toldBy_1 : decode cX7_toldBy 1 = .ok (.istore 4, 2) := by decide +kernel
theorem dX7_toldBy_3 : decode cX7_toldBy 3 = .ok (.iload 4, 2) := by decide +kernel
theorem dX7_toldBy_5 : decode cX7_toldBy 5 = .ok (.iconst 3, 1) := by decide +kernel
theorem dX7_toldBy_6 : decode cX7_toldBy 6 = .ok (.iadd, 1) := by decide +kernel
theorem dX7_toldBy_7 : decode cX7_toldBy 7 = .ok (.istore 5, 2) := by decide +kernel
theorem dX7_toldBy_9 : decode cX7_toldBy 9 = .ok (.iload_n 2, 1) := by decide +kernel
theorem dX7_toldBy_10 : decode cX7_toldBy 10 = .ok (.iconst 4, 1) := by decide +kernel
theorem dX7_toldBy_11 : decode cX7_toldBy 11 = .ok (.if_icmp .ge 7, 3) := by decide +kernel
theorem dX7_toldBy_14 : decode cX7_toldBy 14 = .ok (.iconst 0, 1) := by decide +kernel
theorem dX7_toldBy_15 : decode cX7_toldBy 15 = .ok (.goto 5, 3) := by decide +kernel
theorem dX7_toldBy_18 : decode cX7_toldBy 18 = .ok (.iload 4, 2) := by decide +kernel
theorem dX7_toldBy_20 : decode cX7_toldBy 20 = .ok (.istore 6, 2) := by decide +kernel
theorem dX7_toldBy_22 : decode cX7_toldBy 22 = .ok (.iload 6, 2) := by decide +kernel
theorem dX7_toldBy_24 : decode cX7_toldBy 24 = .ok (.iload_n 3, 1) := by decide +kernel
theorem dX7_toldBy_25 : decode cX7_toldBy 25 = .ok (.bipush 6, 2) := by decide +kernel
theorem dX7_toldBy_27 : decode cX7_toldBy 27 = .ok (.idiv, 1) := by decide +kernel
theorem dX7_toldBy_28 : decode cX7_toldBy 28 = .ok (.iadd, 1) := by decide +kernel
theorem dX7_toldBy_29 : decode cX7_toldBy 29 = .ok (.istore 7, 2) := by decide +kernel
theorem dX7_toldBy_31 : decode cX7_toldBy 31 = .ok (.iload_n 0, 1) := by decide +kernel
theorem dX7_toldBy_32 : decode cX7_toldBy 32 = .ok (.tableswitch 78 1 5 #[36, 39, 42, 45, 58], 36) := by decide +kernel
theorem dX7_toldBy_68 : decode cX7_toldBy 68 = .ok (.iload 5, 2) := by decide +kernel
theorem dX7_toldBy_70 : decode cX7_toldBy 70 = .ok (.ireturn, 1) := by decide +kernel
theorem dX7_toldBy_71 : decode cX7_toldBy 71 = .ok (.iload 6, 2) := by decide +kernel
theorem dX7_toldBy_73 : decode cX7_toldBy 73 = .ok (.ireturn, 1) := by decide +kernel
theorem dX7_toldBy_74 : decode cX7_toldBy 74 = .ok (.iload 7, 2) := by decide +kernel
theorem dX7_toldBy_76 : decode cX7_toldBy 76 = .ok (.ireturn, 1) := by decide +kernel
theorem dX7_toldBy_77 : decode cX7_toldBy 77 = .ok (.iload_n 3, 1) := by decide +kernel
theorem dX7_toldBy_78 : decode cX7_toldBy 78 = .ok (.bipush 10, 2) := by decide +kernel
theorem dX7_toldBy_80 : decode cX7_toldBy 80 = .ok (.if_icmp .ge 7, 3) := by decide +kernel
theorem dX7_toldBy_83 : decode cX7_toldBy 83 = .ok (.iconst 0, 1) := by decide +kernel
theorem dX7_toldBy_84 : decode cX7_toldBy 84 = .ok (.goto 5, 3) := by decide +kernel
theorem dX7_toldBy_87 : decode cX7_toldBy 87 = .ok (.iload 7, 2) := by decide +kernel
theorem dX7_toldBy_89 : decode cX7_toldBy 89 = .ok (.ireturn, 1) := by decide +kernel
theorem dX7_toldBy_90 : decode cX7_toldBy 90 = .ok (.iload_n 3, 1) := by decide +kernel
theorem dX7_toldBy_91 : decode cX7_toldBy 91 = .ok (.iconst 2, 1) := by decide +kernel
theorem dX7_toldBy_92 : decode cX7_toldBy 92 = .ok (.irem, 1) := by decide +kernel
theorem dX7_toldBy_93 : decode cX7_toldBy 93 = .ok (.ifCond .ne 8, 3) := by decide +kernel
theorem dX7_toldBy_96 : decode cX7_toldBy 96 = .ok (.iload 5, 2) := by decide +kernel
theorem dX7_toldBy_98 : decode cX7_toldBy 98 = .ok (.goto 11, 3) := by decide +kernel
theorem dX7_toldBy_101 : decode cX7_toldBy 101 = .ok (.iconst 0, 1) := by decide +kernel
theorem dX7_toldBy_102 : decode cX7_toldBy 102 = .ok (.iload 5, 2) := by decide +kernel
theorem dX7_toldBy_104 : decode cX7_toldBy 104 = .ok (.iconst 2, 1) := by decide +kernel
theorem dX7_toldBy_105 : decode cX7_toldBy 105 = .ok (.isub, 1) := by decide +kernel
theorem dX7_toldBy_106 : decode cX7_toldBy 106 = .ok (.invokestatic 20, 3) := by decide +kernel
theorem dX7_toldBy_109 : decode cX7_toldBy 109 = .ok (.ireturn, 1) := by decide +kernel
theorem dX7_toldBy_110 : decode cX7_toldBy 110 = .ok (.iload 4, 2) := by decide +kernel
theorem dX7_toldBy_112 : decode cX7_toldBy 112 = .ok (.ireturn, 1) := by decide +kernel
theorem dX8_init_0 : decode cX8_init 0 = .ok (.aload_n 0, 1) := by decide +kernel
theorem dX8_init_1 : decode cX8_init 1 = .ok (.invokespecial 3, 3) := by decide +kernel
theorem dX8_init_4 : decode cX8_init 4 = .ok (.aload_n 0, 1) := by decide +kernel
theorem dX8_init_5 : decode cX8_init 5 = .ok (.bipush 12, 2) := by decide +kernel
theorem dX8_init_7 : decode cX8_init 7 = .ok (.newarray .int, 2) := by decide +kernel
theorem dX8_init_9 : decode cX8_init 9 = .ok (.putfield 9, 3) := by decide +kernel
theorem dX8_init_12 : decode cX8_init 12 = .ok (.aload_n 0, 1) := by decide +kernel
theorem dX8_init_13 : decode cX8_init 13 = .ok (.bipush 12, 2) := by decide +kernel
theorem dX8_init_15 : decode cX8_init 15 = .ok (.newarray .int, 2) := by decide +kernel
theorem dX8_init_17 : decode cX8_init 17 = .ok (.putfield 15, 3) := by decide +kernel
theorem dX8_init_20 : decode cX8_init 20 = .ok (.aload_n 0, 1) := by decide +kernel
theorem dX8_init_21 : decode cX8_init 21 = .ok (.iconst 3, 1) := by decide +kernel
theorem dX8_init_22 : decode cX8_init 22 = .ok (.newarray .int, 2) := by decide +kernel
theorem dX8_init_24 : decode cX8_init 24 = .ok (.putfield 18, 3) := by decide +kernel
theorem dX8_init_27 : decode cX8_init 27 = .ok (.aload_n 0, 1) := by decide +kernel
theorem dX8_init_28 : decode cX8_init 28 = .ok (.iconst 4, 1) := by decide +kernel
theorem dX8_init_29 : decode cX8_init 29 = .ok (.newarray .int, 2) := by decide +kernel
theorem dX8_init_31 : decode cX8_init 31 = .ok (.putfield 21, 3) := by decide +kernel
theorem dX8_init_34 : decode cX8_init 34 = .ok (.aload_n 0, 1) := by decide +kernel
theorem dX8_init_35 : decode cX8_init 35 = .ok (.iconst 4, 1) := by decide +kernel
theorem dX8_init_36 : decode cX8_init 36 = .ok (.newarray .int, 2) := by decide +kernel
theorem dX8_init_38 : decode cX8_init 38 = .ok (.putfield 24, 3) := by decide +kernel
theorem dX8_init_41 : decode cX8_init 41 = .ok (.return_, 1) := by decide +kernel
theorem dX8_search_0 : decode cX8_search 0 = .ok (.aload_n 0, 1) := by decide +kernel
theorem dX8_search_1 : decode cX8_search 1 = .ok (.iconst 0, 1) := by decide +kernel
theorem dX8_search_2 : decode cX8_search 2 = .ok (.putfield 27, 3) := by decide +kernel
theorem dX8_search_5 : decode cX8_search 5 = .ok (.iconst 0, 1) := by decide +kernel
theorem dX8_search_6 : decode cX8_search 6 = .ok (.istore_n 3, 1) := by decide +kernel
theorem dX8_search_7 : decode cX8_search 7 = .ok (.iload_n 3, 1) := by decide +kernel
theorem dX8_search_8 : decode cX8_search 8 = .ok (.iconst 3, 1) := by decide +kernel
theorem dX8_search_9 : decode cX8_search 9 = .ok (.if_icmp .ge 16, 3) := by decide +kernel
theorem dX8_search_12 : decode cX8_search 12 = .ok (.aload_n 0, 1) := by decide +kernel
theorem dX8_search_13 : decode cX8_search 13 = .ok (.getfield 18, 3) := by decide +kernel
theorem dX8_search_16 : decode cX8_search 16 = .ok (.iload_n 3, 1) := by decide +kernel
theorem dX8_search_17 : decode cX8_search 17 = .ok (.iconst 0, 1) := by decide +kernel
theorem dX8_search_18 : decode cX8_search 18 = .ok (.iastore, 1) := by decide +kernel
theorem dX8_search_19 : decode cX8_search 19 = .ok (.iinc 3 1, 3) := by decide +kernel
theorem dX8_search_22 : decode cX8_search 22 = .ok (.goto (-15), 3) := by decide +kernel
theorem dX8_search_25 : decode cX8_search 25 = .ok (.iconst 0, 1) := by decide +kernel
theorem dX8_search_26 : decode cX8_search 26 = .ok (.istore_n 3, 1) := by decide +kernel
theorem dX8_search_27 : decode cX8_search 27 = .ok (.iload_n 3, 1) := by decide +kernel
theorem dX8_search_28 : decode cX8_search 28 = .ok (.aload_n 1, 1) := by decide +kernel
theorem dX8_search_29 : decode cX8_search 29 = .ok (.getfield 31, 3) := by decide +kernel
theorem dX8_search_32 : decode cX8_search 32 = .ok (.if_icmp .ge 86, 3) := by decide +kernel
theorem dX8_search_35 : decode cX8_search 35 = .ok (.iconst 0, 1) := by decide +kernel
theorem dX8_search_36 : decode cX8_search 36 = .ok (.istore 4, 2) := by decide +kernel
theorem dX8_search_38 : decode cX8_search 38 = .ok (.iload 4, 2) := by decide +kernel
theorem dX8_search_40 : decode cX8_search 40 = .ok (.aload_n 1, 1) := by decide +kernel
theorem dX8_search_41 : decode cX8_search 41 = .ok (.getfield 37, 3) := by decide +kernel
theorem dX8_search_44 : decode cX8_search 44 = .ok (.if_icmp .ge 68, 3) := by decide +kernel
theorem dX8_search_47 : decode cX8_search 47 = .ok (.aload_n 2, 1) := by decide +kernel
theorem dX8_search_48 : decode cX8_search 48 = .ok (.aload_n 1, 1) := by decide +kernel
theorem dX8_search_49 : decode cX8_search 49 = .ok (.aload_n 1, 1) := by decide +kernel
theorem dX8_search_50 : decode cX8_search 50 = .ok (.getfield 40, 3) := by decide +kernel
theorem dX8_search_53 : decode cX8_search 53 = .ok (.iload_n 3, 1) := by decide +kernel
theorem dX8_search_54 : decode cX8_search 54 = .ok (.aaload, 1) := by decide +kernel
theorem dX8_search_55 : decode cX8_search 55 = .ok (.aload_n 1, 1) := by decide +kernel
theorem dX8_search_56 : decode cX8_search 56 = .ok (.getfield 44, 3) := by decide +kernel
theorem dX8_search_59 : decode cX8_search 59 = .ok (.iload 4, 2) := by decide +kernel
theorem dX8_search_61 : decode cX8_search 61 = .ok (.aaload, 1) := by decide +kernel
theorem dX8_search_62 : decode cX8_search 62 = .ok (.invokevirtual 48, 3) := by decide +kernel
theorem dX8_search_65 : decode cX8_search 65 = .ok (.aload_n 0, 1) := by decide +kernel
theorem dX8_search_66 : decode cX8_search 66 = .ok (.getfield 9, 3) := by decide +kernel
theorem dX8_search_69 : decode cX8_search 69 = .ok (.iload_n 3, 1) := by decide +kernel
theorem dX8_search_70 : decode cX8_search 70 = .ok (.iconst 3, 1) := by decide +kernel
theorem dX8_search_71 : decode cX8_search 71 = .ok (.imul, 1) := by decide +kernel
theorem dX8_search_72 : decode cX8_search 72 = .ok (.iload 4, 2) := by decide +kernel
theorem dX8_search_74 : decode cX8_search 74 = .ok (.iadd, 1) := by decide +kernel
theorem dX8_search_75 : decode cX8_search 75 = .ok (.aload_n 2, 1) := by decide +kernel
theorem dX8_search_76 : decode cX8_search 76 = .ok (.getfield 54, 3) := by decide +kernel
theorem dX8_search_79 : decode cX8_search 79 = .ok (.ifCond .ne 7, 3) := by decide +kernel
theorem dX8_search_82 : decode cX8_search 82 = .ok (.iconst (-1), 1) := by decide +kernel
theorem dX8_search_83 : decode cX8_search 83 = .ok (.goto 7, 3) := by decide +kernel
theorem dX8_search_86 : decode cX8_search 86 = .ok (.aload_n 2, 1) := by decide +kernel
theorem dX8_search_87 : decode cX8_search 87 = .ok (.getfield 57, 3) := by decide +kernel
theorem dX8_search_90 : decode cX8_search 90 = .ok (.iastore, 1) := by decide +kernel
theorem dX8_search_91 : decode cX8_search 91 = .ok (.aload_n 0, 1) := by decide +kernel
theorem dX8_search_92 : decode cX8_search 92 = .ok (.getfield 15, 3) := by decide +kernel
theorem dX8_search_95 : decode cX8_search 95 = .ok (.iload_n 3, 1) := by decide +kernel
theorem dX8_search_96 : decode cX8_search 96 = .ok (.iconst 3, 1) := by decide +kernel
theorem dX8_search_97 : decode cX8_search 97 = .ok (.imul, 1) := by decide +kernel
theorem dX8_search_98 : decode cX8_search 98 = .ok (.iload 4, 2) := by decide +kernel
theorem dX8_search_100 : decode cX8_search 100 = .ok (.iadd, 1) := by decide +kernel
theorem dX8_search_101 : decode cX8_search 101 = .ok (.aload_n 2, 1) := by decide +kernel
theorem dX8_search_102 : decode cX8_search 102 = .ok (.getfield 60, 3) := by decide +kernel
theorem dX8_search_105 : decode cX8_search 105 = .ok (.iastore, 1) := by decide +kernel
theorem dX8_search_106 : decode cX8_search 106 = .ok (.iinc 4 1, 3) := by decide +kernel
theorem dX8_search_109 : decode cX8_search 109 = .ok (.goto (-71), 3) := by decide +kernel
theorem dX8_search_112 : decode cX8_search 112 = .ok (.iinc 3 1, 3) := by decide +kernel
theorem dX8_search_115 : decode cX8_search 115 = .ok (.goto (-88), 3) := by decide +kernel
theorem dX8_search_118 : decode cX8_search 118 = .ok (.aload_n 0, 1) := by decide +kernel
theorem dX8_search_119 : decode cX8_search 119 = .ok (.aload_n 1, 1) := by decide +kernel
theorem dX8_search_120 : decode cX8_search 120 = .ok (.iconst 0, 1) := by decide +kernel
theorem dX8_search_121 : decode cX8_search 121 = .ok (.iconst 0, 1) := by decide +kernel
theorem dX8_search_122 : decode cX8_search 122 = .ok (.iconst 0, 1) := by decide +kernel
theorem dX8_search_123 : decode cX8_search 123 = .ok (.invokevirtual 63, 3) := by decide +kernel
theorem dX8_search_126 : decode cX8_search 126 = .ok (.return_, 1) := by decide +kernel
theorem dX8_assign_0 : decode cX8_assign 0 = .ok (.iload_n 2, 1) := by decide +kernel
theorem dX8_assign_1 : decode cX8_assign 1 = .ok (.aload_n 1, 1) := by decide +kernel
theorem dX8_assign_2 : decode cX8_assign 2 = .ok (.getfield 31, 3) := by decide +kernel
theorem dX8_assign_5 : decode cX8_assign 5 = .ok (.if_icmp .ge 8, 3) := by decide +kernel
theorem dX8_assign_8 : decode cX8_assign 8 = .ok (.iload_n 2, 1) := by decide +kernel
theorem dX8_assign_9 : decode cX8_assign 9 = .ok (.iconst 4, 1) := by decide +kernel
theorem dX8_assign_10 : decode cX8_assign 10 = .ok (.if_icmp .lt 11, 3) := by decide +kernel
theorem dX8_assign_13 : decode cX8_assign 13 = .ok (.aload_n 0, 1) := by decide +kernel
theorem dX8_assign_14 : decode cX8_assign 14 = .ok (.iload_n 3, 1) := by decide +kernel
theorem dX8_assign_15 : decode cX8_assign 15 = .ok (.iload 4, 2) := by decide +kernel
theorem dX8_assign_17 : decode cX8_assign 17 = .ok (.invokevirtual 67, 3) := by decide +kernel
theorem dX8_assign_20 : decode cX8_assign 20 = .ok (.return_, 1) := by decide +kernel
theorem dX8_assign_21 : decode cX8_assign 21 = .ok (.aload_n 1, 1) := by decide +kernel
theorem dX8_assign_22 : decode cX8_assign 22 = .ok (.getfield 40, 3) := by decide +kernel
theorem dX8_assign_25 : decode cX8_assign 25 = .ok (.iload_n 2, 1) := by decide +kernel
theorem dX8_assign_26 : decode cX8_assign 26 = .ok (.aaload, 1) := by decide +kernel
theorem dX8_assign_27 : decode cX8_assign 27 = .ok (.astore 5, 2) := by decide +kernel
theorem dX8_assign_29 : decode cX8_assign 29 = .ok (.aload 5, 2) := by decide +kernel
theorem dX8_assign_31 : decode cX8_assign 31 = .ok (.getfield 71, 3) := by decide +kernel
theorem dX8_assign_34 : decode cX8_assign 34 = .ok (.bipush 7, 2) := by decide +kernel
theorem dX8_assign_36 : decode cX8_assign 36 = .ok (.if_icmp .ne 34, 3) := by decide +kernel
theorem dX8_assign_39 : decode cX8_assign 39 = .ok (.aload_n 0, 1) := by decide +kernel
theorem dX8_assign_40 : decode cX8_assign 40 = .ok (.getfield 21, 3) := by decide +kernel
theorem dX8_assign_43 : decode cX8_assign 43 = .ok (.iload_n 2, 1) := by decide +kernel
theorem dX8_assign_44 : decode cX8_assign 44 = .ok (.iconst (-1), 1) := by decide +kernel
theorem dX8_assign_45 : decode cX8_assign 45 = .ok (.iastore, 1) := by decide +kernel
theorem dX8_assign_46 : decode cX8_assign 46 = .ok (.aload_n 0, 1) := by decide +kernel
theorem dX8_assign_47 : decode cX8_assign 47 = .ok (.aload_n 1, 1) := by decide +kernel
theorem dX8_assign_48 : decode cX8_assign 48 = .ok (.iload_n 2, 1) := by decide +kernel
theorem dX8_assign_49 : decode cX8_assign 49 = .ok (.iconst 1, 1) := by decide +kernel
theorem dX8_assign_50 : decode cX8_assign 50 = .ok (.iadd, 1) := by decide +kernel
