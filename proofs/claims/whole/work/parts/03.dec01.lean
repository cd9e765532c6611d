theorem dX3_takeFrom_35 : decode cX3_takeFrom 35 = .ok (.invokestatic 43, 3) := by decide +kernel
theorem dX3_takeFrom_38 : decode cX3_takeFrom 38 = .ok (.aload_n 1, 1) := by decide +kernel
theorem dX3_takeFrom_39 : decode cX3_takeFrom 39 = .ok (.getfield 22, 3) := by decide +kernel
theorem dX3_takeFrom_42 : decode cX3_takeFrom 42 = .ok (.iconst 0, 1) := by decide +kernel
theorem dX3_takeFrom_43 : decode cX3_takeFrom 43 = .ok (.aload_n 0, 1) := by decide +kernel
theorem dX3_takeFrom_44 : decode cX3_takeFrom 44 = .ok (.getfield 22, 3) := by decide +kernel
theorem dX3_takeFrom_47 : decode cX3_takeFrom 47 = .ok (.iconst 0, 1) := by decide +kernel
theorem dX3_takeFrom_48 : decode cX3_takeFrom 48 = .ok (.bipush 8, 2) := by decide +kernel
theorem dX3_takeFrom_50 : decode cX3_takeFrom 50 = .ok (.invokestatic 43, 3) := by decide +kernel
theorem dX3_takeFrom_53 : decode cX3_takeFrom 53 = .ok (.aload_n 1, 1) := by decide +kernel
theorem dX3_takeFrom_54 : decode cX3_takeFrom 54 = .ok (.getfield 25, 3) := by decide +kernel
theorem dX3_takeFrom_57 : decode cX3_takeFrom 57 = .ok (.iconst 0, 1) := by decide +kernel
theorem dX3_takeFrom_58 : decode cX3_takeFrom 58 = .ok (.aload_n 0, 1) := by decide +kernel
theorem dX3_takeFrom_59 : decode cX3_takeFrom 59 = .ok (.getfield 25, 3) := by decide +kernel
theorem dX3_takeFrom_62 : decode cX3_takeFrom 62 = .ok (.iconst 0, 1) := by decide +kernel
theorem dX3_takeFrom_63 : decode cX3_takeFrom 63 = .ok (.bipush 8, 2) := by decide +kernel
theorem dX3_takeFrom_65 : decode cX3_takeFrom 65 = .ok (.invokestatic 43, 3) := by decide +kernel
theorem dX3_takeFrom_68 : decode cX3_takeFrom 68 = .ok (.aload_n 0, 1) := by decide +kernel
theorem dX3_takeFrom_69 : decode cX3_takeFrom 69 = .ok (.aload_n 1, 1) := by decide +kernel
theorem dX3_takeFrom_70 : decode cX3_takeFrom 70 = .ok (.getfield 28, 3) := by decide +kernel
theorem dX3_takeFrom_73 : decode cX3_takeFrom 73 = .ok (.putfield 28, 3) := by decide +kernel
theorem dX3_takeFrom_76 : decode cX3_takeFrom 76 = .ok (.aload_n 0, 1) := by decide +kernel
theorem dX3_takeFrom_77 : decode cX3_takeFrom 77 = .ok (.aload_n 1, 1) := by decide +kernel
theorem dX3_takeFrom_78 : decode cX3_takeFrom 78 = .ok (.getfield 31, 3) := by decide +kernel
theorem dX3_takeFrom_81 : decode cX3_takeFrom 81 = .ok (.putfield 31, 3) := by decide +kernel
theorem dX3_takeFrom_84 : decode cX3_takeFrom 84 = .ok (.aload_n 0, 1) := by decide +kernel
theorem dX3_takeFrom_85 : decode cX3_takeFrom 85 = .ok (.aload_n 1, 1) := by decide +kernel
theorem dX3_takeFrom_86 : decode cX3_takeFrom 86 = .ok (.getfield 34, 3) := by decide +kernel
theorem dX3_takeFrom_89 : decode cX3_takeFrom 89 = .ok (.putfield 34, 3) := by decide +kernel
theorem dX3_takeFrom_92 : decode cX3_takeFrom 92 = .ok (.aload_n 0, 1) := by decide +kernel
theorem dX3_takeFrom_93 : decode cX3_takeFrom 93 = .ok (.aload_n 1, 1) := by decide +kernel
theorem dX3_takeFrom_94 : decode cX3_takeFrom 94 = .ok (.getfield 37, 3) := by decide +kernel
theorem dX3_takeFrom_97 : decode cX3_takeFrom 97 = .ok (.putfield 37, 3) := by decide +kernel
theorem dX3_takeFrom_100 : decode cX3_takeFrom 100 = .ok (.aload_n 0, 1) := by decide +kernel
theorem dX3_takeFrom_101 : decode cX3_takeFrom 101 = .ok (.aload_n 1, 1) := by decide +kernel
theorem dX3_takeFrom_102 : decode cX3_takeFrom 102 = .ok (.getfield 40, 3) := by decide +kernel
theorem dX3_takeFrom_105 : decode cX3_takeFrom 105 = .ok (.putfield 40, 3) := by decide +kernel
theorem dX3_takeFrom_108 : decode cX3_takeFrom 108 = .ok (.return_, 1) := by decide +kernel
theorem dX3_hasThing_0 : decode cX3_hasThing 0 = .ok (.iload_n 1, 1) := by decide +kernel
theorem dX3_hasThing_1 : decode cX3_hasThing 1 = .ok (.ifCond .lt 15, 3) := by decide +kernel
theorem dX3_hasThing_4 : decode cX3_hasThing 4 = .ok (.iload_n 1, 1) := by decide +kernel
theorem dX3_hasThing_5 : decode cX3_hasThing 5 = .ok (.aload_n 0, 1) := by decide +kernel
theorem dX3_hasThing_6 : decode cX3_hasThing 6 = .ok (.getfield 9, 3) := by decide +kernel
theorem dX3_hasThing_9 : decode cX3_hasThing 9 = .ok (.if_icmp .ge 7, 3) := by decide +kernel
theorem dX3_hasThing_12 : decode cX3_hasThing 12 = .ok (.iconst 1, 1) := by decide +kernel
theorem dX3_hasThing_13 : decode cX3_hasThing 13 = .ok (.goto 4, 3) := by decide +kernel
theorem dX3_hasThing_16 : decode cX3_hasThing 16 = .ok (.iconst 0, 1) := by decide +kernel
theorem dX3_hasThing_17 : decode cX3_hasThing 17 = .ok (.ireturn, 1) := by decide +kernel
theorem dX3_allThings_0 : decode cX3_allThings 0 = .ok (.iconst 1, 1) := by decide +kernel
theorem dX3_allThings_1 : decode cX3_allThings 1 = .ok (.aload_n 0, 1) := by decide +kernel
theorem dX3_allThings_2 : decode cX3_allThings 2 = .ok (.getfield 9, 3) := by decide +kernel
theorem dX3_allThings_5 : decode cX3_allThings 5 = .ok (.ishl, 1) := by decide +kernel
theorem dX3_allThings_6 : decode cX3_allThings 6 = .ok (.iconst 1, 1) := by decide +kernel
theorem dX3_allThings_7 : decode cX3_allThings 7 = .ok (.isub, 1) := by decide +kernel
theorem dX3_allThings_8 : decode cX3_allThings 8 = .ok (.ireturn, 1) := by decide +kernel
theorem dX3_isLit_0 : decode cX3_isLit 0 = .ok (.aload_n 0, 1) := by decide +kernel
theorem dX3_isLit_1 : decode cX3_isLit 1 = .ok (.getfield 28, 3) := by decide +kernel
theorem dX3_isLit_4 : decode cX3_isLit 4 = .ok (.iload_n 1, 1) := by decide +kernel
theorem dX3_isLit_5 : decode cX3_isLit 5 = .ok (.ishr, 1) := by decide +kernel
theorem dX3_isLit_6 : decode cX3_isLit 6 = .ok (.iconst 1, 1) := by decide +kernel
theorem dX3_isLit_7 : decode cX3_isLit 7 = .ok (.iand, 1) := by decide +kernel
theorem dX3_isLit_8 : decode cX3_isLit 8 = .ok (.iconst 1, 1) := by decide +kernel
theorem dX3_isLit_9 : decode cX3_isLit 9 = .ok (.if_icmp .ne 7, 3) := by decide +kernel
theorem dX3_isLit_12 : decode cX3_isLit 12 = .ok (.iconst 1, 1) := by decide +kernel
theorem dX3_isLit_13 : decode cX3_isLit 13 = .ok (.goto 4, 3) := by decide +kernel
theorem dX3_isLit_16 : decode cX3_isLit 16 = .ok (.iconst 0, 1) := by decide +kernel
theorem dX3_isLit_17 : decode cX3_isLit 17 = .ok (.ireturn, 1) := by decide +kernel
theorem dX3_isOut_0 : decode cX3_isOut 0 = .ok (.aload_n 0, 1) := by decide +kernel
theorem dX3_isOut_1 : decode cX3_isOut 1 = .ok (.getfield 31, 3) := by decide +kernel
theorem dX3_isOut_4 : decode cX3_isOut 4 = .ok (.iload_n 1, 1) := by decide +kernel
theorem dX3_isOut_5 : decode cX3_isOut 5 = .ok (.ishr, 1) := by decide +kernel
theorem dX3_isOut_6 : decode cX3_isOut 6 = .ok (.iconst 1, 1) := by decide +kernel
theorem dX3_isOut_7 : decode cX3_isOut 7 = .ok (.iand, 1) := by decide +kernel
theorem dX3_isOut_8 : decode cX3_isOut 8 = .ok (.iconst 1, 1) := by decide +kernel
theorem dX3_isOut_9 : decode cX3_isOut 9 = .ok (.if_icmp .ne 7, 3) := by decide +kernel
theorem dX3_isOut_12 : decode cX3_isOut 12 = .ok (.iconst 1, 1) := by decide +kernel
theorem dX3_isOut_13 : decode cX3_isOut 13 = .ok (.goto 4, 3) := by decide +kernel
theorem dX3_isOut_16 : decode cX3_isOut 16 = .ok (.iconst 0, 1) := by decide +kernel
theorem dX3_isOut_17 : decode cX3_isOut 17 = .ok (.ireturn, 1) := by decide +kernel
theorem dX3_isAsh_0 : decode cX3_isAsh 0 = .ok (.aload_n 0, 1) := by decide +kernel
theorem dX3_isAsh_1 : decode cX3_isAsh 1 = .ok (.getfield 19, 3) := by decide +kernel
theorem dX3_isAsh_4 : decode cX3_isAsh 4 = .ok (.iload_n 1, 1) := by decide +kernel
theorem dX3_isAsh_5 : decode cX3_isAsh 5 = .ok (.iaload, 1) := by decide +kernel
theorem dX3_isAsh_6 : decode cX3_isAsh 6 = .ok (.ifCond .ne 7, 3) := by decide +kernel
theorem dX3_isAsh_9 : decode cX3_isAsh 9 = .ok (.iconst 1, 1) := by decide +kernel
theorem dX3_isAsh_10 : decode cX3_isAsh 10 = .ok (.goto 4, 3) := by decide +kernel
theorem dX3_isAsh_13 : decode cX3_isAsh 13 = .ok (.iconst 0, 1) := by decide +kernel
theorem dX3_isAsh_14 : decode cX3_isAsh 14 = .ok (.ireturn, 1) := by decide +kernel
theorem dX3_canBurn_0 : decode cX3_canBurn 0 = .ok (.getstatic 49, 3) := by decide +kernel
theorem dX3_canBurn_3 : decode cX3_canBurn 3 = .ok (.aload_n 0, 1) := by decide +kernel
theorem dX3_canBurn_4 : decode cX3_canBurn 4 = .ok (.getfield 15, 3) := by decide +kernel
theorem dX3_canBurn_7 : decode cX3_canBurn 7 = .ok (.iload_n 1, 1) := by decide +kernel
theorem dX3_canBurn_8 : decode cX3_canBurn 8 = .ok (.iaload, 1) := by decide +kernel
theorem dX3_canBurn_9 : decode cX3_canBurn 9 = .ok (.iaload, 1) := by decide +kernel
theorem dX3_canBurn_10 : decode cX3_canBurn 10 = .ok (.ifCond .le 23, 3) := by decide +kernel
theorem dX3_canBurn_13 : decode cX3_canBurn 13 = .ok (.aload_n 0, 1) := by decide +kernel
theorem dX3_canBurn_14 : decode cX3_canBurn 14 = .ok (.iload_n 1, 1) := by decide +kernel
theorem dX3_canBurn_15 : decode cX3_canBurn 15 = .ok (.invokevirtual 52, 3) := by decide +kernel
theorem dX3_canBurn_18 : decode cX3_canBurn 18 = .ok (.ifCond .ne 15, 3) := by decide +kernel
theorem dX3_canBurn_21 : decode cX3_canBurn 21 = .ok (.aload_n 0, 1) := by decide +kernel
theorem dX3_canBurn_22 : decode cX3_canBurn 22 = .ok (.iload_n 1, 1) := by decide +kernel
theorem dX3_canBurn_23 : decode cX3_canBurn 23 = .ok (.invokevirtual 56, 3) := by decide +kernel
theorem dX3_canBurn_26 : decode cX3_canBurn 26 = .ok (.ifCond .ne 7, 3) := by decide +kernel
theorem dX3_canBurn_29 : decode cX3_canBurn 29 = .ok (.iconst 1, 1) := by decide +kernel
theorem dX3_canBurn_30 : decode cX3_canBurn 30 = .ok (.goto 4, 3) := by decide +kernel
theorem dX3_canBurn_33 : decode cX3_canBurn 33 = .ok (.iconst 0, 1) := by decide +kernel
theorem dX3_canBurn_34 : decode cX3_canBurn 34 = .ok (.ireturn, 1) := by decide +kernel
theorem dX3_mayBeLit_0 : decode cX3_mayBeLit 0 = .ok (.aload_n 0, 1) := by decide +kernel
theorem dX3_mayBeLit_1 : decode cX3_mayBeLit 1 = .ok (.iload_n 1, 1) := by decide +kernel
theorem dX3_mayBeLit_2 : decode cX3_mayBeLit 2 = .ok (.invokevirtual 59, 3) := by decide +kernel
theorem dX3_mayBeLit_5 : decode cX3_mayBeLit 5 = .ok (.ifCond .eq 24, 3) := by decide +kernel
theorem dX3_mayBeLit_8 : decode cX3_mayBeLit 8 = .ok (.aload_n 0, 1) := by decide +kernel
theorem dX3_mayBeLit_9 : decode cX3_mayBeLit 9 = .ok (.getfield 22, 3) := by decide +kernel
theorem dX3_mayBeLit_12 : decode cX3_mayBeLit 12 = .ok (.iload_n 1, 1) := by decide +kernel
theorem dX3_mayBeLit_13 : decode cX3_mayBeLit 13 = .ok (.iaload, 1) := by decide +kernel
theorem dX3_mayBeLit_14 : decode cX3_mayBeLit 14 = .ok (.ifCond .ne 15, 3) := by decide +kernel
theorem dX3_mayBeLit_17 : decode cX3_mayBeLit 17 = .ok (.aload_n 0, 1) := by decide +kernel
theorem dX3_mayBeLit_18 : decode cX3_mayBeLit 18 = .ok (.iload_n 1, 1) := by decide +kernel
theorem dX3_mayBeLit_19 : decode cX3_mayBeLit 19 = .ok (.invokevirtual 62, 3) := by decide +kernel
theorem dX3_mayBeLit_22 : decode cX3_mayBeLit 22 = .ok (.ifCond .ne 7, 3) := by decide +kernel
theorem dX3_mayBeLit_25 : decode cX3_mayBeLit 25 = .ok (.iconst 1, 1) := by decide +kernel
theorem dX3_mayBeLit_26 : decode cX3_mayBeLit 26 = .ok (.goto 4, 3) := by decide +kernel
theorem dX3_mayBeLit_29 : decode cX3_mayBeLit 29 = .ok (.iconst 0, 1) := by decide +kernel
theorem dX3_mayBeLit_30 : decode cX3_mayBeLit 30 = .ok (.ireturn, 1) := by decide +kernel
theorem dX3_ashes_0 : decode cX3_ashes 0 = .ok (.iconst 0, 1) := by decide +kernel
theorem dX3_ashes_1 : decode cX3_ashes 1 = .ok (.istore_n 1, 1) := by decide +kernel
theorem dX3_ashes_2 : decode cX3_ashes 2 = .ok (.iconst 0, 1) := by decide +kernel
theorem dX3_ashes_3 : decode cX3_ashes 3 = .ok (.istore_n 2, 1) := by decide +kernel
theorem dX3_ashes_4 : decode cX3_ashes 4 = .ok (.iload_n 2, 1) := by decide +kernel
theorem dX3_ashes_5 : decode cX3_ashes 5 = .ok (.aload_n 0, 1) := by decide +kernel
theorem dX3_ashes_6 : decode cX3_ashes 6 = .ok (.getfield 9, 3) := by decide +kernel
theorem dX3_ashes_9 : decode cX3_ashes 9 = .ok (.if_icmp .ge 23, 3) := by decide +kernel
theorem dX3_ashes_12 : decode cX3_ashes 12 = .ok (.aload_n 0, 1) := by decide +kernel
theorem dX3_ashes_13 : decode cX3_ashes 13 = .ok (.iload_n 2, 1) := by decide +kernel
theorem dX3_ashes_14 : decode cX3_ashes 14 = .ok (.invokevirtual 52, 3) := by decide +kernel
theorem dX3_ashes_17 : decode cX3_ashes 17 = .ok (.ifCond .eq 9, 3) := by decide +kernel
theorem dX3_ashes_20 : decode cX3_ashes 20 = .ok (.iload_n 1, 1) := by decide +kernel
theorem dX3_ashes_21 : decode cX3_ashes 21 = .ok (.iconst 1, 1) := by decide +kernel
theorem dX3_ashes_22 : decode cX3_ashes 22 = .ok (.iload_n 2, 1) := by decide +kernel
theorem dX3_ashes_23 : decode cX3_ashes 23 = .ok (.ishl, 1) := by decide +kernel
theorem dX3_ashes_24 : decode cX3_ashes 24 = .ok (.ior, 1) := by decide +kernel
theorem dX3_ashes_25 : decode cX3_ashes 25 = .ok (.istore_n 1, 1) := by decide +kernel
theorem dX3_ashes_26 : decode cX3_ashes 26 = .ok (.iinc 2 1, 3) := by decide +kernel
theorem dX3_ashes_29 : decode cX3_ashes 29 = .ok (.goto (-25), 3) := by decide +kernel
theorem dX3_ashes_32 : decode cX3_ashes 32 = .ok (.iload_n 1, 1) := by decide +kernel
theorem dX3_ashes_33 : decode cX3_ashes 33 = .ok (.ireturn, 1) := by decide +kernel
theorem dX3_burnables_0 : decode cX3_burnables 0 = .ok (.iconst 0, 1) := by decide +kernel
theorem dX3_burnables_1 : decode cX3_burnables 1 = .ok (.istore_n 1, 1) := by decide +kernel
theorem dX3_burnables_2 : decode cX3_burnables 2 = .ok (.iconst 0, 1) := by decide +kernel
theorem dX3_burnables_3 : decode cX3_burnables 3 = .ok (.istore_n 2, 1) := by decide +kernel
theorem dX3_burnables_4 : decode cX3_burnables 4 = .ok (.iload_n 2, 1) := by decide +kernel
theorem dX3_burnables_5 : decode cX3_burnables 5 = .ok (.aload_n 0, 1) := by decide +kernel
theorem dX3_burnables_6 : decode cX3_burnables 6 = .ok (.getfield 9, 3) := by decide +kernel
theorem dX3_burnables_9 : decode cX3_burnables 9 = .ok (.if_icmp .ge 23, 3) := by decide +kernel
theorem dX3_burnables_12 : decode cX3_burnables 12 = .ok (.aload_n 0, 1) := by decide +kernel
theorem dX3_burnables_13 : decode cX3_burnables 13 = .ok (.iload_n 2, 1) := by decide +kernel
theorem dX3_burnables_14 : decode cX3_burnables 14 = .ok (.invokevirtual 59, 3) := by decide +kernel
theorem dX3_burnables_17 : decode cX3_burnables 17 = .ok (.ifCond .eq 9, 3) := by decide +kernel
theorem dX3_burnables_20 : decode cX3_burnables 20 = .ok (.iload_n 1, 1) := by decide +kernel
theorem dX3_burnables_21 : decode cX3_burnables 21 = .ok (.iconst 1, 1) := by decide +kernel
theorem dX3_burnables_22 : decode cX3_burnables 22 = .ok (.iload_n 2, 1) := by decide +kernel
theorem dX3_burnables_23 : decode cX3_burnables 23 = .ok (.ishl, 1) := by decide +kernel
theorem dX3_burnables_24 : decode cX3_burnables 24 = .ok (.ior, 1) := by decide +kernel
theorem dX3_burnables_25 : decode cX3_burnables 25 = .ok (.istore_n 1, 1) := by decide +kernel
theorem dX3_burnables_26 : decode cX3_burnables 26 = .ok (.iinc 2 1, 3) := by decide +kernel
theorem dX3_burnables_29 : decode cX3_burnables 29 = .ok (.goto (-25), 3) := by decide +kernel
theorem dX3_burnables_32 : decode cX3_burnables 32 = .ok (.iload_n 1, 1) := by decide +kernel
theorem dX3_burnables_33 : decode cX3_burnables 33 = .ok (.ireturn, 1) := by decide +kernel
theorem dX3_lightables_0 : decode cX3_lightables 0 = .ok (.iconst 0, 1) := by decide +kernel
theorem dX3_lightables_1 : decode cX3_lightables 1 = .ok (.istore_n 1, 1) := by decide +kernel
theorem dX3_lightables_2 : decode cX3_lightables 2 = .ok (.iconst 0, 1) := by decide +kernel
theorem dX3_lightables_3 : decode cX3_lightables 3 = .ok (.istore_n 2, 1) := by decide +kernel
theorem dX3_lightables_4 : decode cX3_lightables 4 = .ok (.iload_n 2, 1) := by decide +kernel
theorem dX3_lightables_5 : decode cX3_lightables 5 = .ok (.aload_n 0, 1) := by decide +kernel
theorem dX3_lightables_6 : decode cX3_lightables 6 = .ok (.getfield 9, 3) := by decide +kernel
theorem dX3_lightables_9 : decode cX3_lightables 9 = .ok (.if_icmp .ge 23, 3) := by decide +kernel
theorem dX3_lightables_12 : decode cX3_lightables 12 = .ok (.aload_n 0, 1) := by decide +kernel
theorem dX3_lightables_13 : decode cX3_lightables 13 = .ok (.iload_n 2, 1) := by decide +kernel
theorem dX3_lightables_14 : decode cX3_lightables 14 = .ok (.invokevirtual 65, 3) := by decide +kernel
theorem dX3_lightables_17 : decode cX3_lightables 17 = .ok (.ifCond .eq 9, 3) := by decide +kernel
theorem dX3_lightables_20 : decode cX3_lightables 20 = .ok (.iload_n 1, 1) := by decide +kernel
theorem dX3_lightables_21 : decode cX3_lightables 21 = .ok (.iconst 1, 1) := by decide +kernel
theorem dX3_lightables_22 : decode cX3_lightables 22 = .ok (.iload_n 2, 1) := by decide +kernel
theorem dX3_lightables_23 : decode cX3_lightables 23 = .ok (.ishl, 1) := by decide +kernel
theorem dX3_lightables_24 : decode cX3_lightables 24 = .ok (.ior, 1) := by decide +kernel
theorem dX3_lightables_25 : decode cX3_lightables 25 = .ok (.istore_n 1, 1) := by decide +kernel
theorem dX3_lightables_26 : decode cX3_lightables 26 = .ok (.iinc 2 1, 3) := by decide +kernel
theorem dX3_lightables_29 : decode cX3_lightables 29 = .ok (.goto (-25), 3) := by decide +kernel
theorem dX3_lightables_32 : decode cX3_lightables 32 = .ok (.iload_n 1, 1) := by decide +kernel
theorem dX3_lightables_33 : decode cX3_lightables 33 = .ok (.ireturn, 1) := by decide +kernel
theorem dX3_lightByHand_0 : decode cX3_lightByHand 0 = .ok (.aload_n 0, 1) := by decide +kernel
theorem dX3_lightByHand_1 : decode cX3_lightByHand 1 = .ok (.dup, 1) := by decide +kernel
theorem dX3_lightByHand_2 : decode cX3_lightByHand 2 = .ok (.getfield 28, 3) := by decide +kernel
theorem dX3_lightByHand_5 : decode cX3_lightByHand 5 = .ok (.iconst 1, 1) := by decide +kernel
theorem dX3_lightByHand_6 : decode cX3_lightByHand 6 = .ok (.iload_n 1, 1) := by decide +kernel
theorem dX3_lightByHand_7 : decode cX3_lightByHand 7 = .ok (.ishl, 1) := by decide +kernel
theorem dX3_lightByHand_8 : decode cX3_lightByHand 8 = .ok (.ior, 1) := by decide +kernel
theorem dX3_lightByHand_9 : decode cX3_lightByHand 9 = .ok (.putfield 28, 3) := by decide +kernel
theorem dX3_lightByHand_12 : decode cX3_lightByHand 12 = .ok (.return_, 1) := by decide +kernel
theorem dX3_quench_0 : decode cX3_quench 0 = .ok (.aload_n 0, 1) := by decide +kernel
theorem dX3_quench_1 : decode cX3_quench 1 = .ok (.dup, 1) := by decide +kernel
theorem dX3_quench_2 : decode cX3_quench 2 = .ok (.getfield 28, 3) := by decide +kernel
theorem dX3_quench_5 : decode cX3_quench 5 = .ok (.iconst 1, 1) := by decide +kernel
theorem dX3_quench_6 : decode cX3_quench 6 = .ok (.iload_n 1, 1) := by decide +kernel
theorem dX3_quench_7 : decode cX3_quench 7 = .ok (.ishl, 1) := by decide +kernel
theorem dX3_quench_8 : decode cX3_quench 8 = .ok (.iconst (-1), 1) := by decide +kernel
theorem dX3_quench_9 : decode cX3_quench 9 = .ok (.ixor, 1) := by decide +kernel
theorem dX3_quench_10 : decode cX3_quench 10 = .ok (.iand, 1) := by decide +kernel
theorem dX3_quench_11 : decode cX3_quench 11 = .ok (.putfield 28, 3) := by decide +kernel
theorem dX3_quench_14 : decode cX3_quench 14 = .ok (.return_, 1) := by decide +kernel
theorem dX3_pourOn_0 : decode cX3_pourOn 0 = .ok (.aload_n 0, 1) := by decide +kernel
theorem dX3_pourOn_1 : decode cX3_pourOn 1 = .ok (.getfield 22, 3) := by decide +kernel
theorem dX3_pourOn_4 : decode cX3_pourOn 4 = .ok (.iload_n 1, 1) := by decide +kernel
theorem dX3_pourOn_5 : decode cX3_pourOn 5 = .ok (.bipush 20, 2) := by decide +kernel
theorem dX3_pourOn_7 : decode cX3_pourOn 7 = .ok (.aload_n 0, 1) := by decide +kernel
theorem dX3_pourOn_8 : decode cX3_pourOn 8 = .ok (.getfield 22, 3) := by decide +kernel
theorem dX3_pourOn_11 : decode cX3_pourOn 11 = .ok (.iload_n 1, 1) := by decide +kernel
theorem dX3_pourOn_12 : decode cX3_pourOn 12 = .ok (.iaload, 1) := by decide +kernel
theorem dX3_pourOn_13 : decode cX3_pourOn 13 = .ok (.iload_n 2, 1) := by decide +kernel
theorem dX3_pourOn_14 : decode cX3_pourOn 14 = .ok (.iadd, 1) := by decide +kernel
theorem dX3_pourOn_15 : decode cX3_pourOn 15 = .ok (.invokestatic 68, 3) := by decide +kernel
theorem dX3_pourOn_18 : decode cX3_pourOn 18 = .ok (.iastore, 1) := by decide +kernel
theorem dX3_pourOn_19 : decode cX3_pourOn 19 = .ok (.aload_n 0, 1) := by decide +kernel
theorem dX3_pourOn_20 : decode cX3_pourOn 20 = .ok (.iload_n 1, 1) := by decide +kernel
theorem dX3_pourOn_21 : decode cX3_pourOn 21 = .ok (.invokevirtual 74, 3) := by decide +kernel
theorem dX3_pourOn_24 : decode cX3_pourOn 24 = .ok (.return_, 1) := by decide +kernel
theorem dX3_rakeOut_0 : decode cX3_rakeOut 0 = .ok (.aload_n 0, 1) := by decide +kernel
theorem dX3_rakeOut_1 : decode cX3_rakeOut 1 = .ok (.dup, 1) := by decide +kernel
theorem dX3_rakeOut_2 : decode cX3_rakeOut 2 = .ok (.getfield 31, 3) := by decide +kernel
theorem dX3_rakeOut_5 : decode cX3_rakeOut 5 = .ok (.iconst 1, 1) := by decide +kernel
theorem dX3_rakeOut_6 : decode cX3_rakeOut 6 = .ok (.iload_n 1, 1) := by decide +kernel
theorem dX3_rakeOut_7 : decode cX3_rakeOut 7 = .ok (.ishl, 1) := by decide +kernel
theorem dX3_rakeOut_8 : decode cX3_rakeOut 8 = .ok (.ior, 1) := by decide +kernel
theorem dX3_rakeOut_9 : decode cX3_rakeOut 9 = .ok (.putfield 31, 3) := by decide +kernel
theorem dX3_rakeOut_12 : decode cX3_rakeOut 12 = .ok (.aload_n 0, 1) := by decide +kernel
theorem dX3_rakeOut_13 : decode cX3_rakeOut 13 = .ok (.iload_n 1, 1) := by decide +kernel
theorem dX3_rakeOut_14 : decode cX3_rakeOut 14 = .ok (.invokevirtual 74, 3) := by decide +kernel
theorem dX3_rakeOut_17 : decode cX3_rakeOut 17 = .ok (.return_, 1) := by decide +kernel
theorem dX3_layOn_0 : decode cX3_layOn 0 = .ok (.aload_n 0, 1) := by decide +kernel
theorem dX3_layOn_1 : decode cX3_layOn 1 = .ok (.dup, 1) := by decide +kernel
theorem dX3_layOn_2 : decode cX3_layOn 2 = .ok (.getfield 31, 3) := by decide +kernel
theorem dX3_layOn_5 : decode cX3_layOn 5 = .ok (.iconst 1, 1) := by decide +kernel
theorem dX3_layOn_6 : decode cX3_layOn 6 = .ok (.iload_n 1, 1) := by decide +kernel
theorem dX3_layOn_7 : decode cX3_layOn 7 = .ok (.ishl, 1) := by decide +kernel
theorem dX3_layOn_8 : decode cX3_layOn 8 = .ok (.iconst (-1), 1) := by decide +kernel
theorem dX3_layOn_9 : decode cX3_layOn 9 = .ok (.ixor, 1) := by decide +kernel
theorem dX3_layOn_10 : decode cX3_layOn 10 = .ok (.iand, 1) := by decide +kernel
theorem dX3_layOn_11 : decode cX3_layOn 11 = .ok (.putfield 31, 3) := by decide +kernel
theorem dX3_layOn_14 : decode cX3_layOn 14 = .ok (.return_, 1) := by decide +kernel
theorem dX3_changePlaces_0 : decode cX3_changePlaces 0 = .ok (.aload_n 0, 1) := by decide +kernel
theorem dX3_changePlaces_1 : decode cX3_changePlaces 1 = .ok (.getfield 25, 3) := by decide +kernel
theorem dX3_changePlaces_4 : decode cX3_changePlaces 4 = .ok (.iload_n 1, 1) := by decide +kernel
theorem dX3_changePlaces_5 : decode cX3_changePlaces 5 = .ok (.iaload, 1) := by decide +kernel
theorem dX3_changePlaces_6 : decode cX3_changePlaces 6 = .ok (.istore_n 3, 1) := by decide +kernel
theorem dX3_changePlaces_7 : decode cX3_changePlaces 7 = .ok (.aload_n 0, 1) := by decide +kernel
theorem dX3_changePlaces_8 : decode cX3_changePlaces 8 = .ok (.getfield 25, 3) := by decide +kernel
theorem dX3_changePlaces_11 : decode cX3_changePlaces 11 = .ok (.iload_n 1, 1) := by decide +kernel
theorem dX3_changePlaces_12 : decode cX3_changePlaces 12 = .ok (.aload_n 0, 1) := by decide +kernel
theorem dX3_changePlaces_13 : decode cX3_changePlaces 13 = .ok (.getfield 25, 3) := by decide +kernel
theorem dX3_changePlaces_16 : decode cX3_changePlaces 16 = .ok (.iload_n 2, 1) := by decide +kernel
theorem dX3_changePlaces_17 : decode cX3_changePlaces 17 = .ok (.iaload, 1) := by decide +kernel
theorem dX3_changePlaces_18 : decode cX3_changePlaces 18 = .ok (.iastore, 1) := by decide +kernel
theorem dX3_changePlaces_19 : decode cX3_changePlaces 19 = .ok (.aload_n 0, 1) := by decide +kernel
theorem dX3_changePlaces_20 : decode cX3_changePlaces 20 = .ok (.getfield 25, 3) := by decide +kernel
theorem dX3_changePlaces_23 : decode cX3_changePlaces 23 = .ok (.iload_n 2, 1) := by decide +kernel
theorem dX3_changePlaces_24 : decode cX3_changePlaces 24 = .ok (.iload_n 3, 1) := by decide +kernel
theorem dX3_changePlaces_25 : decode cX3_changePlaces 25 = .ok (.iastore, 1) := by decide +kernel
theorem dX3_changePlaces_26 : decode cX3_changePlaces 26 = .ok (.return_, 1) := by decide +kernel
theorem dX3_turnWind_0 : decode cX3_turnWind 0 = .ok (.aload_n 0, 1) := by decide +kernel
theorem dX3_turnWind_1 : decode cX3_turnWind 1 = .ok (.iconst 1, 1) := by decide +kernel
theorem dX3_turnWind_2 : decode cX3_turnWind 2 = .ok (.aload_n 0, 1) := by decide +kernel
theorem dX3_turnWind_3 : decode cX3_turnWind 3 = .ok (.getfield 34, 3) := by decide +kernel
theorem dX3_turnWind_6 : decode cX3_turnWind 6 = .ok (.isub, 1) := by decide +kernel
theorem dX3_turnWind_7 : decode cX3_turnWind 7 = .ok (.putfield 34, 3) := by decide +kernel
theorem dX3_turnWind_10 : decode cX3_turnWind 10 = .ok (.return_, 1) := by decide +kernel
theorem dX3_heatOf_0 : decode cX3_heatOf 0 = .ok (.aload_n 0, 1) := by decide +kernel
theorem dX3_heatOf_1 : decode cX3_heatOf 1 = .ok (.invokevirtual 78, 3) := by decide +kernel
theorem dX3_heatOf_4 : decode cX3_heatOf 4 = .ok (.istore_n 2, 1) := by decide +kernel
theorem dX3_heatOf_5 : decode cX3_heatOf 5 = .ok (.aload_n 0, 1) := by decide +kernel
theorem dX3_heatOf_6 : decode cX3_heatOf 6 = .ok (.iload_n 1, 1) := by decide +kernel
theorem dX3_heatOf_7 : decode cX3_heatOf 7 = .ok (.invokevirtual 56, 3) := by decide +kernel
theorem dX3_heatOf_10 : decode cX3_heatOf 10 = .ok (.ifCond .eq 7, 3) := by decide +kernel
theorem dX3_heatOf_13 : decode cX3_heatOf 13 = .ok (.iconst 0, 1) := by decide +kernel
theorem dX3_heatOf_14 : decode cX3_heatOf 14 = .ok (.goto 19, 3) := by decide +kernel
theorem dX3_heatOf_17 : decode cX3_heatOf 17 = .ok (.aload_n 0, 1) := by decide +kernel
theorem dX3_heatOf_18 : decode cX3_heatOf 18 = .ok (.aload_n 0, 1) := by decide +kernel
theorem dX3_heatOf_19 : decode cX3_heatOf 19 = .ok (.getfield 25, 3) := by decide +kernel
theorem dX3_heatOf_22 : decode cX3_heatOf 22 = .ok (.iload_n 1, 1) := by decide +kernel
theorem dX3_heatOf_23 : decode cX3_heatOf 23 = .ok (.iaload, 1) := by decide +kernel
theorem dX3_heatOf_24 : decode cX3_heatOf 24 = .ok (.iload_n 2, 1) := by decide +kernel
theorem dX3_heatOf_25 : decode cX3_heatOf 25 = .ok (.aload_n 0, 1) := by decide +kernel
theorem dX3_heatOf_26 : decode cX3_heatOf 26 = .ok (.iload_n 2, 1) := by decide +kernel
theorem dX3_heatOf_27 : decode cX3_heatOf 27 = .ok (.invokevirtual 82, 3) := by decide +kernel
theorem dX3_heatOf_30 : decode cX3_heatOf 30 = .ok (.invokevirtual 86, 3) := by decide +kernel
theorem dX3_heatOf_33 : decode cX3_heatOf 33 = .ok (.ireturn, 1) := by decide +kernel
theorem dX3_passHour_0 : decode cX3_passHour 0 = .ok (.aload_n 0, 1) := by decide +kernel
theorem dX3_passHour_1 : decode cX3_passHour 1 = .ok (.dup, 1) := by decide +kernel
theorem dX3_passHour_2 : decode cX3_passHour 2 = .ok (.getfield 40, 3) := by decide +kernel
theorem dX3_passHour_5 : decode cX3_passHour 5 = .ok (.iconst 1, 1) := by decide +kernel
theorem dX3_passHour_6 : decode cX3_passHour 6 = .ok (.iadd, 1) := by decide +kernel
theorem dX3_passHour_7 : decode cX3_passHour 7 = .ok (.putfield 40, 3) := by decide +kernel
theorem dX3_passHour_10 : decode cX3_passHour 10 = .ok (.aload_n 0, 1) := by decide +kernel
theorem dX3_passHour_11 : decode cX3_passHour 11 = .ok (.getfield 28, 3) := by decide +kernel
theorem dX3_passHour_14 : decode cX3_passHour 14 = .ok (.ifCond .ne 4, 3) := by decide +kernel
theorem dX3_passHour_17 : decode cX3_passHour 17 = .ok (.return_, 1) := by decide +kernel
theorem dX3_passHour_18 : decode cX3_passHour 18 = .ok (.aload_n 0, 1) := by decide +kernel
theorem dX3_passHour_19 : decode cX3_passHour 19 = .ok (.getfield 28, 3) := by decide +kernel
theorem dX3_passHour_22 : decode cX3_passHour 22 = .ok (.istore_n 1, 1) := by decide +kernel
theorem dX3_passHour_23 : decode cX3_passHour 23 = .ok (.aload_n 0, 1) := by decide +kernel
theorem dX3_passHour_24 : decode cX3_passHour 24 = .ok (.invokevirtual 78, 3) := by decide +kernel
theorem dX3_passHour_27 : decode cX3_passHour 27 = .ok (.istore_n 2, 1) := by decide +kernel
theorem dX3_passHour_28 : decode cX3_passHour 28 = .ok (.aload_n 0, 1) := by decide +kernel
theorem dX3_passHour_29 : decode cX3_passHour 29 = .ok (.iload_n 2, 1) := by decide +kernel
theorem dX3_passHour_30 : decode cX3_passHour 30 = .ok (.invokevirtual 82, 3) := by decide +kernel
theorem dX3_passHour_33 : decode cX3_passHour 33 = .ok (.istore_n 3, 1) := by decide +kernel
theorem dX3_passHour_34 : decode cX3_passHour 34 = .ok (.iconst 0, 1) := by decide +kernel
theorem dX3_passHour_35 : decode cX3_passHour 35 = .ok (.istore 4, 2) := by decide +kernel
theorem dX3_passHour_37 : decode cX3_passHour 37 = .ok (.iload 4, 2) := by decide +kernel
theorem dX3_passHour_39 : decode cX3_passHour 39 = .ok (.aload_n 0, 1) := by decide +kernel
theorem dX3_passHour_40 : decode cX3_passHour 40 = .ok (.getfield 9, 3) := by decide +kernel
theorem dX3_passHour_43 : decode cX3_passHour 43 = .ok (.if_icmp .ge 105, 3) := by decide +kernel
theorem dX3_passHour_46 : decode cX3_passHour 46 = .ok (.aload_n 0, 1) := by decide +kernel
theorem dX3_passHour_47 : decode cX3_passHour 47 = .ok (.iload 4, 2) := by decide +kernel
theorem dX3_passHour_49 : decode cX3_passHour 49 = .ok (.invokevirtual 56, 3) := by decide +kernel
theorem dX3_passHour_52 : decode cX3_passHour 52 = .ok (.ifCond .eq 7, 3) := by decide +kernel
theorem dX3_passHour_55 : decode cX3_passHour 55 = .ok (.iconst 0, 1) := by decide +kernel
theorem dX3_passHour_56 : decode cX3_passHour 56 = .ok (.goto 16, 3) := by decide +kernel
theorem dX3_passHour_59 : decode cX3_passHour 59 = .ok (.aload_n 0, 1) := by decide +kernel
theorem dX3_passHour_60 : decode cX3_passHour 60 = .ok (.aload_n 0, 1) := by decide +kernel
theorem dX3_passHour_61 : decode cX3_passHour 61 = .ok (.getfield 25, 3) := by decide +kernel
theorem dX3_passHour_64 : decode cX3_passHour 64 = .ok (.iload 4, 2) := by decide +kernel
theorem dX3_passHour_66 : decode cX3_passHour 66 = .ok (.iaload, 1) := by decide +kernel
theorem dX3_passHour_67 : decode cX3_passHour 67 = .ok (.iload_n 2, 1) := by decide +kernel
theorem dX3_passHour_68 : decode cX3_passHour 68 = .ok (.iload_n 3, 1) := by decide +kernel
theorem dX3_passHour_69 : decode cX3_passHour 69 = .ok (.invokevirtual 86, 3) := by decide +kernel
theorem dX3_passHour_72 : decode cX3_passHour 72 = .ok (.istore 5, 2) := by decide +kernel
theorem dX3_passHour_74 : decode cX3_passHour 74 = .ok (.iload_n 1, 1) := by decide +kernel
theorem dX3_passHour_75 : decode cX3_passHour 75 = .ok (.iload 4, 2) := by decide +kernel
theorem dX3_passHour_77 : decode cX3_passHour 77 = .ok (.ishr, 1) := by decide +kernel
theorem dX3_passHour_78 : decode cX3_passHour 78 = .ok (.iconst 1, 1) := by decide +kernel
theorem dX3_passHour_79 : decode cX3_passHour 79 = .ok (.iand, 1) := by decide +kernel
theorem dX3_passHour_80 : decode cX3_passHour 80 = .ok (.iconst 1, 1) := by decide +kernel
theorem dX3_passHour_81 : decode cX3_passHour 81 = .ok (.if_icmp .ne 12, 3) := by decide +kernel
theorem dX3_passHour_84 : decode cX3_passHour 84 = .ok (.aload_n 0, 1) := by decide +kernel
theorem dX3_passHour_85 : decode cX3_passHour 85 = .ok (.iload 4, 2) := by decide +kernel
theorem dX3_passHour_87 : decode cX3_passHour 87 = .ok (.invokevirtual 90, 3) := by decide +kernel
theorem dX3_passHour_90 : decode cX3_passHour 90 = .ok (.goto 31, 3) := by decide +kernel
theorem dX3_passHour_93 : decode cX3_passHour 93 = .ok (.iload 5, 2) := by decide +kernel
theorem dX3_passHour_95 : decode cX3_passHour 95 = .ok (.iconst 2, 1) := by decide +kernel
theorem dX3_passHour_96 : decode cX3_passHour 96 = .ok (.if_icmp .lt 25, 3) := by decide +kernel
theorem dX3_passHour_99 : decode cX3_passHour 99 = .ok (.aload_n 0, 1) := by decide +kernel
theorem dX3_passHour_100 : decode cX3_passHour 100 = .ok (.iload 4, 2) := by decide +kernel
theorem dX3_passHour_102 : decode cX3_passHour 102 = .ok (.invokevirtual 65, 3) := by decide +kernel
theorem dX3_passHour_105 : decode cX3_passHour 105 = .ok (.ifCond .eq 16, 3) := by decide +kernel
theorem dX3_passHour_108 : decode cX3_passHour 108 = .ok (.aload_n 0, 1) := by decide +kernel
theorem dX3_passHour_109 : decode cX3_passHour 109 = .ok (.dup, 1) := by decide +kernel
theorem dX3_passHour_110 : decode cX3_passHour 110 = .ok (.getfield 28, 3) := by decide +kernel
theorem dX3_passHour_113 : decode cX3_passHour 113 = .ok (.iconst 1, 1) := by decide +kernel
theorem dX3_passHour_114 : decode cX3_passHour 114 = .ok (.iload 4, 2) := by decide +kernel
theorem dX3_passHour_116 : decode cX3_passHour 116 = .ok (.ishl, 1) := by decide +kernel
theorem dX3_passHour_117 : decode cX3_passHour 117 = .ok (.ior, 1) := by decide +kernel
theorem dX3_passHour_118 : decode cX3_passHour 118 = .ok (.putfield 28, 3) := by decide +kernel
theorem dX3_passHour_121 : decode cX3_passHour 121 = .ok (.aload_n 0, 1) := by decide +kernel
theorem dX3_passHour_122 : decode cX3_passHour 122 = .ok (.getfield 22, 3) := by decide +kernel
theorem dX3_passHour_125 : decode cX3_passHour 125 = .ok (.iload 4, 2) := by decide +kernel
theorem dX3_passHour_127 : decode cX3_passHour 127 = .ok (.iconst 0, 1) := by decide +kernel
theorem dX3_passHour_128 : decode cX3_passHour 128 = .ok (.aload_n 0, 1) := by decide +kernel
theorem dX3_passHour_129 : decode cX3_passHour 129 = .ok (.getfield 22, 3) := by decide +kernel
theorem dX3_passHour_132 : decode cX3_passHour 132 = .ok (.iload 4, 2) := by decide +kernel
theorem dX3_passHour_134 : decode cX3_passHour 134 = .ok (.iaload, 1) := by decide +kernel
theorem dX3_passHour_135 : decode cX3_passHour 135 = .ok (.iload 5, 2) := by decide +kernel
theorem dX3_passHour_137 : decode cX3_passHour 137 = .ok (.isub, 1) := by decide +kernel
theorem dX3_passHour_138 : decode cX3_passHour 138 = .ok (.invokestatic 93, 3) := by decide +kernel
theorem dX3_passHour_141 : decode cX3_passHour 141 = .ok (.iastore, 1) := by decide +kernel
theorem dX3_passHour_142 : decode cX3_passHour 142 = .ok (.iinc 4 1, 3) := by decide +kernel
theorem dX3_passHour_145 : decode cX3_passHour 145 = .ok (.goto (-108), 3) := by decide +kernel
theorem dX3_passHour_148 : decode cX3_passHour 148 = .ok (.return_, 1) := by decide +kernel
theorem dX3_burnDown_0 : decode cX3_burnDown 0 = .ok (.aload_n 0, 1) := by decide +kernel
theorem dX3_burnDown_1 : decode cX3_burnDown 1 = .ok (.getfield 15, 3) := by decide +kernel
theorem dX3_burnDown_4 : decode cX3_burnDown 4 = .ok (.iload_n 1, 1) := by decide +kernel
theorem dX3_burnDown_5 : decode cX3_burnDown 5 = .ok (.iaload, 1) := by decide +kernel
theorem dX3_burnDown_6 : decode cX3_burnDown 6 = .ok (.istore_n 2, 1) := by decide +kernel
theorem dX3_burnDown_7 : decode cX3_burnDown 7 = .ok (.aload_n 0, 1) := by decide +kernel
theorem dX3_burnDown_8 : decode cX3_burnDown 8 = .ok (.getfield 19, 3) := by decide +kernel
theorem dX3_burnDown_11 : decode cX3_burnDown 11 = .ok (.iload_n 1, 1) := by decide +kernel
theorem dX3_burnDown_12 : decode cX3_burnDown 12 = .ok (.iconst 0, 1) := by decide +kernel
theorem dX3_burnDown_13 : decode cX3_burnDown 13 = .ok (.aload_n 0, 1) := by decide +kernel
theorem dX3_burnDown_14 : decode cX3_burnDown 14 = .ok (.getfield 19, 3) := by decide +kernel
theorem dX3_burnDown_17 : decode cX3_burnDown 17 = .ok (.iload_n 1, 1) := by decide +kernel
theorem dX3_burnDown_18 : decode cX3_burnDown 18 = .ok (.iaload, 1) := by decide +kernel
theorem dX3_burnDown_19 : decode cX3_burnDown 19 = .ok (.getstatic 49, 3) := by decide +kernel
theorem dX3_burnDown_22 : decode cX3_burnDown 22 = .ok (.iload_n 2, 1) := by decide +kernel
theorem dX3_burnDown_23 : decode cX3_burnDown 23 = .ok (.iaload, 1) := by decide +kernel
theorem dX3_burnDown_24 : decode cX3_burnDown 24 = .ok (.isub, 1) := by decide +kernel
theorem dX3_burnDown_25 : decode cX3_burnDown 25 = .ok (.invokestatic 93, 3) := by decide +kernel
theorem dX3_burnDown_28 : decode cX3_burnDown 28 = .ok (.iastore, 1) := by decide +kernel
theorem dX3_burnDown_29 : decode cX3_burnDown 29 = .ok (.aload_n 0, 1) := by decide +kernel
theorem dX3_burnDown_30 : decode cX3_burnDown 30 = .ok (.ldc 96, 2) := by decide +kernel
theorem dX3_burnDown_32 : decode cX3_burnDown 32 = .ok (.aload_n 0, 1) := by decide +kernel
theorem dX3_burnDown_33 : decode cX3_burnDown 33 = .ok (.getfield 37, 3) := by decide +kernel
theorem dX3_burnDown_36 : decode cX3_burnDown 36 = .ok (.getstatic 97, 3) := by decide +kernel
theorem dX3_burnDown_39 : decode cX3_burnDown 39 = .ok (.iload_n 2, 1) := by decide +kernel
theorem dX3_burnDown_40 : decode cX3_burnDown 40 = .ok (.iaload, 1) := by decide +kernel
theorem dX3_burnDown_41 : decode cX3_burnDown 41 = .ok (.iadd, 1) := by decide +kernel
theorem dX3_burnDown_42 : decode cX3_burnDown 42 = .ok (.invokestatic 68, 3) := by decide +kernel
theorem dX3_burnDown_45 : decode cX3_burnDown 45 = .ok (.putfield 37, 3) := by decide +kernel
theorem dX3_burnDown_48 : decode cX3_burnDown 48 = .ok (.aload_n 0, 1) := by decide +kernel
theorem dX3_burnDown_49 : decode cX3_burnDown 49 = .ok (.iload_n 1, 1) := by decide +kernel
theorem dX3_burnDown_50 : decode cX3_burnDown 50 = .ok (.invokevirtual 52, 3) := by decide +kernel
theorem dX3_burnDown_53 : decode cX3_burnDown 53 = .ok (.ifCond .eq 8, 3) := by decide +kernel
theorem dX3_burnDown_56 : decode cX3_burnDown 56 = .ok (.aload_n 0, 1) := by decide +kernel
theorem dX3_burnDown_57 : decode cX3_burnDown 57 = .ok (.iload_n 1, 1) := by decide +kernel
theorem dX3_burnDown_58 : decode cX3_burnDown 58 = .ok (.invokevirtual 74, 3) := by decide +kernel
theorem dX3_burnDown_61 : decode cX3_burnDown 61 = .ok (.return_, 1) := by decide +kernel
theorem dX3_heatAt_0 : decode cX3_heatAt 0 = .ok (.iload_n 1, 1) := by decide +kernel
theorem dX3_heatAt_1 : decode cX3_heatAt 1 = .ok (.invokestatic 100, 3) := by decide +kernel
theorem dX3_heatAt_4 : decode cX3_heatAt 4 = .ok (.istore 4, 2) := by decide +kernel
theorem dX3_heatAt_6 : decode cX3_heatAt 6 = .ok (.aload_n 0, 1) := by decide +kernel
theorem dX3_heatAt_7 : decode cX3_heatAt 7 = .ok (.getfield 34, 3) := by decide +kernel
theorem dX3_heatAt_10 : decode cX3_heatAt 10 = .ok (.iconst 1, 1) := by decide +kernel
theorem dX3_heatAt_11 : decode cX3_heatAt 11 = .ok (.if_icmp .ne 11, 3) := by decide +kernel
theorem dX3_heatAt_14 : decode cX3_heatAt 14 = .ok (.iconst 1, 1) := by decide +kernel
theorem dX3_heatAt_15 : decode cX3_heatAt 15 = .ok (.iload_n 1, 1) := by decide +kernel
theorem dX3_heatAt_16 : decode cX3_heatAt 16 = .ok (.ishl, 1) := by decide +kernel
theorem dX3_heatAt_17 : decode cX3_heatAt 17 = .ok (.iconst 2, 1) := by decide +kernel
theorem dX3_heatAt_18 : decode cX3_heatAt 18 = .ok (.ishr, 1) := by decide +kernel
theorem dX3_heatAt_19 : decode cX3_heatAt 19 = .ok (.goto 8, 3) := by decide +kernel
theorem dX3_heatAt_22 : decode cX3_heatAt 22 = .ok (.iconst 1, 1) := by decide +kernel
theorem dX3_heatAt_23 : decode cX3_heatAt 23 = .ok (.iload_n 1, 1) := by decide +kernel
theorem dX3_heatAt_24 : decode cX3_heatAt 24 = .ok (.ishl, 1) := by decide +kernel
theorem dX3_heatAt_25 : decode cX3_heatAt 25 = .ok (.iconst 2, 1) := by decide +kernel
theorem dX3_heatAt_26 : decode cX3_heatAt 26 = .ok (.ishl, 1) := by decide +kernel
theorem dX3_heatAt_27 : decode cX3_heatAt 27 = .ok (.istore 5, 2) := by decide +kernel
theorem dX3_heatAt_29 : decode cX3_heatAt 29 = .ok (.iload_n 2, 1) := by decide +kernel
theorem dX3_heatAt_30 : decode cX3_heatAt 30 = .ok (.iload 5, 2) := by decide +kernel
theorem dX3_heatAt_32 : decode cX3_heatAt 32 = .ok (.iand, 1) := by decide +kernel
theorem dX3_heatAt_33 : decode cX3_heatAt 33 = .ok (.ifCond .eq 7, 3) := by decide +kernel
theorem dX3_heatAt_36 : decode cX3_heatAt 36 = .ok (.iconst 1, 1) := by decide +kernel
theorem dX3_heatAt_37 : decode cX3_heatAt 37 = .ok (.goto 4, 3) := by decide +kernel
theorem dX3_heatAt_40 : decode cX3_heatAt 40 = .ok (.iconst 0, 1) := by decide +kernel
theorem dX3_heatAt_41 : decode cX3_heatAt 41 = .ok (.istore 6, 2) := by decide +kernel
theorem dX3_heatAt_43 : decode cX3_heatAt 43 = .ok (.iconst 2, 1) := by decide +kernel
theorem dX3_heatAt_44 : decode cX3_heatAt 44 = .ok (.iload_n 2, 1) := by decide +kernel
theorem dX3_heatAt_45 : decode cX3_heatAt 45 = .ok (.iload 4, 2) := by decide +kernel
theorem dX3_heatAt_47 : decode cX3_heatAt 47 = .ok (.iand, 1) := by decide +kernel
theorem dX3_heatAt_48 : decode cX3_heatAt 48 = .ok (.invokestatic 103, 3) := by decide +kernel
theorem dX3_heatAt_51 : decode cX3_heatAt 51 = .ok (.imul, 1) := by decide +kernel
theorem dX3_heatAt_52 : decode cX3_heatAt 52 = .ok (.iload 6, 2) := by decide +kernel
theorem dX3_heatAt_54 : decode cX3_heatAt 54 = .ok (.iadd, 1) := by decide +kernel
theorem dX3_heatAt_55 : decode cX3_heatAt 55 = .ok (.iload_n 3, 1) := by decide +kernel
theorem dX3_heatAt_56 : decode cX3_heatAt 56 = .ok (.iload 4, 2) := by decide +kernel
theorem dX3_heatAt_58 : decode cX3_heatAt 58 = .ok (.iand, 1) := by decide +kernel
theorem dX3_heatAt_59 : decode cX3_heatAt 59 = .ok (.invokestatic 103, 3) := by decide +kernel
theorem dX3_heatAt_62 : decode cX3_heatAt 62 = .ok (.iadd, 1) := by decide +kernel
theorem dX3_heatAt_63 : decode cX3_heatAt 63 = .ok (.ireturn, 1) := by decide +kernel
theorem dX3_placesLit_0 : decode cX3_placesLit 0 = .ok (.iconst 0, 1) := by decide +kernel
theorem dX3_placesLit_1 : decode cX3_placesLit 1 = .ok (.istore_n 1, 1) := by decide +kernel
theorem dX3_placesLit_2 : decode cX3_placesLit 2 = .ok (.iconst 0, 1) := by decide +kernel
theorem dX3_placesLit_3 : decode cX3_placesLit 3 = .ok (.istore_n 2, 1) := by decide +kernel
theorem dX3_placesLit_4 : decode cX3_placesLit 4 = .ok (.iload_n 2, 1) := by decide +kernel
theorem dX3_placesLit_5 : decode cX3_placesLit 5 = .ok (.aload_n 0, 1) := by decide +kernel
theorem dX3_placesLit_6 : decode cX3_placesLit 6 = .ok (.getfield 9, 3) := by decide +kernel
theorem dX3_placesLit_9 : decode cX3_placesLit 9 = .ok (.if_icmp .ge 28, 3) := by decide +kernel
theorem dX3_placesLit_12 : decode cX3_placesLit 12 = .ok (.aload_n 0, 1) := by decide +kernel
theorem dX3_placesLit_13 : decode cX3_placesLit 13 = .ok (.iload_n 2, 1) := by decide +kernel
theorem dX3_placesLit_14 : decode cX3_placesLit 14 = .ok (.invokevirtual 62, 3) := by decide +kernel
theorem dX3_placesLit_17 : decode cX3_placesLit 17 = .ok (.ifCond .eq 14, 3) := by decide +kernel
theorem dX3_placesLit_20 : decode cX3_placesLit 20 = .ok (.iload_n 1, 1) := by decide +kernel
theorem dX3_placesLit_21 : decode cX3_placesLit 21 = .ok (.iconst 1, 1) := by decide +kernel
theorem dX3_placesLit_22 : decode cX3_placesLit 22 = .ok (.aload_n 0, 1) := by decide +kernel
theorem dX3_placesLit_23 : decode cX3_placesLit 23 = .ok (.getfield 25, 3) := by decide +kernel
theorem dX3_placesLit_26 : decode cX3_placesLit 26 = .ok (.iload_n 2, 1) := by decide +kernel
theorem dX3_placesLit_27 : decode cX3_placesLit 27 = .ok (.iaload, 1) := by decide +kernel
theorem dX3_placesLit_28 : decode cX3_placesLit 28 = .ok (.ishl, 1) := by decide +kernel
theorem dX3_placesLit_29 : decode cX3_placesLit 29 = .ok (.ior, 1) := by decide +kernel
theorem dX3_placesLit_30 : decode cX3_placesLit 30 = .ok (.istore_n 1, 1) := by decide +kernel
theorem dX3_placesLit_31 : decode cX3_placesLit 31 = .ok (.iinc 2 1, 3) := by decide +kernel
theorem dX3_placesLit_34 : decode cX3_placesLit 34 = .ok (.goto (-30), 3) := by decide +kernel
theorem dX3_placesLit_37 : decode cX3_placesLit 37 = .ok (.iload_n 1, 1) := by decide +kernel
theorem dX3_placesLit_38 : decode cX3_placesLit 38 = .ok (.ireturn, 1) := by decide +kernel
theorem dX3_placesOfHotIron_0 : decode cX3_placesOfHotIron 0 = .ok (.iconst 0, 1) := by decide +kernel
theorem dX3_placesOfHotIron_1 : decode cX3_placesOfHotIron 1 = .ok (.istore_n 2, 1) := by decide +kernel
theorem dX3_placesOfHotIron_2 : decode cX3_placesOfHotIron 2 = .ok (.iconst 0, 1) := by decide +kernel
theorem dX3_placesOfHotIron_3 : decode cX3_placesOfHotIron 3 = .ok (.istore_n 3, 1) := by decide +kernel
theorem dX3_placesOfHotIron_4 : decode cX3_placesOfHotIron 4 = .ok (.iload_n 3, 1) := by decide +kernel
theorem dX3_placesOfHotIron_5 : decode cX3_placesOfHotIron 5 = .ok (.aload_n 0, 1) := by decide +kernel
theorem dX3_placesOfHotIron_6 : decode cX3_placesOfHotIron 6 = .ok (.getfield 9, 3) := by decide +kernel
theorem dX3_placesOfHotIron_9 : decode cX3_placesOfHotIron 9 = .ok (.if_icmp .ge 52, 3) := by decide +kernel
theorem dX3_placesOfHotIron_12 : decode cX3_placesOfHotIron 12 = .ok (.aload_n 0, 1) := by decide +kernel
theorem dX3_placesOfHotIron_13 : decode cX3_placesOfHotIron 13 = .ok (.getfield 15, 3) := by decide +kernel
theorem dX3_placesOfHotIron_16 : decode cX3_placesOfHotIron 16 = .ok (.iload_n 3, 1) := by decide +kernel
theorem dX3_placesOfHotIron_17 : decode cX3_placesOfHotIron 17 = .ok (.iaload, 1) := by decide +kernel
theorem dX3_placesOfHotIron_18 : decode cX3_placesOfHotIron 18 = .ok (.iconst 5, 1) := by decide +kernel
theorem dX3_placesOfHotIron_19 : decode cX3_placesOfHotIron 19 = .ok (.if_icmp .ne 36, 3) := by decide +kernel
theorem dX3_placesOfHotIron_22 : decode cX3_placesOfHotIron 22 = .ok (.aload_n 0, 1) := by decide +kernel
theorem dX3_placesOfHotIron_23 : decode cX3_placesOfHotIron 23 = .ok (.iload_n 3, 1) := by decide +kernel
theorem dX3_placesOfHotIron_24 : decode cX3_placesOfHotIron 24 = .ok (.invokevirtual 56, 3) := by decide +kernel
theorem dX3_placesOfHotIron_27 : decode cX3_placesOfHotIron 27 = .ok (.ifCond .ne 28, 3) := by decide +kernel
theorem dX3_placesOfHotIron_30 : decode cX3_placesOfHotIron 30 = .ok (.iload_n 1, 1) := by decide +kernel
theorem dX3_placesOfHotIron_31 : decode cX3_placesOfHotIron 31 = .ok (.aload_n 0, 1) := by decide +kernel
theorem dX3_placesOfHotIron_32 : decode cX3_placesOfHotIron 32 = .ok (.getfield 25, 3) := by decide +kernel
theorem dX3_placesOfHotIron_35 : decode cX3_placesOfHotIron 35 = .ok (.iload_n 3, 1) := by decide +kernel
theorem dX3_placesOfHotIron_36 : decode cX3_placesOfHotIron 36 = .ok (.iaload, 1) := by decide +kernel
theorem dX3_placesOfHotIron_37 : decode cX3_placesOfHotIron 37 = .ok (.invokestatic 100, 3) := by decide +kernel
theorem dX3_placesOfHotIron_40 : decode cX3_placesOfHotIron 40 = .ok (.iand, 1) := by decide +kernel
theorem dX3_placesOfHotIron_41 : decode cX3_placesOfHotIron 41 = .ok (.ifCond .eq 14, 3) := by decide +kernel
theorem dX3_placesOfHotIron_44 : decode cX3_placesOfHotIron 44 = .ok (.iload_n 2, 1) := by decide +kernel
theorem dX3_placesOfHotIron_45 : decode cX3_placesOfHotIron 45 = .ok (.iconst 1, 1) := by decide +kernel
theorem dX3_placesOfHotIron_46 : decode cX3_placesOfHotIron 46 = .ok (.aload_n 0, 1) := by decide +kernel
theorem dX3_placesOfHotIron_47 : decode cX3_placesOfHotIron 47 = .ok (.getfield 25, 3) := by decide +kernel
theorem dX3_placesOfHotIron_50 : decode cX3_placesOfHotIron 50 = .ok (.iload_n 3, 1) := by decide +kernel
theorem dX3_placesOfHotIron_51 : decode cX3_placesOfHotIron 51 = .ok (.iaload, 1) := by decide +kernel
theorem dX3_placesOfHotIron_52 : decode cX3_placesOfHotIron 52 = .ok (.ishl, 1) := by decide +kernel
theorem dX3_placesOfHotIron_53 : decode cX3_placesOfHotIron 53 = .ok (.ior, 1) := by decide +kernel
theorem dX3_placesOfHotIron_54 : decode cX3_placesOfHotIron 54 = .ok (.istore_n 2, 1) := by decide +kernel
theorem dX3_placesOfHotIron_55 : decode cX3_placesOfHotIron 55 = .ok (.iinc 3 1, 3) := by decide +kernel
theorem dX3_placesOfHotIron_58 : decode cX3_placesOfHotIron 58 = .ok (.goto (-54), 3) := by decide +kernel
theorem dX3_placesOfHotIron_61 : decode cX3_placesOfHotIron 61 = .ok (.iload_n 2, 1) := by decide +kernel
theorem dX3_placesOfHotIron_62 : decode cX3_placesOfHotIron 62 = .ok (.ireturn, 1) := by decide +kernel
theorem dX3_placesBeside_0 : decode cX3_placesBeside 0 = .ok (.iconst 1, 1) := by decide +kernel
theorem dX3_placesBeside_1 : decode cX3_placesBeside 1 = .ok (.iload_n 0, 1) := by decide +kernel
theorem dX3_placesBeside_2 : decode cX3_placesBeside 2 = .ok (.ishl, 1) := by decide +kernel
theorem dX3_placesBeside_3 : decode cX3_placesBeside 3 = .ok (.iconst 1, 1) := by decide +kernel
theorem dX3_placesBeside_4 : decode cX3_placesBeside 4 = .ok (.ishl, 1) := by decide +kernel
theorem dX3_placesBeside_5 : decode cX3_placesBeside 5 = .ok (.iconst 1, 1) := by decide +kernel
theorem dX3_placesBeside_6 : decode cX3_placesBeside 6 = .ok (.iload_n 0, 1) := by decide +kernel
theorem dX3_placesBeside_7 : decode cX3_placesBeside 7 = .ok (.ishl, 1) := by decide +kernel
theorem dX3_placesBeside_8 : decode cX3_placesBeside 8 = .ok (.iconst 1, 1) := by decide +kernel
theorem dX3_placesBeside_9 : decode cX3_placesBeside 9 = .ok (.ishr, 1) := by decide +kernel
theorem dX3_placesBeside_10 : decode cX3_placesBeside 10 = .ok (.ior, 1) := by decide +kernel
theorem dX3_placesBeside_11 : decode cX3_placesBeside 11 = .ok (.ireturn, 1) := by decide +kernel
theorem dX4_init_0 : decode cX4_init 0 = .ok (.aload_n 0, 1) := by decide +kernel
theorem dX4_init_1 : decode cX4_init 1 = .ok (.invokespecial 3, 3) := by decide +kernel
theorem dX4_init_4 : decode cX4_init 4 = .ok (.aload_n 0, 1) := by decide +kernel
theorem dX4_init_5 : decode cX4_init 5 = .ok (.iconst (-1), 1) := by decide +kernel
theorem dX4_init_6 : decode cX4_init 6 = .ok (.putfield 9, 3) := by decide +kernel
theorem dX4_init_9 : decode cX4_init 9 = .ok (.aload_n 0, 1) := by decide +kernel
theorem dX4_init_10 : decode cX4_init 10 = .ok (.iconst 0, 1) := by decide +kernel
theorem dX4_init_11 : decode cX4_init 11 = .ok (.putfield 15, 3) := by decide +kernel
theorem dX4_init_14 : decode cX4_init 14 = .ok (.aload_n 0, 1) := by decide +kernel
theorem dX4_init_15 : decode cX4_init 15 = .ok (.bipush 40, 2) := by decide +kernel
theorem dX4_init_17 : decode cX4_init 17 = .ok (.newarray .int, 2) := by decide +kernel
theorem dX4_init_19 : decode cX4_init 19 = .ok (.putfield 18, 3) := by decide +kernel
theorem dX4_init_22 : decode cX4_init 22 = .ok (.return_, 1) := by decide +kernel
theorem dX4_isMissing_0 : decode cX4_isMissing 0 = .ok (.aload_n 0, 1) := by decide +kernel
theorem dX4_isMissing_1 : decode cX4_isMissing 1 = .ok (.getfield 9, 3) := by decide +kernel
theorem dX4_isMissing_4 : decode cX4_isMissing 4 = .ok (.iconst (-1), 1) := by decide +kernel
theorem dX4_isMissing_5 : decode cX4_isMissing 5 = .ok (.if_icmp .ne 7, 3) := by decide +kernel
theorem dX4_isMissing_8 : decode cX4_isMissing 8 = .ok (.iconst 1, 1) := by decide +kernel
theorem dX4_isMissing_9 : decode cX4_isMissing 9 = .ok (.goto 4, 3) := by decide +kernel
theorem dX4_isMissing_12 : decode cX4_isMissing 12 = .ok (.iconst 0, 1) := by decide +kernel
theorem dX4_isMissing_13 : decode cX4_isMissing 13 = .ok (.ireturn, 1) := by decide +kernel
theorem dX4_begin_0 : decode cX4_begin 0 = .ok (.aload_n 0, 1) := by decide +kernel
theorem dX4_begin_1 : decode cX4_begin 1 = .ok (.iload_n 1, 1) := by decide +kernel
theorem dX4_begin_2 : decode cX4_begin 2 = .ok (.putfield 9, 3) := by decide +kernel
theorem dX4_begin_5 : decode cX4_begin 5 = .ok (.aload_n 0, 1) := by decide +kernel
theorem dX4_begin_6 : decode cX4_begin 6 = .ok (.iload_n 2, 1) := by decide +kernel
theorem dX4_begin_7 : decode cX4_begin 7 = .ok (.putfield 15, 3) := by decide +kernel
theorem dX4_begin_10 : decode cX4_begin 10 = .ok (.iconst 0, 1) := by decide +kernel
theorem dX4_begin_11 : decode cX4_begin 11 = .ok (.istore_n 3, 1) := by decide +kernel
theorem dX4_begin_12 : decode cX4_begin 12 = .ok (.iload_n 3, 1) := by decide +kernel
theorem dX4_begin_13 : decode cX4_begin 13 = .ok (.bipush 40, 2) := by decide +kernel
theorem dX4_begin_15 : decode cX4_begin 15 = .ok (.if_icmp .ge 16, 3) := by decide +kernel
theorem dX4_begin_18 : decode cX4_begin 18 = .ok (.aload_n 0, 1) := by decide +kernel
theorem dX4_begin_19 : decode cX4_begin 19 = .ok (.getfield 18, 3) := by decide +kernel
theorem dX4_begin_22 : decode cX4_begin 22 = .ok (.iload_n 3, 1) := by decide +kernel
theorem dX4_begin_23 : decode cX4_begin 23 = .ok (.iconst 0, 1) := by decide +kernel
theorem dX4_begin_24 : decode cX4_begin 24 = .ok (.iastore, 1) := by decide +kernel
theorem dX4_begin_25 : decode cX4_begin 25 = .ok (.iinc 3 1, 3) := by decide +kernel
theorem dX4_begin_28 : decode cX4_begin 28 = .ok (.goto (-16), 3) := by decide +kernel
theorem dX4_begin_31 : decode cX4_begin 31 = .ok (.return_, 1) := by decide +kernel
theorem dX4_lose_0 : decode cX4_lose 0 = .ok (.aload_n 0, 1) := by decide +kernel
theorem dX4_lose_1 : decode cX4_lose 1 = .ok (.iconst (-1), 1) := by decide +kernel
theorem dX4_lose_2 : decode cX4_lose 2 = .ok (.putfield 9, 3) := by decide +kernel
theorem dX4_lose_5 : decode cX4_lose 5 = .ok (.aload_n 0, 1) := by decide +kernel
theorem dX4_lose_6 : decode cX4_lose 6 = .ok (.iconst 0, 1) := by decide +kernel
theorem dX4_lose_7 : decode cX4_lose 7 = .ok (.putfield 15, 3) := by decide +kernel
theorem dX4_lose_10 : decode cX4_lose 10 = .ok (.return_, 1) := by decide +kernel
theorem dX4_holds_0 : decode cX4_holds 0 = .ok (.iload_n 1, 1) := by decide +kernel
theorem dX4_holds_1 : decode cX4_holds 1 = .ok (.ifCond .lt 29, 3) := by decide +kernel
theorem dX4_holds_4 : decode cX4_holds 4 = .ok (.iload_n 2, 1) := by decide +kernel
theorem dX4_holds_5 : decode cX4_holds 5 = .ok (.ifCond .lt 25, 3) := by decide +kernel
theorem dX4_holds_8 : decode cX4_holds 8 = .ok (.iload_n 1, 1) := by decide +kernel
theorem dX4_holds_9 : decode cX4_holds 9 = .ok (.aload_n 0, 1) := by decide +kernel
theorem dX4_holds_10 : decode cX4_holds 10 = .ok (.getfield 15, 3) := by decide +kernel
theorem dX4_holds_13 : decode cX4_holds 13 = .ok (.if_icmp .gt 17, 3) := by decide +kernel
theorem dX4_holds_16 : decode cX4_holds 16 = .ok (.iload_n 2, 1) := by decide +kernel
theorem dX4_holds_17 : decode cX4_holds 17 = .ok (.aload_n 0, 1) := by decide +kernel
theorem dX4_holds_18 : decode cX4_holds 18 = .ok (.getfield 15, 3) := by decide +kernel
theorem dX4_holds_21 : decode cX4_holds 21 = .ok (.iload_n 1, 1) := by decide +kernel
theorem dX4_holds_22 : decode cX4_holds 22 = .ok (.isub, 1) := by decide +kernel
theorem dX4_holds_23 : decode cX4_holds 23 = .ok (.if_icmp .gt 7, 3) := by decide +kernel
theorem dX4_holds_26 : decode cX4_holds 26 = .ok (.iconst 1, 1) := by decide +kernel
theorem dX4_holds_27 : decode cX4_holds 27 = .ok (.goto 4, 3) := by decide +kernel
theorem dX4_holds_30 : decode cX4_holds 30 = .ok (.iconst 0, 1) := by decide +kernel
theorem dX4_holds_31 : decode cX4_holds 31 = .ok (.ireturn, 1) := by decide +kernel
theorem dX4_put_0 : decode cX4_put 0 = .ok (.iload_n 2, 1) := by decide +kernel
theorem dX4_put_1 : decode cX4_put 1 = .ok (.istore_n 3, 1) := by decide +kernel
theorem dX4_put_2 : decode cX4_put 2 = .ok (.aload_n 0, 1) := by decide +kernel
theorem dX4_put_3 : decode cX4_put 3 = .ok (.getfield 9, 3) := by decide +kernel
theorem dX4_put_6 : decode cX4_put 6 = .ok (.ifCond .ne 9, 3) := by decide +kernel
theorem dX4_put_9 : decode cX4_put 9 = .ok (.iload_n 2, 1) := by decide +kernel
theorem dX4_put_10 : decode cX4_put 10 = .ok (.i2b, 1) := by decide +kernel
theorem dX4_put_11 : decode cX4_put 11 = .ok (.istore_n 3, 1) := by decide +kernel
theorem dX4_put_12 : decode cX4_put 12 = .ok (.goto 14, 3) := by decide +kernel
theorem dX4_put_15 : decode cX4_put 15 = .ok (.aload_n 0, 1) := by decide +kernel
theorem dX4_put_16 : decode cX4_put 16 = .ok (.getfield 9, 3) := by decide +kernel
theorem dX4_put_19 : decode cX4_put 19 = .ok (.iconst 1, 1) := by decide +kernel
theorem dX4_put_20 : decode cX4_put 20 = .ok (.if_icmp .ne 6, 3) := by decide +kernel
theorem dX4_put_23 : decode cX4_put 23 = .ok (.iload_n 2, 1) := by decide +kernel
theorem dX4_put_24 : decode cX4_put 24 = .ok (.i2s, 1) := by decide +kernel
theorem dX4_put_25 : decode cX4_put 25 = .ok (.istore_n 3, 1) := by decide +kernel
theorem dX4_put_26 : decode cX4_put 26 = .ok (.aload_n 0, 1) := by decide +kernel
theorem dX4_put_27 : decode cX4_put 27 = .ok (.getfield 18, 3) := by decide +kernel
theorem dX4_put_30 : decode cX4_put 30 = .ok (.iload_n 1, 1) := by decide +kernel
theorem dX4_put_31 : decode cX4_put 31 = .ok (.iload_n 3, 1) := by decide +kernel
theorem dX4_put_32 : decode cX4_put 32 = .ok (.iastore, 1) := by decide +kernel
theorem dX4_put_33 : decode cX4_put 33 = .ok (.iload_n 3, 1) := by decide +kernel
theorem dX4_put_34 : decode cX4_put 34 = .ok (.ireturn, 1) := by decide +kernel
theorem dX5_init_0 : decode cX5_init 0 = .ok (.aload_n 0, 1) := by decide +kernel
theorem dX5_init_1 : decode cX5_init 1 = .ok (.invokespecial 3, 3) := by decide +kernel
theorem dX5_init_4 : decode cX5_init 4 = .ok (.aload_n 0, 1) := by decide +kernel
theorem dX5_init_5 : decode cX5_init 5 = .ok (.bipush 90, 2) := by decide +kernel
theorem dX5_init_7 : decode cX5_init 7 = .ok (.newarray .int, 2) := by decide +kernel
theorem dX5_init_9 : decode cX5_init 9 = .ok (.putfield 9, 3) := by decide +kernel
theorem dX5_init_12 : decode cX5_init 12 = .ok (.aload_n 0, 1) := by decide +kernel
theorem dX5_init_13 : decode cX5_init 13 = .ok (.iconst 0, 1) := by decide +kernel
theorem dX5_init_14 : decode cX5_init 14 = .ok (.putfield 15, 3) := by decide +kernel
theorem dX5_init_17 : decode cX5_init 17 = .ok (.aload_n 0, 1) := by decide +kernel
theorem dX5_init_18 : decode cX5_init 18 = .ok (.iconst 0, 1) := by decide +kernel
theorem dX5_init_19 : decode cX5_init 19 = .ok (.putfield 19, 3) := by decide +kernel
theorem dX5_init_22 : decode cX5_init 22 = .ok (.aload_n 0, 1) := by decide +kernel
theorem dX5_init_23 : decode cX5_init 23 = .ok (.iconst 0, 1) := by decide +kernel
theorem dX5_init_24 : decode cX5_init 24 = .ok (.putfield 22, 3) := by decide +kernel
theorem dX5_init_27 : decode cX5_init 27 = .ok (.aload_n 0, 1) := by decide +kernel
theorem dX5_init_28 : decode cX5_init 28 = .ok (.iconst 0, 1) := by decide +kernel
theorem dX5_init_29 : decode cX5_init 29 = .ok (.putfield 25, 3) := by decide +kernel
theorem dX5_init_32 : decode cX5_init 32 = .ok (.return_, 1) := by decide +kernel
theorem dX5_takeByte_0 : decode cX5_takeByte 0 = .ok (.aload_n 0, 1) := by decide +kernel
theorem dX5_takeByte_1 : decode cX5_takeByte 1 = .ok (.getfield 15, 3) := by decide +kernel
theorem dX5_takeByte_4 : decode cX5_takeByte 4 = .ok (.bipush 90, 2) := by decide +kernel
theorem dX5_takeByte_6 : decode cX5_takeByte 6 = .ok (.if_icmp .lt 5, 3) := by decide +kernel
theorem dX5_takeByte_9 : decode cX5_takeByte 9 = .ok (.iconst 0, 1) := by decide +kernel
theorem dX5_takeByte_10 : decode cX5_takeByte 10 = .ok (.ireturn, 1) := by decide +kernel
theorem dX5_takeByte_11 : decode cX5_takeByte 11 = .ok (.aload_n 0, 1) := by decide +kernel
theorem dX5_takeByte_12 : decode cX5_takeByte 12 = .ok (.getfield 9, 3) := by decide +kernel
theorem dX5_takeByte_15 : decode cX5_takeByte 15 = .ok (.aload_n 0, 1) := by decide +kernel
theorem dX5_takeByte_16 : decode cX5_takeByte 16 = .ok (.getfield 15, 3) := by decide +kernel
theorem dX5_takeByte_19 : decode cX5_takeByte 19 = .ok (.iload_n 1, 1) := by decide +kernel
theorem dX5_takeByte_20 : decode cX5_takeByte 20 = .ok (.iastore, 1) := by decide +kernel
theorem dX5_takeByte_21 : decode cX5_takeByte 21 = .ok (.aload_n 0, 1) := by decide +kernel
theorem dX5_takeByte_22 : decode cX5_takeByte 22 = .ok (.dup, 1) := by decide +kernel
theorem dX5_takeByte_23 : decode cX5_takeByte 23 = .ok (.getfield 15, 3) := by decide +kernel
theorem dX5_takeByte_26 : decode cX5_takeByte 26 = .ok (.iconst 1, 1) := by decide +kernel
theorem dX5_takeByte_27 : decode cX5_takeByte 27 = .ok (.iadd, 1) := by decide +kernel
theorem dX5_takeByte_28 : decode cX5_takeByte 28 = .ok (.putfield 15, 3) := by decide +kernel
theorem dX5_takeByte_31 : decode cX5_takeByte 31 = .ok (.iconst 1, 1) := by decide +kernel
theorem dX5_takeByte_32 : decode cX5_takeByte 32 = .ok (.ireturn, 1) := by decide +kernel
theorem dX5_readInto_0 : decode cX5_readInto 0 = .ok (.aload_n 0, 1) := by decide +kernel
theorem dX5_readInto_1 : decode cX5_readInto 1 = .ok (.iconst 0, 1) := by decide +kernel
theorem dX5_readInto_2 : decode cX5_readInto 2 = .ok (.putfield 19, 3) := by decide +kernel
theorem dX5_readInto_5 : decode cX5_readInto 5 = .ok (.aload_n 0, 1) := by decide +kernel
theorem dX5_readInto_6 : decode cX5_readInto 6 = .ok (.bipush 98, 2) := by decide +kernel
theorem dX5_readInto_8 : decode cX5_readInto 8 = .ok (.invokevirtual 28, 3) := by decide +kernel
theorem dX5_readInto_11 : decode cX5_readInto 11 = .ok (.ifCond .eq 21, 3) := by decide +kernel
theorem dX5_readInto_14 : decode cX5_readInto 14 = .ok (.aload_n 0, 1) := by decide +kernel
theorem dX5_readInto_15 : decode cX5_readInto 15 = .ok (.iconst 0, 1) := by decide +kernel
theorem dX5_readInto_16 : decode cX5_readInto 16 = .ok (.iconst 1, 1) := by decide +kernel
theorem dX5_readInto_17 : decode cX5_readInto 17 = .ok (.invokevirtual 32, 3) := by decide +kernel
theorem dX5_readInto_20 : decode cX5_readInto 20 = .ok (.ifCond .eq 12, 3) := by decide +kernel
theorem dX5_readInto_23 : decode cX5_readInto 23 = .ok (.aload_n 0, 1) := by decide +kernel
theorem dX5_readInto_24 : decode cX5_readInto 24 = .ok (.bipush 59, 2) := by decide +kernel
theorem dX5_readInto_26 : decode cX5_readInto 26 = .ok (.invokevirtual 28, 3) := by decide +kernel
theorem dX5_readInto_29 : decode cX5_readInto 29 = .ok (.ifCond .ne 5, 3) := by decide +kernel
theorem dX5_readInto_32 : decode cX5_readInto 32 = .ok (.iconst 0, 1) := by decide +kernel
theorem dX5_readInto_33 : decode cX5_readInto 33 = .ok (.ireturn, 1) := by decide +kernel
theorem dX5_readInto_34 : decode cX5_readInto 34 = .ok (.aload_n 1, 1) := by decide +kernel
theorem dX5_readInto_35 : decode cX5_readInto 35 = .ok (.aload_n 0, 1) := by decide +kernel
theorem dX5_readInto_36 : decode cX5_readInto 36 = .ok (.getfield 25, 3) := by decide +kernel
theorem dX5_readInto_39 : decode cX5_readInto 39 = .ok (.invokevirtual 36, 3) := by decide +kernel
theorem dX5_readInto_42 : decode cX5_readInto 42 = .ok (.iconst 0, 1) := by decide +kernel
theorem dX5_readInto_43 : decode cX5_readInto 43 = .ok (.istore_n 2, 1) := by decide +kernel
theorem dX5_readInto_44 : decode cX5_readInto 44 = .ok (.iload_n 2, 1) := by decide +kernel
theorem dX5_readInto_45 : decode cX5_readInto 45 = .ok (.bipush 8, 2) := by decide +kernel
theorem dX5_readInto_47 : decode cX5_readInto 47 = .ok (.if_icmp .gt 36, 3) := by decide +kernel
theorem dX5_readInto_50 : decode cX5_readInto 50 = .ok (.iload_n 2, 1) := by decide +kernel
theorem dX5_readInto_51 : decode cX5_readInto 51 = .ok (.ifCond .le 16, 3) := by decide +kernel
theorem dX5_readInto_54 : decode cX5_readInto 54 = .ok (.aload_n 0, 1) := by decide +kernel
theorem dX5_readInto_55 : decode cX5_readInto 55 = .ok (.getfield 19, 3) := by decide +kernel
theorem dX5_readInto_58 : decode cX5_readInto 58 = .ok (.aload_n 0, 1) := by decide +kernel
theorem dX5_readInto_59 : decode cX5_readInto 59 = .ok (.getfield 15, 3) := by decide +kernel
theorem dX5_readInto_62 : decode cX5_readInto 62 = .ok (.if_icmp .ne 5, 3) := by decide +kernel
theorem dX5_readInto_65 : decode cX5_readInto 65 = .ok (.iconst 1, 1) := by decide +kernel
theorem dX5_readInto_66 : decode cX5_readInto 66 = .ok (.ireturn, 1) := by decide +kernel
theorem dX5_readInto_67 : decode cX5_readInto 67 = .ok (.aload_n 0, 1) := by decide +kernel
theorem dX5_readInto_68 : decode cX5_readInto 68 = .ok (.aload_n 1, 1) := by decide +kernel
theorem dX5_readInto_69 : decode cX5_readInto 69 = .ok (.invokevirtual 42, 3) := by decide +kernel
theorem dX5_readInto_72 : decode cX5_readInto 72 = .ok (.ifCond .ne 5, 3) := by decide +kernel
theorem dX5_readInto_75 : decode cX5_readInto 75 = .ok (.iconst 0, 1) := by decide +kernel
theorem dX5_readInto_76 : decode cX5_readInto 76 = .ok (.ireturn, 1) := by decide +kernel
theorem dX5_readInto_77 : decode cX5_readInto 77 = .ok (.iinc 2 1, 3) := by decide +kernel
theorem dX5_readInto_80 : decode cX5_readInto 80 = .ok (.goto (-36), 3) := by decide +kernel
theorem dX5_readInto_83 : decode cX5_readInto 83 = .ok (.iconst 1, 1) := by decide +kernel
theorem dX5_readInto_84 : decode cX5_readInto 84 = .ok (.ireturn, 1) := by decide +kernel
theorem dX5_readThing_0 : decode cX5_readThing 0 = .ok (.aload_n 0, 1) := by decide +kernel
theorem dX5_readThing_1 : decode cX5_readThing 1 = .ok (.getfield 19, 3) := by decide +kernel
theorem dX5_readThing_4 : decode cX5_readThing 4 = .ok (.aload_n 0, 1) := by decide +kernel
theorem dX5_readThing_5 : decode cX5_readThing 5 = .ok (.getfield 15, 3) := by decide +kernel
theorem dX5_readThing_8 : decode cX5_readThing 8 = .ok (.if_icmp .ge 23, 3) := by decide +kernel
theorem dX5_readThing_11 : decode cX5_readThing 11 = .ok (.ldc 46, 2) := by decide +kernel
theorem dX5_readThing_13 : decode cX5_readThing 13 = .ok (.aload_n 0, 1) := by decide +kernel
theorem dX5_readThing_14 : decode cX5_readThing 14 = .ok (.getfield 9, 3) := by decide +kernel
theorem dX5_readThing_17 : decode cX5_readThing 17 = .ok (.aload_n 0, 1) := by decide +kernel
theorem dX5_readThing_18 : decode cX5_readThing 18 = .ok (.getfield 19, 3) := by decide +kernel
theorem dX5_readThing_21 : decode cX5_readThing 21 = .ok (.iaload, 1) := by decide +kernel
theorem dX5_readThing_22 : decode cX5_readThing 22 = .ok (.i2c, 1) := by decide +kernel
theorem dX5_readThing_23 : decode cX5_readThing 23 = .ok (.invokevirtual 48, 3) := by decide +kernel
theorem dX5_readThing_26 : decode cX5_readThing 26 = .ok (.iconst 1, 1) := by decide +kernel
theorem dX5_readThing_27 : decode cX5_readThing 27 = .ok (.iadd, 1) := by decide +kernel
theorem dX5_readThing_28 : decode cX5_readThing 28 = .ok (.goto 4, 3) := by decide +kernel
theorem dX5_readThing_31 : decode cX5_readThing 31 = .ok (.iconst 0, 1) := by decide +kernel
theorem dX5_readThing_32 : decode cX5_readThing 32 = .ok (.istore_n 2, 1) := by decide +kernel
theorem dX5_readThing_33 : decode cX5_readThing 33 = .ok (.iload_n 2, 1) := by decide +kernel
theorem dX5_readThing_34 : decode cX5_readThing 34 = .ok (.ifCond .ne 9, 3) := by decide +kernel
theorem dX5_readThing_37 : decode cX5_readThing 37 = .ok (.aload_n 0, 1) := by decide +kernel
theorem dX5_readThing_38 : decode cX5_readThing 38 = .ok (.iconst 1, 1) := by decide +kernel
theorem dX5_readThing_39 : decode cX5_readThing 39 = .ok (.invokevirtual 54, 3) := by decide +kernel
theorem dX5_readThing_42 : decode cX5_readThing 42 = .ok (.ireturn, 1) := by decide +kernel
theorem dX5_readThing_43 : decode cX5_readThing 43 = .ok (.aload_n 1, 1) := by decide +kernel
theorem dX5_readThing_44 : decode cX5_readThing 44 = .ok (.getfield 57, 3) := by decide +kernel
theorem dX5_readThing_47 : decode cX5_readThing 47 = .ok (.bipush 8, 2) := by decide +kernel
theorem dX5_readThing_49 : decode cX5_readThing 49 = .ok (.if_icmp .lt 9, 3) := by decide +kernel
theorem dX5_readThing_52 : decode cX5_readThing 52 = .ok (.aload_n 0, 1) := by decide +kernel
theorem dX5_readThing_53 : decode cX5_readThing 53 = .ok (.iconst 3, 1) := by decide +kernel
theorem dX5_readThing_54 : decode cX5_readThing 54 = .ok (.invokevirtual 54, 3) := by decide +kernel
theorem dX5_readThing_57 : decode cX5_readThing 57 = .ok (.ireturn, 1) := by decide +kernel
theorem dX5_readThing_58 : decode cX5_readThing 58 = .ok (.aload_n 0, 1) := by decide +kernel
theorem dX5_readThing_59 : decode cX5_readThing 59 = .ok (.dup, 1) := by decide +kernel
theorem dX5_readThing_60 : decode cX5_readThing 60 = .ok (.getfield 19, 3) := by decide +kernel
theorem dX5_readThing_63 : decode cX5_readThing 63 = .ok (.iconst 1, 1) := by decide +kernel
theorem dX5_readThing_64 : decode cX5_readThing 64 = .ok (.iadd, 1) := by decide +kernel
theorem dX5_readThing_65 : decode cX5_readThing 65 = .ok (.putfield 19, 3) := by decide +kernel
theorem dX5_readThing_68 : decode cX5_readThing 68 = .ok (.aload_n 0, 1) := by decide +kernel
theorem dX5_readThing_69 : decode cX5_readThing 69 = .ok (.iconst 1, 1) := by decide +kernel
theorem dX5_readThing_70 : decode cX5_readThing 70 = .ok (.bipush 30, 2) := by decide +kernel
theorem dX5_readThing_72 : decode cX5_readThing 72 = .ok (.invokevirtual 32, 3) := by decide +kernel
theorem dX5_readThing_75 : decode cX5_readThing 75 = .ok (.ifCond .eq 12, 3) := by decide +kernel
theorem dX5_readThing_78 : decode cX5_readThing 78 = .ok (.aload_n 0, 1) := by decide +kernel
theorem dX5_readThing_79 : decode cX5_readThing 79 = .ok (.bipush 44, 2) := by decide +kernel
theorem dX5_readThing_81 : decode cX5_readThing 81 = .ok (.invokevirtual 28, 3) := by decide +kernel
theorem dX5_readThing_84 : decode cX5_readThing 84 = .ok (.ifCond .ne 5, 3) := by decide +kernel
theorem dX5_readThing_87 : decode cX5_readThing 87 = .ok (.iconst 0, 1) := by decide +kernel
theorem dX5_readThing_88 : decode cX5_readThing 88 = .ok (.ireturn, 1) := by decide +kernel
theorem dX5_readThing_89 : decode cX5_readThing 89 = .ok (.aload_n 0, 1) := by decide +kernel
theorem dX5_readThing_90 : decode cX5_readThing 90 = .ok (.getfield 25, 3) := by decide +kernel
theorem dX5_readThing_93 : decode cX5_readThing 93 = .ok (.istore_n 3, 1) := by decide +kernel
theorem dX5_readThing_94 : decode cX5_readThing 94 = .ok (.aload_n 0, 1) := by decide +kernel
theorem dX5_readThing_95 : decode cX5_readThing 95 = .ok (.iconst 0, 1) := by decide +kernel
theorem dX5_readThing_96 : decode cX5_readThing 96 = .ok (.bipush 20, 2) := by decide +kernel
theorem dX5_readThing_98 : decode cX5_readThing 98 = .ok (.invokevirtual 32, 3) := by decide +kernel
theorem dX5_readThing_101 : decode cX5_readThing 101 = .ok (.ifCond .eq 12, 3) := by decide +kernel
theorem dX5_readThing_104 : decode cX5_readThing 104 = .ok (.aload_n 0, 1) := by decide +kernel
theorem dX5_readThing_105 : decode cX5_readThing 105 = .ok (.bipush 59, 2) := by decide +kernel
theorem dX5_readThing_107 : decode cX5_readThing 107 = .ok (.invokevirtual 28, 3) := by decide +kernel
theorem dX5_readThing_110 : decode cX5_readThing 110 = .ok (.ifCond .ne 5, 3) := by decide +kernel
theorem dX5_readThing_113 : decode cX5_readThing 113 = .ok (.iconst 0, 1) := by decide +kernel
theorem dX5_readThing_114 : decode cX5_readThing 114 = .ok (.ireturn, 1) := by decide +kernel
theorem dX5_readThing_115 : decode cX5_readThing 115 = .ok (.aload_n 1, 1) := by decide +kernel
theorem dX5_readThing_116 : decode cX5_readThing 116 = .ok (.iload_n 2, 1) := by decide +kernel
theorem dX5_readThing_117 : decode cX5_readThing 117 = .ok (.iload_n 3, 1) := by decide +kernel
theorem dX5_readThing_118 : decode cX5_readThing 118 = .ok (.aload_n 0, 1) := by decide +kernel
theorem dX5_readThing_119 : decode cX5_readThing 119 = .ok (.getfield 25, 3) := by decide +kernel
theorem dX5_readThing_122 : decode cX5_readThing 122 = .ok (.invokevirtual 60, 3) := by decide +kernel
theorem dX5_readThing_125 : decode cX5_readThing 125 = .ok (.iconst 1, 1) := by decide +kernel
theorem dX5_readThing_126 : decode cX5_readThing 126 = .ok (.ireturn, 1) := by decide +kernel
theorem dX5_readSign_0 : decode cX5_readSign 0 = .ok (.aload_n 0, 1) := by decide +kernel
theorem dX5_readSign_1 : decode cX5_readSign 1 = .ok (.getfield 19, 3) := by decide +kernel
theorem dX5_readSign_4 : decode cX5_readSign 4 = .ok (.aload_n 0, 1) := by decide +kernel
theorem dX5_readSign_5 : decode cX5_readSign 5 = .ok (.getfield 15, 3) := by decide +kernel
theorem dX5_readSign_8 : decode cX5_readSign 8 = .ok (.if_icmp .ge 16, 3) := by decide +kernel
theorem dX5_readSign_11 : decode cX5_readSign 11 = .ok (.aload_n 0, 1) := by decide +kernel
theorem dX5_readSign_12 : decode cX5_readSign 12 = .ok (.getfield 9, 3) := by decide +kernel
theorem dX5_readSign_15 : decode cX5_readSign 15 = .ok (.aload_n 0, 1) := by decide +kernel
theorem dX5_readSign_16 : decode cX5_readSign 16 = .ok (.getfield 19, 3) := by decide +kernel
theorem dX5_readSign_19 : decode cX5_readSign 19 = .ok (.iaload, 1) := by decide +kernel
theorem dX5_readSign_20 : decode cX5_readSign 20 = .ok (.iload_n 1, 1) := by decide +kernel
theorem dX5_readSign_21 : decode cX5_readSign 21 = .ok (.if_icmp .eq 9, 3) := by decide +kernel
theorem dX5_readSign_24 : decode cX5_readSign 24 = .ok (.aload_n 0, 1) := by decide +kernel
theorem dX5_readSign_25 : decode cX5_readSign 25 = .ok (.iconst 1, 1) := by decide +kernel
theorem dX5_readSign_26 : decode cX5_readSign 26 = .ok (.invokevirtual 54, 3) := by decide +kernel
theorem dX5_readSign_29 : decode cX5_readSign 29 = .ok (.ireturn, 1) := by decide +kernel
theorem dX5_readSign_30 : decode cX5_readSign 30 = .ok (.aload_n 0, 1) := by decide +kernel
theorem dX5_readSign_31 : decode cX5_readSign 31 = .ok (.dup, 1) := by decide +kernel
theorem dX5_readSign_32 : decode cX5_readSign 32 = .ok (.getfield 19, 3) := by decide +kernel
theorem dX5_readSign_35 : decode cX5_readSign 35 = .ok (.iconst 1, 1) := by decide +kernel
theorem dX5_readSign_36 : decode cX5_readSign 36 = .ok (.iadd, 1) := by decide +kernel
theorem dX5_readSign_37 : decode cX5_readSign 37 = .ok (.putfield 19, 3) := by decide +kernel
theorem dX5_readSign_40 : decode cX5_readSign 40 = .ok (.iconst 1, 1) := by decide +kernel
theorem dX5_readSign_41 : decode cX5_readSign 41 = .ok (.ireturn, 1) := by decide +kernel
theorem dX5_readNumber_0 : decode cX5_readNumber 0 = .ok (.aload_n 0, 1) := by decide +kernel
theorem dX5_readNumber_1 : decode cX5_readNumber 1 = .ok (.getfield 19, 3) := by decide +kernel
theorem dX5_readNumber_4 : decode cX5_readNumber 4 = .ok (.istore_n 3, 1) := by decide +kernel
theorem dX5_readNumber_5 : decode cX5_readNumber 5 = .ok (.iconst 0, 1) := by decide +kernel
theorem dX5_readNumber_6 : decode cX5_readNumber 6 = .ok (.istore 4, 2) := by decide +kernel
theorem dX5_readNumber_8 : decode cX5_readNumber 8 = .ok (.iload_n 3, 1) := by decide +kernel
theorem dX5_readNumber_9 : decode cX5_readNumber 9 = .ok (.aload_n 0, 1) := by decide +kernel
theorem dX5_readNumber_10 : decode cX5_readNumber 10 = .ok (.getfield 15, 3) := by decide +kernel
theorem dX5_readNumber_13 : decode cX5_readNumber 13 = .ok (.if_icmp .ge 52, 3) := by decide +kernel
theorem dX5_readNumber_16 : decode cX5_readNumber 16 = .ok (.iload_n 3, 1) := by decide +kernel
theorem dX5_readNumber_17 : decode cX5_readNumber 17 = .ok (.aload_n 0, 1) := by decide +kernel
theorem dX5_readNumber_18 : decode cX5_readNumber 18 = .ok (.getfield 19, 3) := by decide +kernel
theorem dX5_readNumber_21 : decode cX5_readNumber 21 = .ok (.iconst 3, 1) := by decide +kernel
theorem dX5_readNumber_22 : decode cX5_readNumber 22 = .ok (.iadd, 1) := by decide +kernel
theorem dX5_readNumber_23 : decode cX5_readNumber 23 = .ok (.if_icmp .ge 42, 3) := by decide +kernel
theorem dX5_readNumber_26 : decode cX5_readNumber 26 = .ok (.aload_n 0, 1) := by decide +kernel
theorem dX5_readNumber_27 : decode cX5_readNumber 27 = .ok (.getfield 9, 3) := by decide +kernel
theorem dX5_readNumber_30 : decode cX5_readNumber 30 = .ok (.iload_n 3, 1) := by decide +kernel
theorem dX5_readNumber_31 : decode cX5_readNumber 31 = .ok (.iaload, 1) := by decide +kernel
theorem dX5_readNumber_32 : decode cX5_readNumber 32 = .ok (.bipush 48, 2) := by decide +kernel
theorem dX5_readNumber_34 : decode cX5_readNumber 34 = .ok (.bipush 57, 2) := by decide +kernel
theorem dX5_readNumber_36 : decode cX5_readNumber 36 = .ok (.invokestatic 64, 3) := by decide +kernel
theorem dX5_readNumber_39 : decode cX5_readNumber 39 = .ok (.ifCond .eq 26, 3) := by decide +kernel
theorem dX5_readNumber_42 : decode cX5_readNumber 42 = .ok (.bipush 10, 2) := by decide +kernel
theorem dX5_readNumber_44 : decode cX5_readNumber 44 = .ok (.iload 4, 2) := by decide +kernel
theorem dX5_readNumber_46 : decode cX5_readNumber 46 = .ok (.imul, 1) := by decide +kernel
theorem dX5_readNumber_47 : decode cX5_readNumber 47 = .ok (.aload_n 0, 1) := by decide +kernel
theorem dX5_readNumber_48 : decode cX5_readNumber 48 = .ok (.getfield 9, 3) := by decide +kernel
theorem dX5_readNumber_51 : decode cX5_readNumber 51 = .ok (.iload_n 3, 1) := by decide +kernel
theorem dX5_readNumber_52 : decode cX5_readNumber 52 = .ok (.iaload, 1) := by decide +kernel
theorem dX5_readNumber_53 : decode cX5_readNumber 53 = .ok (.iadd, 1) := by decide +kernel
theorem dX5_readNumber_54 : decode cX5_readNumber 54 = .ok (.bipush 48, 2) := by decide +kernel
theorem dX5_readNumber_56 : decode cX5_readNumber 56 = .ok (.isub, 1) := by decide +kernel
theorem dX5_readNumber_57 : decode cX5_readNumber 57 = .ok (.istore 4, 2) := by decide +kernel
theorem dX5_readNumber_59 : decode cX5_readNumber 59 = .ok (.iinc 3 1, 3) := by decide +kernel
theorem dX5_readNumber_62 : decode cX5_readNumber 62 = .ok (.goto (-54), 3) := by decide +kernel
theorem dX5_readNumber_65 : decode cX5_readNumber 65 = .ok (.iload_n 3, 1) := by decide +kernel
theorem dX5_readNumber_66 : decode cX5_readNumber 66 = .ok (.aload_n 0, 1) := by decide +kernel
theorem dX5_readNumber_67 : decode cX5_readNumber 67 = .ok (.getfield 19, 3) := by decide +kernel
theorem dX5_readNumber_70 : decode cX5_readNumber 70 = .ok (.if_icmp .eq 13, 3) := by decide +kernel
theorem dX5_readNumber_73 : decode cX5_readNumber 73 = .ok (.iload_n 3, 1) := by decide +kernel
theorem dX5_readNumber_74 : decode cX5_readNumber 74 = .ok (.aload_n 0, 1) := by decide +kernel
theorem dX5_readNumber_75 : decode cX5_readNumber 75 = .ok (.getfield 19, 3) := by decide +kernel
theorem dX5_readNumber_78 : decode cX5_readNumber 78 = .ok (.iconst 3, 1) := by decide +kernel
theorem dX5_readNumber_79 : decode cX5_readNumber 79 = .ok (.iadd, 1) := by decide +kernel
theorem dX5_readNumber_80 : decode cX5_readNumber 80 = .ok (.if_icmp .ne 9, 3) := by decide +kernel
theorem dX5_readNumber_83 : decode cX5_readNumber 83 = .ok (.aload_n 0, 1) := by decide +kernel
theorem dX5_readNumber_84 : decode cX5_readNumber 84 = .ok (.iconst 1, 1) := by decide +kernel
theorem dX5_readNumber_85 : decode cX5_readNumber 85 = .ok (.invokevirtual 54, 3) := by decide +kernel
theorem dX5_readNumber_88 : decode cX5_readNumber 88 = .ok (.ireturn, 1) := by decide +kernel
theorem dX5_readNumber_89 : decode cX5_readNumber 89 = .ok (.iload 4, 2) := by decide +kernel
theorem dX5_readNumber_91 : decode cX5_readNumber 91 = .ok (.iload_n 1, 1) := by decide +kernel
theorem dX5_readNumber_92 : decode cX5_readNumber 92 = .ok (.iload_n 2, 1) := by decide +kernel
theorem dX5_readNumber_93 : decode cX5_readNumber 93 = .ok (.invokestatic 64, 3) := by decide +kernel
theorem dX5_readNumber_96 : decode cX5_readNumber 96 = .ok (.ifCond .ne 9, 3) := by decide +kernel
theorem dX5_readNumber_99 : decode cX5_readNumber 99 = .ok (.aload_n 0, 1) := by decide +kernel
theorem dX5_readNumber_100 : decode cX5_readNumber 100 = .ok (.iconst 2, 1) := by decide +kernel
theorem dX5_readNumber_101 : decode cX5_readNumber 101 = .ok (.invokevirtual 54, 3) := by decide +kernel
theorem dX5_readNumber_104 : decode cX5_readNumber 104 = .ok (.ireturn, 1) := by decide +kernel
theorem dX5_readNumber_105 : decode cX5_readNumber 105 = .ok (.aload_n 0, 1) := by decide +kernel
theorem dX5_readNumber_106 : decode cX5_readNumber 106 = .ok (.iload 4, 2) := by decide +kernel
theorem dX5_readNumber_108 : decode cX5_readNumber 108 = .ok (.putfield 25, 3) := by decide +kernel
theorem dX5_readNumber_111 : decode cX5_readNumber 111 = .ok (.aload_n 0, 1) := by decide +kernel
theorem dX5_readNumber_112 : decode cX5_readNumber 112 = .ok (.iload_n 3, 1) := by decide +kernel
theorem dX5_readNumber_113 : decode cX5_readNumber 113 = .ok (.putfield 19, 3) := by decide +kernel
theorem dX5_readNumber_116 : decode cX5_readNumber 116 = .ok (.iconst 1, 1) := by decide +kernel
theorem dX5_readNumber_117 : decode cX5_readNumber 117 = .ok (.ireturn, 1) := by decide +kernel
theorem dX5_failWith_0 : decode cX5_failWith 0 = .ok (.aload_n 0, 1) := by decide +kernel
theorem dX5_failWith_1 : decode cX5_failWith 1 = .ok (.iload_n 1, 1) := by decide +kernel
theorem dX5_failWith_2 : decode cX5_failWith 2 = .ok (.putfield 22, 3) := by decide +kernel
theorem dX5_failWith_5 : decode cX5_failWith 5 = .ok (.iconst 0, 1) := by decide +kernel
theorem dX5_failWith_6 : decode cX5_failWith 6 = .ok (.ireturn, 1) := by decide +kernel
theorem dX6_init_0 : decode cX6_init 0 = .ok (.aload_n 0, 1) := by decide +kernel
theorem dX6_init_1 : decode cX6_init 1 = .ok (.invokespecial 1, 3) := by decide +kernel
theorem dX6_init_4 : decode cX6_init 4 = .ok (.aload_n 0, 1) := by decide +kernel
theorem dX6_init_5 : decode cX6_init 5 = .ok (.bipush 8, 2) := by decide +kernel
theorem dX6_init_7 : decode cX6_init 7 = .ok (.anewarray 9, 3) := by decide +kernel
theorem dX6_init_10 : decode cX6_init 10 = .ok (.putfield 11, 3) := by decide +kernel
theorem dX6_init_13 : decode cX6_init 13 = .ok (.aload_n 0, 1) := by decide +kernel
theorem dX6_init_14 : decode cX6_init 14 = .ok (.iconst 2, 1) := by decide +kernel
theorem dX6_init_15 : decode cX6_init 15 = .ok (.anewarray 15, 3) := by decide +kernel
theorem dX6_init_18 : decode cX6_init 18 = .ok (.putfield 17, 3) := by decide +kernel
theorem dX6_init_21 : decode cX6_init 21 = .ok (.aload_n 0, 1) := by decide +kernel
theorem dX6_init_22 : decode cX6_init 22 = .ok (.new 15, 3) := by decide +kernel
theorem dX6_init_25 : decode cX6_init 25 = .ok (.dup, 1) := by decide +kernel
theorem dX6_init_26 : decode cX6_init 26 = .ok (.invokespecial 21, 3) := by decide +kernel
theorem dX6_init_29 : decode cX6_init 29 = .ok (.putfield 22, 3) := by decide +kernel
theorem dX6_init_32 : decode cX6_init 32 = .ok (.aload_n 0, 1) := by decide +kernel
theorem dX6_init_33 : decode cX6_init 33 = .ok (.new 15, 3) := by decide +kernel
theorem dX6_init_36 : decode cX6_init 36 = .ok (.dup, 1) := by decide +kernel
theorem dX6_init_37 : decode cX6_init 37 = .ok (.invokespecial 21, 3) := by decide +kernel
theorem dX6_init_40 : decode cX6_init 40 = .ok (.putfield 26, 3) := by decide +kernel
theorem dX6_init_43 : decode cX6_init 43 = .ok (.aload_n 0, 1) := by decide +kernel
theorem dX6_init_44 : decode cX6_init 44 = .ok (.new 29, 3) := by decide +kernel
theorem dX6_init_47 : decode cX6_init 47 = .ok (.dup, 1) := by decide +kernel
theorem dX6_init_48 : decode cX6_init 48 = .ok (.invokespecial 31, 3) := by decide +kernel
theorem dX6_init_51 : decode cX6_init 51 = .ok (.putfield 32, 3) := by decide +kernel
theorem dX6_init_54 : decode cX6_init 54 = .ok (.aload_n 0, 1) := by decide +kernel
theorem dX6_init_55 : decode cX6_init 55 = .ok (.new 36, 3) := by decide +kernel
theorem dX6_init_58 : decode cX6_init 58 = .ok (.dup, 1) := by decide +kernel
theorem dX6_init_59 : decode cX6_init 59 = .ok (.invokespecial 38, 3) := by decide +kernel
theorem dX6_init_62 : decode cX6_init 62 = .ok (.putfield 39, 3) := by decide +kernel
theorem dX6_init_65 : decode cX6_init 65 = .ok (.aload_n 0, 1) := by decide +kernel
theorem dX6_init_66 : decode cX6_init 66 = .ok (.new 43, 3) := by decide +kernel
theorem dX6_init_69 : decode cX6_init 69 = .ok (.dup, 1) := by decide +kernel
theorem dX6_init_70 : decode cX6_init 70 = .ok (.invokespecial 45, 3) := by decide +kernel
theorem dX6_init_73 : decode cX6_init 73 = .ok (.putfield 46, 3) := by decide +kernel
theorem dX6_init_76 : decode cX6_init 76 = .ok (.aload_n 0, 1) := by decide +kernel
theorem dX6_init_77 : decode cX6_init 77 = .ok (.new 50, 3) := by decide +kernel
theorem dX6_init_80 : decode cX6_init 80 = .ok (.dup, 1) := by decide +kernel
theorem dX6_init_81 : decode cX6_init 81 = .ok (.invokespecial 52, 3) := by decide +kernel
theorem dX6_init_84 : decode cX6_init 84 = .ok (.putfield 53, 3) := by decide +kernel
theorem dX6_init_87 : decode cX6_init 87 = .ok (.aload_n 0, 1) := by decide +kernel
theorem dX6_init_88 : decode cX6_init 88 = .ok (.iconst 0, 1) := by decide +kernel
theorem dX6_init_89 : decode cX6_init 89 = .ok (.putfield 57, 3) := by decide +kernel
theorem dX6_init_92 : decode cX6_init 92 = .ok (.iconst 0, 1) := by decide +kernel
theorem dX6_init_93 : decode cX6_init 93 = .ok (.istore_n 1, 1) := by decide +kernel
theorem dX6_init_94 : decode cX6_init 94 = .ok (.iload_n 1, 1) := by decide +kernel
theorem dX6_init_95 : decode cX6_init 95 = .ok (.bipush 8, 2) := by decide +kernel
theorem dX6_init_97 : decode cX6_init 97 = .ok (.if_icmp .ge 22, 3) := by decide +kernel
theorem dX6_init_100 : decode cX6_init 100 = .ok (.aload_n 0, 1) := by decide +kernel
theorem dX6_init_101 : decode cX6_init 101 = .ok (.getfield 11, 3) := by decide +kernel
theorem dX6_init_104 : decode cX6_init 104 = .ok (.iload_n 1, 1) := by decide +kernel
theorem dX6_init_105 : decode cX6_init 105 = .ok (.new 9, 3) := by decide +kernel
theorem dX6_init_108 : decode cX6_init 108 = .ok (.dup, 1) := by decide +kernel
theorem dX6_init_109 : decode cX6_init 109 = .ok (.invokespecial 61, 3) := by decide +kernel
theorem dX6_init_112 : decode cX6_init 112 = .ok (.aastore, 1) := by decide +kernel
theorem dX6_init_113 : decode cX6_init 113 = .ok (.iinc 1 1, 3) := by decide +kernel
theorem dX6_init_116 : decode cX6_init 116 = .ok (.goto (-22), 3) := by decide +kernel
theorem dX6_init_119 : decode cX6_init 119 = .ok (.iconst 0, 1) := by decide +kernel
theorem dX6_init_120 : decode cX6_init 120 = .ok (.istore_n 1, 1) := by decide +kernel
theorem dX6_init_121 : decode cX6_init 121 = .ok (.iload_n 1, 1) := by decide +kernel
theorem dX6_init_122 : decode cX6_init 122 = .ok (.iconst 2, 1) := by decide +kernel
theorem dX6_init_123 : decode cX6_init 123 = .ok (.if_icmp .ge 22, 3) := by decide +kernel
theorem dX6_init_126 : decode cX6_init 126 = .ok (.aload_n 0, 1) := by decide +kernel
theorem dX6_init_127 : decode cX6_init 127 = .ok (.getfield 17, 3) := by decide +kernel
theorem dX6_init_130 : decode cX6_init 130 = .ok (.iload_n 1, 1) := by decide +kernel
theorem dX6_init_131 : decode cX6_init 131 = .ok (.new 15, 3) := by decide +kernel
theorem dX6_init_134 : decode cX6_init 134 = .ok (.dup, 1) := by decide +kernel
theorem dX6_init_135 : decode cX6_init 135 = .ok (.invokespecial 21, 3) := by decide +kernel
theorem dX6_init_138 : decode cX6_init 138 = .ok (.aastore, 1) := by decide +kernel
theorem dX6_init_139 : decode cX6_init 139 = .ok (.iinc 1 1, 3) := by decide +kernel
theorem dX6_init_142 : decode cX6_init 142 = .ok (.goto (-21), 3) := by decide +kernel
theorem dX6_init_145 : decode cX6_init 145 = .ok (.return_, 1) := by decide +kernel
theorem dX6_row_0 : decode cX6_row 0 = .ok (.iload_n 1, 1) := by decide +kernel
theorem dX6_row_1 : decode cX6_row 1 = .ok (.invokestatic 62, 3) := by decide +kernel
theorem dX6_row_4 : decode cX6_row 4 = .ok (.ifCond .eq 18, 3) := by decide +kernel
theorem dX6_row_7 : decode cX6_row 7 = .ok (.iload_n 2, 1) := by decide +kernel
theorem dX6_row_8 : decode cX6_row 8 = .ok (.ifCond .lt 14, 3) := by decide +kernel
theorem dX6_row_11 : decode cX6_row 11 = .ok (.iload_n 2, 1) := by decide +kernel
theorem dX6_row_12 : decode cX6_row 12 = .ok (.iconst 2, 1) := by decide +kernel
theorem dX6_row_13 : decode cX6_row 13 = .ok (.if_icmp .gt 9, 3) := by decide +kernel
theorem dX6_row_16 : decode cX6_row 16 = .ok (.iload_n 3, 1) := by decide +kernel
theorem dX6_row_17 : decode cX6_row 17 = .ok (.bipush 40, 2) := by decide +kernel
theorem dX6_row_19 : decode cX6_row 19 = .ok (.if_icmp .le 6, 3) := by decide +kernel
theorem dX6_row_22 : decode cX6_row 22 = .ok (.ldc 66, 2) := by decide +kernel
theorem dX6_row_24 : decode cX6_row 24 = .ok (.ireturn, 1) := by decide +kernel
theorem dX6_row_25 : decode cX6_row 25 = .ok (.iload_n 3, 1) := by decide +kernel
theorem dX6_row_26 : decode cX6_row 26 = .ok (.ifCond .ge 9, 3) := by decide +kernel
theorem dX6_row_29 : decode cX6_row 29 = .ok (.aload_n 0, 1) := by decide +kernel
theorem dX6_row_30 : decode cX6_row 30 = .ok (.iconst 4, 1) := by decide +kernel
theorem dX6_row_31 : decode cX6_row 31 = .ok (.invokevirtual 67, 3) := by decide +kernel
theorem dX6_row_34 : decode cX6_row 34 = .ok (.ireturn, 1) := by decide +kernel
theorem dX6_row_35 : decode cX6_row 35 = .ok (.aload_n 0, 1) := by decide +kernel
theorem dX6_row_36 : decode cX6_row 36 = .ok (.getfield 11, 3) := by decide +kernel
theorem dX6_row_39 : decode cX6_row 39 = .ok (.iload_n 1, 1) := by decide +kernel
theorem dX6_row_40 : decode cX6_row 40 = .ok (.aaload, 1) := by decide +kernel
theorem dX6_row_41 : decode cX6_row 41 = .ok (.iload_n 2, 1) := by decide +kernel
theorem dX6_row_42 : decode cX6_row 42 = .ok (.iload_n 3, 1) := by decide +kernel
theorem dX6_row_43 : decode cX6_row 43 = .ok (.invokevirtual 71, 3) := by decide +kernel
theorem dX6_row_46 : decode cX6_row 46 = .ok (.aload_n 0, 1) := by decide +kernel
theorem dX6_row_47 : decode cX6_row 47 = .ok (.iload_n 3, 1) := by decide +kernel
theorem dX6_row_48 : decode cX6_row 48 = .ok (.invokevirtual 75, 3) := by decide +kernel
theorem dX6_row_51 : decode cX6_row 51 = .ok (.ireturn, 1) := by decide +kernel
theorem dX6_set_0 : decode cX6_set 0 = .ok (.iload_n 1, 1) := by decide +kernel
theorem dX6_set_1 : decode cX6_set 1 = .ok (.invokestatic 62, 3) := by decide +kernel
theorem dX6_set_4 : decode cX6_set 4 = .ok (.ifCond .ne 6, 3) := by decide +kernel
theorem dX6_set_7 : decode cX6_set 7 = .ok (.ldc 66, 2) := by decide +kernel
theorem dX6_set_9 : decode cX6_set 9 = .ok (.ireturn, 1) := by decide +kernel
theorem dX6_set_10 : decode cX6_set 10 = .ok (.aload_n 0, 1) := by decide +kernel
theorem dX6_set_11 : decode cX6_set 11 = .ok (.getfield 11, 3) := by decide +kernel
theorem dX6_set_14 : decode cX6_set 14 = .ok (.iload_n 1, 1) := by decide +kernel
theorem dX6_set_15 : decode cX6_set 15 = .ok (.aaload, 1) := by decide +kernel
theorem dX6_set_16 : decode cX6_set 16 = .ok (.invokevirtual 78, 3) := by decide +kernel
theorem dX6_set_19 : decode cX6_set 19 = .ok (.ifCond .eq 9, 3) := by decide +kernel
theorem dX6_set_22 : decode cX6_set 22 = .ok (.aload_n 0, 1) := by decide +kernel
theorem dX6_set_23 : decode cX6_set 23 = .ok (.iconst 1, 1) := by decide +kernel
theorem dX6_set_24 : decode cX6_set 24 = .ok (.invokevirtual 67, 3) := by decide +kernel
theorem dX6_set_27 : decode cX6_set 27 = .ok (.ireturn, 1) := by decide +kernel
theorem dX6_set_28 : decode cX6_set 28 = .ok (.aload_n 0, 1) := by decide +kernel
theorem dX6_set_29 : decode cX6_set 29 = .ok (.getfield 11, 3) := by decide +kernel
theorem dX6_set_32 : decode cX6_set 32 = .ok (.iload_n 1, 1) := by decide +kernel
theorem dX6_set_33 : decode cX6_set 33 = .ok (.aaload, 1) := by decide +kernel
theorem dX6_set_34 : decode cX6_set 34 = .ok (.iload_n 2, 1) := by decide +kernel
theorem dX6_set_35 : decode cX6_set 35 = .ok (.iconst 1, 1) := by decide +kernel
theorem dX6_set_36 : decode cX6_set 36 = .ok (.invokevirtual 82, 3) := by decide +kernel
theorem dX6_set_39 : decode cX6_set 39 = .ok (.ifCond .ne 9, 3) := by decide +kernel
theorem dX6_set_42 : decode cX6_set 42 = .ok (.aload_n 0, 1) := by decide +kernel
theorem dX6_set_43 : decode cX6_set 43 = .ok (.iconst 2, 1) := by decide +kernel
theorem dX6_set_44 : decode cX6_set 44 = .ok (.invokevirtual 67, 3) := by decide +kernel
theorem dX6_set_47 : decode cX6_set 47 = .ok (.ireturn, 1) := by decide +kernel
theorem dX6_set_48 : decode cX6_set 48 = .ok (.aload_n 0, 1) := by decide +kernel
theorem dX6_set_49 : decode cX6_set 49 = .ok (.aload_n 0, 1) := by decide +kernel
theorem dX6_set_50 : decode cX6_set 50 = .ok (.getfield 11, 3) := by decide +kernel
theorem dX6_set_53 : decode cX6_set 53 = .ok (.iload_n 1, 1) := by decide +kernel
theorem dX6_set_54 : decode cX6_set 54 = .ok (.aaload, 1) := by decide +kernel
theorem dX6_set_55 : decode cX6_set 55 = .ok (.iload_n 2, 1) := by decide +kernel
theorem dX6_set_56 : decode cX6_set 56 = .ok (.iload_n 3, 1) := by decide +kernel
theorem dX6_set_57 : decode cX6_set 57 = .ok (.invokevirtual 86, 3) := by decide +kernel
theorem dX6_set_60 : decode cX6_set 60 = .ok (.invokevirtual 75, 3) := by decide +kernel
theorem dX6_set_63 : decode cX6_set 63 = .ok (.ireturn, 1) := by decide +kernel
theorem dX6_copy_0 : decode cX6_copy 0 = .ok (.iload_n 1, 1) := by decide +kernel
theorem dX6_copy_1 : decode cX6_copy 1 = .ok (.invokestatic 62, 3) := by decide +kernel
theorem dX6_copy_4 : decode cX6_copy 4 = .ok (.ifCond .eq 10, 3) := by decide +kernel
theorem dX6_copy_7 : decode cX6_copy 7 = .ok (.iload_n 3, 1) := by decide +kernel
theorem dX6_copy_8 : decode cX6_copy 8 = .ok (.invokestatic 62, 3) := by decide +kernel
theorem dX6_copy_11 : decode cX6_copy 11 = .ok (.ifCond .ne 6, 3) := by decide +kernel
theorem dX6_copy_14 : decode cX6_copy 14 = .ok (.ldc 66, 2) := by decide +kernel
theorem dX6_copy_16 : decode cX6_copy 16 = .ok (.ireturn, 1) := by decide +kernel
theorem dX6_copy_17 : decode cX6_copy 17 = .ok (.aload_n 0, 1) := by decide +kernel
theorem dX6_copy_18 : decode cX6_copy 18 = .ok (.getfield 11, 3) := by decide +kernel
theorem dX6_copy_21 : decode cX6_copy 21 = .ok (.iload_n 1, 1) := by decide +kernel
theorem dX6_copy_22 : decode cX6_copy 22 = .ok (.aaload, 1) := by decide +kernel
theorem dX6_copy_23 : decode cX6_copy 23 = .ok (.astore 6, 2) := by decide +kernel
theorem dX6_copy_25 : decode cX6_copy 25 = .ok (.aload_n 0, 1) := by decide +kernel
theorem dX6_copy_26 : decode cX6_copy 26 = .ok (.getfield 11, 3) := by decide +kernel
theorem dX6_copy_29 : decode cX6_copy 29 = .ok (.iload_n 3, 1) := by decide +kernel
theorem dX6_copy_30 : decode cX6_copy 30 = .ok (.aaload, 1) := by decide +kernel
theorem dX6_copy_31 : decode cX6_copy 31 = .ok (.astore 7, 2) := by decide +kernel
theorem dX6_copy_33 : decode cX6_copy 33 = .ok (.aload 6, 2) := by decide +kernel
theorem dX6_copy_35 : decode cX6_copy 35 = .ok (.invokevirtual 78, 3) := by decide +kernel
theorem dX6_copy_38 : decode cX6_copy 38 = .ok (.ifCond .ne 11, 3) := by decide +kernel
theorem dX6_copy_41 : decode cX6_copy 41 = .ok (.aload 7, 2) := by decide +kernel
theorem dX6_copy_43 : decode cX6_copy 43 = .ok (.invokevirtual 78, 3) := by decide +kernel
theorem dX6_copy_46 : decode cX6_copy 46 = .ok (.ifCond .eq 9, 3) := by decide +kernel
theorem dX6_copy_49 : decode cX6_copy 49 = .ok (.aload_n 0, 1) := by decide +kernel
theorem dX6_copy_50 : decode cX6_copy 50 = .ok (.iconst 1, 1) := by decide +kernel
theorem dX6_copy_51 : decode cX6_copy 51 = .ok (.invokevirtual 67, 3) := by decide +kernel
theorem dX6_copy_54 : decode cX6_copy 54 = .ok (.ireturn, 1) := by decide +kernel
theorem dX6_copy_55 : decode cX6_copy 55 = .ok (.aload 6, 2) := by decide +kernel
theorem dX6_copy_57 : decode cX6_copy 57 = .ok (.getfield 90, 3) := by decide +kernel
theorem dX6_copy_60 : decode cX6_copy 60 = .ok (.aload 7, 2) := by decide +kernel
theorem dX6_copy_62 : decode cX6_copy 62 = .ok (.getfield 90, 3) := by decide +kernel
theorem dX6_copy_65 : decode cX6_copy 65 = .ok (.if_icmp .eq 9, 3) := by decide +kernel
theorem dX6_copy_68 : decode cX6_copy 68 = .ok (.aload_n 0, 1) := by decide +kernel
theorem dX6_copy_69 : decode cX6_copy 69 = .ok (.iconst 5, 1) := by decide +kernel
theorem dX6_copy_70 : decode cX6_copy 70 = .ok (.invokevirtual 67, 3) := by decide +kernel
theorem dX6_copy_73 : decode cX6_copy 73 = .ok (.ireturn, 1) := by decide +kernel
theorem dX6_copy_74 : decode cX6_copy 74 = .ok (.aload 6, 2) := by decide +kernel
theorem dX6_copy_76 : decode cX6_copy 76 = .ok (.iload_n 2, 1) := by decide +kernel
theorem dX6_copy_77 : decode cX6_copy 77 = .ok (.iload 5, 2) := by decide +kernel
theorem dX6_copy_79 : decode cX6_copy 79 = .ok (.invokevirtual 82, 3) := by decide +kernel
theorem dX6_copy_82 : decode cX6_copy 82 = .ok (.ifCond .eq 15, 3) := by decide +kernel
theorem dX6_copy_85 : decode cX6_copy 85 = .ok (.aload 7, 2) := by decide +kernel
theorem dX6_copy_87 : decode cX6_copy 87 = .ok (.iload 4, 2) := by decide +kernel
theorem dX6_copy_89 : decode cX6_copy 89 = .ok (.iload 5, 2) := by decide +kernel
theorem dX6_copy_91 : decode cX6_copy 91 = .ok (.invokevirtual 82, 3) := by decide +kernel
theorem dX6_copy_94 : decode cX6_copy 94 = .ok (.ifCond .ne 9, 3) := by decide +kernel
theorem dX6_copy_97 : decode cX6_copy 97 = .ok (.aload_n 0, 1) := by decide +kernel
theorem dX6_copy_98 : decode cX6_copy 98 = .ok (.iconst 2, 1) := by decide +kernel
theorem dX6_copy_99 : decode cX6_copy 99 = .ok (.invokevirtual 67, 3) := by decide +kernel
theorem dX6_copy_102 : decode cX6_copy 102 = .ok (.ireturn, 1) := by decide +kernel
theorem dX6_copy_103 : decode cX6_copy 103 = .ok (.aload 6, 2) := by decide +kernel
theorem dX6_copy_105 : decode cX6_copy 105 = .ok (.getfield 93, 3) := by decide +kernel
theorem dX6_copy_108 : decode cX6_copy 108 = .ok (.iload_n 2, 1) := by decide +kernel
theorem dX6_copy_109 : decode cX6_copy 109 = .ok (.aload 7, 2) := by decide +kernel
theorem dX6_copy_111 : decode cX6_copy 111 = .ok (.getfield 93, 3) := by decide +kernel
theorem dX6_copy_114 : decode cX6_copy 114 = .ok (.iload 4, 2) := by decide +kernel
theorem dX6_copy_116 : decode cX6_copy 116 = .ok (.iload 5, 2) := by decide +kernel
theorem dX6_copy_118 : decode cX6_copy 118 = .ok (.invokestatic 97, 3) := by decide +kernel
theorem dX6_copy_121 : decode cX6_copy 121 = .ok (.aload_n 0, 1) := by decide +kernel
theorem dX6_copy_122 : decode cX6_copy 122 = .ok (.iload 5, 2) := by decide +kernel
theorem dX6_copy_124 : decode cX6_copy 124 = .ok (.invokevirtual 75, 3) := by decide +kernel
theorem dX6_copy_127 : decode cX6_copy 127 = .ok (.ireturn, 1) := by decide +kernel
theorem dX6_drop_0 : decode cX6_drop 0 = .ok (.iload_n 1, 1) := by decide +kernel
theorem dX6_drop_1 : decode cX6_drop 1 = .ok (.invokestatic 62, 3) := by decide +kernel
theorem dX6_drop_4 : decode cX6_drop 4 = .ok (.ifCond .ne 6, 3) := by decide +kernel
theorem dX6_drop_7 : decode cX6_drop 7 = .ok (.ldc 66, 2) := by decide +kernel
theorem dX6_drop_9 : decode cX6_drop 9 = .ok (.ireturn, 1) := by decide +kernel
theorem dX6_drop_10 : decode cX6_drop 10 = .ok (.aload_n 0, 1) := by decide +kernel
theorem dX6_drop_11 : decode cX6_drop 11 = .ok (.getfield 11, 3) := by decide +kernel
theorem dX6_drop_14 : decode cX6_drop 14 = .ok (.iload_n 1, 1) := by decide +kernel
theorem dX6_drop_15 : decode cX6_drop 15 = .ok (.aaload, 1) := by decide +kernel
theorem dX6_drop_16 : decode cX6_drop 16 = .ok (.invokevirtual 78, 3) := by decide +kernel
theorem dX6_drop_19 : decode cX6_drop 19 = .ok (.ifCond .eq 9, 3) := by decide +kernel
theorem dX6_drop_22 : decode cX6_drop 22 = .ok (.aload_n 0, 1) := by decide +kernel
theorem dX6_drop_23 : decode cX6_drop 23 = .ok (.iconst 1, 1) := by decide +kernel
theorem dX6_drop_24 : decode cX6_drop 24 = .ok (.invokevirtual 67, 3) := by decide +kernel
theorem dX6_drop_27 : decode cX6_drop 27 = .ok (.ireturn, 1) := by decide +kernel
theorem dX6_drop_28 : decode cX6_drop 28 = .ok (.aload_n 0, 1) := by decide +kernel
theorem dX6_drop_29 : decode cX6_drop 29 = .ok (.getfield 11, 3) := by decide +kernel
theorem dX6_drop_32 : decode cX6_drop 32 = .ok (.iload_n 1, 1) := by decide +kernel
theorem dX6_drop_33 : decode cX6_drop 33 = .ok (.aaload, 1) := by decide +kernel
theorem dX6_drop_34 : decode cX6_drop 34 = .ok (.getfield 103, 3) := by decide +kernel
theorem dX6_drop_37 : decode cX6_drop 37 = .ok (.istore_n 2, 1) := by decide +kernel
theorem dX6_drop_38 : decode cX6_drop 38 = .ok (.aload_n 0, 1) := by decide +kernel
theorem dX6_drop_39 : decode cX6_drop 39 = .ok (.getfield 11, 3) := by decide +kernel
theorem dX6_drop_42 : decode cX6_drop 42 = .ok (.iload_n 1, 1) := by decide +kernel
theorem dX6_drop_43 : decode cX6_drop 43 = .ok (.aaload, 1) := by decide +kernel
theorem dX6_drop_44 : decode cX6_drop 44 = .ok (.invokevirtual 106, 3) := by decide +kernel
theorem dX6_drop_47 : decode cX6_drop 47 = .ok (.aload_n 0, 1) := by decide +kernel
theorem dX6_drop_48 : decode cX6_drop 48 = .ok (.iload_n 2, 1) := by decide +kernel
theorem dX6_drop_49 : decode cX6_drop 49 = .ok (.invokevirtual 75, 3) := by decide +kernel
theorem dX6_drop_52 : decode cX6_drop 52 = .ok (.ireturn, 1) := by decide +kernel
theorem dX6_feed_0 : decode cX6_feed 0 = .ok (.iload_n 1, 1) := by decide +kernel
theorem dX6_feed_1 : decode cX6_feed 1 = .ok (.ifCond .lt 10, 3) := by decide +kernel
theorem dX6_feed_4 : decode cX6_feed 4 = .ok (.iload_n 1, 1) := by decide +kernel
theorem dX6_feed_5 : decode cX6_feed 5 = .ok (.sipush 255, 3) := by decide +kernel
theorem dX6_feed_8 : decode cX6_feed 8 = .ok (.if_icmp .le 6, 3) := by decide +kernel
theorem dX6_feed_11 : decode cX6_feed 11 = .ok (.ldc 66, 2) := by decide +kernel
theorem dX6_feed_13 : decode cX6_feed 13 = .ok (.ireturn, 1) := by decide +kernel
theorem dX6_feed_14 : decode cX6_feed 14 = .ok (.aload_n 0, 1) := by decide +kernel
theorem dX6_feed_15 : decode cX6_feed 15 = .ok (.getfield 32, 3) := by decide +kernel
theorem dX6_feed_18 : decode cX6_feed 18 = .ok (.iload_n 1, 1) := by decide +kernel
theorem dX6_feed_19 : decode cX6_feed 19 = .ok (.invokevirtual 109, 3) := by decide +kernel
theorem dX6_feed_22 : decode cX6_feed 22 = .ok (.ifCond .eq 13, 3) := by decide +kernel
theorem dX6_feed_25 : decode cX6_feed 25 = .ok (.aload_n 0, 1) := by decide +kernel
theorem dX6_feed_26 : decode cX6_feed 26 = .ok (.getfield 32, 3) := by decide +kernel
theorem dX6_feed_29 : decode cX6_feed 29 = .ok (.getfield 112, 3) := by decide +kernel
theorem dX6_feed_32 : decode cX6_feed 32 = .ok (.goto 5, 3) := by decide +kernel
theorem dX6_feed_35 : decode cX6_feed 35 = .ok (.ldc 113, 2) := by decide +kernel
theorem dX6_feed_37 : decode cX6_feed 37 = .ok (.ireturn, 1) := by decide +kernel
theorem dX6_heap_0 : decode cX6_heap 0 = .ok (.aload_n 0, 1) := by decide +kernel
theorem dX6_heap_1 : decode cX6_heap 1 = .ok (.getfield 32, 3) := by decide +kernel
theorem dX6_heap_4 : decode cX6_heap 4 = .ok (.aload_n 0, 1) := by decide +kernel
theorem dX6_heap_5 : decode cX6_heap 5 = .ok (.getfield 26, 3) := by decide +kernel
theorem dX6_heap_8 : decode cX6_heap 8 = .ok (.invokevirtual 114, 3) := by decide +kernel
theorem dX6_heap_11 : decode cX6_heap 11 = .ok (.istore_n 1, 1) := by decide +kernel
theorem dX6_heap_12 : decode cX6_heap 12 = .ok (.aload_n 0, 1) := by decide +kernel
theorem dX6_heap_13 : decode cX6_heap 13 = .ok (.getfield 32, 3) := by decide +kernel
theorem dX6_heap_16 : decode cX6_heap 16 = .ok (.getfield 118, 3) := by decide +kernel
theorem dX6_heap_19 : decode cX6_heap 19 = .ok (.istore_n 2, 1) := by decide +kernel
theorem dX6_heap_20 : decode cX6_heap 20 = .ok (.aload_n 0, 1) := by decide +kernel
theorem dX6_heap_21 : decode cX6_heap 21 = .ok (.getfield 32, 3) := by decide +kernel
theorem dX6_heap_24 : decode cX6_heap 24 = .ok (.iconst 0, 1) := by decide +kernel
theorem dX6_heap_25 : decode cX6_heap 25 = .ok (.putfield 112, 3) := by decide +kernel
theorem dX6_heap_28 : decode cX6_heap 28 = .ok (.iload_n 1, 1) := by decide +kernel
theorem dX6_heap_29 : decode cX6_heap 29 = .ok (.ifCond .ne 8, 3) := by decide +kernel
theorem dX6_heap_32 : decode cX6_heap 32 = .ok (.ldc 121, 2) := by decide +kernel
theorem dX6_heap_34 : decode cX6_heap 34 = .ok (.iload_n 2, 1) := by decide +kernel
theorem dX6_heap_35 : decode cX6_heap 35 = .ok (.isub, 1) := by decide +kernel
theorem dX6_heap_36 : decode cX6_heap 36 = .ok (.ireturn, 1) := by decide +kernel
theorem dX6_heap_37 : decode cX6_heap 37 = .ok (.aload_n 0, 1) := by decide +kernel
theorem dX6_heap_38 : decode cX6_heap 38 = .ok (.getfield 22, 3) := by decide +kernel
theorem dX6_heap_41 : decode cX6_heap 41 = .ok (.aload_n 0, 1) := by decide +kernel
theorem dX6_heap_42 : decode cX6_heap 42 = .ok (.getfield 26, 3) := by decide +kernel
theorem dX6_heap_45 : decode cX6_heap 45 = .ok (.invokevirtual 122, 3) := by decide +kernel
theorem dX6_heap_48 : decode cX6_heap 48 = .ok (.aload_n 0, 1) := by decide +kernel
theorem dX6_heap_49 : decode cX6_heap 49 = .ok (.getfield 39, 3) := by decide +kernel
theorem dX6_heap_52 : decode cX6_heap 52 = .ok (.invokevirtual 126, 3) := by decide +kernel
theorem dX6_heap_55 : decode cX6_heap 55 = .ok (.aload_n 0, 1) := by decide +kernel
theorem dX6_heap_56 : decode cX6_heap 56 = .ok (.getfield 22, 3) := by decide +kernel
theorem dX6_heap_59 : decode cX6_heap 59 = .ok (.getfield 129, 3) := by decide +kernel
theorem dX6_heap_62 : decode cX6_heap 62 = .ok (.ireturn, 1) := by decide +kernel
theorem dX6_fault_0 : decode cX6_fault 0 = .ok (.aload_n 0, 1) := by decide +kernel
theorem dX6_fault_1 : decode cX6_fault 1 = .ok (.getfield 32, 3) := by decide +kernel
theorem dX6_fault_4 : decode cX6_fault 4 = .ok (.getfield 132, 3) := by decide +kernel
theorem dX6_fault_7 : decode cX6_fault 7 = .ok (.ireturn, 1) := by decide +kernel
theorem dX6_hours_0 : decode cX6_hours 0 = .ok (.aload_n 0, 1) := by decide +kernel
theorem dX6_hours_1 : decode cX6_hours 1 = .ok (.getfield 22, 3) := by decide +kernel
theorem dX6_hours_4 : decode cX6_hours 4 = .ok (.invokevirtual 135, 3) := by decide +kernel
theorem dX6_hours_7 : decode cX6_hours 7 = .ok (.ifCond .eq 6, 3) := by decide +kernel
theorem dX6_hours_10 : decode cX6_hours 10 = .ok (.ldc 138, 2) := by decide +kernel
theorem dX6_hours_12 : decode cX6_hours 12 = .ok (.ireturn, 1) := by decide +kernel
theorem dX6_hours_13 : decode cX6_hours 13 = .ok (.iload_n 1, 1) := by decide +kernel
theorem dX6_hours_14 : decode cX6_hours 14 = .ok (.iconst 1, 1) := by decide +kernel
theorem dX6_hours_15 : decode cX6_hours 15 = .ok (.if_icmp .lt 9, 3) := by decide +kernel
theorem dX6_hours_18 : decode cX6_hours 18 = .ok (.iload_n 1, 1) := by decide +kernel
theorem dX6_hours_19 : decode cX6_hours 19 = .ok (.bipush 24, 2) := by decide +kernel
theorem dX6_hours_21 : decode cX6_hours 21 = .ok (.if_icmp .le 6, 3) := by decide +kernel
theorem dX6_hours_24 : decode cX6_hours 24 = .ok (.ldc 66, 2) := by decide +kernel
theorem dX6_hours_26 : decode cX6_hours 26 = .ok (.ireturn, 1) := by decide +kernel
theorem dX6_hours_27 : decode cX6_hours 27 = .ok (.aload_n 0, 1) := by decide +kernel
theorem dX6_hours_28 : decode cX6_hours 28 = .ok (.getfield 22, 3) := by decide +kernel
theorem dX6_hours_31 : decode cX6_hours 31 = .ok (.getfield 139, 3) := by decide +kernel
theorem dX6_hours_34 : decode cX6_hours 34 = .ok (.iload_n 1, 1) := by decide +kernel
theorem dX6_hours_35 : decode cX6_hours 35 = .ok (.iadd, 1) := by decide +kernel
theorem dX6_hours_36 : decode cX6_hours 36 = .ok (.sipush 9999, 3) := by decide +kernel
theorem dX6_hours_39 : decode cX6_hours 39 = .ok (.if_icmp .le 6, 3) := by decide +kernel
theorem dX6_hours_42 : decode cX6_hours 42 = .ok (.ldc 113, 2) := by decide +kernel
theorem dX6_hours_44 : decode cX6_hours 44 = .ok (.ireturn, 1) := by decide +kernel
theorem dX6_hours_45 : decode cX6_hours 45 = .ok (.iconst 0, 1) := by decide +kernel
theorem dX6_hours_46 : decode cX6_hours 46 = .ok (.istore_n 2, 1) := by decide +kernel
theorem dX6_hours_47 : decode cX6_hours 47 = .ok (.iload_n 2, 1) := by decide +kernel
theorem dX6_hours_48 : decode cX6_hours 48 = .ok (.iload_n 1, 1) := by decide +kernel
theorem dX6_hours_49 : decode cX6_hours 49 = .ok (.if_icmp .ge 27, 3) := by decide +kernel
theorem dX6_hours_52 : decode cX6_hours 52 = .ok (.aload_n 0, 1) := by decide +kernel
theorem dX6_hours_53 : decode cX6_hours 53 = .ok (.getfield 39, 3) := by decide +kernel
theorem dX6_hours_56 : decode cX6_hours 56 = .ok (.aload_n 0, 1) := by decide +kernel
theorem dX6_hours_57 : decode cX6_hours 57 = .ok (.getfield 22, 3) := by decide +kernel
theorem dX6_hours_60 : decode cX6_hours 60 = .ok (.invokevirtual 142, 3) := by decide +kernel
theorem dX6_hours_63 : decode cX6_hours 63 = .ok (.aload_n 0, 1) := by decide +kernel
theorem dX6_hours_64 : decode cX6_hours 64 = .ok (.getfield 22, 3) := by decide +kernel
theorem dX6_hours_67 : decode cX6_hours 67 = .ok (.invokevirtual 145, 3) := by decide +kernel
theorem dX6_hours_70 : decode cX6_hours 70 = .ok (.iinc 2 1, 3) := by decide +kernel
theorem dX6_hours_73 : decode cX6_hours 73 = .ok (.goto (-26), 3) := by decide +kernel
theorem dX6_hours_76 : decode cX6_hours 76 = .ok (.aload_n 0, 1) := by decide +kernel
theorem dX6_hours_77 : decode cX6_hours 77 = .ok (.getfield 22, 3) := by decide +kernel
theorem dX6_hours_80 : decode cX6_hours 80 = .ok (.getfield 148, 3) := by decide +kernel
theorem dX6_hours_83 : decode cX6_hours 83 = .ok (.ireturn, 1) := by decide +kernel
theorem dX6_light_0 : decode cX6_light 0 = .ok (.aload_n 0, 1) := by decide +kernel
