theorem dX0_init_0 : decode cX0_init 0 = .ok (.aload_n 0, 1) := by decide +kernel
theorem dX0_init_1 : decode cX0_init 1 = .ok (.invokespecial 3, 3) := by decide +kernel
theorem dX0_init_4 : decode cX0_init 4 = .ok (.aload_n 0, 1) := by decide +kernel
theorem dX0_init_5 : decode cX0_init 5 = .ok (.bipush 8, 2) := by decide +kernel
theorem dX0_init_7 : decode cX0_init 7 = .ok (.anewarray 9, 3) := by decide +kernel
theorem dX0_init_10 : decode cX0_init 10 = .ok (.putfield 11, 3) := by decide +kernel
theorem dX0_init_13 : decode cX0_init 13 = .ok (.aload_n 0, 1) := by decide +kernel
theorem dX0_init_14 : decode cX0_init 14 = .ok (.bipush 20, 2) := by decide +kernel
theorem dX0_init_16 : decode cX0_init 16 = .ok (.anewarray 17, 3) := by decide +kernel
theorem dX0_init_19 : decode cX0_init 19 = .ok (.putfield 19, 3) := by decide +kernel
theorem dX0_init_22 : decode cX0_init 22 = .ok (.aload_n 0, 1) := by decide +kernel
theorem dX0_init_23 : decode cX0_init 23 = .ok (.sipush 500, 3) := by decide +kernel
theorem dX0_init_26 : decode cX0_init 26 = .ok (.putfield 23, 3) := by decide +kernel
theorem dX0_init_29 : decode cX0_init 29 = .ok (.iconst 0, 1) := by decide +kernel
theorem dX0_init_30 : decode cX0_init 30 = .ok (.istore_n 1, 1) := by decide +kernel
theorem dX0_init_31 : decode cX0_init 31 = .ok (.iload_n 1, 1) := by decide +kernel
theorem dX0_init_32 : decode cX0_init 32 = .ok (.bipush 8, 2) := by decide +kernel
theorem dX0_init_34 : decode cX0_init 34 = .ok (.if_icmp .ge 23, 3) := by decide +kernel
theorem dX0_init_37 : decode cX0_init 37 = .ok (.aload_n 0, 1) := by decide +kernel
theorem dX0_init_38 : decode cX0_init 38 = .ok (.getfield 11, 3) := by decide +kernel
theorem dX0_init_41 : decode cX0_init 41 = .ok (.iload_n 1, 1) := by decide +kernel
theorem dX0_init_42 : decode cX0_init 42 = .ok (.new 9, 3) := by decide +kernel
theorem dX0_init_45 : decode cX0_init 45 = .ok (.dup, 1) := by decide +kernel
theorem dX0_init_46 : decode cX0_init 46 = .ok (.iload_n 1, 1) := by decide +kernel
theorem dX0_init_47 : decode cX0_init 47 = .ok (.invokespecial 27, 3) := by decide +kernel
theorem dX0_init_50 : decode cX0_init 50 = .ok (.aastore, 1) := by decide +kernel
theorem dX0_init_51 : decode cX0_init 51 = .ok (.iinc 1 1, 3) := by decide +kernel
theorem dX0_init_54 : decode cX0_init 54 = .ok (.goto (-23), 3) := by decide +kernel
theorem dX0_init_57 : decode cX0_init 57 = .ok (.iconst 0, 1) := by decide +kernel
theorem dX0_init_58 : decode cX0_init 58 = .ok (.istore_n 1, 1) := by decide +kernel
theorem dX0_init_59 : decode cX0_init 59 = .ok (.iload_n 1, 1) := by decide +kernel
theorem dX0_init_60 : decode cX0_init 60 = .ok (.bipush 20, 2) := by decide +kernel
theorem dX0_init_62 : decode cX0_init 62 = .ok (.if_icmp .ge 23, 3) := by decide +kernel
theorem dX0_init_65 : decode cX0_init 65 = .ok (.aload_n 0, 1) := by decide +kernel
theorem dX0_init_66 : decode cX0_init 66 = .ok (.getfield 19, 3) := by decide +kernel
theorem dX0_init_69 : decode cX0_init 69 = .ok (.iload_n 1, 1) := by decide +kernel
theorem dX0_init_70 : decode cX0_init 70 = .ok (.new 17, 3) := by decide +kernel
theorem dX0_init_73 : decode cX0_init 73 = .ok (.dup, 1) := by decide +kernel
theorem dX0_init_74 : decode cX0_init 74 = .ok (.iload_n 1, 1) := by decide +kernel
theorem dX0_init_75 : decode cX0_init 75 = .ok (.invokespecial 30, 3) := by decide +kernel
theorem dX0_init_78 : decode cX0_init 78 = .ok (.aastore, 1) := by decide +kernel
theorem dX0_init_79 : decode cX0_init 79 = .ok (.iinc 1 1, 3) := by decide +kernel
theorem dX0_init_82 : decode cX0_init 82 = .ok (.goto (-23), 3) := by decide +kernel
theorem dX0_init_85 : decode cX0_init 85 = .ok (.return_, 1) := by decide +kernel
theorem dX0_clear_0 : decode cX0_clear 0 = .ok (.aload_n 0, 1) := by decide +kernel
theorem dX0_clear_1 : decode cX0_clear 1 = .ok (.iconst 0, 1) := by decide +kernel
theorem dX0_clear_2 : decode cX0_clear 2 = .ok (.putfield 31, 3) := by decide +kernel
theorem dX0_clear_5 : decode cX0_clear 5 = .ok (.aload_n 0, 1) := by decide +kernel
theorem dX0_clear_6 : decode cX0_clear 6 = .ok (.iconst 0, 1) := by decide +kernel
theorem dX0_clear_7 : decode cX0_clear 7 = .ok (.putfield 34, 3) := by decide +kernel
theorem dX0_clear_10 : decode cX0_clear 10 = .ok (.aload_n 0, 1) := by decide +kernel
theorem dX0_clear_11 : decode cX0_clear 11 = .ok (.sipush 500, 3) := by decide +kernel
theorem dX0_clear_14 : decode cX0_clear 14 = .ok (.putfield 23, 3) := by decide +kernel
theorem dX0_clear_17 : decode cX0_clear 17 = .ok (.return_, 1) := by decide +kernel
theorem dX0_copyFrom_0 : decode cX0_copyFrom 0 = .ok (.aload_n 0, 1) := by decide +kernel
theorem dX0_copyFrom_1 : decode cX0_copyFrom 1 = .ok (.aload_n 1, 1) := by decide +kernel
theorem dX0_copyFrom_2 : decode cX0_copyFrom 2 = .ok (.getfield 31, 3) := by decide +kernel
theorem dX0_copyFrom_5 : decode cX0_copyFrom 5 = .ok (.putfield 31, 3) := by decide +kernel
theorem dX0_copyFrom_8 : decode cX0_copyFrom 8 = .ok (.aload_n 0, 1) := by decide +kernel
theorem dX0_copyFrom_9 : decode cX0_copyFrom 9 = .ok (.aload_n 1, 1) := by decide +kernel
theorem dX0_copyFrom_10 : decode cX0_copyFrom 10 = .ok (.getfield 34, 3) := by decide +kernel
theorem dX0_copyFrom_13 : decode cX0_copyFrom 13 = .ok (.putfield 34, 3) := by decide +kernel
theorem dX0_copyFrom_16 : decode cX0_copyFrom 16 = .ok (.aload_n 0, 1) := by decide +kernel
theorem dX0_copyFrom_17 : decode cX0_copyFrom 17 = .ok (.aload_n 1, 1) := by decide +kernel
theorem dX0_copyFrom_18 : decode cX0_copyFrom 18 = .ok (.getfield 23, 3) := by decide +kernel
theorem dX0_copyFrom_21 : decode cX0_copyFrom 21 = .ok (.putfield 23, 3) := by decide +kernel
theorem dX0_copyFrom_24 : decode cX0_copyFrom 24 = .ok (.iconst 0, 1) := by decide +kernel
theorem dX0_copyFrom_25 : decode cX0_copyFrom 25 = .ok (.istore_n 2, 1) := by decide +kernel
theorem dX0_copyFrom_26 : decode cX0_copyFrom 26 = .ok (.iload_n 2, 1) := by decide +kernel
theorem dX0_copyFrom_27 : decode cX0_copyFrom 27 = .ok (.aload_n 0, 1) := by decide +kernel
theorem dX0_copyFrom_28 : decode cX0_copyFrom 28 = .ok (.getfield 31, 3) := by decide +kernel
theorem dX0_copyFrom_31 : decode cX0_copyFrom 31 = .ok (.if_icmp .ge 22, 3) := by decide +kernel
theorem dX0_copyFrom_34 : decode cX0_copyFrom 34 = .ok (.aload_n 0, 1) := by decide +kernel
theorem dX0_copyFrom_35 : decode cX0_copyFrom 35 = .ok (.iload_n 2, 1) := by decide +kernel
theorem dX0_copyFrom_36 : decode cX0_copyFrom 36 = .ok (.invokevirtual 37, 3) := by decide +kernel
theorem dX0_copyFrom_39 : decode cX0_copyFrom 39 = .ok (.aload_n 1, 1) := by decide +kernel
theorem dX0_copyFrom_40 : decode cX0_copyFrom 40 = .ok (.iload_n 2, 1) := by decide +kernel
theorem dX0_copyFrom_41 : decode cX0_copyFrom 41 = .ok (.invokevirtual 37, 3) := by decide +kernel
theorem dX0_copyFrom_44 : decode cX0_copyFrom 44 = .ok (.invokevirtual 41, 3) := by decide +kernel
theorem dX0_copyFrom_47 : decode cX0_copyFrom 47 = .ok (.iinc 2 1, 3) := by decide +kernel
theorem dX0_copyFrom_50 : decode cX0_copyFrom 50 = .ok (.goto (-24), 3) := by decide +kernel
theorem dX0_copyFrom_53 : decode cX0_copyFrom 53 = .ok (.iconst 0, 1) := by decide +kernel
theorem dX0_copyFrom_54 : decode cX0_copyFrom 54 = .ok (.istore_n 2, 1) := by decide +kernel
theorem dX0_copyFrom_55 : decode cX0_copyFrom 55 = .ok (.iload_n 2, 1) := by decide +kernel
theorem dX0_copyFrom_56 : decode cX0_copyFrom 56 = .ok (.aload_n 0, 1) := by decide +kernel
theorem dX0_copyFrom_57 : decode cX0_copyFrom 57 = .ok (.getfield 34, 3) := by decide +kernel
theorem dX0_copyFrom_60 : decode cX0_copyFrom 60 = .ok (.if_icmp .ge 22, 3) := by decide +kernel
theorem dX0_copyFrom_63 : decode cX0_copyFrom 63 = .ok (.aload_n 0, 1) := by decide +kernel
theorem dX0_copyFrom_64 : decode cX0_copyFrom 64 = .ok (.iload_n 2, 1) := by decide +kernel
theorem dX0_copyFrom_65 : decode cX0_copyFrom 65 = .ok (.invokevirtual 45, 3) := by decide +kernel
theorem dX0_copyFrom_68 : decode cX0_copyFrom 68 = .ok (.aload_n 1, 1) := by decide +kernel
theorem dX0_copyFrom_69 : decode cX0_copyFrom 69 = .ok (.iload_n 2, 1) := by decide +kernel
theorem dX0_copyFrom_70 : decode cX0_copyFrom 70 = .ok (.invokevirtual 45, 3) := by decide +kernel
theorem dX0_copyFrom_73 : decode cX0_copyFrom 73 = .ok (.invokevirtual 49, 3) := by decide +kernel
theorem dX0_copyFrom_76 : decode cX0_copyFrom 76 = .ok (.iinc 2 1, 3) := by decide +kernel
theorem dX0_copyFrom_79 : decode cX0_copyFrom 79 = .ok (.goto (-24), 3) := by decide +kernel
theorem dX0_copyFrom_82 : decode cX0_copyFrom 82 = .ok (.return_, 1) := by decide +kernel
theorem dX0_driver_0 : decode cX0_driver 0 = .ok (.iload_n 1, 1) := by decide +kernel
theorem dX0_driver_1 : decode cX0_driver 1 = .ok (.iconst 0, 1) := by decide +kernel
theorem dX0_driver_2 : decode cX0_driver 2 = .ok (.aload_n 0, 1) := by decide +kernel
theorem dX0_driver_3 : decode cX0_driver 3 = .ok (.getfield 31, 3) := by decide +kernel
theorem dX0_driver_6 : decode cX0_driver 6 = .ok (.iconst 1, 1) := by decide +kernel
theorem dX0_driver_7 : decode cX0_driver 7 = .ok (.isub, 1) := by decide +kernel
theorem dX0_driver_8 : decode cX0_driver 8 = .ok (.invokestatic 52, 3) := by decide +kernel
theorem dX0_driver_11 : decode cX0_driver 11 = .ok (.ifCond .ne 13, 3) := by decide +kernel
theorem dX0_driver_14 : decode cX0_driver 14 = .ok (.new 56, 3) := by decide +kernel
theorem dX0_driver_17 : decode cX0_driver 17 = .ok (.dup, 1) := by decide +kernel
theorem dX0_driver_18 : decode cX0_driver 18 = .ok (.ldc 58, 2) := by decide +kernel
theorem dX0_driver_20 : decode cX0_driver 20 = .ok (.invokespecial 60, 3) := by decide +kernel
theorem dX0_driver_23 : decode cX0_driver 23 = .ok (.athrow, 1) := by decide +kernel
theorem dX0_driver_24 : decode cX0_driver 24 = .ok (.aload_n 0, 1) := by decide +kernel
theorem dX0_driver_25 : decode cX0_driver 25 = .ok (.getfield 11, 3) := by decide +kernel
theorem dX0_driver_28 : decode cX0_driver 28 = .ok (.iload_n 1, 1) := by decide +kernel
theorem dX0_driver_29 : decode cX0_driver 29 = .ok (.aaload, 1) := by decide +kernel
theorem dX0_driver_30 : decode cX0_driver 30 = .ok (.areturn, 1) := by decide +kernel
theorem dX0_rider_0 : decode cX0_rider 0 = .ok (.iload_n 1, 1) := by decide +kernel
theorem dX0_rider_1 : decode cX0_rider 1 = .ok (.iconst 0, 1) := by decide +kernel
theorem dX0_rider_2 : decode cX0_rider 2 = .ok (.aload_n 0, 1) := by decide +kernel
theorem dX0_rider_3 : decode cX0_rider 3 = .ok (.getfield 34, 3) := by decide +kernel
theorem dX0_rider_6 : decode cX0_rider 6 = .ok (.iconst 1, 1) := by decide +kernel
theorem dX0_rider_7 : decode cX0_rider 7 = .ok (.isub, 1) := by decide +kernel
theorem dX0_rider_8 : decode cX0_rider 8 = .ok (.invokestatic 52, 3) := by decide +kernel
theorem dX0_rider_11 : decode cX0_rider 11 = .ok (.ifCond .ne 13, 3) := by decide +kernel
theorem dX0_rider_14 : decode cX0_rider 14 = .ok (.new 56, 3) := by decide +kernel
theorem dX0_rider_17 : decode cX0_rider 17 = .ok (.dup, 1) := by decide +kernel
theorem dX0_rider_18 : decode cX0_rider 18 = .ok (.ldc 63, 2) := by decide +kernel
theorem dX0_rider_20 : decode cX0_rider 20 = .ok (.invokespecial 60, 3) := by decide +kernel
theorem dX0_rider_23 : decode cX0_rider 23 = .ok (.athrow, 1) := by decide +kernel
theorem dX0_rider_24 : decode cX0_rider 24 = .ok (.aload_n 0, 1) := by decide +kernel
theorem dX0_rider_25 : decode cX0_rider 25 = .ok (.getfield 19, 3) := by decide +kernel
theorem dX0_rider_28 : decode cX0_rider 28 = .ok (.iload_n 1, 1) := by decide +kernel
theorem dX0_rider_29 : decode cX0_rider 29 = .ok (.aaload, 1) := by decide +kernel
theorem dX0_rider_30 : decode cX0_rider 30 = .ok (.areturn, 1) := by decide +kernel
theorem dX0_hasAllDrivers_0 : decode cX0_hasAllDrivers 0 = .ok (.aload_n 0, 1) := by decide +kernel
theorem dX0_hasAllDrivers_1 : decode cX0_hasAllDrivers 1 = .ok (.getfield 31, 3) := by decide +kernel
theorem dX0_hasAllDrivers_4 : decode cX0_hasAllDrivers 4 = .ok (.bipush 8, 2) := by decide +kernel
theorem dX0_hasAllDrivers_6 : decode cX0_hasAllDrivers 6 = .ok (.if_icmp .lt 7, 3) := by decide +kernel
theorem dX0_hasAllDrivers_9 : decode cX0_hasAllDrivers 9 = .ok (.iconst 1, 1) := by decide +kernel
theorem dX0_hasAllDrivers_10 : decode cX0_hasAllDrivers 10 = .ok (.goto 4, 3) := by decide +kernel
theorem dX0_hasAllDrivers_13 : decode cX0_hasAllDrivers 13 = .ok (.iconst 0, 1) := by decide +kernel
theorem dX0_hasAllDrivers_14 : decode cX0_hasAllDrivers 14 = .ok (.ireturn, 1) := by decide +kernel
theorem dX0_hasAllRiders_0 : decode cX0_hasAllRiders 0 = .ok (.aload_n 0, 1) := by decide +kernel
theorem dX0_hasAllRiders_1 : decode cX0_hasAllRiders 1 = .ok (.getfield 34, 3) := by decide +kernel
theorem dX0_hasAllRiders_4 : decode cX0_hasAllRiders 4 = .ok (.bipush 20, 2) := by decide +kernel
theorem dX0_hasAllRiders_6 : decode cX0_hasAllRiders 6 = .ok (.if_icmp .lt 7, 3) := by decide +kernel
theorem dX0_hasAllRiders_9 : decode cX0_hasAllRiders 9 = .ok (.iconst 1, 1) := by decide +kernel
theorem dX0_hasAllRiders_10 : decode cX0_hasAllRiders 10 = .ok (.goto 4, 3) := by decide +kernel
theorem dX0_hasAllRiders_13 : decode cX0_hasAllRiders 13 = .ok (.iconst 0, 1) := by decide +kernel
theorem dX0_hasAllRiders_14 : decode cX0_hasAllRiders 14 = .ok (.ireturn, 1) := by decide +kernel
theorem dX0_nextDriver_0 : decode cX0_nextDriver 0 = .ok (.aload_n 0, 1) := by decide +kernel
theorem dX0_nextDriver_1 : decode cX0_nextDriver 1 = .ok (.dup, 1) := by decide +kernel
theorem dX0_nextDriver_2 : decode cX0_nextDriver 2 = .ok (.getfield 31, 3) := by decide +kernel
theorem dX0_nextDriver_5 : decode cX0_nextDriver 5 = .ok (.iconst 1, 1) := by decide +kernel
theorem dX0_nextDriver_6 : decode cX0_nextDriver 6 = .ok (.iadd, 1) := by decide +kernel
theorem dX0_nextDriver_7 : decode cX0_nextDriver 7 = .ok (.putfield 31, 3) := by decide +kernel
theorem dX0_nextDriver_10 : decode cX0_nextDriver 10 = .ok (.aload_n 0, 1) := by decide +kernel
theorem dX0_nextDriver_11 : decode cX0_nextDriver 11 = .ok (.aload_n 0, 1) := by decide +kernel
theorem dX0_nextDriver_12 : decode cX0_nextDriver 12 = .ok (.getfield 31, 3) := by decide +kernel
theorem dX0_nextDriver_15 : decode cX0_nextDriver 15 = .ok (.iconst 1, 1) := by decide +kernel
theorem dX0_nextDriver_16 : decode cX0_nextDriver 16 = .ok (.isub, 1) := by decide +kernel
theorem dX0_nextDriver_17 : decode cX0_nextDriver 17 = .ok (.invokevirtual 37, 3) := by decide +kernel
theorem dX0_nextDriver_20 : decode cX0_nextDriver 20 = .ok (.areturn, 1) := by decide +kernel
theorem dX0_nextRider_0 : decode cX0_nextRider 0 = .ok (.aload_n 0, 1) := by decide +kernel
theorem dX0_nextRider_1 : decode cX0_nextRider 1 = .ok (.dup, 1) := by decide +kernel
theorem dX0_nextRider_2 : decode cX0_nextRider 2 = .ok (.getfield 34, 3) := by decide +kernel
theorem dX0_nextRider_5 : decode cX0_nextRider 5 = .ok (.iconst 1, 1) := by decide +kernel
theorem dX0_nextRider_6 : decode cX0_nextRider 6 = .ok (.iadd, 1) := by decide +kernel
theorem dX0_nextRider_7 : decode cX0_nextRider 7 = .ok (.putfield 34, 3) := by decide +kernel
theorem dX0_nextRider_10 : decode cX0_nextRider 10 = .ok (.aload_n 0, 1) := by decide +kernel
theorem dX0_nextRider_11 : decode cX0_nextRider 11 = .ok (.aload_n 0, 1) := by decide +kernel
theorem dX0_nextRider_12 : decode cX0_nextRider 12 = .ok (.getfield 34, 3) := by decide +kernel
theorem dX0_nextRider_15 : decode cX0_nextRider 15 = .ok (.iconst 1, 1) := by decide +kernel
theorem dX0_nextRider_16 : decode cX0_nextRider 16 = .ok (.isub, 1) := by decide +kernel
theorem dX0_nextRider_17 : decode cX0_nextRider 17 = .ok (.invokevirtual 45, 3) := by decide +kernel
theorem dX0_nextRider_20 : decode cX0_nextRider 20 = .ok (.areturn, 1) := by decide +kernel
theorem dX0_freeAssignedRiders_0 : decode cX0_freeAssignedRiders 0 = .ok (.iconst 0, 1) := by decide +kernel
theorem dX0_freeAssignedRiders_1 : decode cX0_freeAssignedRiders 1 = .ok (.istore_n 1, 1) := by decide +kernel
theorem dX0_freeAssignedRiders_2 : decode cX0_freeAssignedRiders 2 = .ok (.iload_n 1, 1) := by decide +kernel
theorem dX0_freeAssignedRiders_3 : decode cX0_freeAssignedRiders 3 = .ok (.aload_n 0, 1) := by decide +kernel
theorem dX0_freeAssignedRiders_4 : decode cX0_freeAssignedRiders 4 = .ok (.getfield 34, 3) := by decide +kernel
theorem dX0_freeAssignedRiders_7 : decode cX0_freeAssignedRiders 7 = .ok (.if_icmp .ge 33, 3) := by decide +kernel
theorem dX0_freeAssignedRiders_10 : decode cX0_freeAssignedRiders 10 = .ok (.aload_n 0, 1) := by decide +kernel
theorem dX0_freeAssignedRiders_11 : decode cX0_freeAssignedRiders 11 = .ok (.iload_n 1, 1) := by decide +kernel
theorem dX0_freeAssignedRiders_12 : decode cX0_freeAssignedRiders 12 = .ok (.invokevirtual 45, 3) := by decide +kernel
theorem dX0_freeAssignedRiders_15 : decode cX0_freeAssignedRiders 15 = .ok (.astore_n 2, 1) := by decide +kernel
theorem dX0_freeAssignedRiders_16 : decode cX0_freeAssignedRiders 16 = .ok (.aload_n 2, 1) := by decide +kernel
theorem dX0_freeAssignedRiders_17 : decode cX0_freeAssignedRiders 17 = .ok (.getfield 65, 3) := by decide +kernel
theorem dX0_freeAssignedRiders_20 : decode cX0_freeAssignedRiders 20 = .ok (.iconst 1, 1) := by decide +kernel
theorem dX0_freeAssignedRiders_21 : decode cX0_freeAssignedRiders 21 = .ok (.if_icmp .ne 13, 3) := by decide +kernel
theorem dX0_freeAssignedRiders_24 : decode cX0_freeAssignedRiders 24 = .ok (.aload_n 2, 1) := by decide +kernel
theorem dX0_freeAssignedRiders_25 : decode cX0_freeAssignedRiders 25 = .ok (.iconst 0, 1) := by decide +kernel
theorem dX0_freeAssignedRiders_26 : decode cX0_freeAssignedRiders 26 = .ok (.putfield 65, 3) := by decide +kernel
theorem dX0_freeAssignedRiders_29 : decode cX0_freeAssignedRiders 29 = .ok (.aload_n 2, 1) := by decide +kernel
theorem dX0_freeAssignedRiders_30 : decode cX0_freeAssignedRiders 30 = .ok (.iconst (-1), 1) := by decide +kernel
theorem dX0_freeAssignedRiders_31 : decode cX0_freeAssignedRiders 31 = .ok (.putfield 68, 3) := by decide +kernel
theorem dX0_freeAssignedRiders_34 : decode cX0_freeAssignedRiders 34 = .ok (.iinc 1 1, 3) := by decide +kernel
theorem dX0_freeAssignedRiders_37 : decode cX0_freeAssignedRiders 37 = .ok (.goto (-35), 3) := by decide +kernel
theorem dX0_freeAssignedRiders_40 : decode cX0_freeAssignedRiders 40 = .ok (.iconst 0, 1) := by decide +kernel
theorem dX0_freeAssignedRiders_41 : decode cX0_freeAssignedRiders 41 = .ok (.istore_n 1, 1) := by decide +kernel
theorem dX0_freeAssignedRiders_42 : decode cX0_freeAssignedRiders 42 = .ok (.iload_n 1, 1) := by decide +kernel
theorem dX0_freeAssignedRiders_43 : decode cX0_freeAssignedRiders 43 = .ok (.aload_n 0, 1) := by decide +kernel
theorem dX0_freeAssignedRiders_44 : decode cX0_freeAssignedRiders 44 = .ok (.getfield 31, 3) := by decide +kernel
theorem dX0_freeAssignedRiders_47 : decode cX0_freeAssignedRiders 47 = .ok (.if_icmp .ge 33, 3) := by decide +kernel
theorem dX0_freeAssignedRiders_50 : decode cX0_freeAssignedRiders 50 = .ok (.aload_n 0, 1) := by decide +kernel
theorem dX0_freeAssignedRiders_51 : decode cX0_freeAssignedRiders 51 = .ok (.iload_n 1, 1) := by decide +kernel
theorem dX0_freeAssignedRiders_52 : decode cX0_freeAssignedRiders 52 = .ok (.invokevirtual 37, 3) := by decide +kernel
theorem dX0_freeAssignedRiders_55 : decode cX0_freeAssignedRiders 55 = .ok (.astore_n 2, 1) := by decide +kernel
theorem dX0_freeAssignedRiders_56 : decode cX0_freeAssignedRiders 56 = .ok (.aload_n 2, 1) := by decide +kernel
theorem dX0_freeAssignedRiders_57 : decode cX0_freeAssignedRiders 57 = .ok (.getfield 70, 3) := by decide +kernel
theorem dX0_freeAssignedRiders_60 : decode cX0_freeAssignedRiders 60 = .ok (.ifCond .ne 14, 3) := by decide +kernel
theorem dX0_freeAssignedRiders_63 : decode cX0_freeAssignedRiders 63 = .ok (.aload_n 2, 1) := by decide +kernel
theorem dX0_freeAssignedRiders_64 : decode cX0_freeAssignedRiders 64 = .ok (.getfield 74, 3) := by decide +kernel
theorem dX0_freeAssignedRiders_67 : decode cX0_freeAssignedRiders 67 = .ok (.aload_n 2, 1) := by decide +kernel
theorem dX0_freeAssignedRiders_68 : decode cX0_freeAssignedRiders 68 = .ok (.getfield 74, 3) := by decide +kernel
theorem dX0_freeAssignedRiders_71 : decode cX0_freeAssignedRiders 71 = .ok (.invokevirtual 78, 3) := by decide +kernel
theorem dX0_freeAssignedRiders_74 : decode cX0_freeAssignedRiders 74 = .ok (.iinc 1 1, 3) := by decide +kernel
theorem dX0_freeAssignedRiders_77 : decode cX0_freeAssignedRiders 77 = .ok (.goto (-35), 3) := by decide +kernel
theorem dX0_freeAssignedRiders_80 : decode cX0_freeAssignedRiders 80 = .ok (.return_, 1) := by decide +kernel
theorem dX0_ridersInGreaterDebt_0 : decode cX0_ridersInGreaterDebt 0 = .ok (.iconst 0, 1) := by decide +kernel
theorem dX0_ridersInGreaterDebt_1 : decode cX0_ridersInGreaterDebt 1 = .ok (.istore_n 2, 1) := by decide +kernel
theorem dX0_ridersInGreaterDebt_2 : decode cX0_ridersInGreaterDebt 2 = .ok (.iconst 0, 1) := by decide +kernel
theorem dX0_ridersInGreaterDebt_3 : decode cX0_ridersInGreaterDebt 3 = .ok (.istore_n 3, 1) := by decide +kernel
theorem dX0_ridersInGreaterDebt_4 : decode cX0_ridersInGreaterDebt 4 = .ok (.iload_n 3, 1) := by decide +kernel
theorem dX0_ridersInGreaterDebt_5 : decode cX0_ridersInGreaterDebt 5 = .ok (.aload_n 0, 1) := by decide +kernel
theorem dX0_ridersInGreaterDebt_6 : decode cX0_ridersInGreaterDebt 6 = .ok (.getfield 34, 3) := by decide +kernel
theorem dX0_ridersInGreaterDebt_9 : decode cX0_ridersInGreaterDebt 9 = .ok (.if_icmp .ge 50, 3) := by decide +kernel
theorem dX0_ridersInGreaterDebt_12 : decode cX0_ridersInGreaterDebt 12 = .ok (.aload_n 0, 1) := by decide +kernel
theorem dX0_ridersInGreaterDebt_13 : decode cX0_ridersInGreaterDebt 13 = .ok (.iload_n 3, 1) := by decide +kernel
theorem dX0_ridersInGreaterDebt_14 : decode cX0_ridersInGreaterDebt 14 = .ok (.invokevirtual 45, 3) := by decide +kernel
theorem dX0_ridersInGreaterDebt_17 : decode cX0_ridersInGreaterDebt 17 = .ok (.getfield 84, 3) := by decide +kernel
theorem dX0_ridersInGreaterDebt_20 : decode cX0_ridersInGreaterDebt 20 = .ok (.lstore 4, 2) := by decide +kernel
theorem dX0_ridersInGreaterDebt_22 : decode cX0_ridersInGreaterDebt 22 = .ok (.lload 4, 2) := by decide +kernel
theorem dX0_ridersInGreaterDebt_24 : decode cX0_ridersInGreaterDebt 24 = .ok (.aload_n 1, 1) := by decide +kernel
theorem dX0_ridersInGreaterDebt_25 : decode cX0_ridersInGreaterDebt 25 = .ok (.getfield 84, 3) := by decide +kernel
theorem dX0_ridersInGreaterDebt_28 : decode cX0_ridersInGreaterDebt 28 = .ok (.lcmp, 1) := by decide +kernel
theorem dX0_ridersInGreaterDebt_29 : decode cX0_ridersInGreaterDebt 29 = .ok (.ifCond .lt 21, 3) := by decide +kernel
theorem dX0_ridersInGreaterDebt_32 : decode cX0_ridersInGreaterDebt 32 = .ok (.lload 4, 2) := by decide +kernel
theorem dX0_ridersInGreaterDebt_34 : decode cX0_ridersInGreaterDebt 34 = .ok (.aload_n 1, 1) := by decide +kernel
theorem dX0_ridersInGreaterDebt_35 : decode cX0_ridersInGreaterDebt 35 = .ok (.getfield 84, 3) := by decide +kernel
theorem dX0_ridersInGreaterDebt_38 : decode cX0_ridersInGreaterDebt 38 = .ok (.lcmp, 1) := by decide +kernel
theorem dX0_ridersInGreaterDebt_39 : decode cX0_ridersInGreaterDebt 39 = .ok (.ifCond .ne 14, 3) := by decide +kernel
theorem dX0_ridersInGreaterDebt_42 : decode cX0_ridersInGreaterDebt 42 = .ok (.iload_n 3, 1) := by decide +kernel
theorem dX0_ridersInGreaterDebt_43 : decode cX0_ridersInGreaterDebt 43 = .ok (.aload_n 1, 1) := by decide +kernel
theorem dX0_ridersInGreaterDebt_44 : decode cX0_ridersInGreaterDebt 44 = .ok (.getfield 88, 3) := by decide +kernel
theorem dX0_ridersInGreaterDebt_47 : decode cX0_ridersInGreaterDebt 47 = .ok (.if_icmp .ge 6, 3) := by decide +kernel
theorem dX0_ridersInGreaterDebt_50 : decode cX0_ridersInGreaterDebt 50 = .ok (.iinc 2 1, 3) := by decide +kernel
theorem dX0_ridersInGreaterDebt_53 : decode cX0_ridersInGreaterDebt 53 = .ok (.iinc 3 1, 3) := by decide +kernel
theorem dX0_ridersInGreaterDebt_56 : decode cX0_ridersInGreaterDebt 56 = .ok (.goto (-52), 3) := by decide +kernel
theorem dX0_ridersInGreaterDebt_59 : decode cX0_ridersInGreaterDebt 59 = .ok (.iload_n 2, 1) := by decide +kernel
theorem dX0_ridersInGreaterDebt_60 : decode cX0_ridersInGreaterDebt 60 = .ok (.ireturn, 1) := by decide +kernel
theorem dX0_driversWithRiders_0 : decode cX0_driversWithRiders 0 = .ok (.iconst 0, 1) := by decide +kernel
theorem dX0_driversWithRiders_1 : decode cX0_driversWithRiders 1 = .ok (.istore_n 1, 1) := by decide +kernel
theorem dX0_driversWithRiders_2 : decode cX0_driversWithRiders 2 = .ok (.iconst 0, 1) := by decide +kernel
theorem dX0_driversWithRiders_3 : decode cX0_driversWithRiders 3 = .ok (.istore_n 2, 1) := by decide +kernel
theorem dX0_driversWithRiders_4 : decode cX0_driversWithRiders 4 = .ok (.iload_n 2, 1) := by decide +kernel
theorem dX0_driversWithRiders_5 : decode cX0_driversWithRiders 5 = .ok (.aload_n 0, 1) := by decide +kernel
theorem dX0_driversWithRiders_6 : decode cX0_driversWithRiders 6 = .ok (.getfield 31, 3) := by decide +kernel
theorem dX0_driversWithRiders_9 : decode cX0_driversWithRiders 9 = .ok (.if_icmp .ge 26, 3) := by decide +kernel
theorem dX0_driversWithRiders_12 : decode cX0_driversWithRiders 12 = .ok (.aload_n 0, 1) := by decide +kernel
theorem dX0_driversWithRiders_13 : decode cX0_driversWithRiders 13 = .ok (.iload_n 2, 1) := by decide +kernel
theorem dX0_driversWithRiders_14 : decode cX0_driversWithRiders 14 = .ok (.invokevirtual 37, 3) := by decide +kernel
theorem dX0_driversWithRiders_17 : decode cX0_driversWithRiders 17 = .ok (.getfield 74, 3) := by decide +kernel
theorem dX0_driversWithRiders_20 : decode cX0_driversWithRiders 20 = .ok (.invokevirtual 91, 3) := by decide +kernel
theorem dX0_driversWithRiders_23 : decode cX0_driversWithRiders 23 = .ok (.ifCond .le 6, 3) := by decide +kernel
theorem dX0_driversWithRiders_26 : decode cX0_driversWithRiders 26 = .ok (.iinc 1 1, 3) := by decide +kernel
theorem dX0_driversWithRiders_29 : decode cX0_driversWithRiders 29 = .ok (.iinc 2 1, 3) := by decide +kernel
theorem dX0_driversWithRiders_32 : decode cX0_driversWithRiders 32 = .ok (.goto (-28), 3) := by decide +kernel
theorem dX0_driversWithRiders_35 : decode cX0_driversWithRiders 35 = .ok (.iload_n 1, 1) := by decide +kernel
theorem dX0_driversWithRiders_36 : decode cX0_driversWithRiders 36 = .ok (.ireturn, 1) := by decide +kernel
theorem dX0_sumOfDetours_0 : decode cX0_sumOfDetours 0 = .ok (.iconst 0, 1) := by decide +kernel
theorem dX0_sumOfDetours_1 : decode cX0_sumOfDetours 1 = .ok (.istore_n 1, 1) := by decide +kernel
theorem dX0_sumOfDetours_2 : decode cX0_sumOfDetours 2 = .ok (.iconst 0, 1) := by decide +kernel
theorem dX0_sumOfDetours_3 : decode cX0_sumOfDetours 3 = .ok (.istore_n 2, 1) := by decide +kernel
theorem dX0_sumOfDetours_4 : decode cX0_sumOfDetours 4 = .ok (.iload_n 2, 1) := by decide +kernel
theorem dX0_sumOfDetours_5 : decode cX0_sumOfDetours 5 = .ok (.aload_n 0, 1) := by decide +kernel
theorem dX0_sumOfDetours_6 : decode cX0_sumOfDetours 6 = .ok (.getfield 31, 3) := by decide +kernel
theorem dX0_sumOfDetours_9 : decode cX0_sumOfDetours 9 = .ok (.if_icmp .ge 23, 3) := by decide +kernel
theorem dX0_sumOfDetours_12 : decode cX0_sumOfDetours 12 = .ok (.iload_n 1, 1) := by decide +kernel
theorem dX0_sumOfDetours_13 : decode cX0_sumOfDetours 13 = .ok (.aload_n 0, 1) := by decide +kernel
theorem dX0_sumOfDetours_14 : decode cX0_sumOfDetours 14 = .ok (.iload_n 2, 1) := by decide +kernel
theorem dX0_sumOfDetours_15 : decode cX0_sumOfDetours 15 = .ok (.invokevirtual 37, 3) := by decide +kernel
theorem dX0_sumOfDetours_18 : decode cX0_sumOfDetours 18 = .ok (.getfield 74, 3) := by decide +kernel
theorem dX0_sumOfDetours_21 : decode cX0_sumOfDetours 21 = .ok (.invokevirtual 94, 3) := by decide +kernel
theorem dX0_sumOfDetours_24 : decode cX0_sumOfDetours 24 = .ok (.iadd, 1) := by decide +kernel
theorem dX0_sumOfDetours_25 : decode cX0_sumOfDetours 25 = .ok (.istore_n 1, 1) := by decide +kernel
theorem dX0_sumOfDetours_26 : decode cX0_sumOfDetours 26 = .ok (.iinc 2 1, 3) := by decide +kernel
theorem dX0_sumOfDetours_29 : decode cX0_sumOfDetours 29 = .ok (.goto (-25), 3) := by decide +kernel
theorem dX0_sumOfDetours_32 : decode cX0_sumOfDetours 32 = .ok (.iload_n 1, 1) := by decide +kernel
theorem dX0_sumOfDetours_33 : decode cX0_sumOfDetours 33 = .ok (.ireturn, 1) := by decide +kernel
theorem dX1_init_0 : decode cX1_init 0 = .ok (.aload_n 0, 1) := by decide +kernel
theorem dX1_init_1 : decode cX1_init 1 = .ok (.invokespecial 1, 3) := by decide +kernel
theorem dX1_init_4 : decode cX1_init 4 = .ok (.aload_n 0, 1) := by decide +kernel
theorem dX1_init_5 : decode cX1_init 5 = .ok (.new 7, 3) := by decide +kernel
theorem dX1_init_8 : decode cX1_init 8 = .ok (.dup, 1) := by decide +kernel
theorem dX1_init_9 : decode cX1_init 9 = .ok (.invokespecial 9, 3) := by decide +kernel
theorem dX1_init_12 : decode cX1_init 12 = .ok (.putfield 10, 3) := by decide +kernel
theorem dX1_init_15 : decode cX1_init 15 = .ok (.aload_n 0, 1) := by decide +kernel
theorem dX1_init_16 : decode cX1_init 16 = .ok (.iload_n 1, 1) := by decide +kernel
theorem dX1_init_17 : decode cX1_init 17 = .ok (.putfield 16, 3) := by decide +kernel
theorem dX1_init_20 : decode cX1_init 20 = .ok (.return_, 1) := by decide +kernel
theorem dX1_begin_0 : decode cX1_begin 0 = .ok (.aload_n 0, 1) := by decide +kernel
theorem dX1_begin_1 : decode cX1_begin 1 = .ok (.iload_n 1, 1) := by decide +kernel
theorem dX1_begin_2 : decode cX1_begin 2 = .ok (.putfield 20, 3) := by decide +kernel
theorem dX1_begin_5 : decode cX1_begin 5 = .ok (.aload_n 0, 1) := by decide +kernel
theorem dX1_begin_6 : decode cX1_begin 6 = .ok (.iload_n 2, 1) := by decide +kernel
theorem dX1_begin_7 : decode cX1_begin 7 = .ok (.putfield 23, 3) := by decide +kernel
theorem dX1_begin_10 : decode cX1_begin 10 = .ok (.aload_n 0, 1) := by decide +kernel
theorem dX1_begin_11 : decode cX1_begin 11 = .ok (.iload_n 3, 1) := by decide +kernel
theorem dX1_begin_12 : decode cX1_begin 12 = .ok (.putfield 26, 3) := by decide +kernel
theorem dX1_begin_15 : decode cX1_begin 15 = .ok (.aload_n 0, 1) := by decide +kernel
theorem dX1_begin_16 : decode cX1_begin 16 = .ok (.iload 4, 2) := by decide +kernel
theorem dX1_begin_18 : decode cX1_begin 18 = .ok (.putfield 29, 3) := by decide +kernel
theorem dX1_begin_21 : decode cX1_begin 21 = .ok (.aload_n 0, 1) := by decide +kernel
theorem dX1_begin_22 : decode cX1_begin 22 = .ok (.iconst 0, 1) := by decide +kernel
theorem dX1_begin_23 : decode cX1_begin 23 = .ok (.putfield 32, 3) := by decide +kernel
theorem dX1_begin_26 : decode cX1_begin 26 = .ok (.aload_n 0, 1) := by decide +kernel
theorem dX1_begin_27 : decode cX1_begin 27 = .ok (.lconst 0, 1) := by decide +kernel
theorem dX1_begin_28 : decode cX1_begin 28 = .ok (.putfield 36, 3) := by decide +kernel
theorem dX1_begin_31 : decode cX1_begin 31 = .ok (.aload_n 0, 1) := by decide +kernel
theorem dX1_begin_32 : decode cX1_begin 32 = .ok (.getfield 10, 3) := by decide +kernel
theorem dX1_begin_35 : decode cX1_begin 35 = .ok (.iconst 0, 1) := by decide +kernel
theorem dX1_begin_36 : decode cX1_begin 36 = .ok (.iconst 0, 1) := by decide +kernel
theorem dX1_begin_37 : decode cX1_begin 37 = .ok (.iconst 0, 1) := by decide +kernel
theorem dX1_begin_38 : decode cX1_begin 38 = .ok (.iconst 0, 1) := by decide +kernel
theorem dX1_begin_39 : decode cX1_begin 39 = .ok (.invokevirtual 40, 3) := by decide +kernel
theorem dX1_begin_42 : decode cX1_begin 42 = .ok (.return_, 1) := by decide +kernel
theorem dX1_copyFrom_0 : decode cX1_copyFrom 0 = .ok (.aload_n 0, 1) := by decide +kernel
theorem dX1_copyFrom_1 : decode cX1_copyFrom 1 = .ok (.aload_n 1, 1) := by decide +kernel
theorem dX1_copyFrom_2 : decode cX1_copyFrom 2 = .ok (.getfield 20, 3) := by decide +kernel
theorem dX1_copyFrom_5 : decode cX1_copyFrom 5 = .ok (.aload_n 1, 1) := by decide +kernel
theorem dX1_copyFrom_6 : decode cX1_copyFrom 6 = .ok (.getfield 23, 3) := by decide +kernel
theorem dX1_copyFrom_9 : decode cX1_copyFrom 9 = .ok (.aload_n 1, 1) := by decide +kernel
theorem dX1_copyFrom_10 : decode cX1_copyFrom 10 = .ok (.getfield 26, 3) := by decide +kernel
theorem dX1_copyFrom_13 : decode cX1_copyFrom 13 = .ok (.aload_n 1, 1) := by decide +kernel
theorem dX1_copyFrom_14 : decode cX1_copyFrom 14 = .ok (.getfield 29, 3) := by decide +kernel
theorem dX1_copyFrom_17 : decode cX1_copyFrom 17 = .ok (.invokevirtual 44, 3) := by decide +kernel
theorem dX1_copyFrom_20 : decode cX1_copyFrom 20 = .ok (.aload_n 0, 1) := by decide +kernel
theorem dX1_copyFrom_21 : decode cX1_copyFrom 21 = .ok (.aload_n 1, 1) := by decide +kernel
theorem dX1_copyFrom_22 : decode cX1_copyFrom 22 = .ok (.getfield 32, 3) := by decide +kernel
theorem dX1_copyFrom_25 : decode cX1_copyFrom 25 = .ok (.putfield 32, 3) := by decide +kernel
theorem dX1_copyFrom_28 : decode cX1_copyFrom 28 = .ok (.aload_n 0, 1) := by decide +kernel
theorem dX1_copyFrom_29 : decode cX1_copyFrom 29 = .ok (.aload_n 1, 1) := by decide +kernel
theorem dX1_copyFrom_30 : decode cX1_copyFrom 30 = .ok (.getfield 36, 3) := by decide +kernel
theorem dX1_copyFrom_33 : decode cX1_copyFrom 33 = .ok (.putfield 36, 3) := by decide +kernel
theorem dX1_copyFrom_36 : decode cX1_copyFrom 36 = .ok (.aload_n 0, 1) := by decide +kernel
theorem dX1_copyFrom_37 : decode cX1_copyFrom 37 = .ok (.getfield 10, 3) := by decide +kernel
theorem dX1_copyFrom_40 : decode cX1_copyFrom 40 = .ok (.aload_n 1, 1) := by decide +kernel
theorem dX1_copyFrom_41 : decode cX1_copyFrom 41 = .ok (.getfield 10, 3) := by decide +kernel
theorem dX1_copyFrom_44 : decode cX1_copyFrom 44 = .ok (.invokevirtual 45, 3) := by decide +kernel
theorem dX1_copyFrom_47 : decode cX1_copyFrom 47 = .ok (.return_, 1) := by decide +kernel
theorem dX2_init_0 : decode cX2_init 0 = .ok (.aload_n 0, 1) := by decide +kernel
theorem dX2_init_1 : decode cX2_init 1 = .ok (.invokespecial 3, 3) := by decide +kernel
theorem dX2_init_4 : decode cX2_init 4 = .ok (.aload_n 0, 1) := by decide +kernel
theorem dX2_init_5 : decode cX2_init 5 = .ok (.new 9, 3) := by decide +kernel
theorem dX2_init_8 : decode cX2_init 8 = .ok (.dup, 1) := by decide +kernel
theorem dX2_init_9 : decode cX2_init 9 = .ok (.invokespecial 11, 3) := by decide +kernel
theorem dX2_init_12 : decode cX2_init 12 = .ok (.putfield 12, 3) := by decide +kernel
theorem dX2_init_15 : decode cX2_init 15 = .ok (.aload_n 0, 1) := by decide +kernel
theorem dX2_init_16 : decode cX2_init 16 = .ok (.new 9, 3) := by decide +kernel
theorem dX2_init_19 : decode cX2_init 19 = .ok (.dup, 1) := by decide +kernel
theorem dX2_init_20 : decode cX2_init 20 = .ok (.invokespecial 11, 3) := by decide +kernel
theorem dX2_init_23 : decode cX2_init 23 = .ok (.putfield 18, 3) := by decide +kernel
theorem dX2_init_26 : decode cX2_init 26 = .ok (.return_, 1) := by decide +kernel
theorem dX2_extraInRoute_0 : decode cX2_extraInRoute 0 = .ok (.aload_n 2, 1) := by decide +kernel
theorem dX2_extraInRoute_1 : decode cX2_extraInRoute 1 = .ok (.getfield 21, 3) := by decide +kernel
theorem dX2_extraInRoute_4 : decode cX2_extraInRoute 4 = .ok (.aload_n 1, 1) := by decide +kernel
theorem dX2_extraInRoute_5 : decode cX2_extraInRoute 5 = .ok (.getfield 26, 3) := by decide +kernel
theorem dX2_extraInRoute_8 : decode cX2_extraInRoute 8 = .ok (.invokevirtual 32, 3) := by decide +kernel
theorem dX2_extraInRoute_11 : decode cX2_extraInRoute 11 = .ok (.ifCond .eq 7, 3) := by decide +kernel
theorem dX2_extraInRoute_14 : decode cX2_extraInRoute 14 = .ok (.iconst (-1), 1) := by decide +kernel
theorem dX2_extraInRoute_15 : decode cX2_extraInRoute 15 = .ok (.goto 13, 3) := by decide +kernel
theorem dX2_extraInRoute_18 : decode cX2_extraInRoute 18 = .ok (.aload_n 0, 1) := by decide +kernel
theorem dX2_extraInRoute_19 : decode cX2_extraInRoute 19 = .ok (.aload_n 1, 1) := by decide +kernel
theorem dX2_extraInRoute_20 : decode cX2_extraInRoute 20 = .ok (.aload_n 2, 1) := by decide +kernel
theorem dX2_extraInRoute_21 : decode cX2_extraInRoute 21 = .ok (.aload_n 2, 1) := by decide +kernel
theorem dX2_extraInRoute_22 : decode cX2_extraInRoute 22 = .ok (.getfield 21, 3) := by decide +kernel
theorem dX2_extraInRoute_25 : decode cX2_extraInRoute 25 = .ok (.invokevirtual 36, 3) := by decide +kernel
theorem dX2_extraInRoute_28 : decode cX2_extraInRoute 28 = .ok (.ireturn, 1) := by decide +kernel
theorem dX2_extraAlone_0 : decode cX2_extraAlone 0 = .ok (.aload_n 0, 1) := by decide +kernel
theorem dX2_extraAlone_1 : decode cX2_extraAlone 1 = .ok (.getfield 18, 3) := by decide +kernel
theorem dX2_extraAlone_4 : decode cX2_extraAlone 4 = .ok (.aload_n 2, 1) := by decide +kernel
theorem dX2_extraAlone_5 : decode cX2_extraAlone 5 = .ok (.getfield 21, 3) := by decide +kernel
theorem dX2_extraAlone_8 : decode cX2_extraAlone 8 = .ok (.invokevirtual 40, 3) := by decide +kernel
theorem dX2_extraAlone_11 : decode cX2_extraAlone 11 = .ok (.aload_n 0, 1) := by decide +kernel
theorem dX2_extraAlone_12 : decode cX2_extraAlone 12 = .ok (.aload_n 1, 1) := by decide +kernel
theorem dX2_extraAlone_13 : decode cX2_extraAlone 13 = .ok (.aload_n 2, 1) := by decide +kernel
theorem dX2_extraAlone_14 : decode cX2_extraAlone 14 = .ok (.aload_n 0, 1) := by decide +kernel
theorem dX2_extraAlone_15 : decode cX2_extraAlone 15 = .ok (.getfield 18, 3) := by decide +kernel
theorem dX2_extraAlone_18 : decode cX2_extraAlone 18 = .ok (.invokevirtual 36, 3) := by decide +kernel
theorem dX2_extraAlone_21 : decode cX2_extraAlone 21 = .ok (.ireturn, 1) := by decide +kernel
theorem dX2_putIn_0 : decode cX2_putIn 0 = .ok (.aload_n 0, 1) := by decide +kernel
theorem dX2_putIn_1 : decode cX2_putIn 1 = .ok (.aload_n 1, 1) := by decide +kernel
theorem dX2_putIn_2 : decode cX2_putIn 2 = .ok (.aload_n 2, 1) := by decide +kernel
theorem dX2_putIn_3 : decode cX2_putIn 3 = .ok (.aload_n 2, 1) := by decide +kernel
theorem dX2_putIn_4 : decode cX2_putIn 4 = .ok (.getfield 21, 3) := by decide +kernel
theorem dX2_putIn_7 : decode cX2_putIn 7 = .ok (.invokevirtual 36, 3) := by decide +kernel
theorem dX2_putIn_10 : decode cX2_putIn 10 = .ok (.istore_n 3, 1) := by decide +kernel
theorem dX2_putIn_11 : decode cX2_putIn 11 = .ok (.iload_n 3, 1) := by decide +kernel
theorem dX2_putIn_12 : decode cX2_putIn 12 = .ok (.iconst (-1), 1) := by decide +kernel
theorem dX2_putIn_13 : decode cX2_putIn 13 = .ok (.if_icmp .eq 32, 3) := by decide +kernel
theorem dX2_putIn_16 : decode cX2_putIn 16 = .ok (.aload_n 2, 1) := by decide +kernel
theorem dX2_putIn_17 : decode cX2_putIn 17 = .ok (.getfield 21, 3) := by decide +kernel
theorem dX2_putIn_20 : decode cX2_putIn 20 = .ok (.aload_n 1, 1) := by decide +kernel
theorem dX2_putIn_21 : decode cX2_putIn 21 = .ok (.aload_n 0, 1) := by decide +kernel
theorem dX2_putIn_22 : decode cX2_putIn 22 = .ok (.getfield 44, 3) := by decide +kernel
theorem dX2_putIn_25 : decode cX2_putIn 25 = .ok (.aload_n 0, 1) := by decide +kernel
theorem dX2_putIn_26 : decode cX2_putIn 26 = .ok (.getfield 47, 3) := by decide +kernel
theorem dX2_putIn_29 : decode cX2_putIn 29 = .ok (.invokevirtual 50, 3) := by decide +kernel
theorem dX2_putIn_32 : decode cX2_putIn 32 = .ok (.aload_n 1, 1) := by decide +kernel
theorem dX2_putIn_33 : decode cX2_putIn 33 = .ok (.iconst 1, 1) := by decide +kernel
theorem dX2_putIn_34 : decode cX2_putIn 34 = .ok (.putfield 54, 3) := by decide +kernel
theorem dX2_putIn_37 : decode cX2_putIn 37 = .ok (.aload_n 1, 1) := by decide +kernel
theorem dX2_putIn_38 : decode cX2_putIn 38 = .ok (.aload_n 2, 1) := by decide +kernel
theorem dX2_putIn_39 : decode cX2_putIn 39 = .ok (.getfield 57, 3) := by decide +kernel
theorem dX2_putIn_42 : decode cX2_putIn 42 = .ok (.putfield 58, 3) := by decide +kernel
theorem dX2_putIn_45 : decode cX2_putIn 45 = .ok (.iload_n 3, 1) := by decide +kernel
theorem dX2_putIn_46 : decode cX2_putIn 46 = .ok (.ireturn, 1) := by decide +kernel
theorem dX2_search_0 : decode cX2_search 0 = .ok (.aload_n 3, 1) := by decide +kernel
theorem dX2_search_1 : decode cX2_search 1 = .ok (.getfield 61, 3) := by decide +kernel
theorem dX2_search_4 : decode cX2_search 4 = .ok (.iconst 2, 1) := by decide +kernel
theorem dX2_search_5 : decode cX2_search 5 = .ok (.iadd, 1) := by decide +kernel
theorem dX2_search_6 : decode cX2_search 6 = .ok (.bipush 42, 2) := by decide +kernel
theorem dX2_search_8 : decode cX2_search 8 = .ok (.if_icmp .le 5, 3) := by decide +kernel
theorem dX2_search_11 : decode cX2_search 11 = .ok (.iconst (-1), 1) := by decide +kernel
theorem dX2_search_12 : decode cX2_search 12 = .ok (.ireturn, 1) := by decide +kernel
theorem dX2_search_13 : decode cX2_search 13 = .ok (.aload_n 2, 1) := by decide +kernel
theorem dX2_search_14 : decode cX2_search 14 = .ok (.getfield 64, 3) := by decide +kernel
theorem dX2_search_17 : decode cX2_search 17 = .ok (.aload_n 3, 1) := by decide +kernel
theorem dX2_search_18 : decode cX2_search 18 = .ok (.invokevirtual 67, 3) := by decide +kernel
theorem dX2_search_21 : decode cX2_search 21 = .ok (.isub, 1) := by decide +kernel
theorem dX2_search_22 : decode cX2_search 22 = .ok (.istore 4, 2) := by decide +kernel
theorem dX2_search_24 : decode cX2_search 24 = .ok (.iconst (-1), 1) := by decide +kernel
theorem dX2_search_25 : decode cX2_search 25 = .ok (.istore 5, 2) := by decide +kernel
theorem dX2_search_27 : decode cX2_search 27 = .ok (.iconst 0, 1) := by decide +kernel
theorem dX2_search_28 : decode cX2_search 28 = .ok (.istore 6, 2) := by decide +kernel
theorem dX2_search_30 : decode cX2_search 30 = .ok (.iload 6, 2) := by decide +kernel
theorem dX2_search_32 : decode cX2_search 32 = .ok (.aload_n 3, 1) := by decide +kernel
theorem dX2_search_33 : decode cX2_search 33 = .ok (.getfield 61, 3) := by decide +kernel
theorem dX2_search_36 : decode cX2_search 36 = .ok (.iconst 1, 1) := by decide +kernel
theorem dX2_search_37 : decode cX2_search 37 = .ok (.isub, 1) := by decide +kernel
theorem dX2_search_38 : decode cX2_search 38 = .ok (.if_icmp .ge 115, 3) := by decide +kernel
theorem dX2_search_41 : decode cX2_search 41 = .ok (.iload 6, 2) := by decide +kernel
theorem dX2_search_43 : decode cX2_search 43 = .ok (.istore 7, 2) := by decide +kernel
theorem dX2_search_45 : decode cX2_search 45 = .ok (.iload 7, 2) := by decide +kernel
theorem dX2_search_47 : decode cX2_search 47 = .ok (.aload_n 3, 1) := by decide +kernel
theorem dX2_search_48 : decode cX2_search 48 = .ok (.getfield 61, 3) := by decide +kernel
theorem dX2_search_51 : decode cX2_search 51 = .ok (.iconst 1, 1) := by decide +kernel
theorem dX2_search_52 : decode cX2_search 52 = .ok (.isub, 1) := by decide +kernel
theorem dX2_search_53 : decode cX2_search 53 = .ok (.if_icmp .ge 94, 3) := by decide +kernel
theorem dX2_search_56 : decode cX2_search 56 = .ok (.aload_n 3, 1) := by decide +kernel
theorem dX2_search_57 : decode cX2_search 57 = .ok (.aload_n 1, 1) := by decide +kernel
theorem dX2_search_58 : decode cX2_search 58 = .ok (.iload 6, 2) := by decide +kernel
theorem dX2_search_60 : decode cX2_search 60 = .ok (.iload 7, 2) := by decide +kernel
theorem dX2_search_62 : decode cX2_search 62 = .ok (.invokevirtual 71, 3) := by decide +kernel
theorem dX2_search_65 : decode cX2_search 65 = .ok (.istore 8, 2) := by decide +kernel
theorem dX2_search_67 : decode cX2_search 67 = .ok (.iload 8, 2) := by decide +kernel
theorem dX2_search_69 : decode cX2_search 69 = .ok (.iload 4, 2) := by decide +kernel
theorem dX2_search_71 : decode cX2_search 71 = .ok (.if_icmp .gt 70, 3) := by decide +kernel
theorem dX2_search_74 : decode cX2_search 74 = .ok (.iload 5, 2) := by decide +kernel
theorem dX2_search_76 : decode cX2_search 76 = .ok (.iconst (-1), 1) := by decide +kernel
theorem dX2_search_77 : decode cX2_search 77 = .ok (.if_icmp .eq 10, 3) := by decide +kernel
theorem dX2_search_80 : decode cX2_search 80 = .ok (.iload 8, 2) := by decide +kernel
theorem dX2_search_82 : decode cX2_search 82 = .ok (.iload 5, 2) := by decide +kernel
theorem dX2_search_84 : decode cX2_search 84 = .ok (.if_icmp .ge 57, 3) := by decide +kernel
theorem dX2_search_87 : decode cX2_search 87 = .ok (.aload_n 0, 1) := by decide +kernel
theorem dX2_search_88 : decode cX2_search 88 = .ok (.getfield 12, 3) := by decide +kernel
theorem dX2_search_91 : decode cX2_search 91 = .ok (.aload_n 3, 1) := by decide +kernel
theorem dX2_search_92 : decode cX2_search 92 = .ok (.invokevirtual 75, 3) := by decide +kernel
theorem dX2_search_95 : decode cX2_search 95 = .ok (.aload_n 0, 1) := by decide +kernel
theorem dX2_search_96 : decode cX2_search 96 = .ok (.getfield 12, 3) := by decide +kernel
theorem dX2_search_99 : decode cX2_search 99 = .ok (.aload_n 1, 1) := by decide +kernel
theorem dX2_search_100 : decode cX2_search 100 = .ok (.iload 6, 2) := by decide +kernel
theorem dX2_search_102 : decode cX2_search 102 = .ok (.iload 7, 2) := by decide +kernel
theorem dX2_search_104 : decode cX2_search 104 = .ok (.invokevirtual 50, 3) := by decide +kernel
theorem dX2_search_107 : decode cX2_search 107 = .ok (.aload_n 0, 1) := by decide +kernel
theorem dX2_search_108 : decode cX2_search 108 = .ok (.getfield 12, 3) := by decide +kernel
theorem dX2_search_111 : decode cX2_search 111 = .ok (.aload_n 2, 1) := by decide +kernel
theorem dX2_search_112 : decode cX2_search 112 = .ok (.getfield 78, 3) := by decide +kernel
theorem dX2_search_115 : decode cX2_search 115 = .ok (.aload_n 2, 1) := by decide +kernel
theorem dX2_search_116 : decode cX2_search 116 = .ok (.getfield 81, 3) := by decide +kernel
theorem dX2_search_119 : decode cX2_search 119 = .ok (.invokevirtual 84, 3) := by decide +kernel
theorem dX2_search_122 : decode cX2_search 122 = .ok (.ifCond .eq 19, 3) := by decide +kernel
theorem dX2_search_125 : decode cX2_search 125 = .ok (.iload 8, 2) := by decide +kernel
theorem dX2_search_127 : decode cX2_search 127 = .ok (.istore 5, 2) := by decide +kernel
theorem dX2_search_129 : decode cX2_search 129 = .ok (.aload_n 0, 1) := by decide +kernel
theorem dX2_search_130 : decode cX2_search 130 = .ok (.iload 6, 2) := by decide +kernel
theorem dX2_search_132 : decode cX2_search 132 = .ok (.putfield 44, 3) := by decide +kernel
theorem dX2_search_135 : decode cX2_search 135 = .ok (.aload_n 0, 1) := by decide +kernel
theorem dX2_search_136 : decode cX2_search 136 = .ok (.iload 7, 2) := by decide +kernel
theorem dX2_search_138 : decode cX2_search 138 = .ok (.putfield 47, 3) := by decide +kernel
theorem dX2_search_141 : decode cX2_search 141 = .ok (.iinc 7 1, 3) := by decide +kernel
theorem dX2_search_144 : decode cX2_search 144 = .ok (.goto (-99), 3) := by decide +kernel
theorem dX2_search_147 : decode cX2_search 147 = .ok (.iinc 6 1, 3) := by decide +kernel
theorem dX2_search_150 : decode cX2_search 150 = .ok (.goto (-120), 3) := by decide +kernel
theorem dX2_search_153 : decode cX2_search 153 = .ok (.iload 5, 2) := by decide +kernel
theorem dX2_search_155 : decode cX2_search 155 = .ok (.ireturn, 1) := by decide +kernel
theorem dX3_init_0 : decode cX3_init 0 = .ok (.aload_n 0, 1) := by decide +kernel
theorem dX3_init_1 : decode cX3_init 1 = .ok (.invokespecial 3, 3) := by decide +kernel
theorem dX3_init_4 : decode cX3_init 4 = .ok (.aload_n 0, 1) := by decide +kernel
theorem dX3_init_5 : decode cX3_init 5 = .ok (.bipush 20, 2) := by decide +kernel
theorem dX3_init_7 : decode cX3_init 7 = .ok (.newarray .int, 2) := by decide +kernel
theorem dX3_init_9 : decode cX3_init 9 = .ok (.putfield 9, 3) := by decide +kernel
theorem dX3_init_12 : decode cX3_init 12 = .ok (.aload_n 0, 1) := by decide +kernel
theorem dX3_init_13 : decode cX3_init 13 = .ok (.bipush 20, 2) := by decide +kernel
theorem dX3_init_15 : decode cX3_init 15 = .ok (.newarray .int, 2) := by decide +kernel
theorem dX3_init_17 : decode cX3_init 17 = .ok (.putfield 15, 3) := by decide +kernel
theorem dX3_init_20 : decode cX3_init 20 = .ok (.return_, 1) := by decide +kernel
theorem dX3_run_0 : decode cX3_run 0 = .ok (.aload_n 0, 1) := by decide +kernel
theorem dX3_run_1 : decode cX3_run 1 = .ok (.getfield 9, 3) := by decide +kernel
theorem dX3_run_4 : decode cX3_run 4 = .ok (.iconst (-1), 1) := by decide +kernel
theorem dX3_run_5 : decode cX3_run 5 = .ok (.invokestatic 18, 3) := by decide +kernel
theorem dX3_run_8 : decode cX3_run 8 = .ok (.aload_n 0, 1) := by decide +kernel
theorem dX3_run_9 : decode cX3_run 9 = .ok (.getfield 15, 3) := by decide +kernel
theorem dX3_run_12 : decode cX3_run 12 = .ok (.iconst 0, 1) := by decide +kernel
theorem dX3_run_13 : decode cX3_run 13 = .ok (.invokestatic 18, 3) := by decide +kernel
theorem dX3_run_16 : decode cX3_run 16 = .ok (.iconst 0, 1) := by decide +kernel
theorem dX3_run_17 : decode cX3_run 17 = .ok (.istore_n 3, 1) := by decide +kernel
theorem dX3_run_18 : decode cX3_run 18 = .ok (.iload_n 3, 1) := by decide +kernel
theorem dX3_run_19 : decode cX3_run 19 = .ok (.sipush 160, 3) := by decide +kernel
theorem dX3_run_22 : decode cX3_run 22 = .ok (.if_icmp .ge 19, 3) := by decide +kernel
theorem dX3_run_25 : decode cX3_run 25 = .ok (.aload_n 0, 1) := by decide +kernel
theorem dX3_run_26 : decode cX3_run 26 = .ok (.aload_n 1, 1) := by decide +kernel
theorem dX3_run_27 : decode cX3_run 27 = .ok (.aload_n 2, 1) := by decide +kernel
theorem dX3_run_28 : decode cX3_run 28 = .ok (.invokevirtual 24, 3) := by decide +kernel
theorem dX3_run_31 : decode cX3_run 31 = .ok (.ifCond .ne 4, 3) := by decide +kernel
theorem dX3_run_34 : decode cX3_run 34 = .ok (.return_, 1) := by decide +kernel
theorem dX3_run_35 : decode cX3_run 35 = .ok (.iinc 3 1, 3) := by decide +kernel
theorem dX3_run_38 : decode cX3_run 38 = .ok (.goto (-20), 3) := by decide +kernel
theorem dX3_run_41 : decode cX3_run 41 = .ok (.return_, 1) := by decide +kernel
theorem dX3_letSomeRiderAsk_0 : decode cX3_letSomeRiderAsk 0 = .ok (.iconst 0, 1) := by decide +kernel
theorem dX3_letSomeRiderAsk_1 : decode cX3_letSomeRiderAsk 1 = .ok (.istore_n 3, 1) := by decide +kernel
theorem dX3_letSomeRiderAsk_2 : decode cX3_letSomeRiderAsk 2 = .ok (.iload_n 3, 1) := by decide +kernel
theorem dX3_letSomeRiderAsk_3 : decode cX3_letSomeRiderAsk 3 = .ok (.aload_n 1, 1) := by decide +kernel
theorem dX3_letSomeRiderAsk_4 : decode cX3_letSomeRiderAsk 4 = .ok (.getfield 28, 3) := by decide +kernel
theorem dX3_letSomeRiderAsk_7 : decode cX3_letSomeRiderAsk 7 = .ok (.if_icmp .ge 61, 3) := by decide +kernel
theorem dX3_letSomeRiderAsk_10 : decode cX3_letSomeRiderAsk 10 = .ok (.aload_n 1, 1) := by decide +kernel
theorem dX3_letSomeRiderAsk_11 : decode cX3_letSomeRiderAsk 11 = .ok (.iload_n 3, 1) := by decide +kernel
theorem dX3_letSomeRiderAsk_12 : decode cX3_letSomeRiderAsk 12 = .ok (.invokevirtual 34, 3) := by decide +kernel
theorem dX3_letSomeRiderAsk_15 : decode cX3_letSomeRiderAsk 15 = .ok (.astore 4, 2) := by decide +kernel
theorem dX3_letSomeRiderAsk_17 : decode cX3_letSomeRiderAsk 17 = .ok (.aload 4, 2) := by decide +kernel
theorem dX3_letSomeRiderAsk_19 : decode cX3_letSomeRiderAsk 19 = .ok (.getfield 38, 3) := by decide +kernel
theorem dX3_letSomeRiderAsk_22 : decode cX3_letSomeRiderAsk 22 = .ok (.ifCond .ne 40, 3) := by decide +kernel
theorem dX3_letSomeRiderAsk_25 : decode cX3_letSomeRiderAsk 25 = .ok (.aload_n 0, 1) := by decide +kernel
theorem dX3_letSomeRiderAsk_26 : decode cX3_letSomeRiderAsk 26 = .ok (.getfield 9, 3) := by decide +kernel
theorem dX3_letSomeRiderAsk_29 : decode cX3_letSomeRiderAsk 29 = .ok (.iload_n 3, 1) := by decide +kernel
theorem dX3_letSomeRiderAsk_30 : decode cX3_letSomeRiderAsk 30 = .ok (.iaload, 1) := by decide +kernel
theorem dX3_letSomeRiderAsk_31 : decode cX3_letSomeRiderAsk 31 = .ok (.iconst (-1), 1) := by decide +kernel
theorem dX3_letSomeRiderAsk_32 : decode cX3_letSomeRiderAsk 32 = .ok (.if_icmp .ne 30, 3) := by decide +kernel
theorem dX3_letSomeRiderAsk_35 : decode cX3_letSomeRiderAsk 35 = .ok (.aload_n 0, 1) := by decide +kernel
theorem dX3_letSomeRiderAsk_36 : decode cX3_letSomeRiderAsk 36 = .ok (.aload_n 1, 1) := by decide +kernel
theorem dX3_letSomeRiderAsk_37 : decode cX3_letSomeRiderAsk 37 = .ok (.aload_n 2, 1) := by decide +kernel
theorem dX3_letSomeRiderAsk_38 : decode cX3_letSomeRiderAsk 38 = .ok (.aload 4, 2) := by decide +kernel
theorem dX3_letSomeRiderAsk_40 : decode cX3_letSomeRiderAsk 40 = .ok (.invokevirtual 43, 3) := by decide +kernel
theorem dX3_letSomeRiderAsk_43 : decode cX3_letSomeRiderAsk 43 = .ok (.astore 5, 2) := by decide +kernel
theorem dX3_letSomeRiderAsk_45 : decode cX3_letSomeRiderAsk 45 = .ok (.aload 5, 2) := by decide +kernel
theorem dX3_letSomeRiderAsk_47 : decode cX3_letSomeRiderAsk 47 = .ok (.ifnull 15, 3) := by decide +kernel
theorem dX3_letSomeRiderAsk_50 : decode cX3_letSomeRiderAsk 50 = .ok (.aload_n 0, 1) := by decide +kernel
theorem dX3_letSomeRiderAsk_51 : decode cX3_letSomeRiderAsk 51 = .ok (.aload_n 1, 1) := by decide +kernel
theorem dX3_letSomeRiderAsk_52 : decode cX3_letSomeRiderAsk 52 = .ok (.aload_n 2, 1) := by decide +kernel
theorem dX3_letSomeRiderAsk_53 : decode cX3_letSomeRiderAsk 53 = .ok (.aload 4, 2) := by decide +kernel
theorem dX3_letSomeRiderAsk_55 : decode cX3_letSomeRiderAsk 55 = .ok (.aload 5, 2) := by decide +kernel
theorem dX3_letSomeRiderAsk_57 : decode cX3_letSomeRiderAsk 57 = .ok (.invokevirtual 47, 3) := by decide +kernel
theorem dX3_letSomeRiderAsk_60 : decode cX3_letSomeRiderAsk 60 = .ok (.iconst 1, 1) := by decide +kernel
theorem dX3_letSomeRiderAsk_61 : decode cX3_letSomeRiderAsk 61 = .ok (.ireturn, 1) := by decide +kernel
theorem dX3_letSomeRiderAsk_62 : decode cX3_letSomeRiderAsk 62 = .ok (.iinc 3 1, 3) := by decide +kernel
theorem dX3_letSomeRiderAsk_65 : decode cX3_letSomeRiderAsk 65 = .ok (.goto (-63), 3) := by decide +kernel
theorem dX3_letSomeRiderAsk_68 : decode cX3_letSomeRiderAsk 68 = .ok (.iconst 0, 1) := by decide +kernel
theorem dX3_letSomeRiderAsk_69 : decode cX3_letSomeRiderAsk 69 = .ok (.ireturn, 1) := by decide +kernel
theorem dX3_bestUnasked_0 : decode cX3_bestUnasked 0 = .ok (.aconst_null, 1) := by decide +kernel
theorem dX3_bestUnasked_1 : decode cX3_bestUnasked 1 = .ok (.astore 4, 2) := by decide +kernel
theorem dX3_bestUnasked_3 : decode cX3_bestUnasked 3 = .ok (.iconst 0, 1) := by decide +kernel
theorem dX3_bestUnasked_4 : decode cX3_bestUnasked 4 = .ok (.istore 5, 2) := by decide +kernel
theorem dX3_bestUnasked_6 : decode cX3_bestUnasked 6 = .ok (.iload 5, 2) := by decide +kernel
theorem dX3_bestUnasked_8 : decode cX3_bestUnasked 8 = .ok (.aload_n 1, 1) := by decide +kernel
theorem dX3_bestUnasked_9 : decode cX3_bestUnasked 9 = .ok (.getfield 51, 3) := by decide +kernel
theorem dX3_bestUnasked_12 : decode cX3_bestUnasked 12 = .ok (.if_icmp .ge 77, 3) := by decide +kernel
theorem dX3_bestUnasked_15 : decode cX3_bestUnasked 15 = .ok (.aload_n 1, 1) := by decide +kernel
theorem dX3_bestUnasked_16 : decode cX3_bestUnasked 16 = .ok (.iload 5, 2) := by decide +kernel
theorem dX3_bestUnasked_18 : decode cX3_bestUnasked 18 = .ok (.invokevirtual 54, 3) := by decide +kernel
theorem dX3_bestUnasked_21 : decode cX3_bestUnasked 21 = .ok (.astore 6, 2) := by decide +kernel
theorem dX3_bestUnasked_23 : decode cX3_bestUnasked 23 = .ok (.aload_n 2, 1) := by decide +kernel
theorem dX3_bestUnasked_24 : decode cX3_bestUnasked 24 = .ok (.aload 6, 2) := by decide +kernel
theorem dX3_bestUnasked_26 : decode cX3_bestUnasked 26 = .ok (.aload_n 3, 1) := by decide +kernel
theorem dX3_bestUnasked_27 : decode cX3_bestUnasked 27 = .ok (.invokevirtual 58, 3) := by decide +kernel
theorem dX3_bestUnasked_30 : decode cX3_bestUnasked 30 = .ok (.ifCond .eq 24, 3) := by decide +kernel
theorem dX3_bestUnasked_33 : decode cX3_bestUnasked 33 = .ok (.aload_n 0, 1) := by decide +kernel
theorem dX3_bestUnasked_34 : decode cX3_bestUnasked 34 = .ok (.getfield 15, 3) := by decide +kernel
theorem dX3_bestUnasked_37 : decode cX3_bestUnasked 37 = .ok (.aload_n 3, 1) := by decide +kernel
theorem dX3_bestUnasked_38 : decode cX3_bestUnasked 38 = .ok (.getfield 64, 3) := by decide +kernel
theorem dX3_bestUnasked_41 : decode cX3_bestUnasked 41 = .ok (.iaload, 1) := by decide +kernel
theorem dX3_bestUnasked_42 : decode cX3_bestUnasked 42 = .ok (.iload 5, 2) := by decide +kernel
theorem dX3_bestUnasked_44 : decode cX3_bestUnasked 44 = .ok (.iushr, 1) := by decide +kernel
theorem dX3_bestUnasked_45 : decode cX3_bestUnasked 45 = .ok (.iconst 1, 1) := by decide +kernel
theorem dX3_bestUnasked_46 : decode cX3_bestUnasked 46 = .ok (.iand, 1) := by decide +kernel
theorem dX3_bestUnasked_47 : decode cX3_bestUnasked 47 = .ok (.ifCond .ne 7, 3) := by decide +kernel
theorem dX3_bestUnasked_50 : decode cX3_bestUnasked 50 = .ok (.iconst 1, 1) := by decide +kernel
theorem dX3_bestUnasked_51 : decode cX3_bestUnasked 51 = .ok (.goto 4, 3) := by decide +kernel
theorem dX3_bestUnasked_54 : decode cX3_bestUnasked 54 = .ok (.iconst 0, 1) := by decide +kernel
theorem dX3_bestUnasked_55 : decode cX3_bestUnasked 55 = .ok (.istore 7, 2) := by decide +kernel
theorem dX3_bestUnasked_57 : decode cX3_bestUnasked 57 = .ok (.iload 7, 2) := by decide +kernel
theorem dX3_bestUnasked_59 : decode cX3_bestUnasked 59 = .ok (.ifCond .eq 24, 3) := by decide +kernel
theorem dX3_bestUnasked_62 : decode cX3_bestUnasked 62 = .ok (.aload 4, 2) := by decide +kernel
theorem dX3_bestUnasked_64 : decode cX3_bestUnasked 64 = .ok (.ifnull 15, 3) := by decide +kernel
theorem dX3_bestUnasked_67 : decode cX3_bestUnasked 67 = .ok (.aload_n 2, 1) := by decide +kernel
theorem dX3_bestUnasked_68 : decode cX3_bestUnasked 68 = .ok (.aload_n 3, 1) := by decide +kernel
theorem dX3_bestUnasked_69 : decode cX3_bestUnasked 69 = .ok (.aload 6, 2) := by decide +kernel
theorem dX3_bestUnasked_71 : decode cX3_bestUnasked 71 = .ok (.aload 4, 2) := by decide +kernel
theorem dX3_bestUnasked_73 : decode cX3_bestUnasked 73 = .ok (.invokevirtual 67, 3) := by decide +kernel
theorem dX3_bestUnasked_76 : decode cX3_bestUnasked 76 = .ok (.ifCond .eq 7, 3) := by decide +kernel
theorem dX3_bestUnasked_79 : decode cX3_bestUnasked 79 = .ok (.aload 6, 2) := by decide +kernel
theorem dX3_bestUnasked_81 : decode cX3_bestUnasked 81 = .ok (.astore 4, 2) := by decide +kernel
theorem dX3_bestUnasked_83 : decode cX3_bestUnasked 83 = .ok (.iinc 5 1, 3) := by decide +kernel
theorem dX3_bestUnasked_86 : decode cX3_bestUnasked 86 = .ok (.goto (-80), 3) := by decide +kernel
theorem dX3_bestUnasked_89 : decode cX3_bestUnasked 89 = .ok (.aload 4, 2) := by decide +kernel
theorem dX3_bestUnasked_91 : decode cX3_bestUnasked 91 = .ok (.areturn, 1) := by decide +kernel
theorem dX3_ask_0 : decode cX3_ask 0 = .ok (.aload_n 0, 1) := by decide +kernel
theorem dX3_ask_1 : decode cX3_ask 1 = .ok (.getfield 15, 3) := by decide +kernel
theorem dX3_ask_4 : decode cX3_ask 4 = .ok (.aload_n 3, 1) := by decide +kernel
theorem dX3_ask_5 : decode cX3_ask 5 = .ok (.getfield 64, 3) := by decide +kernel
theorem dX3_ask_8 : decode cX3_ask 8 = .ok (.dup2, 1) := by decide +kernel
theorem dX3_ask_9 : decode cX3_ask 9 = .ok (.iaload, 1) := by decide +kernel
theorem dX3_ask_10 : decode cX3_ask 10 = .ok (.iconst 1, 1) := by decide +kernel
theorem dX3_ask_11 : decode cX3_ask 11 = .ok (.aload 4, 2) := by decide +kernel
theorem dX3_ask_13 : decode cX3_ask 13 = .ok (.getfield 71, 3) := by decide +kernel
theorem dX3_ask_16 : decode cX3_ask 16 = .ok (.ishl, 1) := by decide +kernel
theorem dX3_ask_17 : decode cX3_ask 17 = .ok (.ior, 1) := by decide +kernel
theorem dX3_ask_18 : decode cX3_ask 18 = .ok (.iastore, 1) := by decide +kernel
theorem dX3_ask_19 : decode cX3_ask 19 = .ok (.aload_n 0, 1) := by decide +kernel
theorem dX3_ask_20 : decode cX3_ask 20 = .ok (.getfield 9, 3) := by decide +kernel
theorem dX3_ask_23 : decode cX3_ask 23 = .ok (.aload_n 3, 1) := by decide +kernel
theorem dX3_ask_24 : decode cX3_ask 24 = .ok (.getfield 64, 3) := by decide +kernel
theorem dX3_ask_27 : decode cX3_ask 27 = .ok (.aload 4, 2) := by decide +kernel
theorem dX3_ask_29 : decode cX3_ask 29 = .ok (.getfield 71, 3) := by decide +kernel
theorem dX3_ask_32 : decode cX3_ask 32 = .ok (.iastore, 1) := by decide +kernel
theorem dX3_ask_33 : decode cX3_ask 33 = .ok (.iconst 0, 1) := by decide +kernel
theorem dX3_ask_34 : decode cX3_ask 34 = .ok (.istore 5, 2) := by decide +kernel
theorem dX3_ask_36 : decode cX3_ask 36 = .ok (.aload_n 3, 1) := by decide +kernel
theorem dX3_ask_37 : decode cX3_ask 37 = .ok (.astore 6, 2) := by decide +kernel
theorem dX3_ask_39 : decode cX3_ask 39 = .ok (.iconst 0, 1) := by decide +kernel
theorem dX3_ask_40 : decode cX3_ask 40 = .ok (.istore 7, 2) := by decide +kernel
theorem dX3_ask_42 : decode cX3_ask 42 = .ok (.iload 7, 2) := by decide +kernel
theorem dX3_ask_44 : decode cX3_ask 44 = .ok (.aload_n 1, 1) := by decide +kernel
theorem dX3_ask_45 : decode cX3_ask 45 = .ok (.getfield 28, 3) := by decide +kernel
theorem dX3_ask_48 : decode cX3_ask 48 = .ok (.if_icmp .ge 52, 3) := by decide +kernel
theorem dX3_ask_51 : decode cX3_ask 51 = .ok (.aload_n 0, 1) := by decide +kernel
theorem dX3_ask_52 : decode cX3_ask 52 = .ok (.getfield 9, 3) := by decide +kernel
theorem dX3_ask_55 : decode cX3_ask 55 = .ok (.iload 7, 2) := by decide +kernel
theorem dX3_ask_57 : decode cX3_ask 57 = .ok (.iaload, 1) := by decide +kernel
theorem dX3_ask_58 : decode cX3_ask 58 = .ok (.aload 4, 2) := by decide +kernel
theorem dX3_ask_60 : decode cX3_ask 60 = .ok (.getfield 71, 3) := by decide +kernel
theorem dX3_ask_63 : decode cX3_ask 63 = .ok (.if_icmp .ne 31, 3) := by decide +kernel
theorem dX3_ask_66 : decode cX3_ask 66 = .ok (.iinc 5 1, 3) := by decide +kernel
theorem dX3_ask_69 : decode cX3_ask 69 = .ok (.aload_n 2, 1) := by decide +kernel
theorem dX3_ask_70 : decode cX3_ask 70 = .ok (.aload 4, 2) := by decide +kernel
theorem dX3_ask_72 : decode cX3_ask 72 = .ok (.aload 6, 2) := by decide +kernel
theorem dX3_ask_74 : decode cX3_ask 74 = .ok (.aload_n 1, 1) := by decide +kernel
theorem dX3_ask_75 : decode cX3_ask 75 = .ok (.iload 7, 2) := by decide +kernel
theorem dX3_ask_77 : decode cX3_ask 77 = .ok (.invokevirtual 34, 3) := by decide +kernel
theorem dX3_ask_80 : decode cX3_ask 80 = .ok (.invokevirtual 74, 3) := by decide +kernel
theorem dX3_ask_83 : decode cX3_ask 83 = .ok (.ifCond .eq 11, 3) := by decide +kernel
theorem dX3_ask_86 : decode cX3_ask 86 = .ok (.aload_n 1, 1) := by decide +kernel
theorem dX3_ask_87 : decode cX3_ask 87 = .ok (.iload 7, 2) := by decide +kernel
theorem dX3_ask_89 : decode cX3_ask 89 = .ok (.invokevirtual 34, 3) := by decide +kernel
theorem dX3_ask_92 : decode cX3_ask 92 = .ok (.astore 6, 2) := by decide +kernel
theorem dX3_ask_94 : decode cX3_ask 94 = .ok (.iinc 7 1, 3) := by decide +kernel
theorem dX3_ask_97 : decode cX3_ask 97 = .ok (.goto (-55), 3) := by decide +kernel
theorem dX3_ask_100 : decode cX3_ask 100 = .ok (.iload 5, 2) := by decide +kernel
theorem dX3_ask_102 : decode cX3_ask 102 = .ok (.aload 4, 2) := by decide +kernel
theorem dX3_ask_104 : decode cX3_ask 104 = .ok (.getfield 78, 3) := by decide +kernel
theorem dX3_ask_107 : decode cX3_ask 107 = .ok (.if_icmp .le 14, 3) := by decide +kernel
theorem dX3_ask_110 : decode cX3_ask 110 = .ok (.aload_n 0, 1) := by decide +kernel
theorem dX3_ask_111 : decode cX3_ask 111 = .ok (.getfield 9, 3) := by decide +kernel
theorem dX3_ask_114 : decode cX3_ask 114 = .ok (.aload 6, 2) := by decide +kernel
theorem dX3_ask_116 : decode cX3_ask 116 = .ok (.getfield 64, 3) := by decide +kernel
theorem dX3_ask_119 : decode cX3_ask 119 = .ok (.iconst (-1), 1) := by decide +kernel
theorem dX3_ask_120 : decode cX3_ask 120 = .ok (.iastore, 1) := by decide +kernel
theorem dX3_ask_121 : decode cX3_ask 121 = .ok (.return_, 1) := by decide +kernel
theorem dX3_takeBestHeld_0 : decode cX3_takeBestHeld 0 = .ok (.aconst_null, 1) := by decide +kernel
theorem dX3_takeBestHeld_1 : decode cX3_takeBestHeld 1 = .ok (.astore 4, 2) := by decide +kernel
theorem dX3_takeBestHeld_3 : decode cX3_takeBestHeld 3 = .ok (.iconst 0, 1) := by decide +kernel
theorem dX3_takeBestHeld_4 : decode cX3_takeBestHeld 4 = .ok (.istore 5, 2) := by decide +kernel
theorem dX3_takeBestHeld_6 : decode cX3_takeBestHeld 6 = .ok (.iload 5, 2) := by decide +kernel
theorem dX3_takeBestHeld_8 : decode cX3_takeBestHeld 8 = .ok (.aload_n 1, 1) := by decide +kernel
theorem dX3_takeBestHeld_9 : decode cX3_takeBestHeld 9 = .ok (.getfield 28, 3) := by decide +kernel
theorem dX3_takeBestHeld_12 : decode cX3_takeBestHeld 12 = .ok (.if_icmp .ge 52, 3) := by decide +kernel
theorem dX3_takeBestHeld_15 : decode cX3_takeBestHeld 15 = .ok (.aload_n 0, 1) := by decide +kernel
theorem dX3_takeBestHeld_16 : decode cX3_takeBestHeld 16 = .ok (.getfield 9, 3) := by decide +kernel
theorem dX3_takeBestHeld_19 : decode cX3_takeBestHeld 19 = .ok (.iload 5, 2) := by decide +kernel
theorem dX3_takeBestHeld_21 : decode cX3_takeBestHeld 21 = .ok (.iaload, 1) := by decide +kernel
theorem dX3_takeBestHeld_22 : decode cX3_takeBestHeld 22 = .ok (.aload_n 3, 1) := by decide +kernel
theorem dX3_takeBestHeld_23 : decode cX3_takeBestHeld 23 = .ok (.getfield 71, 3) := by decide +kernel
theorem dX3_takeBestHeld_26 : decode cX3_takeBestHeld 26 = .ok (.if_icmp .ne 32, 3) := by decide +kernel
theorem dX3_takeBestHeld_29 : decode cX3_takeBestHeld 29 = .ok (.aload_n 1, 1) := by decide +kernel
theorem dX3_takeBestHeld_30 : decode cX3_takeBestHeld 30 = .ok (.iload 5, 2) := by decide +kernel
theorem dX3_takeBestHeld_32 : decode cX3_takeBestHeld 32 = .ok (.invokevirtual 34, 3) := by decide +kernel
theorem dX3_takeBestHeld_35 : decode cX3_takeBestHeld 35 = .ok (.astore 6, 2) := by decide +kernel
theorem dX3_takeBestHeld_37 : decode cX3_takeBestHeld 37 = .ok (.aload 4, 2) := by decide +kernel
theorem dX3_takeBestHeld_39 : decode cX3_takeBestHeld 39 = .ok (.ifnull 15, 3) := by decide +kernel
theorem dX3_takeBestHeld_42 : decode cX3_takeBestHeld 42 = .ok (.aload_n 2, 1) := by decide +kernel
theorem dX3_takeBestHeld_43 : decode cX3_takeBestHeld 43 = .ok (.aload_n 3, 1) := by decide +kernel
theorem dX3_takeBestHeld_44 : decode cX3_takeBestHeld 44 = .ok (.aload 6, 2) := by decide +kernel
theorem dX3_takeBestHeld_46 : decode cX3_takeBestHeld 46 = .ok (.aload 4, 2) := by decide +kernel
theorem dX3_takeBestHeld_48 : decode cX3_takeBestHeld 48 = .ok (.invokevirtual 74, 3) := by decide +kernel
theorem dX3_takeBestHeld_51 : decode cX3_takeBestHeld 51 = .ok (.ifCond .eq 7, 3) := by decide +kernel
theorem dX3_takeBestHeld_54 : decode cX3_takeBestHeld 54 = .ok (.aload 6, 2) := by decide +kernel
theorem dX3_takeBestHeld_56 : decode cX3_takeBestHeld 56 = .ok (.astore 4, 2) := by decide +kernel
theorem dX3_takeBestHeld_58 : decode cX3_takeBestHeld 58 = .ok (.iinc 5 1, 3) := by decide +kernel
theorem dX3_takeBestHeld_61 : decode cX3_takeBestHeld 61 = .ok (.goto (-55), 3) := by decide +kernel
theorem dX3_takeBestHeld_64 : decode cX3_takeBestHeld 64 = .ok (.aload 4, 2) := by decide +kernel
theorem dX3_takeBestHeld_66 : decode cX3_takeBestHeld 66 = .ok (.ifnull 14, 3) := by decide +kernel
theorem dX3_takeBestHeld_69 : decode cX3_takeBestHeld 69 = .ok (.aload_n 0, 1) := by decide +kernel
theorem dX3_takeBestHeld_70 : decode cX3_takeBestHeld 70 = .ok (.getfield 9, 3) := by decide +kernel
theorem dX3_takeBestHeld_73 : decode cX3_takeBestHeld 73 = .ok (.aload 4, 2) := by decide +kernel
theorem dX3_takeBestHeld_75 : decode cX3_takeBestHeld 75 = .ok (.getfield 64, 3) := by decide +kernel
theorem dX3_takeBestHeld_78 : decode cX3_takeBestHeld 78 = .ok (.iconst (-1), 1) := by decide +kernel
theorem dX3_takeBestHeld_79 : decode cX3_takeBestHeld 79 = .ok (.iastore, 1) := by decide +kernel
theorem dX3_takeBestHeld_80 : decode cX3_takeBestHeld 80 = .ok (.aload 4, 2) := by decide +kernel
theorem dX3_takeBestHeld_82 : decode cX3_takeBestHeld 82 = .ok (.areturn, 1) := by decide +kernel
theorem dX4_init_0 : decode cX4_init 0 = .ok (.aload_n 0, 1) := by decide +kernel
theorem dX4_init_1 : decode cX4_init 1 = .ok (.invokespecial 3, 3) := by decide +kernel
theorem dX4_init_4 : decode cX4_init 4 = .ok (.aload_n 0, 1) := by decide +kernel
theorem dX4_init_5 : decode cX4_init 5 = .ok (.bipush 8, 2) := by decide +kernel
theorem dX4_init_7 : decode cX4_init 7 = .ok (.bipush 20, 2) := by decide +kernel
theorem dX4_init_9 : decode cX4_init 9 = .ok (.multianewarray 9 2, 4) := by decide +kernel
theorem dX4_init_13 : decode cX4_init 13 = .ok (.putfield 11, 3) := by decide +kernel
theorem dX4_init_16 : decode cX4_init 16 = .ok (.return_, 1) := by decide +kernel
theorem dX4_read_0 : decode cX4_read 0 = .ok (.iconst 0, 1) := by decide +kernel
theorem dX4_read_1 : decode cX4_read 1 = .ok (.istore_n 3, 1) := by decide +kernel
theorem dX4_read_2 : decode cX4_read 2 = .ok (.iload_n 3, 1) := by decide +kernel
theorem dX4_read_3 : decode cX4_read 3 = .ok (.aload_n 1, 1) := by decide +kernel
theorem dX4_read_4 : decode cX4_read 4 = .ok (.getfield 16, 3) := by decide +kernel
theorem dX4_read_7 : decode cX4_read 7 = .ok (.if_icmp .ge 67, 3) := by decide +kernel
theorem dX4_read_10 : decode cX4_read 10 = .ok (.aload_n 1, 1) := by decide +kernel
theorem dX4_read_11 : decode cX4_read 11 = .ok (.iload_n 3, 1) := by decide +kernel
theorem dX4_read_12 : decode cX4_read 12 = .ok (.invokevirtual 22, 3) := by decide +kernel
theorem dX4_read_15 : decode cX4_read 15 = .ok (.astore 4, 2) := by decide +kernel
theorem dX4_read_17 : decode cX4_read 17 = .ok (.iconst 0, 1) := by decide +kernel
theorem dX4_read_18 : decode cX4_read 18 = .ok (.istore 5, 2) := by decide +kernel
theorem dX4_read_20 : decode cX4_read 20 = .ok (.iload 5, 2) := by decide +kernel
theorem dX4_read_22 : decode cX4_read 22 = .ok (.aload_n 1, 1) := by decide +kernel
theorem dX4_read_23 : decode cX4_read 23 = .ok (.getfield 26, 3) := by decide +kernel
theorem dX4_read_26 : decode cX4_read 26 = .ok (.if_icmp .ge 42, 3) := by decide +kernel
theorem dX4_read_29 : decode cX4_read 29 = .ok (.aload_n 0, 1) := by decide +kernel
theorem dX4_read_30 : decode cX4_read 30 = .ok (.getfield 11, 3) := by decide +kernel
theorem dX4_read_33 : decode cX4_read 33 = .ok (.iload_n 3, 1) := by decide +kernel
theorem dX4_read_34 : decode cX4_read 34 = .ok (.aaload, 1) := by decide +kernel
theorem dX4_read_35 : decode cX4_read 35 = .ok (.iload 5, 2) := by decide +kernel
theorem dX4_read_37 : decode cX4_read 37 = .ok (.aload 4, 2) := by decide +kernel
theorem dX4_read_39 : decode cX4_read 39 = .ok (.getfield 29, 3) := by decide +kernel
theorem dX4_read_42 : decode cX4_read 42 = .ok (.ifCond .eq 7, 3) := by decide +kernel
theorem dX4_read_45 : decode cX4_read 45 = .ok (.iconst (-1), 1) := by decide +kernel
theorem dX4_read_46 : decode cX4_read 46 = .ok (.goto 15, 3) := by decide +kernel
theorem dX4_read_49 : decode cX4_read 49 = .ok (.aload_n 2, 1) := by decide +kernel
theorem dX4_read_50 : decode cX4_read 50 = .ok (.aload_n 1, 1) := by decide +kernel
theorem dX4_read_51 : decode cX4_read 51 = .ok (.iload 5, 2) := by decide +kernel
theorem dX4_read_53 : decode cX4_read 53 = .ok (.invokevirtual 35, 3) := by decide +kernel
theorem dX4_read_56 : decode cX4_read 56 = .ok (.aload 4, 2) := by decide +kernel
theorem dX4_read_58 : decode cX4_read 58 = .ok (.invokevirtual 39, 3) := by decide +kernel
theorem dX4_read_61 : decode cX4_read 61 = .ok (.iastore, 1) := by decide +kernel
theorem dX4_read_62 : decode cX4_read 62 = .ok (.iinc 5 1, 3) := by decide +kernel
theorem dX4_read_65 : decode cX4_read 65 = .ok (.goto (-45), 3) := by decide +kernel
theorem dX4_read_68 : decode cX4_read 68 = .ok (.iinc 3 1, 3) := by decide +kernel
theorem dX4_read_71 : decode cX4_read 71 = .ok (.goto (-69), 3) := by decide +kernel
theorem dX4_read_74 : decode cX4_read 74 = .ok (.return_, 1) := by decide +kernel
theorem dX4_areFitting_0 : decode cX4_areFitting 0 = .ok (.aload_n 0, 1) := by decide +kernel
theorem dX4_areFitting_1 : decode cX4_areFitting 1 = .ok (.getfield 11, 3) := by decide +kernel
theorem dX4_areFitting_4 : decode cX4_areFitting 4 = .ok (.aload_n 1, 1) := by decide +kernel
theorem dX4_areFitting_5 : decode cX4_areFitting 5 = .ok (.getfield 45, 3) := by decide +kernel
theorem dX4_areFitting_8 : decode cX4_areFitting 8 = .ok (.aaload, 1) := by decide +kernel
theorem dX4_areFitting_9 : decode cX4_areFitting 9 = .ok (.aload_n 2, 1) := by decide +kernel
theorem dX4_areFitting_10 : decode cX4_areFitting 10 = .ok (.getfield 48, 3) := by decide +kernel
theorem dX4_areFitting_13 : decode cX4_areFitting 13 = .ok (.iaload, 1) := by decide +kernel
theorem dX4_areFitting_14 : decode cX4_areFitting 14 = .ok (.iconst (-1), 1) := by decide +kernel
theorem dX4_areFitting_15 : decode cX4_areFitting 15 = .ok (.if_icmp .eq 7, 3) := by decide +kernel
theorem dX4_areFitting_18 : decode cX4_areFitting 18 = .ok (.iconst 1, 1) := by decide +kernel
theorem dX4_areFitting_19 : decode cX4_areFitting 19 = .ok (.goto 4, 3) := by decide +kernel
theorem dX4_areFitting_22 : decode cX4_areFitting 22 = .ok (.iconst 0, 1) := by decide +kernel
theorem dX4_areFitting_23 : decode cX4_areFitting 23 = .ok (.ireturn, 1) := by decide +kernel
theorem dX4_price_0 : decode cX4_price 0 = .ok (.aload_n 0, 1) := by decide +kernel
theorem dX4_price_1 : decode cX4_price 1 = .ok (.getfield 11, 3) := by decide +kernel
theorem dX4_price_4 : decode cX4_price 4 = .ok (.aload_n 1, 1) := by decide +kernel
theorem dX4_price_5 : decode cX4_price 5 = .ok (.getfield 45, 3) := by decide +kernel
theorem dX4_price_8 : decode cX4_price 8 = .ok (.aaload, 1) := by decide +kernel
theorem dX4_price_9 : decode cX4_price 9 = .ok (.aload_n 2, 1) := by decide +kernel
theorem dX4_price_10 : decode cX4_price 10 = .ok (.getfield 48, 3) := by decide +kernel
theorem dX4_price_13 : decode cX4_price 13 = .ok (.iaload, 1) := by decide +kernel
theorem dX4_price_14 : decode cX4_price 14 = .ok (.aload_n 1, 1) := by decide +kernel
theorem dX4_price_15 : decode cX4_price 15 = .ok (.getfield 51, 3) := by decide +kernel
theorem dX4_price_18 : decode cX4_price 18 = .ok (.imul, 1) := by decide +kernel
theorem dX4_price_19 : decode cX4_price 19 = .ok (.ireturn, 1) := by decide +kernel
theorem dX4_riderPrefers_0 : decode cX4_riderPrefers 0 = .ok (.aload_n 0, 1) := by decide +kernel
theorem dX4_riderPrefers_1 : decode cX4_riderPrefers 1 = .ok (.aload_n 2, 1) := by decide +kernel
theorem dX4_riderPrefers_2 : decode cX4_riderPrefers 2 = .ok (.aload_n 1, 1) := by decide +kernel
theorem dX4_riderPrefers_3 : decode cX4_riderPrefers 3 = .ok (.invokevirtual 54, 3) := by decide +kernel
theorem dX4_riderPrefers_6 : decode cX4_riderPrefers 6 = .ok (.istore 4, 2) := by decide +kernel
theorem dX4_riderPrefers_8 : decode cX4_riderPrefers 8 = .ok (.aload_n 0, 1) := by decide +kernel
theorem dX4_riderPrefers_9 : decode cX4_riderPrefers 9 = .ok (.aload_n 3, 1) := by decide +kernel
theorem dX4_riderPrefers_10 : decode cX4_riderPrefers 10 = .ok (.aload_n 1, 1) := by decide +kernel
theorem dX4_riderPrefers_11 : decode cX4_riderPrefers 11 = .ok (.invokevirtual 54, 3) := by decide +kernel
theorem dX4_riderPrefers_14 : decode cX4_riderPrefers 14 = .ok (.istore 5, 2) := by decide +kernel
theorem dX4_riderPrefers_16 : decode cX4_riderPrefers 16 = .ok (.iload 4, 2) := by decide +kernel
theorem dX4_riderPrefers_18 : decode cX4_riderPrefers 18 = .ok (.iload 5, 2) := by decide +kernel
theorem dX4_riderPrefers_20 : decode cX4_riderPrefers 20 = .ok (.if_icmp .lt 21, 3) := by decide +kernel
theorem dX4_riderPrefers_23 : decode cX4_riderPrefers 23 = .ok (.iload 4, 2) := by decide +kernel
theorem dX4_riderPrefers_25 : decode cX4_riderPrefers 25 = .ok (.iload 5, 2) := by decide +kernel
theorem dX4_riderPrefers_27 : decode cX4_riderPrefers 27 = .ok (.if_icmp .ne 18, 3) := by decide +kernel
theorem dX4_riderPrefers_30 : decode cX4_riderPrefers 30 = .ok (.aload_n 2, 1) := by decide +kernel
theorem dX4_riderPrefers_31 : decode cX4_riderPrefers 31 = .ok (.getfield 45, 3) := by decide +kernel
theorem dX4_riderPrefers_34 : decode cX4_riderPrefers 34 = .ok (.aload_n 3, 1) := by decide +kernel
theorem dX4_riderPrefers_35 : decode cX4_riderPrefers 35 = .ok (.getfield 45, 3) := by decide +kernel
theorem dX4_riderPrefers_38 : decode cX4_riderPrefers 38 = .ok (.if_icmp .ge 7, 3) := by decide +kernel
theorem dX4_riderPrefers_41 : decode cX4_riderPrefers 41 = .ok (.iconst 1, 1) := by decide +kernel
theorem dX4_riderPrefers_42 : decode cX4_riderPrefers 42 = .ok (.goto 4, 3) := by decide +kernel
theorem dX4_riderPrefers_45 : decode cX4_riderPrefers 45 = .ok (.iconst 0, 1) := by decide +kernel
theorem dX4_riderPrefers_46 : decode cX4_riderPrefers 46 = .ok (.ireturn, 1) := by decide +kernel
theorem dX4_driverPrefers_0 : decode cX4_driverPrefers 0 = .ok (.aload_n 0, 1) := by decide +kernel
theorem dX4_driverPrefers_1 : decode cX4_driverPrefers 1 = .ok (.getfield 11, 3) := by decide +kernel
theorem dX4_driverPrefers_4 : decode cX4_driverPrefers 4 = .ok (.aload_n 1, 1) := by decide +kernel
theorem dX4_driverPrefers_5 : decode cX4_driverPrefers 5 = .ok (.getfield 45, 3) := by decide +kernel
theorem dX4_driverPrefers_8 : decode cX4_driverPrefers 8 = .ok (.aaload, 1) := by decide +kernel
theorem dX4_driverPrefers_9 : decode cX4_driverPrefers 9 = .ok (.aload_n 2, 1) := by decide +kernel
theorem dX4_driverPrefers_10 : decode cX4_driverPrefers 10 = .ok (.getfield 48, 3) := by decide +kernel
theorem dX4_driverPrefers_13 : decode cX4_driverPrefers 13 = .ok (.iaload, 1) := by decide +kernel
theorem dX4_driverPrefers_14 : decode cX4_driverPrefers 14 = .ok (.istore 4, 2) := by decide +kernel
theorem dX4_driverPrefers_16 : decode cX4_driverPrefers 16 = .ok (.aload_n 0, 1) := by decide +kernel
theorem dX4_driverPrefers_17 : decode cX4_driverPrefers 17 = .ok (.getfield 11, 3) := by decide +kernel
theorem dX4_driverPrefers_20 : decode cX4_driverPrefers 20 = .ok (.aload_n 1, 1) := by decide +kernel
theorem dX4_driverPrefers_21 : decode cX4_driverPrefers 21 = .ok (.getfield 45, 3) := by decide +kernel
theorem dX4_driverPrefers_24 : decode cX4_driverPrefers 24 = .ok (.aaload, 1) := by decide +kernel
theorem dX4_driverPrefers_25 : decode cX4_driverPrefers 25 = .ok (.aload_n 3, 1) := by decide +kernel
theorem dX4_driverPrefers_26 : decode cX4_driverPrefers 26 = .ok (.getfield 48, 3) := by decide +kernel
theorem dX4_driverPrefers_29 : decode cX4_driverPrefers 29 = .ok (.iaload, 1) := by decide +kernel
theorem dX4_driverPrefers_30 : decode cX4_driverPrefers 30 = .ok (.istore 5, 2) := by decide +kernel
theorem dX4_driverPrefers_32 : decode cX4_driverPrefers 32 = .ok (.iload 4, 2) := by decide +kernel
theorem dX4_driverPrefers_34 : decode cX4_driverPrefers 34 = .ok (.iload 5, 2) := by decide +kernel
theorem dX4_driverPrefers_36 : decode cX4_driverPrefers 36 = .ok (.if_icmp .eq 16, 3) := by decide +kernel
theorem dX4_driverPrefers_39 : decode cX4_driverPrefers 39 = .ok (.iload 4, 2) := by decide +kernel
theorem dX4_driverPrefers_41 : decode cX4_driverPrefers 41 = .ok (.iload 5, 2) := by decide +kernel
theorem dX4_driverPrefers_43 : decode cX4_driverPrefers 43 = .ok (.if_icmp .ge 7, 3) := by decide +kernel
theorem dX4_driverPrefers_46 : decode cX4_driverPrefers 46 = .ok (.iconst 1, 1) := by decide +kernel
theorem dX4_driverPrefers_47 : decode cX4_driverPrefers 47 = .ok (.goto 4, 3) := by decide +kernel
theorem dX4_driverPrefers_50 : decode cX4_driverPrefers 50 = .ok (.iconst 0, 1) := by decide +kernel
theorem dX4_driverPrefers_51 : decode cX4_driverPrefers 51 = .ok (.ireturn, 1) := by decide +kernel
theorem dX4_driverPrefers_52 : decode cX4_driverPrefers 52 = .ok (.aload_n 2, 1) := by decide +kernel
theorem dX4_driverPrefers_53 : decode cX4_driverPrefers 53 = .ok (.getfield 58, 3) := by decide +kernel
theorem dX4_driverPrefers_56 : decode cX4_driverPrefers 56 = .ok (.aload_n 3, 1) := by decide +kernel
theorem dX4_driverPrefers_57 : decode cX4_driverPrefers 57 = .ok (.getfield 58, 3) := by decide +kernel
theorem dX4_driverPrefers_60 : decode cX4_driverPrefers 60 = .ok (.lcmp, 1) := by decide +kernel
theorem dX4_driverPrefers_61 : decode cX4_driverPrefers 61 = .ok (.ifCond .gt 26, 3) := by decide +kernel
theorem dX4_driverPrefers_64 : decode cX4_driverPrefers 64 = .ok (.aload_n 2, 1) := by decide +kernel
theorem dX4_driverPrefers_65 : decode cX4_driverPrefers 65 = .ok (.getfield 58, 3) := by decide +kernel
theorem dX4_driverPrefers_68 : decode cX4_driverPrefers 68 = .ok (.aload_n 3, 1) := by decide +kernel
theorem dX4_driverPrefers_69 : decode cX4_driverPrefers 69 = .ok (.getfield 58, 3) := by decide +kernel
theorem dX4_driverPrefers_72 : decode cX4_driverPrefers 72 = .ok (.lcmp, 1) := by decide +kernel
theorem dX4_driverPrefers_73 : decode cX4_driverPrefers 73 = .ok (.ifCond .ne 18, 3) := by decide +kernel
theorem dX4_driverPrefers_76 : decode cX4_driverPrefers 76 = .ok (.aload_n 2, 1) := by decide +kernel
theorem dX4_driverPrefers_77 : decode cX4_driverPrefers 77 = .ok (.getfield 48, 3) := by decide +kernel
theorem dX4_driverPrefers_80 : decode cX4_driverPrefers 80 = .ok (.aload_n 3, 1) := by decide +kernel
theorem dX4_driverPrefers_81 : decode cX4_driverPrefers 81 = .ok (.getfield 48, 3) := by decide +kernel
theorem dX4_driverPrefers_84 : decode cX4_driverPrefers 84 = .ok (.if_icmp .ge 7, 3) := by decide +kernel
theorem dX4_driverPrefers_87 : decode cX4_driverPrefers 87 = .ok (.iconst 1, 1) := by decide +kernel
theorem dX4_driverPrefers_88 : decode cX4_driverPrefers 88 = .ok (.goto 4, 3) := by decide +kernel
theorem dX4_driverPrefers_91 : decode cX4_driverPrefers 91 = .ok (.iconst 0, 1) := by decide +kernel
theorem dX4_driverPrefers_92 : decode cX4_driverPrefers 92 = .ok (.ireturn, 1) := by decide +kernel
theorem dX4_driverAt_0 : decode cX4_driverAt 0 = .ok (.iconst 0, 1) := by decide +kernel
theorem dX4_driverAt_1 : decode cX4_driverAt 1 = .ok (.istore 4, 2) := by decide +kernel
theorem dX4_driverAt_3 : decode cX4_driverAt 3 = .ok (.iload 4, 2) := by decide +kernel
theorem dX4_driverAt_5 : decode cX4_driverAt 5 = .ok (.aload_n 1, 1) := by decide +kernel
theorem dX4_driverAt_6 : decode cX4_driverAt 6 = .ok (.getfield 16, 3) := by decide +kernel
theorem dX4_driverAt_9 : decode cX4_driverAt 9 = .ok (.if_icmp .ge 42, 3) := by decide +kernel
theorem dX4_driverAt_12 : decode cX4_driverAt 12 = .ok (.aload_n 1, 1) := by decide +kernel
theorem dX4_driverAt_13 : decode cX4_driverAt 13 = .ok (.iload 4, 2) := by decide +kernel
theorem dX4_driverAt_15 : decode cX4_driverAt 15 = .ok (.invokevirtual 22, 3) := by decide +kernel
theorem dX4_driverAt_18 : decode cX4_driverAt 18 = .ok (.astore 5, 2) := by decide +kernel
theorem dX4_driverAt_20 : decode cX4_driverAt 20 = .ok (.aload_n 0, 1) := by decide +kernel
theorem dX4_driverAt_21 : decode cX4_driverAt 21 = .ok (.aload 5, 2) := by decide +kernel
theorem dX4_driverAt_23 : decode cX4_driverAt 23 = .ok (.aload_n 2, 1) := by decide +kernel
theorem dX4_driverAt_24 : decode cX4_driverAt 24 = .ok (.invokevirtual 62, 3) := by decide +kernel
theorem dX4_driverAt_27 : decode cX4_driverAt 27 = .ok (.ifCond .eq 18, 3) := by decide +kernel
theorem dX4_driverAt_30 : decode cX4_driverAt 30 = .ok (.aload_n 0, 1) := by decide +kernel
theorem dX4_driverAt_31 : decode cX4_driverAt 31 = .ok (.aload_n 1, 1) := by decide +kernel
theorem dX4_driverAt_32 : decode cX4_driverAt 32 = .ok (.aload_n 2, 1) := by decide +kernel
theorem dX4_driverAt_33 : decode cX4_driverAt 33 = .ok (.aload 5, 2) := by decide +kernel
theorem dX4_driverAt_35 : decode cX4_driverAt 35 = .ok (.invokevirtual 66, 3) := by decide +kernel
theorem dX4_driverAt_38 : decode cX4_driverAt 38 = .ok (.iload_n 3, 1) := by decide +kernel
theorem dX4_driverAt_39 : decode cX4_driverAt 39 = .ok (.if_icmp .ne 6, 3) := by decide +kernel
theorem dX4_driverAt_42 : decode cX4_driverAt 42 = .ok (.iload 4, 2) := by decide +kernel
theorem dX4_driverAt_44 : decode cX4_driverAt 44 = .ok (.ireturn, 1) := by decide +kernel
theorem dX4_driverAt_45 : decode cX4_driverAt 45 = .ok (.iinc 4 1, 3) := by decide +kernel
theorem dX4_driverAt_48 : decode cX4_driverAt 48 = .ok (.goto (-45), 3) := by decide +kernel
theorem dX4_driverAt_51 : decode cX4_driverAt 51 = .ok (.iconst (-1), 1) := by decide +kernel
theorem dX4_driverAt_52 : decode cX4_driverAt 52 = .ok (.ireturn, 1) := by decide +kernel
theorem dX4_driversBefore_0 : decode cX4_driversBefore 0 = .ok (.iconst 0, 1) := by decide +kernel
theorem dX4_driversBefore_1 : decode cX4_driversBefore 1 = .ok (.istore 4, 2) := by decide +kernel
theorem dX4_driversBefore_3 : decode cX4_driversBefore 3 = .ok (.iconst 0, 1) := by decide +kernel
theorem dX4_driversBefore_4 : decode cX4_driversBefore 4 = .ok (.istore 5, 2) := by decide +kernel
theorem dX4_driversBefore_6 : decode cX4_driversBefore 6 = .ok (.iload 5, 2) := by decide +kernel
theorem dX4_driversBefore_8 : decode cX4_driversBefore 8 = .ok (.aload_n 1, 1) := by decide +kernel
theorem dX4_driversBefore_9 : decode cX4_driversBefore 9 = .ok (.getfield 16, 3) := by decide +kernel
theorem dX4_driversBefore_12 : decode cX4_driversBefore 12 = .ok (.if_icmp .ge 41, 3) := by decide +kernel
theorem dX4_driversBefore_15 : decode cX4_driversBefore 15 = .ok (.aload_n 1, 1) := by decide +kernel
theorem dX4_driversBefore_16 : decode cX4_driversBefore 16 = .ok (.iload 5, 2) := by decide +kernel
theorem dX4_driversBefore_18 : decode cX4_driversBefore 18 = .ok (.invokevirtual 22, 3) := by decide +kernel
theorem dX4_driversBefore_21 : decode cX4_driversBefore 21 = .ok (.astore 6, 2) := by decide +kernel
theorem dX4_driversBefore_23 : decode cX4_driversBefore 23 = .ok (.aload_n 0, 1) := by decide +kernel
theorem dX4_driversBefore_24 : decode cX4_driversBefore 24 = .ok (.aload 6, 2) := by decide +kernel
theorem dX4_driversBefore_26 : decode cX4_driversBefore 26 = .ok (.aload_n 2, 1) := by decide +kernel
theorem dX4_driversBefore_27 : decode cX4_driversBefore 27 = .ok (.invokevirtual 62, 3) := by decide +kernel
theorem dX4_driversBefore_30 : decode cX4_driversBefore 30 = .ok (.ifCond .eq 17, 3) := by decide +kernel
theorem dX4_driversBefore_33 : decode cX4_driversBefore 33 = .ok (.aload_n 0, 1) := by decide +kernel
theorem dX4_driversBefore_34 : decode cX4_driversBefore 34 = .ok (.aload_n 2, 1) := by decide +kernel
theorem dX4_driversBefore_35 : decode cX4_driversBefore 35 = .ok (.aload 6, 2) := by decide +kernel
theorem dX4_driversBefore_37 : decode cX4_driversBefore 37 = .ok (.aload_n 3, 1) := by decide +kernel
theorem dX4_driversBefore_38 : decode cX4_driversBefore 38 = .ok (.invokevirtual 70, 3) := by decide +kernel
theorem dX4_driversBefore_41 : decode cX4_driversBefore 41 = .ok (.ifCond .eq 6, 3) := by decide +kernel
theorem dX4_driversBefore_44 : decode cX4_driversBefore 44 = .ok (.iinc 4 1, 3) := by decide +kernel
theorem dX4_driversBefore_47 : decode cX4_driversBefore 47 = .ok (.iinc 5 1, 3) := by decide +kernel
theorem dX4_driversBefore_50 : decode cX4_driversBefore 50 = .ok (.goto (-44), 3) := by decide +kernel
theorem dX4_driversBefore_53 : decode cX4_driversBefore 53 = .ok (.iload 4, 2) := by decide +kernel
theorem dX4_driversBefore_55 : decode cX4_driversBefore 55 = .ok (.ireturn, 1) := by decide +kernel
theorem dX4_riderAt_0 : decode cX4_riderAt 0 = .ok (.iconst 0, 1) := by decide +kernel
theorem dX4_riderAt_1 : decode cX4_riderAt 1 = .ok (.istore 4, 2) := by decide +kernel
theorem dX4_riderAt_3 : decode cX4_riderAt 3 = .ok (.iload 4, 2) := by decide +kernel
theorem dX4_riderAt_5 : decode cX4_riderAt 5 = .ok (.aload_n 1, 1) := by decide +kernel
theorem dX4_riderAt_6 : decode cX4_riderAt 6 = .ok (.getfield 26, 3) := by decide +kernel
theorem dX4_riderAt_9 : decode cX4_riderAt 9 = .ok (.if_icmp .ge 42, 3) := by decide +kernel
theorem dX4_riderAt_12 : decode cX4_riderAt 12 = .ok (.aload_n 1, 1) := by decide +kernel
theorem dX4_riderAt_13 : decode cX4_riderAt 13 = .ok (.iload 4, 2) := by decide +kernel
theorem dX4_riderAt_15 : decode cX4_riderAt 15 = .ok (.invokevirtual 35, 3) := by decide +kernel
theorem dX4_riderAt_18 : decode cX4_riderAt 18 = .ok (.astore 5, 2) := by decide +kernel
theorem dX4_riderAt_20 : decode cX4_riderAt 20 = .ok (.aload_n 0, 1) := by decide +kernel
theorem dX4_riderAt_21 : decode cX4_riderAt 21 = .ok (.aload_n 2, 1) := by decide +kernel
theorem dX4_riderAt_22 : decode cX4_riderAt 22 = .ok (.aload 5, 2) := by decide +kernel
theorem dX4_riderAt_24 : decode cX4_riderAt 24 = .ok (.invokevirtual 74, 3) := by decide +kernel
theorem dX4_riderAt_27 : decode cX4_riderAt 27 = .ok (.ifCond .eq 18, 3) := by decide +kernel
theorem dX4_riderAt_30 : decode cX4_riderAt 30 = .ok (.aload_n 0, 1) := by decide +kernel
theorem dX4_riderAt_31 : decode cX4_riderAt 31 = .ok (.aload_n 1, 1) := by decide +kernel
theorem dX4_riderAt_32 : decode cX4_riderAt 32 = .ok (.aload_n 2, 1) := by decide +kernel
theorem dX4_riderAt_33 : decode cX4_riderAt 33 = .ok (.aload 5, 2) := by decide +kernel
theorem dX4_riderAt_35 : decode cX4_riderAt 35 = .ok (.invokevirtual 77, 3) := by decide +kernel
theorem dX4_riderAt_38 : decode cX4_riderAt 38 = .ok (.iload_n 3, 1) := by decide +kernel
theorem dX4_riderAt_39 : decode cX4_riderAt 39 = .ok (.if_icmp .ne 6, 3) := by decide +kernel
theorem dX4_riderAt_42 : decode cX4_riderAt 42 = .ok (.iload 4, 2) := by decide +kernel
theorem dX4_riderAt_44 : decode cX4_riderAt 44 = .ok (.ireturn, 1) := by decide +kernel
theorem dX4_riderAt_45 : decode cX4_riderAt 45 = .ok (.iinc 4 1, 3) := by decide +kernel
theorem dX4_riderAt_48 : decode cX4_riderAt 48 = .ok (.goto (-45), 3) := by decide +kernel
theorem dX4_riderAt_51 : decode cX4_riderAt 51 = .ok (.iconst (-1), 1) := by decide +kernel
theorem dX4_riderAt_52 : decode cX4_riderAt 52 = .ok (.ireturn, 1) := by decide +kernel
theorem dX4_ridersBefore_0 : decode cX4_ridersBefore 0 = .ok (.iconst 0, 1) := by decide +kernel
theorem dX4_ridersBefore_1 : decode cX4_ridersBefore 1 = .ok (.istore 4, 2) := by decide +kernel
theorem dX4_ridersBefore_3 : decode cX4_ridersBefore 3 = .ok (.iconst 0, 1) := by decide +kernel
theorem dX4_ridersBefore_4 : decode cX4_ridersBefore 4 = .ok (.istore 5, 2) := by decide +kernel
theorem dX4_ridersBefore_6 : decode cX4_ridersBefore 6 = .ok (.iload 5, 2) := by decide +kernel
theorem dX4_ridersBefore_8 : decode cX4_ridersBefore 8 = .ok (.aload_n 1, 1) := by decide +kernel
theorem dX4_ridersBefore_9 : decode cX4_ridersBefore 9 = .ok (.getfield 26, 3) := by decide +kernel
theorem dX4_ridersBefore_12 : decode cX4_ridersBefore 12 = .ok (.if_icmp .ge 41, 3) := by decide +kernel
theorem dX4_ridersBefore_15 : decode cX4_ridersBefore 15 = .ok (.aload_n 1, 1) := by decide +kernel
theorem dX4_ridersBefore_16 : decode cX4_ridersBefore 16 = .ok (.iload 5, 2) := by decide +kernel
theorem dX4_ridersBefore_18 : decode cX4_ridersBefore 18 = .ok (.invokevirtual 35, 3) := by decide +kernel
theorem dX4_ridersBefore_21 : decode cX4_ridersBefore 21 = .ok (.astore 6, 2) := by decide +kernel
theorem dX4_ridersBefore_23 : decode cX4_ridersBefore 23 = .ok (.aload_n 0, 1) := by decide +kernel
theorem dX4_ridersBefore_24 : decode cX4_ridersBefore 24 = .ok (.aload_n 2, 1) := by decide +kernel
theorem dX4_ridersBefore_25 : decode cX4_ridersBefore 25 = .ok (.aload 6, 2) := by decide +kernel
theorem dX4_ridersBefore_27 : decode cX4_ridersBefore 27 = .ok (.invokevirtual 74, 3) := by decide +kernel
theorem dX4_ridersBefore_30 : decode cX4_ridersBefore 30 = .ok (.ifCond .eq 17, 3) := by decide +kernel
theorem dX4_ridersBefore_33 : decode cX4_ridersBefore 33 = .ok (.aload_n 0, 1) := by decide +kernel
theorem dX4_ridersBefore_34 : decode cX4_ridersBefore 34 = .ok (.aload_n 2, 1) := by decide +kernel
theorem dX4_ridersBefore_35 : decode cX4_ridersBefore 35 = .ok (.aload 6, 2) := by decide +kernel
theorem dX4_ridersBefore_37 : decode cX4_ridersBefore 37 = .ok (.aload_n 3, 1) := by decide +kernel
theorem dX4_ridersBefore_38 : decode cX4_ridersBefore 38 = .ok (.invokevirtual 81, 3) := by decide +kernel
theorem dX4_ridersBefore_41 : decode cX4_ridersBefore 41 = .ok (.ifCond .eq 6, 3) := by decide +kernel
theorem dX4_ridersBefore_44 : decode cX4_ridersBefore 44 = .ok (.iinc 4 1, 3) := by decide +kernel
theorem dX4_ridersBefore_47 : decode cX4_ridersBefore 47 = .ok (.iinc 5 1, 3) := by decide +kernel
theorem dX4_ridersBefore_50 : decode cX4_ridersBefore 50 = .ok (.goto (-44), 3) := by decide +kernel
theorem dX4_ridersBefore_53 : decode cX4_ridersBefore 53 = .ok (.iload 4, 2) := by decide +kernel
theorem dX4_ridersBefore_55 : decode cX4_ridersBefore 55 = .ok (.ireturn, 1) := by decide +kernel
theorem dX4_isCandidate_0 : decode cX4_isCandidate 0 = .ok (.aload_n 2, 1) := by decide +kernel
theorem dX4_isCandidate_1 : decode cX4_isCandidate 1 = .ok (.getfield 85, 3) := by decide +kernel
theorem dX4_isCandidate_4 : decode cX4_isCandidate 4 = .ok (.ifCond .eq 11, 3) := by decide +kernel
theorem dX4_isCandidate_7 : decode cX4_isCandidate 7 = .ok (.aload_n 2, 1) := by decide +kernel
theorem dX4_isCandidate_8 : decode cX4_isCandidate 8 = .ok (.getfield 85, 3) := by decide +kernel
theorem dX4_isCandidate_11 : decode cX4_isCandidate 11 = .ok (.iconst 1, 1) := by decide +kernel
theorem dX4_isCandidate_12 : decode cX4_isCandidate 12 = .ok (.if_icmp .ne 16, 3) := by decide +kernel
theorem dX4_isCandidate_15 : decode cX4_isCandidate 15 = .ok (.aload_n 0, 1) := by decide +kernel
theorem dX4_isCandidate_16 : decode cX4_isCandidate 16 = .ok (.aload_n 1, 1) := by decide +kernel
theorem dX4_isCandidate_17 : decode cX4_isCandidate 17 = .ok (.aload_n 2, 1) := by decide +kernel
theorem dX4_isCandidate_18 : decode cX4_isCandidate 18 = .ok (.invokevirtual 62, 3) := by decide +kernel
theorem dX4_isCandidate_21 : decode cX4_isCandidate 21 = .ok (.ifCond .eq 7, 3) := by decide +kernel
theorem dX4_isCandidate_24 : decode cX4_isCandidate 24 = .ok (.iconst 1, 1) := by decide +kernel
theorem dX4_isCandidate_25 : decode cX4_isCandidate 25 = .ok (.goto 4, 3) := by decide +kernel
theorem dX4_isCandidate_28 : decode cX4_isCandidate 28 = .ok (.iconst 0, 1) := by decide +kernel
theorem dX4_isCandidate_29 : decode cX4_isCandidate 29 = .ok (.ireturn, 1) := by decide +kernel
theorem dX4_isBlocking_0 : decode cX4_isBlocking 0 = .ok (.aload_n 0, 1) := by decide +kernel
theorem dX4_isBlocking_1 : decode cX4_isBlocking 1 = .ok (.aload_n 2, 1) := by decide +kernel
theorem dX4_isBlocking_2 : decode cX4_isBlocking 2 = .ok (.aload_n 3, 1) := by decide +kernel
theorem dX4_isBlocking_3 : decode cX4_isBlocking 3 = .ok (.invokevirtual 74, 3) := by decide +kernel
theorem dX4_isBlocking_6 : decode cX4_isBlocking 6 = .ok (.ifCond .eq 14, 3) := by decide +kernel
theorem dX4_isBlocking_9 : decode cX4_isBlocking 9 = .ok (.aload_n 3, 1) := by decide +kernel
theorem dX4_isBlocking_10 : decode cX4_isBlocking 10 = .ok (.getfield 88, 3) := by decide +kernel
theorem dX4_isBlocking_13 : decode cX4_isBlocking 13 = .ok (.aload_n 2, 1) := by decide +kernel
theorem dX4_isBlocking_14 : decode cX4_isBlocking 14 = .ok (.getfield 45, 3) := by decide +kernel
theorem dX4_isBlocking_17 : decode cX4_isBlocking 17 = .ok (.if_icmp .ne 5, 3) := by decide +kernel
theorem dX4_isBlocking_20 : decode cX4_isBlocking 20 = .ok (.iconst 0, 1) := by decide +kernel
theorem dX4_isBlocking_21 : decode cX4_isBlocking 21 = .ok (.ireturn, 1) := by decide +kernel
theorem dX4_isBlocking_22 : decode cX4_isBlocking 22 = .ok (.aload_n 3, 1) := by decide +kernel
theorem dX4_isBlocking_23 : decode cX4_isBlocking 23 = .ok (.getfield 85, 3) := by decide +kernel
theorem dX4_isBlocking_26 : decode cX4_isBlocking 26 = .ok (.ifCond .eq 20, 3) := by decide +kernel
theorem dX4_isBlocking_29 : decode cX4_isBlocking 29 = .ok (.aload_n 0, 1) := by decide +kernel
theorem dX4_isBlocking_30 : decode cX4_isBlocking 30 = .ok (.aload_n 3, 1) := by decide +kernel
theorem dX4_isBlocking_31 : decode cX4_isBlocking 31 = .ok (.aload_n 2, 1) := by decide +kernel
theorem dX4_isBlocking_32 : decode cX4_isBlocking 32 = .ok (.aload_n 1, 1) := by decide +kernel
theorem dX4_isBlocking_33 : decode cX4_isBlocking 33 = .ok (.aload_n 3, 1) := by decide +kernel
theorem dX4_isBlocking_34 : decode cX4_isBlocking 34 = .ok (.getfield 88, 3) := by decide +kernel
theorem dX4_isBlocking_37 : decode cX4_isBlocking 37 = .ok (.invokevirtual 22, 3) := by decide +kernel
theorem dX4_isBlocking_40 : decode cX4_isBlocking 40 = .ok (.invokevirtual 70, 3) := by decide +kernel
theorem dX4_isBlocking_43 : decode cX4_isBlocking 43 = .ok (.ifCond .eq 7, 3) := by decide +kernel
theorem dX4_isBlocking_46 : decode cX4_isBlocking 46 = .ok (.iconst 1, 1) := by decide +kernel
theorem dX4_isBlocking_47 : decode cX4_isBlocking 47 = .ok (.goto 4, 3) := by decide +kernel
theorem dX4_isBlocking_50 : decode cX4_isBlocking 50 = .ok (.iconst 0, 1) := by decide +kernel
theorem dX4_isBlocking_51 : decode cX4_isBlocking 51 = .ok (.istore 4, 2) := by decide +kernel
theorem dX4_isBlocking_53 : decode cX4_isBlocking 53 = .ok (.iload 4, 2) := by decide +kernel
theorem dX4_isBlocking_55 : decode cX4_isBlocking 55 = .ok (.ifCond .eq 31, 3) := by decide +kernel
theorem dX4_isBlocking_58 : decode cX4_isBlocking 58 = .ok (.aload_n 2, 1) := by decide +kernel
theorem dX4_isBlocking_59 : decode cX4_isBlocking 59 = .ok (.getfield 90, 3) := by decide +kernel
theorem dX4_isBlocking_62 : decode cX4_isBlocking 62 = .ok (.invokevirtual 94, 3) := by decide +kernel
theorem dX4_isBlocking_65 : decode cX4_isBlocking 65 = .ok (.aload_n 2, 1) := by decide +kernel
theorem dX4_isBlocking_66 : decode cX4_isBlocking 66 = .ok (.getfield 99, 3) := by decide +kernel
theorem dX4_isBlocking_69 : decode cX4_isBlocking 69 = .ok (.if_icmp .lt 13, 3) := by decide +kernel
theorem dX4_isBlocking_72 : decode cX4_isBlocking 72 = .ok (.aload_n 0, 1) := by decide +kernel
theorem dX4_isBlocking_73 : decode cX4_isBlocking 73 = .ok (.aload_n 1, 1) := by decide +kernel
theorem dX4_isBlocking_74 : decode cX4_isBlocking 74 = .ok (.aload_n 2, 1) := by decide +kernel
theorem dX4_isBlocking_75 : decode cX4_isBlocking 75 = .ok (.aload_n 3, 1) := by decide +kernel
theorem dX4_isBlocking_76 : decode cX4_isBlocking 76 = .ok (.invokevirtual 102, 3) := by decide +kernel
theorem dX4_isBlocking_79 : decode cX4_isBlocking 79 = .ok (.ifCond .eq 7, 3) := by decide +kernel
theorem dX4_isBlocking_82 : decode cX4_isBlocking 82 = .ok (.iconst 1, 1) := by decide +kernel
theorem dX4_isBlocking_83 : decode cX4_isBlocking 83 = .ok (.goto 4, 3) := by decide +kernel
theorem dX4_isBlocking_86 : decode cX4_isBlocking 86 = .ok (.iconst 0, 1) := by decide +kernel
theorem dX4_isBlocking_87 : decode cX4_isBlocking 87 = .ok (.ireturn, 1) := by decide +kernel
theorem dX4_prefersToSomeAssigned_0 : decode cX4_prefersToSomeAssigned 0 = .ok (.iconst 0, 1) := by decide +kernel
theorem dX4_prefersToSomeAssigned_1 : decode cX4_prefersToSomeAssigned 1 = .ok (.istore 4, 2) := by decide +kernel
theorem dX4_prefersToSomeAssigned_3 : decode cX4_prefersToSomeAssigned 3 = .ok (.iload 4, 2) := by decide +kernel
theorem dX4_prefersToSomeAssigned_5 : decode cX4_prefersToSomeAssigned 5 = .ok (.aload_n 1, 1) := by decide +kernel
theorem dX4_prefersToSomeAssigned_6 : decode cX4_prefersToSomeAssigned 6 = .ok (.getfield 26, 3) := by decide +kernel
theorem dX4_prefersToSomeAssigned_9 : decode cX4_prefersToSomeAssigned 9 = .ok (.if_icmp .ge 42, 3) := by decide +kernel
theorem dX4_prefersToSomeAssigned_12 : decode cX4_prefersToSomeAssigned 12 = .ok (.aload_n 1, 1) := by decide +kernel
theorem dX4_prefersToSomeAssigned_13 : decode cX4_prefersToSomeAssigned 13 = .ok (.iload 4, 2) := by decide +kernel
theorem dX4_prefersToSomeAssigned_15 : decode cX4_prefersToSomeAssigned 15 = .ok (.invokevirtual 35, 3) := by decide +kernel
theorem dX4_prefersToSomeAssigned_18 : decode cX4_prefersToSomeAssigned 18 = .ok (.astore 5, 2) := by decide +kernel
theorem dX4_prefersToSomeAssigned_20 : decode cX4_prefersToSomeAssigned 20 = .ok (.aload 5, 2) := by decide +kernel
theorem dX4_prefersToSomeAssigned_22 : decode cX4_prefersToSomeAssigned 22 = .ok (.getfield 88, 3) := by decide +kernel
theorem dX4_prefersToSomeAssigned_25 : decode cX4_prefersToSomeAssigned 25 = .ok (.aload_n 2, 1) := by decide +kernel
theorem dX4_prefersToSomeAssigned_26 : decode cX4_prefersToSomeAssigned 26 = .ok (.getfield 45, 3) := by decide +kernel
theorem dX4_prefersToSomeAssigned_29 : decode cX4_prefersToSomeAssigned 29 = .ok (.if_icmp .ne 16, 3) := by decide +kernel
theorem dX4_prefersToSomeAssigned_32 : decode cX4_prefersToSomeAssigned 32 = .ok (.aload_n 0, 1) := by decide +kernel
theorem dX4_prefersToSomeAssigned_33 : decode cX4_prefersToSomeAssigned 33 = .ok (.aload_n 2, 1) := by decide +kernel
theorem dX4_prefersToSomeAssigned_34 : decode cX4_prefersToSomeAssigned 34 = .ok (.aload_n 3, 1) := by decide +kernel
theorem dX4_prefersToSomeAssigned_35 : decode cX4_prefersToSomeAssigned 35 = .ok (.aload 5, 2) := by decide +kernel
theorem dX4_prefersToSomeAssigned_37 : decode cX4_prefersToSomeAssigned 37 = .ok (.invokevirtual 81, 3) := by decide +kernel
theorem dX4_prefersToSomeAssigned_40 : decode cX4_prefersToSomeAssigned 40 = .ok (.ifCond .eq 5, 3) := by decide +kernel
theorem dX4_prefersToSomeAssigned_43 : decode cX4_prefersToSomeAssigned 43 = .ok (.iconst 1, 1) := by decide +kernel
theorem dX4_prefersToSomeAssigned_44 : decode cX4_prefersToSomeAssigned 44 = .ok (.ireturn, 1) := by decide +kernel
theorem dX4_prefersToSomeAssigned_45 : decode cX4_prefersToSomeAssigned 45 = .ok (.iinc 4 1, 3) := by decide +kernel
theorem dX4_prefersToSomeAssigned_48 : decode cX4_prefersToSomeAssigned 48 = .ok (.goto (-45), 3) := by decide +kernel
theorem dX4_prefersToSomeAssigned_51 : decode cX4_prefersToSomeAssigned 51 = .ok (.iconst 0, 1) := by decide +kernel
theorem dX4_prefersToSomeAssigned_52 : decode cX4_prefersToSomeAssigned 52 = .ok (.ireturn, 1) := by decide +kernel
theorem dX5_init_0 : decode cX5_init 0 = .ok (.aload_n 0, 1) := by decide +kernel
theorem dX5_init_1 : decode cX5_init 1 = .ok (.invokespecial 3, 3) := by decide +kernel
theorem dX5_init_4 : decode cX5_init 4 = .ok (.aload_n 0, 1) := by decide +kernel
theorem dX5_init_5 : decode cX5_init 5 = .ok (.iconst (-1), 1) := by decide +kernel
theorem dX5_init_6 : decode cX5_init 6 = .ok (.putfield 9, 3) := by decide +kernel
theorem dX5_init_9 : decode cX5_init 9 = .ok (.aload_n 0, 1) := by decide +kernel
theorem dX5_init_10 : decode cX5_init 10 = .ok (.iload_n 1, 1) := by decide +kernel
theorem dX5_init_11 : decode cX5_init 11 = .ok (.putfield 15, 3) := by decide +kernel
theorem dX5_init_14 : decode cX5_init 14 = .ok (.return_, 1) := by decide +kernel
theorem dX5_begin_0 : decode cX5_begin 0 = .ok (.aload_n 0, 1) := by decide +kernel
theorem dX5_begin_1 : decode cX5_begin 1 = .ok (.iload_n 1, 1) := by decide +kernel
theorem dX5_begin_2 : decode cX5_begin 2 = .ok (.putfield 18, 3) := by decide +kernel
theorem dX5_begin_5 : decode cX5_begin 5 = .ok (.aload_n 0, 1) := by decide +kernel
theorem dX5_begin_6 : decode cX5_begin 6 = .ok (.iload_n 2, 1) := by decide +kernel
theorem dX5_begin_7 : decode cX5_begin 7 = .ok (.putfield 21, 3) := by decide +kernel
theorem dX5_begin_10 : decode cX5_begin 10 = .ok (.aload_n 0, 1) := by decide +kernel
theorem dX5_begin_11 : decode cX5_begin 11 = .ok (.iconst 0, 1) := by decide +kernel
theorem dX5_begin_12 : decode cX5_begin 12 = .ok (.putfield 24, 3) := by decide +kernel
theorem dX5_begin_15 : decode cX5_begin 15 = .ok (.aload_n 0, 1) := by decide +kernel
theorem dX5_begin_16 : decode cX5_begin 16 = .ok (.iconst (-1), 1) := by decide +kernel
theorem dX5_begin_17 : decode cX5_begin 17 = .ok (.putfield 9, 3) := by decide +kernel
theorem dX5_begin_20 : decode cX5_begin 20 = .ok (.aload_n 0, 1) := by decide +kernel
theorem dX5_begin_21 : decode cX5_begin 21 = .ok (.lconst 0, 1) := by decide +kernel
theorem dX5_begin_22 : decode cX5_begin 22 = .ok (.putfield 27, 3) := by decide +kernel
theorem dX5_begin_25 : decode cX5_begin 25 = .ok (.return_, 1) := by decide +kernel
theorem dX5_setPlaces_0 : decode cX5_setPlaces 0 = .ok (.aload_n 0, 1) := by decide +kernel
theorem dX5_setPlaces_1 : decode cX5_setPlaces 1 = .ok (.iload_n 1, 1) := by decide +kernel
theorem dX5_setPlaces_2 : decode cX5_setPlaces 2 = .ok (.putfield 31, 3) := by decide +kernel
theorem dX5_setPlaces_5 : decode cX5_setPlaces 5 = .ok (.aload_n 0, 1) := by decide +kernel
theorem dX5_setPlaces_6 : decode cX5_setPlaces 6 = .ok (.iload_n 2, 1) := by decide +kernel
theorem dX5_setPlaces_7 : decode cX5_setPlaces 7 = .ok (.putfield 34, 3) := by decide +kernel
theorem dX5_setPlaces_10 : decode cX5_setPlaces 10 = .ok (.aload_n 0, 1) := by decide +kernel
theorem dX5_setPlaces_11 : decode cX5_setPlaces 11 = .ok (.iload_n 3, 1) := by decide +kernel
theorem dX5_setPlaces_12 : decode cX5_setPlaces 12 = .ok (.putfield 37, 3) := by decide +kernel
theorem dX5_setPlaces_15 : decode cX5_setPlaces 15 = .ok (.aload_n 0, 1) := by decide +kernel
theorem dX5_setPlaces_16 : decode cX5_setPlaces 16 = .ok (.iload 4, 2) := by decide +kernel
theorem dX5_setPlaces_18 : decode cX5_setPlaces 18 = .ok (.putfield 40, 3) := by decide +kernel
theorem dX5_setPlaces_21 : decode cX5_setPlaces 21 = .ok (.return_, 1) := by decide +kernel
theorem dX5_copyFrom_0 : decode cX5_copyFrom 0 = .ok (.aload_n 0, 1) := by decide +kernel
theorem dX5_copyFrom_1 : decode cX5_copyFrom 1 = .ok (.aload_n 1, 1) := by decide +kernel
theorem dX5_copyFrom_2 : decode cX5_copyFrom 2 = .ok (.getfield 18, 3) := by decide +kernel
theorem dX5_copyFrom_5 : decode cX5_copyFrom 5 = .ok (.aload_n 1, 1) := by decide +kernel
theorem dX5_copyFrom_6 : decode cX5_copyFrom 6 = .ok (.getfield 21, 3) := by decide +kernel
theorem dX5_copyFrom_9 : decode cX5_copyFrom 9 = .ok (.invokevirtual 43, 3) := by decide +kernel
theorem dX5_copyFrom_12 : decode cX5_copyFrom 12 = .ok (.aload_n 0, 1) := by decide +kernel
theorem dX5_copyFrom_13 : decode cX5_copyFrom 13 = .ok (.aload_n 1, 1) := by decide +kernel
theorem dX5_copyFrom_14 : decode cX5_copyFrom 14 = .ok (.getfield 31, 3) := by decide +kernel
theorem dX5_copyFrom_17 : decode cX5_copyFrom 17 = .ok (.aload_n 1, 1) := by decide +kernel
theorem dX5_copyFrom_18 : decode cX5_copyFrom 18 = .ok (.getfield 34, 3) := by decide +kernel
theorem dX5_copyFrom_21 : decode cX5_copyFrom 21 = .ok (.aload_n 1, 1) := by decide +kernel
theorem dX5_copyFrom_22 : decode cX5_copyFrom 22 = .ok (.getfield 37, 3) := by decide +kernel
theorem dX5_copyFrom_25 : decode cX5_copyFrom 25 = .ok (.aload_n 1, 1) := by decide +kernel
theorem dX5_copyFrom_26 : decode cX5_copyFrom 26 = .ok (.getfield 40, 3) := by decide +kernel
theorem dX5_copyFrom_29 : decode cX5_copyFrom 29 = .ok (.invokevirtual 47, 3) := by decide +kernel
theorem dX5_copyFrom_32 : decode cX5_copyFrom 32 = .ok (.aload_n 0, 1) := by decide +kernel
theorem dX5_copyFrom_33 : decode cX5_copyFrom 33 = .ok (.aload_n 1, 1) := by decide +kernel
theorem dX5_copyFrom_34 : decode cX5_copyFrom 34 = .ok (.getfield 24, 3) := by decide +kernel
theorem dX5_copyFrom_37 : decode cX5_copyFrom 37 = .ok (.putfield 24, 3) := by decide +kernel
theorem dX5_copyFrom_40 : decode cX5_copyFrom 40 = .ok (.aload_n 0, 1) := by decide +kernel
theorem dX5_copyFrom_41 : decode cX5_copyFrom 41 = .ok (.aload_n 1, 1) := by decide +kernel
theorem dX5_copyFrom_42 : decode cX5_copyFrom 42 = .ok (.getfield 9, 3) := by decide +kernel
theorem dX5_copyFrom_45 : decode cX5_copyFrom 45 = .ok (.putfield 9, 3) := by decide +kernel
theorem dX5_copyFrom_48 : decode cX5_copyFrom 48 = .ok (.aload_n 0, 1) := by decide +kernel
theorem dX5_copyFrom_49 : decode cX5_copyFrom 49 = .ok (.aload_n 1, 1) := by decide +kernel
theorem dX5_copyFrom_50 : decode cX5_copyFrom 50 = .ok (.getfield 27, 3) := by decide +kernel
theorem dX5_copyFrom_53 : decode cX5_copyFrom 53 = .ok (.putfield 27, 3) := by decide +kernel
theorem dX5_copyFrom_56 : decode cX5_copyFrom 56 = .ok (.return_, 1) := by decide +kernel
theorem dX6_init_0 : decode cX6_init 0 = .ok (.aload_n 0, 1) := by decide +kernel
theorem dX6_init_1 : decode cX6_init 1 = .ok (.invokespecial 3, 3) := by decide +kernel
theorem dX6_init_4 : decode cX6_init 4 = .ok (.aload_n 0, 1) := by decide +kernel
theorem dX6_init_5 : decode cX6_init 5 = .ok (.bipush 42, 2) := by decide +kernel
theorem dX6_init_7 : decode cX6_init 7 = .ok (.newarray .int, 2) := by decide +kernel
theorem dX6_init_9 : decode cX6_init 9 = .ok (.putfield 9, 3) := by decide +kernel
theorem dX6_init_12 : decode cX6_init 12 = .ok (.aload_n 0, 1) := by decide +kernel
theorem dX6_init_13 : decode cX6_init 13 = .ok (.bipush 42, 2) := by decide +kernel
theorem dX6_init_15 : decode cX6_init 15 = .ok (.newarray .int, 2) := by decide +kernel
theorem dX6_init_17 : decode cX6_init 17 = .ok (.putfield 15, 3) := by decide +kernel
theorem dX6_init_20 : decode cX6_init 20 = .ok (.aload_n 0, 1) := by decide +kernel
theorem dX6_init_21 : decode cX6_init 21 = .ok (.bipush 42, 2) := by decide +kernel
theorem dX6_init_23 : decode cX6_init 23 = .ok (.newarray .int, 2) := by decide +kernel
theorem dX6_init_25 : decode cX6_init 25 = .ok (.putfield 18, 3) := by decide +kernel
theorem dX6_init_28 : decode cX6_init 28 = .ok (.aload_n 0, 1) := by decide +kernel
theorem dX6_init_29 : decode cX6_init 29 = .ok (.bipush 42, 2) := by decide +kernel
theorem dX6_init_31 : decode cX6_init 31 = .ok (.newarray .int, 2) := by decide +kernel
theorem dX6_init_33 : decode cX6_init 33 = .ok (.putfield 21, 3) := by decide +kernel
theorem dX6_init_36 : decode cX6_init 36 = .ok (.aload_n 0, 1) := by decide +kernel
theorem dX6_init_37 : decode cX6_init 37 = .ok (.iconst 0, 1) := by decide +kernel
theorem dX6_init_38 : decode cX6_init 38 = .ok (.iconst 0, 1) := by decide +kernel
theorem dX6_init_39 : decode cX6_init 39 = .ok (.iconst 0, 1) := by decide +kernel
theorem dX6_init_40 : decode cX6_init 40 = .ok (.iconst 0, 1) := by decide +kernel
theorem dX6_init_41 : decode cX6_init 41 = .ok (.invokevirtual 24, 3) := by decide +kernel
theorem dX6_init_44 : decode cX6_init 44 = .ok (.return_, 1) := by decide +kernel
theorem dX6_begin_0 : decode cX6_begin 0 = .ok (.aload_n 0, 1) := by decide +kernel
theorem dX6_begin_1 : decode cX6_begin 1 = .ok (.iconst 0, 1) := by decide +kernel
theorem dX6_begin_2 : decode cX6_begin 2 = .ok (.iconst (-1), 1) := by decide +kernel
theorem dX6_begin_3 : decode cX6_begin 3 = .ok (.iload_n 1, 1) := by decide +kernel
theorem dX6_begin_4 : decode cX6_begin 4 = .ok (.iload_n 2, 1) := by decide +kernel
theorem dX6_begin_5 : decode cX6_begin 5 = .ok (.iconst 0, 1) := by decide +kernel
theorem dX6_begin_6 : decode cX6_begin 6 = .ok (.invokevirtual 28, 3) := by decide +kernel
theorem dX6_begin_9 : decode cX6_begin 9 = .ok (.aload_n 0, 1) := by decide +kernel
theorem dX6_begin_10 : decode cX6_begin 10 = .ok (.iconst 1, 1) := by decide +kernel
theorem dX6_begin_11 : decode cX6_begin 11 = .ok (.iconst (-1), 1) := by decide +kernel
theorem dX6_begin_12 : decode cX6_begin 12 = .ok (.iload_n 3, 1) := by decide +kernel
theorem dX6_begin_13 : decode cX6_begin 13 = .ok (.iload 4, 2) := by decide +kernel
theorem dX6_begin_15 : decode cX6_begin 15 = .ok (.iconst 0, 1) := by decide +kernel
theorem dX6_begin_16 : decode cX6_begin 16 = .ok (.invokevirtual 28, 3) := by decide +kernel
theorem dX6_begin_19 : decode cX6_begin 19 = .ok (.aload_n 0, 1) := by decide +kernel
theorem dX6_begin_20 : decode cX6_begin 20 = .ok (.iconst 2, 1) := by decide +kernel
theorem dX6_begin_21 : decode cX6_begin 21 = .ok (.putfield 32, 3) := by decide +kernel
theorem dX6_begin_24 : decode cX6_begin 24 = .ok (.return_, 1) := by decide +kernel
theorem dX6_beginLike_0 : decode cX6_beginLike 0 = .ok (.aload_n 1, 1) := by decide +kernel
theorem dX6_beginLike_1 : decode cX6_beginLike 1 = .ok (.getfield 32, 3) := by decide +kernel
theorem dX6_beginLike_4 : decode cX6_beginLike 4 = .ok (.iconst 1, 1) := by decide +kernel
theorem dX6_beginLike_5 : decode cX6_beginLike 5 = .ok (.isub, 1) := by decide +kernel
theorem dX6_beginLike_6 : decode cX6_beginLike 6 = .ok (.istore_n 2, 1) := by decide +kernel
theorem dX6_beginLike_7 : decode cX6_beginLike 7 = .ok (.aload_n 0, 1) := by decide +kernel
theorem dX6_beginLike_8 : decode cX6_beginLike 8 = .ok (.aload_n 1, 1) := by decide +kernel
theorem dX6_beginLike_9 : decode cX6_beginLike 9 = .ok (.getfield 15, 3) := by decide +kernel
theorem dX6_beginLike_12 : decode cX6_beginLike 12 = .ok (.iconst 0, 1) := by decide +kernel
theorem dX6_beginLike_13 : decode cX6_beginLike 13 = .ok (.iaload, 1) := by decide +kernel
theorem dX6_beginLike_14 : decode cX6_beginLike 14 = .ok (.aload_n 1, 1) := by decide +kernel
theorem dX6_beginLike_15 : decode cX6_beginLike 15 = .ok (.getfield 18, 3) := by decide +kernel
theorem dX6_beginLike_18 : decode cX6_beginLike 18 = .ok (.iconst 0, 1) := by decide +kernel
theorem dX6_beginLike_19 : decode cX6_beginLike 19 = .ok (.iaload, 1) := by decide +kernel
theorem dX6_beginLike_20 : decode cX6_beginLike 20 = .ok (.aload_n 1, 1) := by decide +kernel
theorem dX6_beginLike_21 : decode cX6_beginLike 21 = .ok (.getfield 15, 3) := by decide +kernel
theorem dX6_beginLike_24 : decode cX6_beginLike 24 = .ok (.iload_n 2, 1) := by decide +kernel
theorem dX6_beginLike_25 : decode cX6_beginLike 25 = .ok (.iaload, 1) := by decide +kernel
theorem dX6_beginLike_26 : decode cX6_beginLike 26 = .ok (.aload_n 1, 1) := by decide +kernel
theorem dX6_beginLike_27 : decode cX6_beginLike 27 = .ok (.getfield 18, 3) := by decide +kernel
theorem dX6_beginLike_30 : decode cX6_beginLike 30 = .ok (.iload_n 2, 1) := by decide +kernel
theorem dX6_beginLike_31 : decode cX6_beginLike 31 = .ok (.iaload, 1) := by decide +kernel
theorem dX6_beginLike_32 : decode cX6_beginLike 32 = .ok (.invokevirtual 24, 3) := by decide +kernel
theorem dX6_beginLike_35 : decode cX6_beginLike 35 = .ok (.return_, 1) := by decide +kernel
theorem dX6_copyFrom_0 : decode cX6_copyFrom 0 = .ok (.aload_n 0, 1) := by decide +kernel
theorem dX6_copyFrom_1 : decode cX6_copyFrom 1 = .ok (.aload_n 1, 1) := by decide +kernel
theorem dX6_copyFrom_2 : decode cX6_copyFrom 2 = .ok (.getfield 32, 3) := by decide +kernel
theorem dX6_copyFrom_5 : decode cX6_copyFrom 5 = .ok (.putfield 32, 3) := by decide +kernel
theorem dX6_copyFrom_8 : decode cX6_copyFrom 8 = .ok (.aload_n 1, 1) := by decide +kernel
theorem dX6_copyFrom_9 : decode cX6_copyFrom 9 = .ok (.getfield 9, 3) := by decide +kernel
theorem dX6_copyFrom_12 : decode cX6_copyFrom 12 = .ok (.iconst 0, 1) := by decide +kernel
theorem dX6_copyFrom_13 : decode cX6_copyFrom 13 = .ok (.aload_n 0, 1) := by decide +kernel
theorem dX6_copyFrom_14 : decode cX6_copyFrom 14 = .ok (.getfield 9, 3) := by decide +kernel
theorem dX6_copyFrom_17 : decode cX6_copyFrom 17 = .ok (.iconst 0, 1) := by decide +kernel
theorem dX6_copyFrom_18 : decode cX6_copyFrom 18 = .ok (.aload_n 0, 1) := by decide +kernel
theorem dX6_copyFrom_19 : decode cX6_copyFrom 19 = .ok (.getfield 32, 3) := by decide +kernel
theorem dX6_copyFrom_22 : decode cX6_copyFrom 22 = .ok (.invokestatic 36, 3) := by decide +kernel
theorem dX6_copyFrom_25 : decode cX6_copyFrom 25 = .ok (.aload_n 1, 1) := by decide +kernel
theorem dX6_copyFrom_26 : decode cX6_copyFrom 26 = .ok (.getfield 15, 3) := by decide +kernel
theorem dX6_copyFrom_29 : decode cX6_copyFrom 29 = .ok (.iconst 0, 1) := by decide +kernel
theorem dX6_copyFrom_30 : decode cX6_copyFrom 30 = .ok (.aload_n 0, 1) := by decide +kernel
theorem dX6_copyFrom_31 : decode cX6_copyFrom 31 = .ok (.getfield 15, 3) := by decide +kernel
theorem dX6_copyFrom_34 : decode cX6_copyFrom 34 = .ok (.iconst 0, 1) := by decide +kernel
theorem dX6_copyFrom_35 : decode cX6_copyFrom 35 = .ok (.aload_n 0, 1) := by decide +kernel
theorem dX6_copyFrom_36 : decode cX6_copyFrom 36 = .ok (.getfield 32, 3) := by decide +kernel
theorem dX6_copyFrom_39 : decode cX6_copyFrom 39 = .ok (.invokestatic 36, 3) := by decide +kernel
theorem dX6_copyFrom_42 : decode cX6_copyFrom 42 = .ok (.aload_n 1, 1) := by decide +kernel
theorem dX6_copyFrom_43 : decode cX6_copyFrom 43 = .ok (.getfield 18, 3) := by decide +kernel
theorem dX6_copyFrom_46 : decode cX6_copyFrom 46 = .ok (.iconst 0, 1) := by decide +kernel
theorem dX6_copyFrom_47 : decode cX6_copyFrom 47 = .ok (.aload_n 0, 1) := by decide +kernel
theorem dX6_copyFrom_48 : decode cX6_copyFrom 48 = .ok (.getfield 18, 3) := by decide +kernel
theorem dX6_copyFrom_51 : decode cX6_copyFrom 51 = .ok (.iconst 0, 1) := by decide +kernel
theorem dX6_copyFrom_52 : decode cX6_copyFrom 52 = .ok (.aload_n 0, 1) := by decide +kernel
theorem dX6_copyFrom_53 : decode cX6_copyFrom 53 = .ok (.getfield 32, 3) := by decide +kernel
theorem dX6_copyFrom_56 : decode cX6_copyFrom 56 = .ok (.invokestatic 36, 3) := by decide +kernel
theorem dX6_copyFrom_59 : decode cX6_copyFrom 59 = .ok (.aload_n 1, 1) := by decide +kernel
theorem dX6_copyFrom_60 : decode cX6_copyFrom 60 = .ok (.getfield 21, 3) := by decide +kernel
theorem dX6_copyFrom_63 : decode cX6_copyFrom 63 = .ok (.iconst 0, 1) := by decide +kernel
theorem dX6_copyFrom_64 : decode cX6_copyFrom 64 = .ok (.aload_n 0, 1) := by decide +kernel
theorem dX6_copyFrom_65 : decode cX6_copyFrom 65 = .ok (.getfield 21, 3) := by decide +kernel
theorem dX6_copyFrom_68 : decode cX6_copyFrom 68 = .ok (.iconst 0, 1) := by decide +kernel
theorem dX6_copyFrom_69 : decode cX6_copyFrom 69 = .ok (.aload_n 0, 1) := by decide +kernel
theorem dX6_copyFrom_70 : decode cX6_copyFrom 70 = .ok (.getfield 32, 3) := by decide +kernel
theorem dX6_copyFrom_73 : decode cX6_copyFrom 73 = .ok (.invokestatic 36, 3) := by decide +kernel
theorem dX6_copyFrom_76 : decode cX6_copyFrom 76 = .ok (.return_, 1) := by decide +kernel
theorem dX6_riderTotal_0 : decode cX6_riderTotal 0 = .ok (.aload_n 0, 1) := by decide +kernel
theorem dX6_riderTotal_1 : decode cX6_riderTotal 1 = .ok (.getfield 32, 3) := by decide +kernel
theorem dX6_riderTotal_4 : decode cX6_riderTotal 4 = .ok (.iconst 2, 1) := by decide +kernel
theorem dX6_riderTotal_5 : decode cX6_riderTotal 5 = .ok (.isub, 1) := by decide +kernel
theorem dX6_riderTotal_6 : decode cX6_riderTotal 6 = .ok (.iconst 2, 1) := by decide +kernel
theorem dX6_riderTotal_7 : decode cX6_riderTotal 7 = .ok (.idiv, 1) := by decide +kernel
theorem dX6_riderTotal_8 : decode cX6_riderTotal 8 = .ok (.ireturn, 1) := by decide +kernel
theorem dX6_riderMask_0 : decode cX6_riderMask 0 = .ok (.iconst 0, 1) := by decide +kernel
theorem dX6_riderMask_1 : decode cX6_riderMask 1 = .ok (.istore_n 1, 1) := by decide +kernel
theorem dX6_riderMask_2 : decode cX6_riderMask 2 = .ok (.iconst 0, 1) := by decide +kernel
theorem dX6_riderMask_3 : decode cX6_riderMask 3 = .ok (.istore_n 2, 1) := by decide +kernel
theorem dX6_riderMask_4 : decode cX6_riderMask 4 = .ok (.iload_n 2, 1) := by decide +kernel
theorem dX6_riderMask_5 : decode cX6_riderMask 5 = .ok (.aload_n 0, 1) := by decide +kernel
theorem dX6_riderMask_6 : decode cX6_riderMask 6 = .ok (.getfield 32, 3) := by decide +kernel
theorem dX6_riderMask_9 : decode cX6_riderMask 9 = .ok (.if_icmp .ge 28, 3) := by decide +kernel
theorem dX6_riderMask_12 : decode cX6_riderMask 12 = .ok (.aload_n 0, 1) := by decide +kernel
theorem dX6_riderMask_13 : decode cX6_riderMask 13 = .ok (.iload_n 2, 1) := by decide +kernel
theorem dX6_riderMask_14 : decode cX6_riderMask 14 = .ok (.invokevirtual 42, 3) := by decide +kernel
theorem dX6_riderMask_17 : decode cX6_riderMask 17 = .ok (.ifCond .eq 14, 3) := by decide +kernel
theorem dX6_riderMask_20 : decode cX6_riderMask 20 = .ok (.iload_n 1, 1) := by decide +kernel
theorem dX6_riderMask_21 : decode cX6_riderMask 21 = .ok (.iconst 1, 1) := by decide +kernel
theorem dX6_riderMask_22 : decode cX6_riderMask 22 = .ok (.aload_n 0, 1) := by decide +kernel
theorem dX6_riderMask_23 : decode cX6_riderMask 23 = .ok (.getfield 9, 3) := by decide +kernel
theorem dX6_riderMask_26 : decode cX6_riderMask 26 = .ok (.iload_n 2, 1) := by decide +kernel
theorem dX6_riderMask_27 : decode cX6_riderMask 27 = .ok (.iaload, 1) := by decide +kernel
theorem dX6_riderMask_28 : decode cX6_riderMask 28 = .ok (.ishl, 1) := by decide +kernel
theorem dX6_riderMask_29 : decode cX6_riderMask 29 = .ok (.ior, 1) := by decide +kernel
theorem dX6_riderMask_30 : decode cX6_riderMask 30 = .ok (.istore_n 1, 1) := by decide +kernel
theorem dX6_riderMask_31 : decode cX6_riderMask 31 = .ok (.iinc 2 1, 3) := by decide +kernel
theorem dX6_riderMask_34 : decode cX6_riderMask 34 = .ok (.goto (-30), 3) := by decide +kernel
theorem dX6_riderMask_37 : decode cX6_riderMask 37 = .ok (.iload_n 1, 1) := by decide +kernel
theorem dX6_riderMask_38 : decode cX6_riderMask 38 = .ok (.ireturn, 1) := by decide +kernel
theorem dX6_hasRider_0 : decode cX6_hasRider 0 = .ok (.aload_n 0, 1) := by decide +kernel
theorem dX6_hasRider_1 : decode cX6_hasRider 1 = .ok (.invokevirtual 46, 3) := by decide +kernel
theorem dX6_hasRider_4 : decode cX6_hasRider 4 = .ok (.iload_n 1, 1) := by decide +kernel
theorem dX6_hasRider_5 : decode cX6_hasRider 5 = .ok (.iushr, 1) := by decide +kernel
theorem dX6_hasRider_6 : decode cX6_hasRider 6 = .ok (.iconst 1, 1) := by decide +kernel
theorem dX6_hasRider_7 : decode cX6_hasRider 7 = .ok (.iand, 1) := by decide +kernel
theorem dX6_hasRider_8 : decode cX6_hasRider 8 = .ok (.ifCond .eq 7, 3) := by decide +kernel
theorem dX6_hasRider_11 : decode cX6_hasRider 11 = .ok (.iconst 1, 1) := by decide +kernel
theorem dX6_hasRider_12 : decode cX6_hasRider 12 = .ok (.goto 4, 3) := by decide +kernel
theorem dX6_hasRider_15 : decode cX6_hasRider 15 = .ok (.iconst 0, 1) := by decide +kernel
theorem dX6_hasRider_16 : decode cX6_hasRider 16 = .ok (.ireturn, 1) := by decide +kernel
theorem dX6_isPickup_0 : decode cX6_isPickup 0 = .ok (.iconst 0, 1) := by decide +kernel
theorem dX6_isPickup_1 : decode cX6_isPickup 1 = .ok (.aload_n 0, 1) := by decide +kernel
theorem dX6_isPickup_2 : decode cX6_isPickup 2 = .ok (.getfield 9, 3) := by decide +kernel
theorem dX6_isPickup_5 : decode cX6_isPickup 5 = .ok (.iload_n 1, 1) := by decide +kernel
theorem dX6_isPickup_6 : decode cX6_isPickup 6 = .ok (.iaload, 1) := by decide +kernel
theorem dX6_isPickup_7 : decode cX6_isPickup 7 = .ok (.if_icmp .gt 18, 3) := by decide +kernel
theorem dX6_isPickup_10 : decode cX6_isPickup 10 = .ok (.aload_n 0, 1) := by decide +kernel
theorem dX6_isPickup_11 : decode cX6_isPickup 11 = .ok (.getfield 9, 3) := by decide +kernel
theorem dX6_isPickup_14 : decode cX6_isPickup 14 = .ok (.iload_n 1, 1) := by decide +kernel
theorem dX6_isPickup_15 : decode cX6_isPickup 15 = .ok (.iaload, 1) := by decide +kernel
theorem dX6_isPickup_16 : decode cX6_isPickup 16 = .ok (.bipush 100, 2) := by decide +kernel
theorem dX6_isPickup_18 : decode cX6_isPickup 18 = .ok (.if_icmp .ge 7, 3) := by decide +kernel
theorem dX6_isPickup_21 : decode cX6_isPickup 21 = .ok (.iconst 1, 1) := by decide +kernel
theorem dX6_isPickup_22 : decode cX6_isPickup 22 = .ok (.goto 4, 3) := by decide +kernel
theorem dX6_isPickup_25 : decode cX6_isPickup 25 = .ok (.iconst 0, 1) := by decide +kernel
theorem dX6_isPickup_26 : decode cX6_isPickup 26 = .ok (.ireturn, 1) := by decide +kernel
theorem dX6_isDrop_0 : decode cX6_isDrop 0 = .ok (.aload_n 0, 1) := by decide +kernel
theorem dX6_isDrop_1 : decode cX6_isDrop 1 = .ok (.getfield 9, 3) := by decide +kernel
theorem dX6_isDrop_4 : decode cX6_isDrop 4 = .ok (.iload_n 1, 1) := by decide +kernel
theorem dX6_isDrop_5 : decode cX6_isDrop 5 = .ok (.iaload, 1) := by decide +kernel
theorem dX6_isDrop_6 : decode cX6_isDrop 6 = .ok (.bipush 100, 2) := by decide +kernel
theorem dX6_isDrop_8 : decode cX6_isDrop 8 = .ok (.if_icmp .lt 7, 3) := by decide +kernel
theorem dX6_isDrop_11 : decode cX6_isDrop 11 = .ok (.iconst 1, 1) := by decide +kernel
theorem dX6_isDrop_12 : decode cX6_isDrop 12 = .ok (.goto 4, 3) := by decide +kernel
theorem dX6_isDrop_15 : decode cX6_isDrop 15 = .ok (.iconst 0, 1) := by decide +kernel
theorem dX6_isDrop_16 : decode cX6_isDrop 16 = .ok (.ireturn, 1) := by decide +kernel
theorem dX6_isOf_0 : decode cX6_isOf 0 = .ok (.aload_n 0, 1) := by decide +kernel
theorem dX6_isOf_1 : decode cX6_isOf 1 = .ok (.getfield 9, 3) := by decide +kernel
theorem dX6_isOf_4 : decode cX6_isOf 4 = .ok (.iload_n 1, 1) := by decide +kernel
theorem dX6_isOf_5 : decode cX6_isOf 5 = .ok (.iaload, 1) := by decide +kernel
theorem dX6_isOf_6 : decode cX6_isOf 6 = .ok (.iload_n 2, 1) := by decide +kernel
theorem dX6_isOf_7 : decode cX6_isOf 7 = .ok (.if_icmp .eq 16, 3) := by decide +kernel
theorem dX6_isOf_10 : decode cX6_isOf 10 = .ok (.aload_n 0, 1) := by decide +kernel
theorem dX6_isOf_11 : decode cX6_isOf 11 = .ok (.getfield 9, 3) := by decide +kernel
theorem dX6_isOf_14 : decode cX6_isOf 14 = .ok (.iload_n 1, 1) := by decide +kernel
theorem dX6_isOf_15 : decode cX6_isOf 15 = .ok (.iaload, 1) := by decide +kernel
theorem dX6_isOf_16 : decode cX6_isOf 16 = .ok (.bipush 100, 2) := by decide +kernel
theorem dX6_isOf_18 : decode cX6_isOf 18 = .ok (.iload_n 2, 1) := by decide +kernel
theorem dX6_isOf_19 : decode cX6_isOf 19 = .ok (.iadd, 1) := by decide +kernel
theorem dX6_isOf_20 : decode cX6_isOf 20 = .ok (.if_icmp .ne 7, 3) := by decide +kernel
theorem dX6_isOf_23 : decode cX6_isOf 23 = .ok (.iconst 1, 1) := by decide +kernel
theorem dX6_isOf_24 : decode cX6_isOf 24 = .ok (.goto 4, 3) := by decide +kernel
theorem dX6_isOf_27 : decode cX6_isOf 27 = .ok (.iconst 0, 1) := by decide +kernel
theorem dX6_isOf_28 : decode cX6_isOf 28 = .ok (.ireturn, 1) := by decide +kernel
theorem dX6_step_0 : decode cX6_step 0 = .ok (.aload_n 0, 1) := by decide +kernel
theorem dX6_step_1 : decode cX6_step 1 = .ok (.getfield 15, 3) := by decide +kernel
theorem dX6_step_4 : decode cX6_step 4 = .ok (.iload_n 1, 1) := by decide +kernel
theorem dX6_step_5 : decode cX6_step 5 = .ok (.iaload, 1) := by decide +kernel
theorem dX6_step_6 : decode cX6_step 6 = .ok (.aload_n 0, 1) := by decide +kernel
theorem dX6_step_7 : decode cX6_step 7 = .ok (.getfield 18, 3) := by decide +kernel
theorem dX6_step_10 : decode cX6_step 10 = .ok (.iload_n 1, 1) := by decide +kernel
theorem dX6_step_11 : decode cX6_step 11 = .ok (.iaload, 1) := by decide +kernel
theorem dX6_step_12 : decode cX6_step 12 = .ok (.aload_n 0, 1) := by decide +kernel
theorem dX6_step_13 : decode cX6_step 13 = .ok (.getfield 15, 3) := by decide +kernel
theorem dX6_step_16 : decode cX6_step 16 = .ok (.iload_n 2, 1) := by decide +kernel
theorem dX6_step_17 : decode cX6_step 17 = .ok (.iaload, 1) := by decide +kernel
theorem dX6_step_18 : decode cX6_step 18 = .ok (.aload_n 0, 1) := by decide +kernel
theorem dX6_step_19 : decode cX6_step 19 = .ok (.getfield 18, 3) := by decide +kernel
theorem dX6_step_22 : decode cX6_step 22 = .ok (.iload_n 2, 1) := by decide +kernel
theorem dX6_step_23 : decode cX6_step 23 = .ok (.iaload, 1) := by decide +kernel
theorem dX6_step_24 : decode cX6_step 24 = .ok (.invokestatic 50, 3) := by decide +kernel
theorem dX6_step_27 : decode cX6_step 27 = .ok (.ireturn, 1) := by decide +kernel
theorem dX6_length_0 : decode cX6_length 0 = .ok (.iconst 0, 1) := by decide +kernel
theorem dX6_length_1 : decode cX6_length 1 = .ok (.istore_n 1, 1) := by decide +kernel
theorem dX6_length_2 : decode cX6_length 2 = .ok (.iconst 1, 1) := by decide +kernel
theorem dX6_length_3 : decode cX6_length 3 = .ok (.istore_n 2, 1) := by decide +kernel
theorem dX6_length_4 : decode cX6_length 4 = .ok (.iload_n 2, 1) := by decide +kernel
theorem dX6_length_5 : decode cX6_length 5 = .ok (.aload_n 0, 1) := by decide +kernel
theorem dX6_length_6 : decode cX6_length 6 = .ok (.getfield 32, 3) := by decide +kernel
theorem dX6_length_9 : decode cX6_length 9 = .ok (.if_icmp .ge 20, 3) := by decide +kernel
theorem dX6_length_12 : decode cX6_length 12 = .ok (.iload_n 1, 1) := by decide +kernel
theorem dX6_length_13 : decode cX6_length 13 = .ok (.aload_n 0, 1) := by decide +kernel
theorem dX6_length_14 : decode cX6_length 14 = .ok (.iload_n 2, 1) := by decide +kernel
theorem dX6_length_15 : decode cX6_length 15 = .ok (.iconst 1, 1) := by decide +kernel
theorem dX6_length_16 : decode cX6_length 16 = .ok (.isub, 1) := by decide +kernel
theorem dX6_length_17 : decode cX6_length 17 = .ok (.iload_n 2, 1) := by decide +kernel
theorem dX6_length_18 : decode cX6_length 18 = .ok (.invokevirtual 54, 3) := by decide +kernel
theorem dX6_length_21 : decode cX6_length 21 = .ok (.iadd, 1) := by decide +kernel
theorem dX6_length_22 : decode cX6_length 22 = .ok (.istore_n 1, 1) := by decide +kernel
theorem dX6_length_23 : decode cX6_length 23 = .ok (.iinc 2 1, 3) := by decide +kernel
theorem dX6_length_26 : decode cX6_length 26 = .ok (.goto (-22), 3) := by decide +kernel
theorem dX6_length_29 : decode cX6_length 29 = .ok (.iload_n 1, 1) := by decide +kernel
theorem dX6_length_30 : decode cX6_length 30 = .ok (.ireturn, 1) := by decide +kernel
theorem dX6_lengthWithout_0 : decode cX6_lengthWithout 0 = .ok (.iconst 0, 1) := by decide +kernel
theorem dX6_lengthWithout_1 : decode cX6_lengthWithout 1 = .ok (.istore_n 2, 1) := by decide +kernel
theorem dX6_lengthWithout_2 : decode cX6_lengthWithout 2 = .ok (.iconst 0, 1) := by decide +kernel
theorem dX6_lengthWithout_3 : decode cX6_lengthWithout 3 = .ok (.istore_n 3, 1) := by decide +kernel
theorem dX6_lengthWithout_4 : decode cX6_lengthWithout 4 = .ok (.iconst 1, 1) := by decide +kernel
theorem dX6_lengthWithout_5 : decode cX6_lengthWithout 5 = .ok (.istore 4, 2) := by decide +kernel
theorem dX6_lengthWithout_7 : decode cX6_lengthWithout 7 = .ok (.iload 4, 2) := by decide +kernel
theorem dX6_lengthWithout_9 : decode cX6_lengthWithout 9 = .ok (.aload_n 0, 1) := by decide +kernel
theorem dX6_lengthWithout_10 : decode cX6_lengthWithout 10 = .ok (.getfield 32, 3) := by decide +kernel
theorem dX6_lengthWithout_13 : decode cX6_lengthWithout 13 = .ok (.if_icmp .ge 32, 3) := by decide +kernel
theorem dX6_lengthWithout_16 : decode cX6_lengthWithout 16 = .ok (.aload_n 0, 1) := by decide +kernel
theorem dX6_lengthWithout_17 : decode cX6_lengthWithout 17 = .ok (.iload 4, 2) := by decide +kernel
theorem dX6_lengthWithout_19 : decode cX6_lengthWithout 19 = .ok (.iload_n 1, 1) := by decide +kernel
theorem dX6_lengthWithout_20 : decode cX6_lengthWithout 20 = .ok (.invokevirtual 58, 3) := by decide +kernel
theorem dX6_lengthWithout_23 : decode cX6_lengthWithout 23 = .ok (.ifCond .ne 16, 3) := by decide +kernel
theorem dX6_lengthWithout_26 : decode cX6_lengthWithout 26 = .ok (.iload_n 2, 1) := by decide +kernel
theorem dX6_lengthWithout_27 : decode cX6_lengthWithout 27 = .ok (.aload_n 0, 1) := by decide +kernel
theorem dX6_lengthWithout_28 : decode cX6_lengthWithout 28 = .ok (.iload_n 3, 1) := by decide +kernel
theorem dX6_lengthWithout_29 : decode cX6_lengthWithout 29 = .ok (.iload 4, 2) := by decide +kernel
theorem dX6_lengthWithout_31 : decode cX6_lengthWithout 31 = .ok (.invokevirtual 54, 3) := by decide +kernel
theorem dX6_lengthWithout_34 : decode cX6_lengthWithout 34 = .ok (.iadd, 1) := by decide +kernel
theorem dX6_lengthWithout_35 : decode cX6_lengthWithout 35 = .ok (.istore_n 2, 1) := by decide +kernel
theorem dX6_lengthWithout_36 : decode cX6_lengthWithout 36 = .ok (.iload 4, 2) := by decide +kernel
theorem dX6_lengthWithout_38 : decode cX6_lengthWithout 38 = .ok (.istore_n 3, 1) := by decide +kernel
theorem dX6_lengthWithout_39 : decode cX6_lengthWithout 39 = .ok (.iinc 4 1, 3) := by decide +kernel
theorem dX6_lengthWithout_42 : decode cX6_lengthWithout 42 = .ok (.goto (-35), 3) := by decide +kernel
theorem dX6_lengthWithout_45 : decode cX6_lengthWithout 45 = .ok (.iload_n 2, 1) := by decide +kernel
theorem dX6_lengthWithout_46 : decode cX6_lengthWithout 46 = .ok (.ireturn, 1) := by decide +kernel
theorem dX6_marginalLength_0 : decode cX6_marginalLength 0 = .ok (.aload_n 0, 1) := by decide +kernel
theorem dX6_marginalLength_1 : decode cX6_marginalLength 1 = .ok (.invokevirtual 62, 3) := by decide +kernel
theorem dX6_marginalLength_4 : decode cX6_marginalLength 4 = .ok (.aload_n 0, 1) := by decide +kernel
theorem dX6_marginalLength_5 : decode cX6_marginalLength 5 = .ok (.iload_n 1, 1) := by decide +kernel
theorem dX6_marginalLength_6 : decode cX6_marginalLength 6 = .ok (.invokevirtual 65, 3) := by decide +kernel
theorem dX6_marginalLength_9 : decode cX6_marginalLength 9 = .ok (.isub, 1) := by decide +kernel
theorem dX6_marginalLength_10 : decode cX6_marginalLength 10 = .ok (.ireturn, 1) := by decide +kernel
theorem dX6_directLength_0 : decode cX6_directLength 0 = .ok (.aload_n 0, 1) := by decide +kernel
theorem dX6_directLength_1 : decode cX6_directLength 1 = .ok (.iconst 0, 1) := by decide +kernel
theorem dX6_directLength_2 : decode cX6_directLength 2 = .ok (.aload_n 0, 1) := by decide +kernel
theorem dX6_directLength_3 : decode cX6_directLength 3 = .ok (.getfield 32, 3) := by decide +kernel
theorem dX6_directLength_6 : decode cX6_directLength 6 = .ok (.iconst 1, 1) := by decide +kernel
theorem dX6_directLength_7 : decode cX6_directLength 7 = .ok (.isub, 1) := by decide +kernel
theorem dX6_directLength_8 : decode cX6_directLength 8 = .ok (.invokevirtual 54, 3) := by decide +kernel
theorem dX6_directLength_11 : decode cX6_directLength 11 = .ok (.ireturn, 1) := by decide +kernel
theorem dX6_detourLength_0 : decode cX6_detourLength 0 = .ok (.aload_n 0, 1) := by decide +kernel
theorem dX6_detourLength_1 : decode cX6_detourLength 1 = .ok (.invokevirtual 62, 3) := by decide +kernel
theorem dX6_detourLength_4 : decode cX6_detourLength 4 = .ok (.aload_n 0, 1) := by decide +kernel
theorem dX6_detourLength_5 : decode cX6_detourLength 5 = .ok (.iconst 0, 1) := by decide +kernel
theorem dX6_detourLength_6 : decode cX6_detourLength 6 = .ok (.aload_n 0, 1) := by decide +kernel
theorem dX6_detourLength_7 : decode cX6_detourLength 7 = .ok (.getfield 32, 3) := by decide +kernel
theorem dX6_detourLength_10 : decode cX6_detourLength 10 = .ok (.iconst 1, 1) := by decide +kernel
theorem dX6_detourLength_11 : decode cX6_detourLength 11 = .ok (.isub, 1) := by decide +kernel
theorem dX6_detourLength_12 : decode cX6_detourLength 12 = .ok (.invokevirtual 54, 3) := by decide +kernel
theorem dX6_detourLength_15 : decode cX6_detourLength 15 = .ok (.isub, 1) := by decide +kernel
theorem dX6_detourLength_16 : decode cX6_detourLength 16 = .ok (.ireturn, 1) := by decide +kernel
theorem dX6_arrivalAt_0 : decode cX6_arrivalAt 0 = .ok (.iload_n 2, 1) := by decide +kernel
theorem dX6_arrivalAt_1 : decode cX6_arrivalAt 1 = .ok (.istore_n 3, 1) := by decide +kernel
theorem dX6_arrivalAt_2 : decode cX6_arrivalAt 2 = .ok (.iconst 1, 1) := by decide +kernel
theorem dX6_arrivalAt_3 : decode cX6_arrivalAt 3 = .ok (.istore 4, 2) := by decide +kernel
theorem dX6_arrivalAt_5 : decode cX6_arrivalAt 5 = .ok (.iload 4, 2) := by decide +kernel
theorem dX6_arrivalAt_7 : decode cX6_arrivalAt 7 = .ok (.iload_n 1, 1) := by decide +kernel
theorem dX6_arrivalAt_8 : decode cX6_arrivalAt 8 = .ok (.if_icmp .gt 39, 3) := by decide +kernel
theorem dX6_arrivalAt_11 : decode cX6_arrivalAt 11 = .ok (.iload 4, 2) := by decide +kernel
theorem dX6_arrivalAt_13 : decode cX6_arrivalAt 13 = .ok (.aload_n 0, 1) := by decide +kernel
theorem dX6_arrivalAt_14 : decode cX6_arrivalAt 14 = .ok (.getfield 32, 3) := by decide +kernel
theorem dX6_arrivalAt_17 : decode cX6_arrivalAt 17 = .ok (.if_icmp .ge 30, 3) := by decide +kernel
theorem dX6_arrivalAt_20 : decode cX6_arrivalAt 20 = .ok (.aload_n 0, 1) := by decide +kernel
theorem dX6_arrivalAt_21 : decode cX6_arrivalAt 21 = .ok (.iload 4, 2) := by decide +kernel
theorem dX6_arrivalAt_23 : decode cX6_arrivalAt 23 = .ok (.iconst 1, 1) := by decide +kernel
theorem dX6_arrivalAt_24 : decode cX6_arrivalAt 24 = .ok (.isub, 1) := by decide +kernel
theorem dX6_arrivalAt_25 : decode cX6_arrivalAt 25 = .ok (.iload_n 3, 1) := by decide +kernel
theorem dX6_arrivalAt_26 : decode cX6_arrivalAt 26 = .ok (.invokevirtual 69, 3) := by decide +kernel
theorem dX6_arrivalAt_29 : decode cX6_arrivalAt 29 = .ok (.aload_n 0, 1) := by decide +kernel
theorem dX6_arrivalAt_30 : decode cX6_arrivalAt 30 = .ok (.iload 4, 2) := by decide +kernel
theorem dX6_arrivalAt_32 : decode cX6_arrivalAt 32 = .ok (.iconst 1, 1) := by decide +kernel
theorem dX6_arrivalAt_33 : decode cX6_arrivalAt 33 = .ok (.isub, 1) := by decide +kernel
theorem dX6_arrivalAt_34 : decode cX6_arrivalAt 34 = .ok (.iload 4, 2) := by decide +kernel
theorem dX6_arrivalAt_36 : decode cX6_arrivalAt 36 = .ok (.invokevirtual 54, 3) := by decide +kernel
theorem dX6_arrivalAt_39 : decode cX6_arrivalAt 39 = .ok (.iadd, 1) := by decide +kernel
theorem dX6_arrivalAt_40 : decode cX6_arrivalAt 40 = .ok (.istore_n 3, 1) := by decide +kernel
theorem dX6_arrivalAt_41 : decode cX6_arrivalAt 41 = .ok (.iinc 4 1, 3) := by decide +kernel
theorem dX6_arrivalAt_44 : decode cX6_arrivalAt 44 = .ok (.goto (-39), 3) := by decide +kernel
theorem dX6_arrivalAt_47 : decode cX6_arrivalAt 47 = .ok (.iload_n 3, 1) := by decide +kernel
theorem dX6_arrivalAt_48 : decode cX6_arrivalAt 48 = .ok (.ireturn, 1) := by decide +kernel
theorem dX6_leaving_0 : decode cX6_leaving 0 = .ok (.aload_n 0, 1) := by decide +kernel
theorem dX6_leaving_1 : decode cX6_leaving 1 = .ok (.iload_n 1, 1) := by decide +kernel
theorem dX6_leaving_2 : decode cX6_leaving 2 = .ok (.invokevirtual 42, 3) := by decide +kernel
theorem dX6_leaving_5 : decode cX6_leaving 5 = .ok (.ifCond .eq 16, 3) := by decide +kernel
theorem dX6_leaving_8 : decode cX6_leaving 8 = .ok (.iload_n 2, 1) := by decide +kernel
theorem dX6_leaving_9 : decode cX6_leaving 9 = .ok (.aload_n 0, 1) := by decide +kernel
theorem dX6_leaving_10 : decode cX6_leaving 10 = .ok (.getfield 21, 3) := by decide +kernel
theorem dX6_leaving_13 : decode cX6_leaving 13 = .ok (.iload_n 1, 1) := by decide +kernel
theorem dX6_leaving_14 : decode cX6_leaving 14 = .ok (.iaload, 1) := by decide +kernel
theorem dX6_leaving_15 : decode cX6_leaving 15 = .ok (.invokestatic 72, 3) := by decide +kernel
theorem dX6_leaving_18 : decode cX6_leaving 18 = .ok (.goto 4, 3) := by decide +kernel
theorem dX6_leaving_21 : decode cX6_leaving 21 = .ok (.iload_n 2, 1) := by decide +kernel
theorem dX6_leaving_22 : decode cX6_leaving 22 = .ok (.ireturn, 1) := by decide +kernel
theorem dX6_keepsSeatsAndDeadlines_0 : decode cX6_keepsSeatsAndDeadlines 0 = .ok (.iload_n 2, 1) := by decide +kernel
theorem dX6_keepsSeatsAndDeadlines_1 : decode cX6_keepsSeatsAndDeadlines 1 = .ok (.istore_n 3, 1) := by decide +kernel
theorem dX6_keepsSeatsAndDeadlines_2 : decode cX6_keepsSeatsAndDeadlines 2 = .ok (.iconst 0, 1) := by decide +kernel
theorem dX6_keepsSeatsAndDeadlines_3 : decode cX6_keepsSeatsAndDeadlines 3 = .ok (.istore 4, 2) := by decide +kernel
theorem dX6_keepsSeatsAndDeadlines_5 : decode cX6_keepsSeatsAndDeadlines 5 = .ok (.iconst 1, 1) := by decide +kernel
theorem dX6_keepsSeatsAndDeadlines_6 : decode cX6_keepsSeatsAndDeadlines 6 = .ok (.istore 5, 2) := by decide +kernel
theorem dX6_keepsSeatsAndDeadlines_8 : decode cX6_keepsSeatsAndDeadlines 8 = .ok (.iload 5, 2) := by decide +kernel
theorem dX6_keepsSeatsAndDeadlines_10 : decode cX6_keepsSeatsAndDeadlines 10 = .ok (.aload_n 0, 1) := by decide +kernel
theorem dX6_keepsSeatsAndDeadlines_11 : decode cX6_keepsSeatsAndDeadlines 11 = .ok (.getfield 32, 3) := by decide +kernel
theorem dX6_keepsSeatsAndDeadlines_14 : decode cX6_keepsSeatsAndDeadlines 14 = .ok (.if_icmp .ge 78, 3) := by decide +kernel
theorem dX6_keepsSeatsAndDeadlines_17 : decode cX6_keepsSeatsAndDeadlines 17 = .ok (.aload_n 0, 1) := by decide +kernel
theorem dX6_keepsSeatsAndDeadlines_18 : decode cX6_keepsSeatsAndDeadlines 18 = .ok (.iload 5, 2) := by decide +kernel
theorem dX6_keepsSeatsAndDeadlines_20 : decode cX6_keepsSeatsAndDeadlines 20 = .ok (.iconst 1, 1) := by decide +kernel
theorem dX6_keepsSeatsAndDeadlines_21 : decode cX6_keepsSeatsAndDeadlines 21 = .ok (.isub, 1) := by decide +kernel
theorem dX6_keepsSeatsAndDeadlines_22 : decode cX6_keepsSeatsAndDeadlines 22 = .ok (.iload_n 3, 1) := by decide +kernel
theorem dX6_keepsSeatsAndDeadlines_23 : decode cX6_keepsSeatsAndDeadlines 23 = .ok (.invokevirtual 69, 3) := by decide +kernel
theorem dX6_keepsSeatsAndDeadlines_26 : decode cX6_keepsSeatsAndDeadlines 26 = .ok (.aload_n 0, 1) := by decide +kernel
theorem dX6_keepsSeatsAndDeadlines_27 : decode cX6_keepsSeatsAndDeadlines 27 = .ok (.iload 5, 2) := by decide +kernel
theorem dX6_keepsSeatsAndDeadlines_29 : decode cX6_keepsSeatsAndDeadlines 29 = .ok (.iconst 1, 1) := by decide +kernel
theorem dX6_keepsSeatsAndDeadlines_30 : decode cX6_keepsSeatsAndDeadlines 30 = .ok (.isub, 1) := by decide +kernel
theorem dX6_keepsSeatsAndDeadlines_31 : decode cX6_keepsSeatsAndDeadlines 31 = .ok (.iload 5, 2) := by decide +kernel
theorem dX6_keepsSeatsAndDeadlines_33 : decode cX6_keepsSeatsAndDeadlines 33 = .ok (.invokevirtual 54, 3) := by decide +kernel
theorem dX6_keepsSeatsAndDeadlines_36 : decode cX6_keepsSeatsAndDeadlines 36 = .ok (.iadd, 1) := by decide +kernel
theorem dX6_keepsSeatsAndDeadlines_37 : decode cX6_keepsSeatsAndDeadlines 37 = .ok (.istore_n 3, 1) := by decide +kernel
theorem dX6_keepsSeatsAndDeadlines_38 : decode cX6_keepsSeatsAndDeadlines 38 = .ok (.aload_n 0, 1) := by decide +kernel
theorem dX6_keepsSeatsAndDeadlines_39 : decode cX6_keepsSeatsAndDeadlines 39 = .ok (.iload 5, 2) := by decide +kernel
theorem dX6_keepsSeatsAndDeadlines_41 : decode cX6_keepsSeatsAndDeadlines 41 = .ok (.invokevirtual 42, 3) := by decide +kernel
theorem dX6_keepsSeatsAndDeadlines_44 : decode cX6_keepsSeatsAndDeadlines 44 = .ok (.ifCond .eq 9, 3) := by decide +kernel
theorem dX6_keepsSeatsAndDeadlines_47 : decode cX6_keepsSeatsAndDeadlines 47 = .ok (.iinc 4 1, 3) := by decide +kernel
theorem dX6_keepsSeatsAndDeadlines_50 : decode cX6_keepsSeatsAndDeadlines 50 = .ok (.goto 28, 3) := by decide +kernel
theorem dX6_keepsSeatsAndDeadlines_53 : decode cX6_keepsSeatsAndDeadlines 53 = .ok (.aload_n 0, 1) := by decide +kernel
theorem dX6_keepsSeatsAndDeadlines_54 : decode cX6_keepsSeatsAndDeadlines 54 = .ok (.iload 5, 2) := by decide +kernel
theorem dX6_keepsSeatsAndDeadlines_56 : decode cX6_keepsSeatsAndDeadlines 56 = .ok (.invokevirtual 77, 3) := by decide +kernel
theorem dX6_keepsSeatsAndDeadlines_59 : decode cX6_keepsSeatsAndDeadlines 59 = .ok (.ifCond .eq 19, 3) := by decide +kernel
theorem dX6_keepsSeatsAndDeadlines_62 : decode cX6_keepsSeatsAndDeadlines 62 = .ok (.iinc 4 (-1), 3) := by decide +kernel
theorem dX6_keepsSeatsAndDeadlines_65 : decode cX6_keepsSeatsAndDeadlines 65 = .ok (.iload_n 3, 1) := by decide +kernel
theorem dX6_keepsSeatsAndDeadlines_66 : decode cX6_keepsSeatsAndDeadlines 66 = .ok (.aload_n 0, 1) := by decide +kernel
theorem dX6_keepsSeatsAndDeadlines_67 : decode cX6_keepsSeatsAndDeadlines 67 = .ok (.getfield 21, 3) := by decide +kernel
theorem dX6_keepsSeatsAndDeadlines_70 : decode cX6_keepsSeatsAndDeadlines 70 = .ok (.iload 5, 2) := by decide +kernel
theorem dX6_keepsSeatsAndDeadlines_72 : decode cX6_keepsSeatsAndDeadlines 72 = .ok (.iaload, 1) := by decide +kernel
theorem dX6_keepsSeatsAndDeadlines_73 : decode cX6_keepsSeatsAndDeadlines 73 = .ok (.if_icmp .le 5, 3) := by decide +kernel
theorem dX6_keepsSeatsAndDeadlines_76 : decode cX6_keepsSeatsAndDeadlines 76 = .ok (.iconst 0, 1) := by decide +kernel
theorem dX6_keepsSeatsAndDeadlines_77 : decode cX6_keepsSeatsAndDeadlines 77 = .ok (.ireturn, 1) := by decide +kernel
theorem dX6_keepsSeatsAndDeadlines_78 : decode cX6_keepsSeatsAndDeadlines 78 = .ok (.iload 4, 2) := by decide +kernel
theorem dX6_keepsSeatsAndDeadlines_80 : decode cX6_keepsSeatsAndDeadlines 80 = .ok (.iload_n 1, 1) := by decide +kernel
theorem dX6_keepsSeatsAndDeadlines_81 : decode cX6_keepsSeatsAndDeadlines 81 = .ok (.if_icmp .le 5, 3) := by decide +kernel
theorem dX6_keepsSeatsAndDeadlines_84 : decode cX6_keepsSeatsAndDeadlines 84 = .ok (.iconst 0, 1) := by decide +kernel
theorem dX6_keepsSeatsAndDeadlines_85 : decode cX6_keepsSeatsAndDeadlines 85 = .ok (.ireturn, 1) := by decide +kernel
theorem dX6_keepsSeatsAndDeadlines_86 : decode cX6_keepsSeatsAndDeadlines 86 = .ok (.iinc 5 1, 3) := by decide +kernel
theorem dX6_keepsSeatsAndDeadlines_89 : decode cX6_keepsSeatsAndDeadlines 89 = .ok (.goto (-81), 3) := by decide +kernel
theorem dX6_keepsSeatsAndDeadlines_92 : decode cX6_keepsSeatsAndDeadlines 92 = .ok (.iconst 1, 1) := by decide +kernel
theorem dX6_keepsSeatsAndDeadlines_93 : decode cX6_keepsSeatsAndDeadlines 93 = .ok (.ireturn, 1) := by decide +kernel
theorem dX6_lengthening_0 : decode cX6_lengthening 0 = .ok (.aload_n 0, 1) := by decide +kernel
theorem dX6_lengthening_1 : decode cX6_lengthening 1 = .ok (.iload_n 2, 1) := by decide +kernel
theorem dX6_lengthening_2 : decode cX6_lengthening 2 = .ok (.aload_n 1, 1) := by decide +kernel
theorem dX6_lengthening_3 : decode cX6_lengthening 3 = .ok (.getfield 80, 3) := by decide +kernel
theorem dX6_lengthening_6 : decode cX6_lengthening 6 = .ok (.aload_n 1, 1) := by decide +kernel
theorem dX6_lengthening_7 : decode cX6_lengthening 7 = .ok (.getfield 85, 3) := by decide +kernel
theorem dX6_lengthening_10 : decode cX6_lengthening 10 = .ok (.invokevirtual 88, 3) := by decide +kernel
theorem dX6_lengthening_13 : decode cX6_lengthening 13 = .ok (.istore 4, 2) := by decide +kernel
theorem dX6_lengthening_15 : decode cX6_lengthening 15 = .ok (.aload_n 0, 1) := by decide +kernel
theorem dX6_lengthening_16 : decode cX6_lengthening 16 = .ok (.iload_n 3, 1) := by decide +kernel
theorem dX6_lengthening_17 : decode cX6_lengthening 17 = .ok (.iconst 1, 1) := by decide +kernel
theorem dX6_lengthening_18 : decode cX6_lengthening 18 = .ok (.iadd, 1) := by decide +kernel
theorem dX6_lengthening_19 : decode cX6_lengthening 19 = .ok (.aload_n 1, 1) := by decide +kernel
theorem dX6_lengthening_20 : decode cX6_lengthening 20 = .ok (.getfield 92, 3) := by decide +kernel
theorem dX6_lengthening_23 : decode cX6_lengthening 23 = .ok (.aload_n 1, 1) := by decide +kernel
theorem dX6_lengthening_24 : decode cX6_lengthening 24 = .ok (.getfield 95, 3) := by decide +kernel
theorem dX6_lengthening_27 : decode cX6_lengthening 27 = .ok (.invokevirtual 88, 3) := by decide +kernel
theorem dX6_lengthening_30 : decode cX6_lengthening 30 = .ok (.istore 5, 2) := by decide +kernel
theorem dX6_lengthening_32 : decode cX6_lengthening 32 = .ok (.iload_n 2, 1) := by decide +kernel
theorem dX6_lengthening_33 : decode cX6_lengthening 33 = .ok (.iload_n 3, 1) := by decide +kernel
theorem dX6_lengthening_34 : decode cX6_lengthening 34 = .ok (.if_icmp .ne 38, 3) := by decide +kernel
theorem dX6_lengthening_37 : decode cX6_lengthening 37 = .ok (.iload 4, 2) := by decide +kernel
theorem dX6_lengthening_39 : decode cX6_lengthening 39 = .ok (.aload_n 1, 1) := by decide +kernel
theorem dX6_lengthening_40 : decode cX6_lengthening 40 = .ok (.getfield 80, 3) := by decide +kernel
theorem dX6_lengthening_43 : decode cX6_lengthening 43 = .ok (.aload_n 1, 1) := by decide +kernel
theorem dX6_lengthening_44 : decode cX6_lengthening 44 = .ok (.getfield 85, 3) := by decide +kernel
theorem dX6_lengthening_47 : decode cX6_lengthening 47 = .ok (.aload_n 1, 1) := by decide +kernel
theorem dX6_lengthening_48 : decode cX6_lengthening 48 = .ok (.getfield 92, 3) := by decide +kernel
theorem dX6_lengthening_51 : decode cX6_lengthening 51 = .ok (.aload_n 1, 1) := by decide +kernel
theorem dX6_lengthening_52 : decode cX6_lengthening 52 = .ok (.getfield 95, 3) := by decide +kernel
theorem dX6_lengthening_55 : decode cX6_lengthening 55 = .ok (.invokestatic 50, 3) := by decide +kernel
theorem dX6_lengthening_58 : decode cX6_lengthening 58 = .ok (.iadd, 1) := by decide +kernel
theorem dX6_lengthening_59 : decode cX6_lengthening 59 = .ok (.iload 5, 2) := by decide +kernel
theorem dX6_lengthening_61 : decode cX6_lengthening 61 = .ok (.iadd, 1) := by decide +kernel
theorem dX6_lengthening_62 : decode cX6_lengthening 62 = .ok (.aload_n 0, 1) := by decide +kernel
theorem dX6_lengthening_63 : decode cX6_lengthening 63 = .ok (.iload_n 2, 1) := by decide +kernel
theorem dX6_lengthening_64 : decode cX6_lengthening 64 = .ok (.iload_n 2, 1) := by decide +kernel
theorem dX6_lengthening_65 : decode cX6_lengthening 65 = .ok (.iconst 1, 1) := by decide +kernel
theorem dX6_lengthening_66 : decode cX6_lengthening 66 = .ok (.iadd, 1) := by decide +kernel
theorem dX6_lengthening_67 : decode cX6_lengthening 67 = .ok (.invokevirtual 54, 3) := by decide +kernel
theorem dX6_lengthening_70 : decode cX6_lengthening 70 = .ok (.isub, 1) := by decide +kernel
theorem dX6_lengthening_71 : decode cX6_lengthening 71 = .ok (.ireturn, 1) := by decide +kernel
theorem dX6_lengthening_72 : decode cX6_lengthening 72 = .ok (.aload_n 0, 1) := by decide +kernel
theorem dX6_lengthening_73 : decode cX6_lengthening 73 = .ok (.iload_n 2, 1) := by decide +kernel
theorem dX6_lengthening_74 : decode cX6_lengthening 74 = .ok (.iconst 1, 1) := by decide +kernel
theorem dX6_lengthening_75 : decode cX6_lengthening 75 = .ok (.iadd, 1) := by decide +kernel
theorem dX6_lengthening_76 : decode cX6_lengthening 76 = .ok (.aload_n 1, 1) := by decide +kernel
theorem dX6_lengthening_77 : decode cX6_lengthening 77 = .ok (.getfield 80, 3) := by decide +kernel
theorem dX6_lengthening_80 : decode cX6_lengthening 80 = .ok (.aload_n 1, 1) := by decide +kernel
theorem dX6_lengthening_81 : decode cX6_lengthening 81 = .ok (.getfield 85, 3) := by decide +kernel
theorem dX6_lengthening_84 : decode cX6_lengthening 84 = .ok (.invokevirtual 88, 3) := by decide +kernel
theorem dX6_lengthening_87 : decode cX6_lengthening 87 = .ok (.istore 6, 2) := by decide +kernel
theorem dX6_lengthening_89 : decode cX6_lengthening 89 = .ok (.aload_n 0, 1) := by decide +kernel
theorem dX6_lengthening_90 : decode cX6_lengthening 90 = .ok (.iload_n 3, 1) := by decide +kernel
theorem dX6_lengthening_91 : decode cX6_lengthening 91 = .ok (.aload_n 1, 1) := by decide +kernel
theorem dX6_lengthening_92 : decode cX6_lengthening 92 = .ok (.getfield 92, 3) := by decide +kernel
theorem dX6_lengthening_95 : decode cX6_lengthening 95 = .ok (.aload_n 1, 1) := by decide +kernel
theorem dX6_lengthening_96 : decode cX6_lengthening 96 = .ok (.getfield 95, 3) := by decide +kernel
theorem dX6_lengthening_99 : decode cX6_lengthening 99 = .ok (.invokevirtual 88, 3) := by decide +kernel
theorem dX6_lengthening_102 : decode cX6_lengthening 102 = .ok (.istore 7, 2) := by decide +kernel
theorem dX6_lengthening_104 : decode cX6_lengthening 104 = .ok (.iload 4, 2) := by decide +kernel
theorem dX6_lengthening_106 : decode cX6_lengthening 106 = .ok (.iload 6, 2) := by decide +kernel
theorem dX6_lengthening_108 : decode cX6_lengthening 108 = .ok (.iadd, 1) := by decide +kernel
theorem dX6_lengthening_109 : decode cX6_lengthening 109 = .ok (.aload_n 0, 1) := by decide +kernel
theorem dX6_lengthening_110 : decode cX6_lengthening 110 = .ok (.iload_n 2, 1) := by decide +kernel
theorem dX6_lengthening_111 : decode cX6_lengthening 111 = .ok (.iload_n 2, 1) := by decide +kernel
theorem dX6_lengthening_112 : decode cX6_lengthening 112 = .ok (.iconst 1, 1) := by decide +kernel
theorem dX6_lengthening_113 : decode cX6_lengthening 113 = .ok (.iadd, 1) := by decide +kernel
theorem dX6_lengthening_114 : decode cX6_lengthening 114 = .ok (.invokevirtual 54, 3) := by decide +kernel
theorem dX6_lengthening_117 : decode cX6_lengthening 117 = .ok (.isub, 1) := by decide +kernel
theorem dX6_lengthening_118 : decode cX6_lengthening 118 = .ok (.iload 7, 2) := by decide +kernel
theorem dX6_lengthening_120 : decode cX6_lengthening 120 = .ok (.iadd, 1) := by decide +kernel
theorem dX6_lengthening_121 : decode cX6_lengthening 121 = .ok (.iload 5, 2) := by decide +kernel
theorem dX6_lengthening_123 : decode cX6_lengthening 123 = .ok (.iadd, 1) := by decide +kernel
theorem dX6_lengthening_124 : decode cX6_lengthening 124 = .ok (.aload_n 0, 1) := by decide +kernel
theorem dX6_lengthening_125 : decode cX6_lengthening 125 = .ok (.iload_n 3, 1) := by decide +kernel
theorem dX6_lengthening_126 : decode cX6_lengthening 126 = .ok (.iload_n 3, 1) := by decide +kernel
theorem dX6_lengthening_127 : decode cX6_lengthening 127 = .ok (.iconst 1, 1) := by decide +kernel
theorem dX6_lengthening_128 : decode cX6_lengthening 128 = .ok (.iadd, 1) := by decide +kernel
theorem dX6_lengthening_129 : decode cX6_lengthening 129 = .ok (.invokevirtual 54, 3) := by decide +kernel
theorem dX6_lengthening_132 : decode cX6_lengthening 132 = .ok (.isub, 1) := by decide +kernel
theorem dX6_lengthening_133 : decode cX6_lengthening 133 = .ok (.ireturn, 1) := by decide +kernel
theorem dX6_toPlace_0 : decode cX6_toPlace 0 = .ok (.aload_n 0, 1) := by decide +kernel
theorem dX6_toPlace_1 : decode cX6_toPlace 1 = .ok (.getfield 15, 3) := by decide +kernel
theorem dX6_toPlace_4 : decode cX6_toPlace 4 = .ok (.iload_n 1, 1) := by decide +kernel
theorem dX6_toPlace_5 : decode cX6_toPlace 5 = .ok (.iaload, 1) := by decide +kernel
theorem dX6_toPlace_6 : decode cX6_toPlace 6 = .ok (.aload_n 0, 1) := by decide +kernel
theorem dX6_toPlace_7 : decode cX6_toPlace 7 = .ok (.getfield 18, 3) := by decide +kernel
theorem dX6_toPlace_10 : decode cX6_toPlace 10 = .ok (.iload_n 1, 1) := by decide +kernel
theorem dX6_toPlace_11 : decode cX6_toPlace 11 = .ok (.iaload, 1) := by decide +kernel
theorem dX6_toPlace_12 : decode cX6_toPlace 12 = .ok (.iload_n 2, 1) := by decide +kernel
theorem dX6_toPlace_13 : decode cX6_toPlace 13 = .ok (.iload_n 3, 1) := by decide +kernel
theorem dX6_toPlace_14 : decode cX6_toPlace 14 = .ok (.invokestatic 50, 3) := by decide +kernel
theorem dX6_toPlace_17 : decode cX6_toPlace 17 = .ok (.ireturn, 1) := by decide +kernel
theorem dX6_insert_0 : decode cX6_insert 0 = .ok (.aload_n 0, 1) := by decide +kernel
theorem dX6_insert_1 : decode cX6_insert 1 = .ok (.getfield 32, 3) := by decide +kernel
theorem dX6_insert_4 : decode cX6_insert 4 = .ok (.iconst 1, 1) := by decide +kernel
theorem dX6_insert_5 : decode cX6_insert 5 = .ok (.isub, 1) := by decide +kernel
theorem dX6_insert_6 : decode cX6_insert 6 = .ok (.istore 4, 2) := by decide +kernel
theorem dX6_insert_8 : decode cX6_insert 8 = .ok (.iload 4, 2) := by decide +kernel
theorem dX6_insert_10 : decode cX6_insert 10 = .ok (.iload_n 3, 1) := by decide +kernel
theorem dX6_insert_11 : decode cX6_insert 11 = .ok (.if_icmp .le 19, 3) := by decide +kernel
theorem dX6_insert_14 : decode cX6_insert 14 = .ok (.aload_n 0, 1) := by decide +kernel
theorem dX6_insert_15 : decode cX6_insert 15 = .ok (.iload 4, 2) := by decide +kernel
theorem dX6_insert_17 : decode cX6_insert 17 = .ok (.iload 4, 2) := by decide +kernel
theorem dX6_insert_19 : decode cX6_insert 19 = .ok (.iconst 2, 1) := by decide +kernel
theorem dX6_insert_20 : decode cX6_insert 20 = .ok (.iadd, 1) := by decide +kernel
theorem dX6_insert_21 : decode cX6_insert 21 = .ok (.invokevirtual 98, 3) := by decide +kernel
theorem dX6_insert_24 : decode cX6_insert 24 = .ok (.iinc 4 (-1), 3) := by decide +kernel
theorem dX6_insert_27 : decode cX6_insert 27 = .ok (.goto (-19), 3) := by decide +kernel
theorem dX6_insert_30 : decode cX6_insert 30 = .ok (.aload_n 0, 1) := by decide +kernel
theorem dX6_insert_31 : decode cX6_insert 31 = .ok (.iload_n 3, 1) := by decide +kernel
theorem dX6_insert_32 : decode cX6_insert 32 = .ok (.iconst 2, 1) := by decide +kernel
theorem dX6_insert_33 : decode cX6_insert 33 = .ok (.iadd, 1) := by decide +kernel
theorem dX6_insert_34 : decode cX6_insert 34 = .ok (.bipush 100, 2) := by decide +kernel
theorem dX6_insert_36 : decode cX6_insert 36 = .ok (.aload_n 1, 1) := by decide +kernel
theorem dX6_insert_37 : decode cX6_insert 37 = .ok (.getfield 102, 3) := by decide +kernel
theorem dX6_insert_40 : decode cX6_insert 40 = .ok (.iadd, 1) := by decide +kernel
theorem dX6_insert_41 : decode cX6_insert 41 = .ok (.aload_n 1, 1) := by decide +kernel
theorem dX6_insert_42 : decode cX6_insert 42 = .ok (.getfield 92, 3) := by decide +kernel
theorem dX6_insert_45 : decode cX6_insert 45 = .ok (.aload_n 1, 1) := by decide +kernel
theorem dX6_insert_46 : decode cX6_insert 46 = .ok (.getfield 95, 3) := by decide +kernel
theorem dX6_insert_49 : decode cX6_insert 49 = .ok (.aload_n 1, 1) := by decide +kernel
theorem dX6_insert_50 : decode cX6_insert 50 = .ok (.getfield 105, 3) := by decide +kernel
theorem dX6_insert_53 : decode cX6_insert 53 = .ok (.invokevirtual 28, 3) := by decide +kernel
theorem dX6_insert_56 : decode cX6_insert 56 = .ok (.iload_n 3, 1) := by decide +kernel
theorem dX6_insert_57 : decode cX6_insert 57 = .ok (.istore 4, 2) := by decide +kernel
theorem dX6_insert_59 : decode cX6_insert 59 = .ok (.iload 4, 2) := by decide +kernel
theorem dX6_insert_61 : decode cX6_insert 61 = .ok (.iload_n 2, 1) := by decide +kernel
theorem dX6_insert_62 : decode cX6_insert 62 = .ok (.if_icmp .le 19, 3) := by decide +kernel
theorem dX6_insert_65 : decode cX6_insert 65 = .ok (.aload_n 0, 1) := by decide +kernel
theorem dX6_insert_66 : decode cX6_insert 66 = .ok (.iload 4, 2) := by decide +kernel
theorem dX6_insert_68 : decode cX6_insert 68 = .ok (.iload 4, 2) := by decide +kernel
theorem dX6_insert_70 : decode cX6_insert 70 = .ok (.iconst 1, 1) := by decide +kernel
theorem dX6_insert_71 : decode cX6_insert 71 = .ok (.iadd, 1) := by decide +kernel
theorem dX6_insert_72 : decode cX6_insert 72 = .ok (.invokevirtual 98, 3) := by decide +kernel
theorem dX6_insert_75 : decode cX6_insert 75 = .ok (.iinc 4 (-1), 3) := by decide +kernel
theorem dX6_insert_78 : decode cX6_insert 78 = .ok (.goto (-19), 3) := by decide +kernel
theorem dX6_insert_81 : decode cX6_insert 81 = .ok (.aload_n 0, 1) := by decide +kernel
theorem dX6_insert_82 : decode cX6_insert 82 = .ok (.iload_n 2, 1) := by decide +kernel
theorem dX6_insert_83 : decode cX6_insert 83 = .ok (.iconst 1, 1) := by decide +kernel
theorem dX6_insert_84 : decode cX6_insert 84 = .ok (.iadd, 1) := by decide +kernel
theorem dX6_insert_85 : decode cX6_insert 85 = .ok (.aload_n 1, 1) := by decide +kernel
theorem dX6_insert_86 : decode cX6_insert 86 = .ok (.getfield 102, 3) := by decide +kernel
theorem dX6_insert_89 : decode cX6_insert 89 = .ok (.aload_n 1, 1) := by decide +kernel
theorem dX6_insert_90 : decode cX6_insert 90 = .ok (.getfield 80, 3) := by decide +kernel
theorem dX6_insert_93 : decode cX6_insert 93 = .ok (.aload_n 1, 1) := by decide +kernel
theorem dX6_insert_94 : decode cX6_insert 94 = .ok (.getfield 85, 3) := by decide +kernel
theorem dX6_insert_97 : decode cX6_insert 97 = .ok (.aload_n 1, 1) := by decide +kernel
theorem dX6_insert_98 : decode cX6_insert 98 = .ok (.getfield 108, 3) := by decide +kernel
theorem dX6_insert_101 : decode cX6_insert 101 = .ok (.invokevirtual 28, 3) := by decide +kernel
theorem dX6_insert_104 : decode cX6_insert 104 = .ok (.aload_n 0, 1) := by decide +kernel
theorem dX6_insert_105 : decode cX6_insert 105 = .ok (.dup, 1) := by decide +kernel
theorem dX6_insert_106 : decode cX6_insert 106 = .ok (.getfield 32, 3) := by decide +kernel
theorem dX6_insert_109 : decode cX6_insert 109 = .ok (.iconst 2, 1) := by decide +kernel
theorem dX6_insert_110 : decode cX6_insert 110 = .ok (.iadd, 1) := by decide +kernel
theorem dX6_insert_111 : decode cX6_insert 111 = .ok (.putfield 32, 3) := by decide +kernel
theorem dX6_insert_114 : decode cX6_insert 114 = .ok (.return_, 1) := by decide +kernel
theorem dX6_remove_0 : decode cX6_remove 0 = .ok (.iconst 0, 1) := by decide +kernel
theorem dX6_remove_1 : decode cX6_remove 1 = .ok (.istore_n 2, 1) := by decide +kernel
theorem dX6_remove_2 : decode cX6_remove 2 = .ok (.iconst 0, 1) := by decide +kernel
theorem dX6_remove_3 : decode cX6_remove 3 = .ok (.istore_n 3, 1) := by decide +kernel
theorem dX6_remove_4 : decode cX6_remove 4 = .ok (.iload_n 3, 1) := by decide +kernel
theorem dX6_remove_5 : decode cX6_remove 5 = .ok (.aload_n 0, 1) := by decide +kernel
theorem dX6_remove_6 : decode cX6_remove 6 = .ok (.getfield 32, 3) := by decide +kernel
theorem dX6_remove_9 : decode cX6_remove 9 = .ok (.if_icmp .ge 27, 3) := by decide +kernel
theorem dX6_remove_12 : decode cX6_remove 12 = .ok (.aload_n 0, 1) := by decide +kernel
theorem dX6_remove_13 : decode cX6_remove 13 = .ok (.iload_n 3, 1) := by decide +kernel
theorem dX6_remove_14 : decode cX6_remove 14 = .ok (.iload_n 1, 1) := by decide +kernel
theorem dX6_remove_15 : decode cX6_remove 15 = .ok (.invokevirtual 58, 3) := by decide +kernel
theorem dX6_remove_18 : decode cX6_remove 18 = .ok (.ifCond .ne 12, 3) := by decide +kernel
theorem dX6_remove_21 : decode cX6_remove 21 = .ok (.aload_n 0, 1) := by decide +kernel
theorem dX6_remove_22 : decode cX6_remove 22 = .ok (.iload_n 3, 1) := by decide +kernel
theorem dX6_remove_23 : decode cX6_remove 23 = .ok (.iload_n 2, 1) := by decide +kernel
theorem dX6_remove_24 : decode cX6_remove 24 = .ok (.invokevirtual 98, 3) := by decide +kernel
theorem dX6_remove_27 : decode cX6_remove 27 = .ok (.iinc 2 1, 3) := by decide +kernel
theorem dX6_remove_30 : decode cX6_remove 30 = .ok (.iinc 3 1, 3) := by decide +kernel
theorem dX6_remove_33 : decode cX6_remove 33 = .ok (.goto (-29), 3) := by decide +kernel
theorem dX6_remove_36 : decode cX6_remove 36 = .ok (.aload_n 0, 1) := by decide +kernel
theorem dX6_remove_37 : decode cX6_remove 37 = .ok (.iload_n 2, 1) := by decide +kernel
theorem dX6_remove_38 : decode cX6_remove 38 = .ok (.putfield 32, 3) := by decide +kernel
theorem dX6_remove_41 : decode cX6_remove 41 = .ok (.return_, 1) := by decide +kernel
theorem dX6_moveStop_0 : decode cX6_moveStop 0 = .ok (.aload_n 0, 1) := by decide +kernel
theorem dX6_moveStop_1 : decode cX6_moveStop 1 = .ok (.iload_n 2, 1) := by decide +kernel
theorem dX6_moveStop_2 : decode cX6_moveStop 2 = .ok (.aload_n 0, 1) := by decide +kernel
theorem dX6_moveStop_3 : decode cX6_moveStop 3 = .ok (.getfield 9, 3) := by decide +kernel
theorem dX6_moveStop_6 : decode cX6_moveStop 6 = .ok (.iload_n 1, 1) := by decide +kernel
theorem dX6_moveStop_7 : decode cX6_moveStop 7 = .ok (.iaload, 1) := by decide +kernel
theorem dX6_moveStop_8 : decode cX6_moveStop 8 = .ok (.aload_n 0, 1) := by decide +kernel
theorem dX6_moveStop_9 : decode cX6_moveStop 9 = .ok (.getfield 15, 3) := by decide +kernel
theorem dX6_moveStop_12 : decode cX6_moveStop 12 = .ok (.iload_n 1, 1) := by decide +kernel
theorem dX6_moveStop_13 : decode cX6_moveStop 13 = .ok (.iaload, 1) := by decide +kernel
theorem dX6_moveStop_14 : decode cX6_moveStop 14 = .ok (.aload_n 0, 1) := by decide +kernel
theorem dX6_moveStop_15 : decode cX6_moveStop 15 = .ok (.getfield 18, 3) := by decide +kernel
theorem dX6_moveStop_18 : decode cX6_moveStop 18 = .ok (.iload_n 1, 1) := by decide +kernel
theorem dX6_moveStop_19 : decode cX6_moveStop 19 = .ok (.iaload, 1) := by decide +kernel
theorem dX6_moveStop_20 : decode cX6_moveStop 20 = .ok (.aload_n 0, 1) := by decide +kernel
theorem dX6_moveStop_21 : decode cX6_moveStop 21 = .ok (.getfield 21, 3) := by decide +kernel
theorem dX6_moveStop_24 : decode cX6_moveStop 24 = .ok (.iload_n 1, 1) := by decide +kernel
theorem dX6_moveStop_25 : decode cX6_moveStop 25 = .ok (.iaload, 1) := by decide +kernel
theorem dX6_moveStop_26 : decode cX6_moveStop 26 = .ok (.invokevirtual 28, 3) := by decide +kernel
theorem dX6_moveStop_29 : decode cX6_moveStop 29 = .ok (.return_, 1) := by decide +kernel
theorem dX6_setStop_0 : decode cX6_setStop 0 = .ok (.aload_n 0, 1) := by decide +kernel
theorem dX6_setStop_1 : decode cX6_setStop 1 = .ok (.getfield 9, 3) := by decide +kernel
theorem dX6_setStop_4 : decode cX6_setStop 4 = .ok (.iload_n 1, 1) := by decide +kernel
theorem dX6_setStop_5 : decode cX6_setStop 5 = .ok (.iload_n 2, 1) := by decide +kernel
theorem dX6_setStop_6 : decode cX6_setStop 6 = .ok (.iastore, 1) := by decide +kernel
theorem dX6_setStop_7 : decode cX6_setStop 7 = .ok (.aload_n 0, 1) := by decide +kernel
theorem dX6_setStop_8 : decode cX6_setStop 8 = .ok (.getfield 15, 3) := by decide +kernel
theorem dX6_setStop_11 : decode cX6_setStop 11 = .ok (.iload_n 1, 1) := by decide +kernel
theorem dX6_setStop_12 : decode cX6_setStop 12 = .ok (.iload_n 3, 1) := by decide +kernel
theorem dX6_setStop_13 : decode cX6_setStop 13 = .ok (.iastore, 1) := by decide +kernel
theorem dX6_setStop_14 : decode cX6_setStop 14 = .ok (.aload_n 0, 1) := by decide +kernel
theorem dX6_setStop_15 : decode cX6_setStop 15 = .ok (.getfield 18, 3) := by decide +kernel
theorem dX6_setStop_18 : decode cX6_setStop 18 = .ok (.iload_n 1, 1) := by decide +kernel
theorem dX6_setStop_19 : decode cX6_setStop 19 = .ok (.iload 4, 2) := by decide +kernel
theorem dX6_setStop_21 : decode cX6_setStop 21 = .ok (.iastore, 1) := by decide +kernel
theorem dX6_setStop_22 : decode cX6_setStop 22 = .ok (.aload_n 0, 1) := by decide +kernel
theorem dX6_setStop_23 : decode cX6_setStop 23 = .ok (.getfield 21, 3) := by decide +kernel
theorem dX6_setStop_26 : decode cX6_setStop 26 = .ok (.iload_n 1, 1) := by decide +kernel
theorem dX6_setStop_27 : decode cX6_setStop 27 = .ok (.iload 5, 2) := by decide +kernel
theorem dX6_setStop_29 : decode cX6_setStop 29 = .ok (.iastore, 1) := by decide +kernel
theorem dX6_setStop_30 : decode cX6_setStop 30 = .ok (.return_, 1) := by decide +kernel
theorem dX7_init_0 : decode cX7_init 0 = .ok (.aload_n 0, 1) := by decide +kernel
theorem dX7_init_1 : decode cX7_init 1 = .ok (.invokespecial 3, 3) := by decide +kernel
theorem dX7_init_4 : decode cX7_init 4 = .ok (.aload_n 0, 1) := by decide +kernel
theorem dX7_init_5 : decode cX7_init 5 = .ok (.bipush 8, 2) := by decide +kernel
theorem dX7_init_7 : decode cX7_init 7 = .ok (.newarray .int, 2) := by decide +kernel
theorem dX7_init_9 : decode cX7_init 9 = .ok (.putfield 9, 3) := by decide +kernel
theorem dX7_init_12 : decode cX7_init 12 = .ok (.aload_n 0, 1) := by decide +kernel
theorem dX7_init_13 : decode cX7_init 13 = .ok (.iconst (-1), 1) := by decide +kernel
theorem dX7_init_14 : decode cX7_init 14 = .ok (.putfield 15, 3) := by decide +kernel
theorem dX7_init_17 : decode cX7_init 17 = .ok (.return_, 1) := by decide +kernel
theorem dX7_read_0 : decode cX7_read 0 = .ok (.aload_n 2, 1) := by decide +kernel
theorem dX7_read_1 : decode cX7_read 1 = .ok (.invokevirtual 19, 3) := by decide +kernel
theorem dX7_read_4 : decode cX7_read 4 = .ok (.aload_n 0, 1) := by decide +kernel
theorem dX7_read_5 : decode cX7_read 5 = .ok (.iconst 0, 1) := by decide +kernel
theorem dX7_read_6 : decode cX7_read 6 = .ok (.putfield 24, 3) := by decide +kernel
theorem dX7_read_9 : decode cX7_read 9 = .ok (.aload_n 0, 1) := by decide +kernel
theorem dX7_read_10 : decode cX7_read 10 = .ok (.iconst (-1), 1) := by decide +kernel
theorem dX7_read_11 : decode cX7_read 11 = .ok (.putfield 15, 3) := by decide +kernel
theorem dX7_read_14 : decode cX7_read 14 = .ok (.aload_n 0, 1) := by decide +kernel
theorem dX7_read_15 : decode cX7_read 15 = .ok (.iconst 0, 1) := by decide +kernel
theorem dX7_read_16 : decode cX7_read 16 = .ok (.putfield 27, 3) := by decide +kernel
theorem dX7_read_19 : decode cX7_read 19 = .ok (.iconst 0, 1) := by decide +kernel
theorem dX7_read_20 : decode cX7_read 20 = .ok (.istore_n 3, 1) := by decide +kernel
theorem dX7_read_21 : decode cX7_read 21 = .ok (.aload_n 0, 1) := by decide +kernel
theorem dX7_read_22 : decode cX7_read 22 = .ok (.aload_n 1, 1) := by decide +kernel
theorem dX7_read_23 : decode cX7_read 23 = .ok (.invokevirtual 30, 3) := by decide +kernel
theorem dX7_read_26 : decode cX7_read 26 = .ok (.iconst 0, 1) := by decide +kernel
theorem dX7_read_27 : decode cX7_read 27 = .ok (.istore 4, 2) := by decide +kernel
theorem dX7_read_29 : decode cX7_read 29 = .ok (.iload 4, 2) := by decide +kernel
theorem dX7_read_31 : decode cX7_read 31 = .ok (.sipush 600, 3) := by decide +kernel
theorem dX7_read_34 : decode cX7_read 34 = .ok (.if_icmp .gt 35, 3) := by decide +kernel
theorem dX7_read_37 : decode cX7_read 37 = .ok (.aload_n 0, 1) := by decide +kernel
theorem dX7_read_38 : decode cX7_read 38 = .ok (.getfield 34, 3) := by decide +kernel
theorem dX7_read_41 : decode cX7_read 41 = .ok (.ifCond .eq 28, 3) := by decide +kernel
theorem dX7_read_44 : decode cX7_read 44 = .ok (.aload_n 0, 1) := by decide +kernel
theorem dX7_read_45 : decode cX7_read 45 = .ok (.aload_n 1, 1) := by decide +kernel
theorem dX7_read_46 : decode cX7_read 46 = .ok (.aload_n 2, 1) := by decide +kernel
theorem dX7_read_47 : decode cX7_read 47 = .ok (.invokevirtual 37, 3) := by decide +kernel
theorem dX7_read_50 : decode cX7_read 50 = .ok (.ifCond .ne 5, 3) := by decide +kernel
theorem dX7_read_53 : decode cX7_read 53 = .ok (.iconst (-1), 1) := by decide +kernel
theorem dX7_read_54 : decode cX7_read 54 = .ok (.ireturn, 1) := by decide +kernel
theorem dX7_read_55 : decode cX7_read 55 = .ok (.iinc 3 1, 3) := by decide +kernel
theorem dX7_read_58 : decode cX7_read 58 = .ok (.aload_n 0, 1) := by decide +kernel
theorem dX7_read_59 : decode cX7_read 59 = .ok (.aload_n 1, 1) := by decide +kernel
theorem dX7_read_60 : decode cX7_read 60 = .ok (.invokevirtual 30, 3) := by decide +kernel
theorem dX7_read_63 : decode cX7_read 63 = .ok (.iinc 4 1, 3) := by decide +kernel
theorem dX7_read_66 : decode cX7_read 66 = .ok (.goto (-37), 3) := by decide +kernel
theorem dX7_read_69 : decode cX7_read 69 = .ok (.iload_n 3, 1) := by decide +kernel
theorem dX7_read_70 : decode cX7_read 70 = .ok (.ireturn, 1) := by decide +kernel
theorem dX7_readStatement_0 : decode cX7_readStatement 0 = .ok (.aload_n 0, 1) := by decide +kernel
theorem dX7_readStatement_1 : decode cX7_readStatement 1 = .ok (.aload_n 1, 1) := by decide +kernel
theorem dX7_readStatement_2 : decode cX7_readStatement 2 = .ok (.ldc 41, 2) := by decide +kernel
theorem dX7_readStatement_4 : decode cX7_readStatement 4 = .ok (.invokevirtual 43, 3) := by decide +kernel
theorem dX7_readStatement_7 : decode cX7_readStatement 7 = .ok (.ifCond .eq 13, 3) := by decide +kernel
theorem dX7_readStatement_10 : decode cX7_readStatement 10 = .ok (.aload_n 0, 1) := by decide +kernel
theorem dX7_readStatement_11 : decode cX7_readStatement 11 = .ok (.aload_n 1, 1) := by decide +kernel
theorem dX7_readStatement_12 : decode cX7_readStatement 12 = .ok (.aload_n 2, 1) := by decide +kernel
theorem dX7_readStatement_13 : decode cX7_readStatement 13 = .ok (.invokevirtual 47, 3) := by decide +kernel
theorem dX7_readStatement_16 : decode cX7_readStatement 16 = .ok (.istore_n 3, 1) := by decide +kernel
theorem dX7_readStatement_17 : decode cX7_readStatement 17 = .ok (.goto 49, 3) := by decide +kernel
theorem dX7_readStatement_20 : decode cX7_readStatement 20 = .ok (.aload_n 0, 1) := by decide +kernel
theorem dX7_readStatement_21 : decode cX7_readStatement 21 = .ok (.aload_n 1, 1) := by decide +kernel
theorem dX7_readStatement_22 : decode cX7_readStatement 22 = .ok (.ldc 50, 2) := by decide +kernel
theorem dX7_readStatement_24 : decode cX7_readStatement 24 = .ok (.invokevirtual 43, 3) := by decide +kernel
theorem dX7_readStatement_27 : decode cX7_readStatement 27 = .ok (.ifCond .eq 13, 3) := by decide +kernel
theorem dX7_readStatement_30 : decode cX7_readStatement 30 = .ok (.aload_n 0, 1) := by decide +kernel
theorem dX7_readStatement_31 : decode cX7_readStatement 31 = .ok (.aload_n 1, 1) := by decide +kernel
theorem dX7_readStatement_32 : decode cX7_readStatement 32 = .ok (.aload_n 2, 1) := by decide +kernel
theorem dX7_readStatement_33 : decode cX7_readStatement 33 = .ok (.invokevirtual 52, 3) := by decide +kernel
theorem dX7_readStatement_36 : decode cX7_readStatement 36 = .ok (.istore_n 3, 1) := by decide +kernel
theorem dX7_readStatement_37 : decode cX7_readStatement 37 = .ok (.goto 29, 3) := by decide +kernel
theorem dX7_readStatement_40 : decode cX7_readStatement 40 = .ok (.aload_n 0, 1) := by decide +kernel
theorem dX7_readStatement_41 : decode cX7_readStatement 41 = .ok (.aload_n 1, 1) := by decide +kernel
theorem dX7_readStatement_42 : decode cX7_readStatement 42 = .ok (.ldc 55, 2) := by decide +kernel
theorem dX7_readStatement_44 : decode cX7_readStatement 44 = .ok (.invokevirtual 43, 3) := by decide +kernel
theorem dX7_readStatement_47 : decode cX7_readStatement 47 = .ok (.ifCond .eq 13, 3) := by decide +kernel
theorem dX7_readStatement_50 : decode cX7_readStatement 50 = .ok (.aload_n 0, 1) := by decide +kernel
theorem dX7_readStatement_51 : decode cX7_readStatement 51 = .ok (.aload_n 1, 1) := by decide +kernel
theorem dX7_readStatement_52 : decode cX7_readStatement 52 = .ok (.aload_n 2, 1) := by decide +kernel
theorem dX7_readStatement_53 : decode cX7_readStatement 53 = .ok (.invokevirtual 57, 3) := by decide +kernel
theorem dX7_readStatement_56 : decode cX7_readStatement 56 = .ok (.istore_n 3, 1) := by decide +kernel
theorem dX7_readStatement_57 : decode cX7_readStatement 57 = .ok (.goto 9, 3) := by decide +kernel
theorem dX7_readStatement_60 : decode cX7_readStatement 60 = .ok (.aload_n 0, 1) := by decide +kernel
theorem dX7_readStatement_61 : decode cX7_readStatement 61 = .ok (.iconst 1, 1) := by decide +kernel
theorem dX7_readStatement_62 : decode cX7_readStatement 62 = .ok (.invokevirtual 60, 3) := by decide +kernel
theorem dX7_readStatement_65 : decode cX7_readStatement 65 = .ok (.ireturn, 1) := by decide +kernel
theorem dX7_readStatement_66 : decode cX7_readStatement 66 = .ok (.iload_n 3, 1) := by decide +kernel
theorem dX7_readStatement_67 : decode cX7_readStatement 67 = .ok (.ifCond .ne 5, 3) := by decide +kernel
theorem dX7_readStatement_70 : decode cX7_readStatement 70 = .ok (.iconst 0, 1) := by decide +kernel
theorem dX7_readStatement_71 : decode cX7_readStatement 71 = .ok (.ireturn, 1) := by decide +kernel
theorem dX7_readStatement_72 : decode cX7_readStatement 72 = .ok (.aload_n 0, 1) := by decide +kernel
theorem dX7_readStatement_73 : decode cX7_readStatement 73 = .ok (.aload_n 1, 1) := by decide +kernel
theorem dX7_readStatement_74 : decode cX7_readStatement 74 = .ok (.invokevirtual 30, 3) := by decide +kernel
theorem dX7_readStatement_77 : decode cX7_readStatement 77 = .ok (.aload_n 0, 1) := by decide +kernel
theorem dX7_readStatement_78 : decode cX7_readStatement 78 = .ok (.getfield 34, 3) := by decide +kernel
theorem dX7_readStatement_81 : decode cX7_readStatement 81 = .ok (.iconst 3, 1) := by decide +kernel
theorem dX7_readStatement_82 : decode cX7_readStatement 82 = .ok (.if_icmp .eq 11, 3) := by decide +kernel
theorem dX7_readStatement_85 : decode cX7_readStatement 85 = .ok (.aload_n 0, 1) := by decide +kernel
theorem dX7_readStatement_86 : decode cX7_readStatement 86 = .ok (.iconst 1, 1) := by decide +kernel
theorem dX7_readStatement_87 : decode cX7_readStatement 87 = .ok (.invokevirtual 60, 3) := by decide +kernel
theorem dX7_readStatement_90 : decode cX7_readStatement 90 = .ok (.ifCond .eq 7, 3) := by decide +kernel
theorem dX7_readStatement_93 : decode cX7_readStatement 93 = .ok (.iconst 1, 1) := by decide +kernel
theorem dX7_readStatement_94 : decode cX7_readStatement 94 = .ok (.goto 4, 3) := by decide +kernel
theorem dX7_readStatement_97 : decode cX7_readStatement 97 = .ok (.iconst 0, 1) := by decide +kernel
theorem dX7_readStatement_98 : decode cX7_readStatement 98 = .ok (.ireturn, 1) := by decide +kernel
theorem dX7_readDriver_0 : decode cX7_readDriver 0 = .ok (.aload_n 2, 1) := by decide +kernel
theorem dX7_readDriver_1 : decode cX7_readDriver 1 = .ok (.invokevirtual 64, 3) := by decide +kernel
theorem dX7_readDriver_4 : decode cX7_readDriver 4 = .ok (.ifCond .eq 9, 3) := by decide +kernel
theorem dX7_readDriver_7 : decode cX7_readDriver 7 = .ok (.aload_n 0, 1) := by decide +kernel
theorem dX7_readDriver_8 : decode cX7_readDriver 8 = .ok (.iconst 3, 1) := by decide +kernel
theorem dX7_readDriver_9 : decode cX7_readDriver 9 = .ok (.invokevirtual 60, 3) := by decide +kernel
theorem dX7_readDriver_12 : decode cX7_readDriver 12 = .ok (.ireturn, 1) := by decide +kernel
theorem dX7_readDriver_13 : decode cX7_readDriver 13 = .ok (.aload_n 0, 1) := by decide +kernel
theorem dX7_readDriver_14 : decode cX7_readDriver 14 = .ok (.aload_n 1, 1) := by decide +kernel
theorem dX7_readDriver_15 : decode cX7_readDriver 15 = .ok (.getstatic 68, 3) := by decide +kernel
theorem dX7_readDriver_18 : decode cX7_readDriver 18 = .ok (.getstatic 71, 3) := by decide +kernel
theorem dX7_readDriver_21 : decode cX7_readDriver 21 = .ok (.invokevirtual 74, 3) := by decide +kernel
theorem dX7_readDriver_24 : decode cX7_readDriver 24 = .ok (.ifCond .ne 5, 3) := by decide +kernel
theorem dX7_readDriver_27 : decode cX7_readDriver 27 = .ok (.iconst 0, 1) := by decide +kernel
theorem dX7_readDriver_28 : decode cX7_readDriver 28 = .ok (.ireturn, 1) := by decide +kernel
theorem dX7_readDriver_29 : decode cX7_readDriver 29 = .ok (.aload_n 2, 1) := by decide +kernel
theorem dX7_readDriver_30 : decode cX7_readDriver 30 = .ok (.invokevirtual 78, 3) := by decide +kernel
theorem dX7_readDriver_33 : decode cX7_readDriver 33 = .ok (.astore_n 3, 1) := by decide +kernel
theorem dX7_readDriver_34 : decode cX7_readDriver 34 = .ok (.aload_n 3, 1) := by decide +kernel
theorem dX7_readDriver_35 : decode cX7_readDriver 35 = .ok (.aload_n 0, 1) := by decide +kernel
theorem dX7_readDriver_36 : decode cX7_readDriver 36 = .ok (.getfield 9, 3) := by decide +kernel
theorem dX7_readDriver_39 : decode cX7_readDriver 39 = .ok (.iconst 4, 1) := by decide +kernel
theorem dX7_readDriver_40 : decode cX7_readDriver 40 = .ok (.iaload, 1) := by decide +kernel
theorem dX7_readDriver_41 : decode cX7_readDriver 41 = .ok (.aload_n 0, 1) := by decide +kernel
theorem dX7_readDriver_42 : decode cX7_readDriver 42 = .ok (.getfield 9, 3) := by decide +kernel
theorem dX7_readDriver_45 : decode cX7_readDriver 45 = .ok (.iconst 5, 1) := by decide +kernel
theorem dX7_readDriver_46 : decode cX7_readDriver 46 = .ok (.iaload, 1) := by decide +kernel
theorem dX7_readDriver_47 : decode cX7_readDriver 47 = .ok (.aload_n 0, 1) := by decide +kernel
theorem dX7_readDriver_48 : decode cX7_readDriver 48 = .ok (.getfield 9, 3) := by decide +kernel
theorem dX7_readDriver_51 : decode cX7_readDriver 51 = .ok (.bipush 6, 2) := by decide +kernel
theorem dX7_readDriver_53 : decode cX7_readDriver 53 = .ok (.iaload, 1) := by decide +kernel
theorem dX7_readDriver_54 : decode cX7_readDriver 54 = .ok (.aload_n 0, 1) := by decide +kernel
theorem dX7_readDriver_55 : decode cX7_readDriver 55 = .ok (.getfield 9, 3) := by decide +kernel
theorem dX7_readDriver_58 : decode cX7_readDriver 58 = .ok (.bipush 7, 2) := by decide +kernel
theorem dX7_readDriver_60 : decode cX7_readDriver 60 = .ok (.iaload, 1) := by decide +kernel
theorem dX7_readDriver_61 : decode cX7_readDriver 61 = .ok (.invokevirtual 82, 3) := by decide +kernel
theorem dX7_readDriver_64 : decode cX7_readDriver 64 = .ok (.aload_n 3, 1) := by decide +kernel
theorem dX7_readDriver_65 : decode cX7_readDriver 65 = .ok (.getfield 88, 3) := by decide +kernel
theorem dX7_readDriver_68 : decode cX7_readDriver 68 = .ok (.aload_n 0, 1) := by decide +kernel
theorem dX7_readDriver_69 : decode cX7_readDriver 69 = .ok (.getfield 9, 3) := by decide +kernel
theorem dX7_readDriver_72 : decode cX7_readDriver 72 = .ok (.iconst 0, 1) := by decide +kernel
theorem dX7_readDriver_73 : decode cX7_readDriver 73 = .ok (.iaload, 1) := by decide +kernel
theorem dX7_readDriver_74 : decode cX7_readDriver 74 = .ok (.aload_n 0, 1) := by decide +kernel
theorem dX7_readDriver_75 : decode cX7_readDriver 75 = .ok (.getfield 9, 3) := by decide +kernel
theorem dX7_readDriver_78 : decode cX7_readDriver 78 = .ok (.iconst 1, 1) := by decide +kernel
theorem dX7_readDriver_79 : decode cX7_readDriver 79 = .ok (.iaload, 1) := by decide +kernel
theorem dX7_readDriver_80 : decode cX7_readDriver 80 = .ok (.aload_n 0, 1) := by decide +kernel
theorem dX7_readDriver_81 : decode cX7_readDriver 81 = .ok (.getfield 9, 3) := by decide +kernel
theorem dX7_readDriver_84 : decode cX7_readDriver 84 = .ok (.iconst 2, 1) := by decide +kernel
theorem dX7_readDriver_85 : decode cX7_readDriver 85 = .ok (.iaload, 1) := by decide +kernel
theorem dX7_readDriver_86 : decode cX7_readDriver 86 = .ok (.aload_n 0, 1) := by decide +kernel
theorem dX7_readDriver_87 : decode cX7_readDriver 87 = .ok (.getfield 9, 3) := by decide +kernel
theorem dX7_readDriver_90 : decode cX7_readDriver 90 = .ok (.iconst 3, 1) := by decide +kernel
theorem dX7_readDriver_91 : decode cX7_readDriver 91 = .ok (.iaload, 1) := by decide +kernel
theorem dX7_readDriver_92 : decode cX7_readDriver 92 = .ok (.invokevirtual 92, 3) := by decide +kernel
theorem dX7_readDriver_95 : decode cX7_readDriver 95 = .ok (.iconst 1, 1) := by decide +kernel
theorem dX7_readDriver_96 : decode cX7_readDriver 96 = .ok (.ireturn, 1) := by decide +kernel
theorem dX7_readRider_0 : decode cX7_readRider 0 = .ok (.aload_n 2, 1) := by decide +kernel
theorem dX7_readRider_1 : decode cX7_readRider 1 = .ok (.invokevirtual 95, 3) := by decide +kernel
theorem dX7_readRider_4 : decode cX7_readRider 4 = .ok (.ifCond .eq 9, 3) := by decide +kernel
theorem dX7_readRider_7 : decode cX7_readRider 7 = .ok (.aload_n 0, 1) := by decide +kernel
theorem dX7_readRider_8 : decode cX7_readRider 8 = .ok (.iconst 3, 1) := by decide +kernel
theorem dX7_readRider_9 : decode cX7_readRider 9 = .ok (.invokevirtual 60, 3) := by decide +kernel
theorem dX7_readRider_12 : decode cX7_readRider 12 = .ok (.ireturn, 1) := by decide +kernel
theorem dX7_readRider_13 : decode cX7_readRider 13 = .ok (.aload_n 0, 1) := by decide +kernel
theorem dX7_readRider_14 : decode cX7_readRider 14 = .ok (.aload_n 1, 1) := by decide +kernel
theorem dX7_readRider_15 : decode cX7_readRider 15 = .ok (.getstatic 98, 3) := by decide +kernel
theorem dX7_readRider_18 : decode cX7_readRider 18 = .ok (.getstatic 101, 3) := by decide +kernel
theorem dX7_readRider_21 : decode cX7_readRider 21 = .ok (.invokevirtual 74, 3) := by decide +kernel
theorem dX7_readRider_24 : decode cX7_readRider 24 = .ok (.ifCond .ne 5, 3) := by decide +kernel
theorem dX7_readRider_27 : decode cX7_readRider 27 = .ok (.iconst 0, 1) := by decide +kernel
theorem dX7_readRider_28 : decode cX7_readRider 28 = .ok (.ireturn, 1) := by decide +kernel
theorem dX7_readRider_29 : decode cX7_readRider 29 = .ok (.aload_n 2, 1) := by decide +kernel
theorem dX7_readRider_30 : decode cX7_readRider 30 = .ok (.invokevirtual 104, 3) := by decide +kernel
theorem dX7_readRider_33 : decode cX7_readRider 33 = .ok (.astore_n 3, 1) := by decide +kernel
theorem dX7_readRider_34 : decode cX7_readRider 34 = .ok (.aload_n 3, 1) := by decide +kernel
theorem dX7_readRider_35 : decode cX7_readRider 35 = .ok (.aload_n 0, 1) := by decide +kernel
theorem dX7_readRider_36 : decode cX7_readRider 36 = .ok (.getfield 9, 3) := by decide +kernel
theorem dX7_readRider_39 : decode cX7_readRider 39 = .ok (.iconst 4, 1) := by decide +kernel
theorem dX7_readRider_40 : decode cX7_readRider 40 = .ok (.iaload, 1) := by decide +kernel
theorem dX7_readRider_41 : decode cX7_readRider 41 = .ok (.aload_n 0, 1) := by decide +kernel
theorem dX7_readRider_42 : decode cX7_readRider 42 = .ok (.getfield 9, 3) := by decide +kernel
theorem dX7_readRider_45 : decode cX7_readRider 45 = .ok (.iconst 5, 1) := by decide +kernel
theorem dX7_readRider_46 : decode cX7_readRider 46 = .ok (.iaload, 1) := by decide +kernel
theorem dX7_readRider_47 : decode cX7_readRider 47 = .ok (.invokevirtual 108, 3) := by decide +kernel
theorem dX7_readRider_50 : decode cX7_readRider 50 = .ok (.aload_n 3, 1) := by decide +kernel
theorem dX7_readRider_51 : decode cX7_readRider 51 = .ok (.aload_n 0, 1) := by decide +kernel
theorem dX7_readRider_52 : decode cX7_readRider 52 = .ok (.getfield 9, 3) := by decide +kernel
theorem dX7_readRider_55 : decode cX7_readRider 55 = .ok (.iconst 0, 1) := by decide +kernel
theorem dX7_readRider_56 : decode cX7_readRider 56 = .ok (.iaload, 1) := by decide +kernel
theorem dX7_readRider_57 : decode cX7_readRider 57 = .ok (.aload_n 0, 1) := by decide +kernel
theorem dX7_readRider_58 : decode cX7_readRider 58 = .ok (.getfield 9, 3) := by decide +kernel
theorem dX7_readRider_61 : decode cX7_readRider 61 = .ok (.iconst 1, 1) := by decide +kernel
theorem dX7_readRider_62 : decode cX7_readRider 62 = .ok (.iaload, 1) := by decide +kernel
theorem dX7_readRider_63 : decode cX7_readRider 63 = .ok (.aload_n 0, 1) := by decide +kernel
theorem dX7_readRider_64 : decode cX7_readRider 64 = .ok (.getfield 9, 3) := by decide +kernel
theorem dX7_readRider_67 : decode cX7_readRider 67 = .ok (.iconst 2, 1) := by decide +kernel
theorem dX7_readRider_68 : decode cX7_readRider 68 = .ok (.iaload, 1) := by decide +kernel
theorem dX7_readRider_69 : decode cX7_readRider 69 = .ok (.aload_n 0, 1) := by decide +kernel
theorem dX7_readRider_70 : decode cX7_readRider 70 = .ok (.getfield 9, 3) := by decide +kernel
theorem dX7_readRider_73 : decode cX7_readRider 73 = .ok (.iconst 3, 1) := by decide +kernel
theorem dX7_readRider_74 : decode cX7_readRider 74 = .ok (.iaload, 1) := by decide +kernel
theorem dX7_readRider_75 : decode cX7_readRider 75 = .ok (.invokevirtual 113, 3) := by decide +kernel
theorem dX7_readRider_78 : decode cX7_readRider 78 = .ok (.iconst 1, 1) := by decide +kernel
theorem dX7_readRider_79 : decode cX7_readRider 79 = .ok (.ireturn, 1) := by decide +kernel
theorem dX7_readPenalty_0 : decode cX7_readPenalty 0 = .ok (.aload_n 0, 1) := by decide +kernel
theorem dX7_readPenalty_1 : decode cX7_readPenalty 1 = .ok (.aload_n 1, 1) := by decide +kernel
theorem dX7_readPenalty_2 : decode cX7_readPenalty 2 = .ok (.getstatic 116, 3) := by decide +kernel
theorem dX7_readPenalty_5 : decode cX7_readPenalty 5 = .ok (.getstatic 119, 3) := by decide +kernel
theorem dX7_readPenalty_8 : decode cX7_readPenalty 8 = .ok (.invokevirtual 74, 3) := by decide +kernel
theorem dX7_readPenalty_11 : decode cX7_readPenalty 11 = .ok (.ifCond .ne 5, 3) := by decide +kernel
theorem dX7_readPenalty_14 : decode cX7_readPenalty 14 = .ok (.iconst 0, 1) := by decide +kernel
theorem dX7_readPenalty_15 : decode cX7_readPenalty 15 = .ok (.ireturn, 1) := by decide +kernel
theorem dX7_readPenalty_16 : decode cX7_readPenalty 16 = .ok (.aload_n 2, 1) := by decide +kernel
theorem dX7_readPenalty_17 : decode cX7_readPenalty 17 = .ok (.aload_n 0, 1) := by decide +kernel
theorem dX7_readPenalty_18 : decode cX7_readPenalty 18 = .ok (.getfield 9, 3) := by decide +kernel
theorem dX7_readPenalty_21 : decode cX7_readPenalty 21 = .ok (.iconst 0, 1) := by decide +kernel
theorem dX7_readPenalty_22 : decode cX7_readPenalty 22 = .ok (.iaload, 1) := by decide +kernel
theorem dX7_readPenalty_23 : decode cX7_readPenalty 23 = .ok (.putfield 122, 3) := by decide +kernel
theorem dX7_readPenalty_26 : decode cX7_readPenalty 26 = .ok (.iconst 1, 1) := by decide +kernel
theorem dX7_readPenalty_27 : decode cX7_readPenalty 27 = .ok (.ireturn, 1) := by decide +kernel
theorem dX7_readNumbers_0 : decode cX7_readNumbers 0 = .ok (.iconst 0, 1) := by decide +kernel
theorem dX7_readNumbers_1 : decode cX7_readNumbers 1 = .ok (.istore 4, 2) := by decide +kernel
theorem dX7_readNumbers_3 : decode cX7_readNumbers 3 = .ok (.iload 4, 2) := by decide +kernel
theorem dX7_readNumbers_5 : decode cX7_readNumbers 5 = .ok (.aload_n 2, 1) := by decide +kernel
theorem dX7_readNumbers_6 : decode cX7_readNumbers 6 = .ok (.arraylength, 1) := by decide +kernel
theorem dX7_readNumbers_7 : decode cX7_readNumbers 7 = .ok (.if_icmp .ge 80, 3) := by decide +kernel
theorem dX7_readNumbers_10 : decode cX7_readNumbers 10 = .ok (.iload 4, 2) := by decide +kernel
theorem dX7_readNumbers_12 : decode cX7_readNumbers 12 = .ok (.aload_n 3, 1) := by decide +kernel
theorem dX7_readNumbers_13 : decode cX7_readNumbers 13 = .ok (.arraylength, 1) := by decide +kernel
theorem dX7_readNumbers_14 : decode cX7_readNumbers 14 = .ok (.if_icmp .ge 73, 3) := by decide +kernel
theorem dX7_readNumbers_17 : decode cX7_readNumbers 17 = .ok (.iload 4, 2) := by decide +kernel
theorem dX7_readNumbers_19 : decode cX7_readNumbers 19 = .ok (.aload_n 0, 1) := by decide +kernel
theorem dX7_readNumbers_20 : decode cX7_readNumbers 20 = .ok (.getfield 9, 3) := by decide +kernel
theorem dX7_readNumbers_23 : decode cX7_readNumbers 23 = .ok (.arraylength, 1) := by decide +kernel
theorem dX7_readNumbers_24 : decode cX7_readNumbers 24 = .ok (.if_icmp .ge 63, 3) := by decide +kernel
theorem dX7_readNumbers_27 : decode cX7_readNumbers 27 = .ok (.aload_n 0, 1) := by decide +kernel
theorem dX7_readNumbers_28 : decode cX7_readNumbers 28 = .ok (.aload_n 1, 1) := by decide +kernel
theorem dX7_readNumbers_29 : decode cX7_readNumbers 29 = .ok (.invokevirtual 30, 3) := by decide +kernel
theorem dX7_readNumbers_32 : decode cX7_readNumbers 32 = .ok (.aload_n 0, 1) := by decide +kernel
theorem dX7_readNumbers_33 : decode cX7_readNumbers 33 = .ok (.getfield 34, 3) := by decide +kernel
theorem dX7_readNumbers_36 : decode cX7_readNumbers 36 = .ok (.iconst 2, 1) := by decide +kernel
theorem dX7_readNumbers_37 : decode cX7_readNumbers 37 = .ok (.if_icmp .eq 9, 3) := by decide +kernel
theorem dX7_readNumbers_40 : decode cX7_readNumbers 40 = .ok (.aload_n 0, 1) := by decide +kernel
theorem dX7_readNumbers_41 : decode cX7_readNumbers 41 = .ok (.iconst 1, 1) := by decide +kernel
theorem dX7_readNumbers_42 : decode cX7_readNumbers 42 = .ok (.invokevirtual 60, 3) := by decide +kernel
theorem dX7_readNumbers_45 : decode cX7_readNumbers 45 = .ok (.ireturn, 1) := by decide +kernel
theorem dX7_readNumbers_46 : decode cX7_readNumbers 46 = .ok (.aload_n 0, 1) := by decide +kernel
theorem dX7_readNumbers_47 : decode cX7_readNumbers 47 = .ok (.getfield 124, 3) := by decide +kernel
theorem dX7_readNumbers_50 : decode cX7_readNumbers 50 = .ok (.aload_n 2, 1) := by decide +kernel
theorem dX7_readNumbers_51 : decode cX7_readNumbers 51 = .ok (.iload 4, 2) := by decide +kernel
theorem dX7_readNumbers_53 : decode cX7_readNumbers 53 = .ok (.iaload, 1) := by decide +kernel
theorem dX7_readNumbers_54 : decode cX7_readNumbers 54 = .ok (.aload_n 3, 1) := by decide +kernel
theorem dX7_readNumbers_55 : decode cX7_readNumbers 55 = .ok (.iload 4, 2) := by decide +kernel
theorem dX7_readNumbers_57 : decode cX7_readNumbers 57 = .ok (.iaload, 1) := by decide +kernel
theorem dX7_readNumbers_58 : decode cX7_readNumbers 58 = .ok (.invokestatic 127, 3) := by decide +kernel
theorem dX7_readNumbers_61 : decode cX7_readNumbers 61 = .ok (.ifCond .ne 9, 3) := by decide +kernel
theorem dX7_readNumbers_64 : decode cX7_readNumbers 64 = .ok (.aload_n 0, 1) := by decide +kernel
theorem dX7_readNumbers_65 : decode cX7_readNumbers 65 = .ok (.iconst 2, 1) := by decide +kernel
theorem dX7_readNumbers_66 : decode cX7_readNumbers 66 = .ok (.invokevirtual 60, 3) := by decide +kernel
theorem dX7_readNumbers_69 : decode cX7_readNumbers 69 = .ok (.ireturn, 1) := by decide +kernel
theorem dX7_readNumbers_70 : decode cX7_readNumbers 70 = .ok (.aload_n 0, 1) := by decide +kernel
theorem dX7_readNumbers_71 : decode cX7_readNumbers 71 = .ok (.getfield 9, 3) := by decide +kernel
theorem dX7_readNumbers_74 : decode cX7_readNumbers 74 = .ok (.iload 4, 2) := by decide +kernel
theorem dX7_readNumbers_76 : decode cX7_readNumbers 76 = .ok (.aload_n 0, 1) := by decide +kernel
theorem dX7_readNumbers_77 : decode cX7_readNumbers 77 = .ok (.getfield 124, 3) := by decide +kernel
theorem dX7_readNumbers_80 : decode cX7_readNumbers 80 = .ok (.iastore, 1) := by decide +kernel
theorem dX7_readNumbers_81 : decode cX7_readNumbers 81 = .ok (.iinc 4 1, 3) := by decide +kernel
theorem dX7_readNumbers_84 : decode cX7_readNumbers 84 = .ok (.goto (-81), 3) := by decide +kernel
theorem dX7_readNumbers_87 : decode cX7_readNumbers 87 = .ok (.iconst 1, 1) := by decide +kernel
theorem dX7_readNumbers_88 : decode cX7_readNumbers 88 = .ok (.ireturn, 1) := by decide +kernel
theorem dX7_isWord_0 : decode cX7_isWord 0 = .ok (.aload_n 0, 1) := by decide +kernel
theorem dX7_isWord_1 : decode cX7_isWord 1 = .ok (.getfield 34, 3) := by decide +kernel
theorem dX7_isWord_4 : decode cX7_isWord 4 = .ok (.iconst 1, 1) := by decide +kernel
theorem dX7_isWord_5 : decode cX7_isWord 5 = .ok (.if_icmp .ne 19, 3) := by decide +kernel
theorem dX7_isWord_8 : decode cX7_isWord 8 = .ok (.aload_n 0, 1) := by decide +kernel
theorem dX7_isWord_9 : decode cX7_isWord 9 = .ok (.getfield 27, 3) := by decide +kernel
theorem dX7_isWord_12 : decode cX7_isWord 12 = .ok (.aload_n 0, 1) := by decide +kernel
theorem dX7_isWord_13 : decode cX7_isWord 13 = .ok (.getfield 131, 3) := by decide +kernel
theorem dX7_isWord_16 : decode cX7_isWord 16 = .ok (.isub, 1) := by decide +kernel
theorem dX7_isWord_17 : decode cX7_isWord 17 = .ok (.aload_n 2, 1) := by decide +kernel
theorem dX7_isWord_18 : decode cX7_isWord 18 = .ok (.invokevirtual 134, 3) := by decide +kernel
theorem dX7_isWord_21 : decode cX7_isWord 21 = .ok (.if_icmp .eq 5, 3) := by decide +kernel
theorem dX7_isWord_24 : decode cX7_isWord 24 = .ok (.iconst 0, 1) := by decide +kernel
theorem dX7_isWord_25 : decode cX7_isWord 25 = .ok (.ireturn, 1) := by decide +kernel
theorem dX7_isWord_26 : decode cX7_isWord 26 = .ok (.iconst 0, 1) := by decide +kernel
theorem dX7_isWord_27 : decode cX7_isWord 27 = .ok (.istore_n 3, 1) := by decide +kernel
theorem dX7_isWord_28 : decode cX7_isWord 28 = .ok (.iload_n 3, 1) := by decide +kernel
theorem dX7_isWord_29 : decode cX7_isWord 29 = .ok (.aload_n 2, 1) := by decide +kernel
theorem dX7_isWord_30 : decode cX7_isWord 30 = .ok (.invokevirtual 134, 3) := by decide +kernel
theorem dX7_isWord_33 : decode cX7_isWord 33 = .ok (.if_icmp .ge 29, 3) := by decide +kernel
theorem dX7_isWord_36 : decode cX7_isWord 36 = .ok (.aload_n 1, 1) := by decide +kernel
theorem dX7_isWord_37 : decode cX7_isWord 37 = .ok (.aload_n 0, 1) := by decide +kernel
theorem dX7_isWord_38 : decode cX7_isWord 38 = .ok (.getfield 131, 3) := by decide +kernel
theorem dX7_isWord_41 : decode cX7_isWord 41 = .ok (.iload_n 3, 1) := by decide +kernel
theorem dX7_isWord_42 : decode cX7_isWord 42 = .ok (.iadd, 1) := by decide +kernel
theorem dX7_isWord_43 : decode cX7_isWord 43 = .ok (.invokevirtual 140, 3) := by decide +kernel
theorem dX7_isWord_46 : decode cX7_isWord 46 = .ok (.aload_n 2, 1) := by decide +kernel
theorem dX7_isWord_47 : decode cX7_isWord 47 = .ok (.iload_n 3, 1) := by decide +kernel
theorem dX7_isWord_48 : decode cX7_isWord 48 = .ok (.invokevirtual 146, 3) := by decide +kernel
theorem dX7_isWord_51 : decode cX7_isWord 51 = .ok (.if_icmp .eq 5, 3) := by decide +kernel
theorem dX7_isWord_54 : decode cX7_isWord 54 = .ok (.iconst 0, 1) := by decide +kernel
theorem dX7_isWord_55 : decode cX7_isWord 55 = .ok (.ireturn, 1) := by decide +kernel
theorem dX7_isWord_56 : decode cX7_isWord 56 = .ok (.iinc 3 1, 3) := by decide +kernel
theorem dX7_isWord_59 : decode cX7_isWord 59 = .ok (.goto (-31), 3) := by decide +kernel
theorem dX7_isWord_62 : decode cX7_isWord 62 = .ok (.iconst 1, 1) := by decide +kernel
theorem dX7_isWord_63 : decode cX7_isWord 63 = .ok (.ireturn, 1) := by decide +kernel
theorem dX7_fail_0 : decode cX7_fail 0 = .ok (.aload_n 0, 1) := by decide +kernel
theorem dX7_fail_1 : decode cX7_fail 1 = .ok (.iload_n 1, 1) := by decide +kernel
theorem dX7_fail_2 : decode cX7_fail 2 = .ok (.putfield 24, 3) := by decide +kernel
theorem dX7_fail_5 : decode cX7_fail 5 = .ok (.aload_n 0, 1) := by decide +kernel
theorem dX7_fail_6 : decode cX7_fail 6 = .ok (.aload_n 0, 1) := by decide +kernel
theorem dX7_fail_7 : decode cX7_fail 7 = .ok (.getfield 131, 3) := by decide +kernel
theorem dX7_fail_10 : decode cX7_fail 10 = .ok (.putfield 15, 3) := by decide +kernel
theorem dX7_fail_13 : decode cX7_fail 13 = .ok (.iconst 0, 1) := by decide +kernel
theorem dX7_fail_14 : decode cX7_fail 14 = .ok (.ireturn, 1) := by decide +kernel
theorem dX7_nextToken_0 : decode cX7_nextToken 0 = .ok (.aload_n 0, 1) := by decide +kernel
theorem dX7_nextToken_1 : decode cX7_nextToken 1 = .ok (.aload_n 0, 1) := by decide +kernel
theorem dX7_nextToken_2 : decode cX7_nextToken 2 = .ok (.getfield 27, 3) := by decide +kernel
theorem dX7_nextToken_5 : decode cX7_nextToken 5 = .ok (.putfield 131, 3) := by decide +kernel
theorem dX7_nextToken_8 : decode cX7_nextToken 8 = .ok (.aload_n 0, 1) := by decide +kernel
theorem dX7_nextToken_9 : decode cX7_nextToken 9 = .ok (.getfield 131, 3) := by decide +kernel
theorem dX7_nextToken_12 : decode cX7_nextToken 12 = .ok (.aload_n 1, 1) := by decide +kernel
theorem dX7_nextToken_13 : decode cX7_nextToken 13 = .ok (.getfield 150, 3) := by decide +kernel
theorem dX7_nextToken_16 : decode cX7_nextToken 16 = .ok (.if_icmp .ge 30, 3) := by decide +kernel
theorem dX7_nextToken_19 : decode cX7_nextToken 19 = .ok (.aload_n 1, 1) := by decide +kernel
theorem dX7_nextToken_20 : decode cX7_nextToken 20 = .ok (.aload_n 0, 1) := by decide +kernel
theorem dX7_nextToken_21 : decode cX7_nextToken 21 = .ok (.getfield 131, 3) := by decide +kernel
theorem dX7_nextToken_24 : decode cX7_nextToken 24 = .ok (.invokevirtual 140, 3) := by decide +kernel
theorem dX7_nextToken_27 : decode cX7_nextToken 27 = .ok (.invokestatic 152, 3) := by decide +kernel
theorem dX7_nextToken_30 : decode cX7_nextToken 30 = .ok (.ifCond .eq 16, 3) := by decide +kernel
theorem dX7_nextToken_33 : decode cX7_nextToken 33 = .ok (.aload_n 0, 1) := by decide +kernel
theorem dX7_nextToken_34 : decode cX7_nextToken 34 = .ok (.dup, 1) := by decide +kernel
theorem dX7_nextToken_35 : decode cX7_nextToken 35 = .ok (.getfield 131, 3) := by decide +kernel
theorem dX7_nextToken_38 : decode cX7_nextToken 38 = .ok (.iconst 1, 1) := by decide +kernel
theorem dX7_nextToken_39 : decode cX7_nextToken 39 = .ok (.iadd, 1) := by decide +kernel
theorem dX7_nextToken_40 : decode cX7_nextToken 40 = .ok (.putfield 131, 3) := by decide +kernel
theorem dX7_nextToken_43 : decode cX7_nextToken 43 = .ok (.goto (-35), 3) := by decide +kernel
theorem dX7_nextToken_46 : decode cX7_nextToken 46 = .ok (.aload_n 1, 1) := by decide +kernel
theorem dX7_nextToken_47 : decode cX7_nextToken 47 = .ok (.aload_n 0, 1) := by decide +kernel
theorem dX7_nextToken_48 : decode cX7_nextToken 48 = .ok (.getfield 131, 3) := by decide +kernel
theorem dX7_nextToken_51 : decode cX7_nextToken 51 = .ok (.invokevirtual 140, 3) := by decide +kernel
theorem dX7_nextToken_54 : decode cX7_nextToken 54 = .ok (.istore_n 2, 1) := by decide +kernel
theorem dX7_nextToken_55 : decode cX7_nextToken 55 = .ok (.aload_n 0, 1) := by decide +kernel
theorem dX7_nextToken_56 : decode cX7_nextToken 56 = .ok (.aload_n 0, 1) := by decide +kernel
theorem dX7_nextToken_57 : decode cX7_nextToken 57 = .ok (.getfield 131, 3) := by decide +kernel
theorem dX7_nextToken_60 : decode cX7_nextToken 60 = .ok (.putfield 27, 3) := by decide +kernel
theorem dX7_nextToken_63 : decode cX7_nextToken 63 = .ok (.iload_n 2, 1) := by decide +kernel
theorem dX7_nextToken_64 : decode cX7_nextToken 64 = .ok (.iconst (-1), 1) := by decide +kernel
theorem dX7_nextToken_65 : decode cX7_nextToken 65 = .ok (.if_icmp .ne 11, 3) := by decide +kernel
theorem dX7_nextToken_68 : decode cX7_nextToken 68 = .ok (.aload_n 0, 1) := by decide +kernel
theorem dX7_nextToken_69 : decode cX7_nextToken 69 = .ok (.iconst 0, 1) := by decide +kernel
theorem dX7_nextToken_70 : decode cX7_nextToken 70 = .ok (.putfield 34, 3) := by decide +kernel
theorem dX7_nextToken_73 : decode cX7_nextToken 73 = .ok (.goto 58, 3) := by decide +kernel
theorem dX7_nextToken_76 : decode cX7_nextToken 76 = .ok (.iload_n 2, 1) := by decide +kernel
theorem dX7_nextToken_77 : decode cX7_nextToken 77 = .ok (.invokestatic 155, 3) := by decide +kernel
theorem dX7_nextToken_80 : decode cX7_nextToken 80 = .ok (.ifCond .eq 11, 3) := by decide +kernel
theorem dX7_nextToken_83 : decode cX7_nextToken 83 = .ok (.aload_n 0, 1) := by decide +kernel
theorem dX7_nextToken_84 : decode cX7_nextToken 84 = .ok (.aload_n 1, 1) := by decide +kernel
theorem dX7_nextToken_85 : decode cX7_nextToken 85 = .ok (.invokevirtual 158, 3) := by decide +kernel
theorem dX7_nextToken_88 : decode cX7_nextToken 88 = .ok (.goto 43, 3) := by decide +kernel
theorem dX7_nextToken_91 : decode cX7_nextToken 91 = .ok (.iload_n 2, 1) := by decide +kernel
theorem dX7_nextToken_92 : decode cX7_nextToken 92 = .ok (.invokestatic 161, 3) := by decide +kernel
theorem dX7_nextToken_95 : decode cX7_nextToken 95 = .ok (.ifCond .eq 11, 3) := by decide +kernel
theorem dX7_nextToken_98 : decode cX7_nextToken 98 = .ok (.aload_n 0, 1) := by decide +kernel
theorem dX7_nextToken_99 : decode cX7_nextToken 99 = .ok (.aload_n 1, 1) := by decide +kernel
theorem dX7_nextToken_100 : decode cX7_nextToken 100 = .ok (.invokevirtual 164, 3) := by decide +kernel
theorem dX7_nextToken_103 : decode cX7_nextToken 103 = .ok (.goto 28, 3) := by decide +kernel
theorem dX7_nextToken_106 : decode cX7_nextToken 106 = .ok (.aload_n 0, 1) := by decide +kernel
theorem dX7_nextToken_107 : decode cX7_nextToken 107 = .ok (.iload_n 2, 1) := by decide +kernel
theorem dX7_nextToken_108 : decode cX7_nextToken 108 = .ok (.bipush 59, 2) := by decide +kernel
theorem dX7_nextToken_110 : decode cX7_nextToken 110 = .ok (.if_icmp .ne 7, 3) := by decide +kernel
theorem dX7_nextToken_113 : decode cX7_nextToken 113 = .ok (.iconst 3, 1) := by decide +kernel
theorem dX7_nextToken_114 : decode cX7_nextToken 114 = .ok (.goto 4, 3) := by decide +kernel
theorem dX7_nextToken_117 : decode cX7_nextToken 117 = .ok (.iconst 4, 1) := by decide +kernel
theorem dX7_nextToken_118 : decode cX7_nextToken 118 = .ok (.putfield 34, 3) := by decide +kernel
theorem dX7_nextToken_121 : decode cX7_nextToken 121 = .ok (.aload_n 0, 1) := by decide +kernel
theorem dX7_nextToken_122 : decode cX7_nextToken 122 = .ok (.dup, 1) := by decide +kernel
theorem dX7_nextToken_123 : decode cX7_nextToken 123 = .ok (.getfield 27, 3) := by decide +kernel
theorem dX7_nextToken_126 : decode cX7_nextToken 126 = .ok (.iconst 1, 1) := by decide +kernel
theorem dX7_nextToken_127 : decode cX7_nextToken 127 = .ok (.iadd, 1) := by decide +kernel
theorem dX7_nextToken_128 : decode cX7_nextToken 128 = .ok (.putfield 27, 3) := by decide +kernel
theorem dX7_nextToken_131 : decode cX7_nextToken 131 = .ok (.return_, 1) := by decide +kernel
theorem dX7_readWord_0 : decode cX7_readWord 0 = .ok (.aload_n 0, 1) := by decide +kernel
theorem dX7_readWord_1 : decode cX7_readWord 1 = .ok (.iconst 1, 1) := by decide +kernel
theorem dX7_readWord_2 : decode cX7_readWord 2 = .ok (.putfield 34, 3) := by decide +kernel
theorem dX7_readWord_5 : decode cX7_readWord 5 = .ok (.aload_n 0, 1) := by decide +kernel
theorem dX7_readWord_6 : decode cX7_readWord 6 = .ok (.getfield 27, 3) := by decide +kernel
theorem dX7_readWord_9 : decode cX7_readWord 9 = .ok (.aload_n 1, 1) := by decide +kernel
theorem dX7_readWord_10 : decode cX7_readWord 10 = .ok (.getfield 150, 3) := by decide +kernel
theorem dX7_readWord_13 : decode cX7_readWord 13 = .ok (.if_icmp .ge 30, 3) := by decide +kernel
theorem dX7_readWord_16 : decode cX7_readWord 16 = .ok (.aload_n 1, 1) := by decide +kernel
theorem dX7_readWord_17 : decode cX7_readWord 17 = .ok (.aload_n 0, 1) := by decide +kernel
theorem dX7_readWord_18 : decode cX7_readWord 18 = .ok (.getfield 27, 3) := by decide +kernel
theorem dX7_readWord_21 : decode cX7_readWord 21 = .ok (.invokevirtual 140, 3) := by decide +kernel
theorem dX7_readWord_24 : decode cX7_readWord 24 = .ok (.invokestatic 155, 3) := by decide +kernel
theorem dX7_readWord_27 : decode cX7_readWord 27 = .ok (.ifCond .eq 16, 3) := by decide +kernel
theorem dX7_readWord_30 : decode cX7_readWord 30 = .ok (.aload_n 0, 1) := by decide +kernel
theorem dX7_readWord_31 : decode cX7_readWord 31 = .ok (.dup, 1) := by decide +kernel
theorem dX7_readWord_32 : decode cX7_readWord 32 = .ok (.getfield 27, 3) := by decide +kernel
theorem dX7_readWord_35 : decode cX7_readWord 35 = .ok (.iconst 1, 1) := by decide +kernel
theorem dX7_readWord_36 : decode cX7_readWord 36 = .ok (.iadd, 1) := by decide +kernel
theorem dX7_readWord_37 : decode cX7_readWord 37 = .ok (.putfield 27, 3) := by decide +kernel
theorem dX7_readWord_40 : decode cX7_readWord 40 = .ok (.goto (-35), 3) := by decide +kernel
theorem dX7_readWord_43 : decode cX7_readWord 43 = .ok (.return_, 1) := by decide +kernel
theorem dX7_readNumber_0 : decode cX7_readNumber 0 = .ok (.aload_n 0, 1) := by decide +kernel
theorem dX7_readNumber_1 : decode cX7_readNumber 1 = .ok (.iconst 2, 1) := by decide +kernel
theorem dX7_readNumber_2 : decode cX7_readNumber 2 = .ok (.putfield 34, 3) := by decide +kernel
theorem dX7_readNumber_5 : decode cX7_readNumber 5 = .ok (.aload_n 0, 1) := by decide +kernel
theorem dX7_readNumber_6 : decode cX7_readNumber 6 = .ok (.iconst 0, 1) := by decide +kernel
theorem dX7_readNumber_7 : decode cX7_readNumber 7 = .ok (.putfield 124, 3) := by decide +kernel
theorem dX7_readNumber_10 : decode cX7_readNumber 10 = .ok (.aload_n 0, 1) := by decide +kernel
theorem dX7_readNumber_11 : decode cX7_readNumber 11 = .ok (.getfield 27, 3) := by decide +kernel
theorem dX7_readNumber_14 : decode cX7_readNumber 14 = .ok (.aload_n 1, 1) := by decide +kernel
theorem dX7_readNumber_15 : decode cX7_readNumber 15 = .ok (.getfield 150, 3) := by decide +kernel
theorem dX7_readNumber_18 : decode cX7_readNumber 18 = .ok (.if_icmp .ge 59, 3) := by decide +kernel
theorem dX7_readNumber_21 : decode cX7_readNumber 21 = .ok (.aload_n 1, 1) := by decide +kernel
theorem dX7_readNumber_22 : decode cX7_readNumber 22 = .ok (.aload_n 0, 1) := by decide +kernel
theorem dX7_readNumber_23 : decode cX7_readNumber 23 = .ok (.getfield 27, 3) := by decide +kernel
theorem dX7_readNumber_26 : decode cX7_readNumber 26 = .ok (.invokevirtual 140, 3) := by decide +kernel
theorem dX7_readNumber_29 : decode cX7_readNumber 29 = .ok (.invokestatic 161, 3) := by decide +kernel
theorem dX7_readNumber_32 : decode cX7_readNumber 32 = .ok (.ifCond .eq 45, 3) := by decide +kernel
theorem dX7_readNumber_35 : decode cX7_readNumber 35 = .ok (.aload_n 0, 1) := by decide +kernel
theorem dX7_readNumber_36 : decode cX7_readNumber 36 = .ok (.aload_n 0, 1) := by decide +kernel
theorem dX7_readNumber_37 : decode cX7_readNumber 37 = .ok (.getfield 124, 3) := by decide +kernel
theorem dX7_readNumber_40 : decode cX7_readNumber 40 = .ok (.bipush 10, 2) := by decide +kernel
theorem dX7_readNumber_42 : decode cX7_readNumber 42 = .ok (.imul, 1) := by decide +kernel
theorem dX7_readNumber_43 : decode cX7_readNumber 43 = .ok (.aload_n 1, 1) := by decide +kernel
theorem dX7_readNumber_44 : decode cX7_readNumber 44 = .ok (.aload_n 0, 1) := by decide +kernel
theorem dX7_readNumber_45 : decode cX7_readNumber 45 = .ok (.getfield 27, 3) := by decide +kernel
theorem dX7_readNumber_48 : decode cX7_readNumber 48 = .ok (.invokevirtual 140, 3) := by decide +kernel
theorem dX7_readNumber_51 : decode cX7_readNumber 51 = .ok (.iadd, 1) := by decide +kernel
theorem dX7_readNumber_52 : decode cX7_readNumber 52 = .ok (.bipush 48, 2) := by decide +kernel
theorem dX7_readNumber_54 : decode cX7_readNumber 54 = .ok (.isub, 1) := by decide +kernel
theorem dX7_readNumber_55 : decode cX7_readNumber 55 = .ok (.sipush 10000, 3) := by decide +kernel
theorem dX7_readNumber_58 : decode cX7_readNumber 58 = .ok (.invokestatic 167, 3) := by decide +kernel
theorem dX7_readNumber_61 : decode cX7_readNumber 61 = .ok (.putfield 124, 3) := by decide +kernel
theorem dX7_readNumber_64 : decode cX7_readNumber 64 = .ok (.aload_n 0, 1) := by decide +kernel
theorem dX7_readNumber_65 : decode cX7_readNumber 65 = .ok (.dup, 1) := by decide +kernel
theorem dX7_readNumber_66 : decode cX7_readNumber 66 = .ok (.getfield 27, 3) := by decide +kernel
theorem dX7_readNumber_69 : decode cX7_readNumber 69 = .ok (.iconst 1, 1) := by decide +kernel
theorem dX7_readNumber_70 : decode cX7_readNumber 70 = .ok (.iadd, 1) := by decide +kernel
theorem dX7_readNumber_71 : decode cX7_readNumber 71 = .ok (.putfield 27, 3) := by decide +kernel
theorem dX7_readNumber_74 : decode cX7_readNumber 74 = .ok (.goto (-64), 3) := by decide +kernel
theorem dX7_readNumber_77 : decode cX7_readNumber 77 = .ok (.return_, 1) := by decide +kernel
theorem dX7_isBlank_0 : decode cX7_isBlank 0 = .ok (.iload_n 0, 1) := by decide +kernel
theorem dX7_isBlank_1 : decode cX7_isBlank 1 = .ok (.bipush 32, 2) := by decide +kernel
theorem dX7_isBlank_3 : decode cX7_isBlank 3 = .ok (.if_icmp .eq 9, 3) := by decide +kernel
theorem dX7_isBlank_6 : decode cX7_isBlank 6 = .ok (.iload_n 0, 1) := by decide +kernel
theorem dX7_isBlank_7 : decode cX7_isBlank 7 = .ok (.bipush 10, 2) := by decide +kernel
theorem dX7_isBlank_9 : decode cX7_isBlank 9 = .ok (.if_icmp .ne 7, 3) := by decide +kernel
theorem dX7_isBlank_12 : decode cX7_isBlank 12 = .ok (.iconst 1, 1) := by decide +kernel
theorem dX7_isBlank_13 : decode cX7_isBlank 13 = .ok (.goto 4, 3) := by decide +kernel
theorem dX7_isBlank_16 : decode cX7_isBlank 16 = .ok (.iconst 0, 1) := by decide +kernel
theorem dX7_isBlank_17 : decode cX7_isBlank 17 = .ok (.ireturn, 1) := by decide +kernel
theorem dX7_isLetter_0 : decode cX7_isLetter 0 = .ok (.bipush 97, 2) := by decide +kernel
theorem dX7_isLetter_2 : decode cX7_isLetter 2 = .ok (.iload_n 0, 1) := by decide +kernel
theorem dX7_isLetter_3 : decode cX7_isLetter 3 = .ok (.if_icmp .gt 13, 3) := by decide +kernel
theorem dX7_isLetter_6 : decode cX7_isLetter 6 = .ok (.iload_n 0, 1) := by decide +kernel
theorem dX7_isLetter_7 : decode cX7_isLetter 7 = .ok (.bipush 122, 2) := by decide +kernel
theorem dX7_isLetter_9 : decode cX7_isLetter 9 = .ok (.if_icmp .gt 7, 3) := by decide +kernel
theorem dX7_isLetter_12 : decode cX7_isLetter 12 = .ok (.iconst 1, 1) := by decide +kernel
theorem dX7_isLetter_13 : decode cX7_isLetter 13 = .ok (.goto 4, 3) := by decide +kernel
theorem dX7_isLetter_16 : decode cX7_isLetter 16 = .ok (.iconst 0, 1) := by decide +kernel
theorem dX7_isLetter_17 : decode cX7_isLetter 17 = .ok (.ireturn, 1) := by decide +kernel
theorem dX7_isDigit_0 : decode cX7_isDigit 0 = .ok (.bipush 48, 2) := by decide +kernel
theorem dX7_isDigit_2 : decode cX7_isDigit 2 = .ok (.iload_n 0, 1) := by decide +kernel
theorem dX7_isDigit_3 : decode cX7_isDigit 3 = .ok (.if_icmp .gt 13, 3) := by decide +kernel
theorem dX7_isDigit_6 : decode cX7_isDigit 6 = .ok (.iload_n 0, 1) := by decide +kernel
theorem dX7_isDigit_7 : decode cX7_isDigit 7 = .ok (.bipush 57, 2) := by decide +kernel
theorem dX7_isDigit_9 : decode cX7_isDigit 9 = .ok (.if_icmp .gt 7, 3) := by decide +kernel
theorem dX7_isDigit_12 : decode cX7_isDigit 12 = .ok (.iconst 1, 1) := by decide +kernel
theorem dX7_isDigit_13 : decode cX7_isDigit 13 = .ok (.goto 4, 3) := by decide +kernel
theorem dX7_isDigit_16 : decode cX7_isDigit 16 = .ok (.iconst 0, 1) := by decide +kernel
theorem dX7_isDigit_17 : decode cX7_isDigit 17 = .ok (.ireturn, 1) := by decide +kernel
theorem dX8_init_0 : decode cX8_init 0 = .ok (.aload_n 0, 1) := by decide +kernel
theorem dX8_init_1 : decode cX8_init 1 = .ok (.invokespecial 3, 3) := by decide +kernel
theorem dX8_init_4 : decode cX8_init 4 = .ok (.aload_n 0, 1) := by decide +kernel
theorem dX8_init_5 : decode cX8_init 5 = .ok (.sipush 600, 3) := by decide +kernel
theorem dX8_init_8 : decode cX8_init 8 = .ok (.newarray .int, 2) := by decide +kernel
theorem dX8_init_10 : decode cX8_init 10 = .ok (.putfield 9, 3) := by decide +kernel
theorem dX8_init_13 : decode cX8_init 13 = .ok (.return_, 1) := by decide +kernel
theorem dX8_add_0 : decode cX8_add 0 = .ok (.aload_n 0, 1) := by decide +kernel
theorem dX8_add_1 : decode cX8_add 1 = .ok (.getfield 15, 3) := by decide +kernel
theorem dX8_add_4 : decode cX8_add 4 = .ok (.sipush 600, 3) := by decide +kernel
theorem dX8_add_7 : decode cX8_add 7 = .ok (.if_icmp .ge 23, 3) := by decide +kernel
theorem dX8_add_10 : decode cX8_add 10 = .ok (.aload_n 0, 1) := by decide +kernel
theorem dX8_add_11 : decode cX8_add 11 = .ok (.getfield 9, 3) := by decide +kernel
theorem dX8_add_14 : decode cX8_add 14 = .ok (.aload_n 0, 1) := by decide +kernel
theorem dX8_add_15 : decode cX8_add 15 = .ok (.getfield 15, 3) := by decide +kernel
theorem dX8_add_18 : decode cX8_add 18 = .ok (.iload_n 1, 1) := by decide +kernel
theorem dX8_add_19 : decode cX8_add 19 = .ok (.iastore, 1) := by decide +kernel
theorem dX8_add_20 : decode cX8_add 20 = .ok (.aload_n 0, 1) := by decide +kernel
theorem dX8_add_21 : decode cX8_add 21 = .ok (.dup, 1) := by decide +kernel
theorem dX8_add_22 : decode cX8_add 22 = .ok (.getfield 15, 3) := by decide +kernel
theorem dX8_add_25 : decode cX8_add 25 = .ok (.iconst 1, 1) := by decide +kernel
theorem dX8_add_26 : decode cX8_add 26 = .ok (.iadd, 1) := by decide +kernel
theorem dX8_add_27 : decode cX8_add 27 = .ok (.putfield 15, 3) := by decide +kernel
theorem dX8_add_30 : decode cX8_add 30 = .ok (.return_, 1) := by decide +kernel
theorem dX8_byteAt_0 : decode cX8_byteAt 0 = .ok (.iconst 0, 1) := by decide +kernel
theorem dX8_byteAt_1 : decode cX8_byteAt 1 = .ok (.iload_n 1, 1) := by decide +kernel
theorem dX8_byteAt_2 : decode cX8_byteAt 2 = .ok (.if_icmp .gt 27, 3) := by decide +kernel
theorem dX8_byteAt_5 : decode cX8_byteAt 5 = .ok (.iload_n 1, 1) := by decide +kernel
theorem dX8_byteAt_6 : decode cX8_byteAt 6 = .ok (.aload_n 0, 1) := by decide +kernel
theorem dX8_byteAt_7 : decode cX8_byteAt 7 = .ok (.getfield 15, 3) := by decide +kernel
theorem dX8_byteAt_10 : decode cX8_byteAt 10 = .ok (.if_icmp .ge 19, 3) := by decide +kernel
theorem dX8_byteAt_13 : decode cX8_byteAt 13 = .ok (.iload_n 1, 1) := by decide +kernel
theorem dX8_byteAt_14 : decode cX8_byteAt 14 = .ok (.sipush 600, 3) := by decide +kernel
theorem dX8_byteAt_17 : decode cX8_byteAt 17 = .ok (.if_icmp .ge 12, 3) := by decide +kernel
theorem dX8_byteAt_20 : decode cX8_byteAt 20 = .ok (.aload_n 0, 1) := by decide +kernel
theorem dX8_byteAt_21 : decode cX8_byteAt 21 = .ok (.getfield 9, 3) := by decide +kernel
theorem dX8_byteAt_24 : decode cX8_byteAt 24 = .ok (.iload_n 1, 1) := by decide +kernel
theorem dX8_byteAt_25 : decode cX8_byteAt 25 = .ok (.iaload, 1) := by decide +kernel
theorem dX8_byteAt_26 : decode cX8_byteAt 26 = .ok (.goto 4, 3) := by decide +kernel
theorem dX8_byteAt_29 : decode cX8_byteAt 29 = .ok (.iconst (-1), 1) := by decide +kernel
theorem dX8_byteAt_30 : decode cX8_byteAt 30 = .ok (.ireturn, 1) := by decide +kernel
theorem dX9_init_0 : decode cX9_init 0 = .ok (.aload_n 0, 1) := by decide +kernel
theorem dX9_init_1 : decode cX9_init 1 = .ok (.invokespecial 3, 3) := by decide +kernel
theorem dX9_init_4 : decode cX9_init 4 = .ok (.aload_n 0, 1) := by decide +kernel
theorem dX9_init_5 : decode cX9_init 5 = .ok (.bipush 20, 2) := by decide +kernel
theorem dX9_init_7 : decode cX9_init 7 = .ok (.newarray .int, 2) := by decide +kernel
theorem dX9_init_9 : decode cX9_init 9 = .ok (.putfield 9, 3) := by decide +kernel
theorem dX9_init_12 : decode cX9_init 12 = .ok (.aload_n 0, 1) := by decide +kernel
theorem dX9_init_13 : decode cX9_init 13 = .ok (.bipush 20, 2) := by decide +kernel
theorem dX9_init_15 : decode cX9_init 15 = .ok (.newarray .int, 2) := by decide +kernel
theorem dX9_init_17 : decode cX9_init 17 = .ok (.putfield 15, 3) := by decide +kernel
theorem dX9_init_20 : decode cX9_init 20 = .ok (.aload_n 0, 1) := by decide +kernel
theorem dX9_init_21 : decode cX9_init 21 = .ok (.bipush 20, 2) := by decide +kernel
theorem dX9_init_23 : decode cX9_init 23 = .ok (.newarray .int, 2) := by decide +kernel
theorem dX9_init_25 : decode cX9_init 25 = .ok (.putfield 18, 3) := by decide +kernel
theorem dX9_init_28 : decode cX9_init 28 = .ok (.return_, 1) := by decide +kernel
theorem dX9_divide_0 : decode cX9_divide 0 = .ok (.aload_n 1, 1) := by decide +kernel
theorem dX9_divide_1 : decode cX9_divide 1 = .ok (.getfield 21, 3) := by decide +kernel
theorem dX9_divide_4 : decode cX9_divide 4 = .ok (.invokevirtual 27, 3) := by decide +kernel
theorem dX9_divide_7 : decode cX9_divide 7 = .ok (.istore_n 2, 1) := by decide +kernel
theorem dX9_divide_8 : decode cX9_divide 8 = .ok (.aload_n 0, 1) := by decide +kernel
theorem dX9_divide_9 : decode cX9_divide 9 = .ok (.iload_n 2, 1) := by decide +kernel
theorem dX9_divide_10 : decode cX9_divide 10 = .ok (.aload_n 1, 1) := by decide +kernel
theorem dX9_divide_11 : decode cX9_divide 11 = .ok (.getfield 21, 3) := by decide +kernel
theorem dX9_divide_14 : decode cX9_divide 14 = .ok (.invokevirtual 33, 3) := by decide +kernel
theorem dX9_divide_17 : decode cX9_divide 17 = .ok (.aload_n 1, 1) := by decide +kernel
theorem dX9_divide_18 : decode cX9_divide 18 = .ok (.getfield 36, 3) := by decide +kernel
theorem dX9_divide_21 : decode cX9_divide 21 = .ok (.imul, 1) := by decide +kernel
theorem dX9_divide_22 : decode cX9_divide 22 = .ok (.invokevirtual 40, 3) := by decide +kernel
theorem dX9_divide_25 : decode cX9_divide 25 = .ok (.aload_n 0, 1) := by decide +kernel
theorem dX9_divide_26 : decode cX9_divide 26 = .ok (.iload_n 2, 1) := by decide +kernel
theorem dX9_divide_27 : decode cX9_divide 27 = .ok (.aload_n 1, 1) := by decide +kernel
theorem dX9_divide_28 : decode cX9_divide 28 = .ok (.getfield 21, 3) := by decide +kernel
theorem dX9_divide_31 : decode cX9_divide 31 = .ok (.invokevirtual 44, 3) := by decide +kernel
theorem dX9_divide_34 : decode cX9_divide 34 = .ok (.aload_n 1, 1) := by decide +kernel
theorem dX9_divide_35 : decode cX9_divide 35 = .ok (.getfield 36, 3) := by decide +kernel
theorem dX9_divide_38 : decode cX9_divide 38 = .ok (.imul, 1) := by decide +kernel
theorem dX9_divide_39 : decode cX9_divide 39 = .ok (.aload_n 0, 1) := by decide +kernel
theorem dX9_divide_40 : decode cX9_divide 40 = .ok (.iload_n 2, 1) := by decide +kernel
theorem dX9_divide_41 : decode cX9_divide 41 = .ok (.aload_n 1, 1) := by decide +kernel
theorem dX9_divide_42 : decode cX9_divide 42 = .ok (.getfield 21, 3) := by decide +kernel
theorem dX9_divide_45 : decode cX9_divide 45 = .ok (.invokevirtual 47, 3) := by decide +kernel
theorem dX9_divide_48 : decode cX9_divide 48 = .ok (.invokevirtual 51, 3) := by decide +kernel
theorem dX9_divide_51 : decode cX9_divide 51 = .ok (.return_, 1) := by decide +kernel
theorem dX9_divideBase_0 : decode cX9_divideBase 0 = .ok (.iload_n 1, 1) := by decide +kernel
theorem dX9_divideBase_1 : decode cX9_divideBase 1 = .ok (.invokestatic 55, 3) := by decide +kernel
theorem dX9_divideBase_4 : decode cX9_divideBase 4 = .ok (.iconst 1, 1) := by decide +kernel
theorem dX9_divideBase_5 : decode cX9_divideBase 5 = .ok (.iadd, 1) := by decide +kernel
theorem dX9_divideBase_6 : decode cX9_divideBase 6 = .ok (.istore_n 3, 1) := by decide +kernel
theorem dX9_divideBase_7 : decode cX9_divideBase 7 = .ok (.iload_n 2, 1) := by decide +kernel
theorem dX9_divideBase_8 : decode cX9_divideBase 8 = .ok (.iload_n 3, 1) := by decide +kernel
theorem dX9_divideBase_9 : decode cX9_divideBase 9 = .ok (.idiv, 1) := by decide +kernel
theorem dX9_divideBase_10 : decode cX9_divideBase 10 = .ok (.istore 4, 2) := by decide +kernel
theorem dX9_divideBase_12 : decode cX9_divideBase 12 = .ok (.iload_n 2, 1) := by decide +kernel
theorem dX9_divideBase_13 : decode cX9_divideBase 13 = .ok (.iload 4, 2) := by decide +kernel
theorem dX9_divideBase_15 : decode cX9_divideBase 15 = .ok (.iload_n 3, 1) := by decide +kernel
theorem dX9_divideBase_16 : decode cX9_divideBase 16 = .ok (.imul, 1) := by decide +kernel
theorem dX9_divideBase_17 : decode cX9_divideBase 17 = .ok (.isub, 1) := by decide +kernel
theorem dX9_divideBase_18 : decode cX9_divideBase 18 = .ok (.istore 5, 2) := by decide +kernel
theorem dX9_divideBase_20 : decode cX9_divideBase 20 = .ok (.aload_n 0, 1) := by decide +kernel
theorem dX9_divideBase_21 : decode cX9_divideBase 21 = .ok (.iload 5, 2) := by decide +kernel
theorem dX9_divideBase_23 : decode cX9_divideBase 23 = .ok (.ifCond .le 10, 3) := by decide +kernel
theorem dX9_divideBase_26 : decode cX9_divideBase 26 = .ok (.iload 4, 2) := by decide +kernel
theorem dX9_divideBase_28 : decode cX9_divideBase 28 = .ok (.iconst 1, 1) := by decide +kernel
theorem dX9_divideBase_29 : decode cX9_divideBase 29 = .ok (.iadd, 1) := by decide +kernel
theorem dX9_divideBase_30 : decode cX9_divideBase 30 = .ok (.goto 5, 3) := by decide +kernel
theorem dX9_divideBase_33 : decode cX9_divideBase 33 = .ok (.iload 4, 2) := by decide +kernel
theorem dX9_divideBase_35 : decode cX9_divideBase 35 = .ok (.putfield 61, 3) := by decide +kernel
theorem dX9_divideBase_38 : decode cX9_divideBase 38 = .ok (.iinc 5 (-1), 3) := by decide +kernel
theorem dX9_divideBase_41 : decode cX9_divideBase 41 = .ok (.iconst 0, 1) := by decide +kernel
theorem dX9_divideBase_42 : decode cX9_divideBase 42 = .ok (.istore 6, 2) := by decide +kernel
theorem dX9_divideBase_44 : decode cX9_divideBase 44 = .ok (.iload 6, 2) := by decide +kernel
theorem dX9_divideBase_46 : decode cX9_divideBase 46 = .ok (.bipush 20, 2) := by decide +kernel
theorem dX9_divideBase_48 : decode cX9_divideBase 48 = .ok (.if_icmp .ge 50, 3) := by decide +kernel
theorem dX9_divideBase_51 : decode cX9_divideBase 51 = .ok (.aload_n 0, 1) := by decide +kernel
theorem dX9_divideBase_52 : decode cX9_divideBase 52 = .ok (.getfield 9, 3) := by decide +kernel
theorem dX9_divideBase_55 : decode cX9_divideBase 55 = .ok (.iload 6, 2) := by decide +kernel
theorem dX9_divideBase_57 : decode cX9_divideBase 57 = .ok (.iconst 0, 1) := by decide +kernel
theorem dX9_divideBase_58 : decode cX9_divideBase 58 = .ok (.iastore, 1) := by decide +kernel
theorem dX9_divideBase_59 : decode cX9_divideBase 59 = .ok (.iload_n 1, 1) := by decide +kernel
theorem dX9_divideBase_60 : decode cX9_divideBase 60 = .ok (.iload 6, 2) := by decide +kernel
theorem dX9_divideBase_62 : decode cX9_divideBase 62 = .ok (.invokestatic 64, 3) := by decide +kernel
theorem dX9_divideBase_65 : decode cX9_divideBase 65 = .ok (.ifCond .eq 27, 3) := by decide +kernel
theorem dX9_divideBase_68 : decode cX9_divideBase 68 = .ok (.aload_n 0, 1) := by decide +kernel
theorem dX9_divideBase_69 : decode cX9_divideBase 69 = .ok (.getfield 9, 3) := by decide +kernel
theorem dX9_divideBase_72 : decode cX9_divideBase 72 = .ok (.iload 6, 2) := by decide +kernel
theorem dX9_divideBase_74 : decode cX9_divideBase 74 = .ok (.iload 5, 2) := by decide +kernel
theorem dX9_divideBase_76 : decode cX9_divideBase 76 = .ok (.ifCond .le 10, 3) := by decide +kernel
theorem dX9_divideBase_79 : decode cX9_divideBase 79 = .ok (.iload 4, 2) := by decide +kernel
theorem dX9_divideBase_81 : decode cX9_divideBase 81 = .ok (.iconst 1, 1) := by decide +kernel
theorem dX9_divideBase_82 : decode cX9_divideBase 82 = .ok (.iadd, 1) := by decide +kernel
theorem dX9_divideBase_83 : decode cX9_divideBase 83 = .ok (.goto 5, 3) := by decide +kernel
theorem dX9_divideBase_86 : decode cX9_divideBase 86 = .ok (.iload 4, 2) := by decide +kernel
theorem dX9_divideBase_88 : decode cX9_divideBase 88 = .ok (.iastore, 1) := by decide +kernel
theorem dX9_divideBase_89 : decode cX9_divideBase 89 = .ok (.iinc 5 (-1), 3) := by decide +kernel
theorem dX9_divideBase_92 : decode cX9_divideBase 92 = .ok (.iinc 6 1, 3) := by decide +kernel
theorem dX9_divideBase_95 : decode cX9_divideBase 95 = .ok (.goto (-51), 3) := by decide +kernel
theorem dX9_divideBase_98 : decode cX9_divideBase 98 = .ok (.return_, 1) := by decide +kernel
theorem dX9_weigh_0 : decode cX9_weigh 0 = .ok (.iconst 0, 1) := by decide +kernel
theorem dX9_weigh_1 : decode cX9_weigh 1 = .ok (.istore_n 3, 1) := by decide +kernel
theorem dX9_weigh_2 : decode cX9_weigh 2 = .ok (.iconst 0, 1) := by decide +kernel
theorem dX9_weigh_3 : decode cX9_weigh 3 = .ok (.istore 4, 2) := by decide +kernel
theorem dX9_weigh_5 : decode cX9_weigh 5 = .ok (.iload 4, 2) := by decide +kernel
theorem dX9_weigh_7 : decode cX9_weigh 7 = .ok (.bipush 20, 2) := by decide +kernel
theorem dX9_weigh_9 : decode cX9_weigh 9 = .ok (.if_icmp .ge 45, 3) := by decide +kernel
theorem dX9_weigh_12 : decode cX9_weigh 12 = .ok (.aload_n 0, 1) := by decide +kernel
theorem dX9_weigh_13 : decode cX9_weigh 13 = .ok (.getfield 15, 3) := by decide +kernel
theorem dX9_weigh_16 : decode cX9_weigh 16 = .ok (.iload 4, 2) := by decide +kernel
theorem dX9_weigh_18 : decode cX9_weigh 18 = .ok (.iload_n 1, 1) := by decide +kernel
theorem dX9_weigh_19 : decode cX9_weigh 19 = .ok (.iload 4, 2) := by decide +kernel
theorem dX9_weigh_21 : decode cX9_weigh 21 = .ok (.invokestatic 64, 3) := by decide +kernel
theorem dX9_weigh_24 : decode cX9_weigh 24 = .ok (.ifCond .eq 12, 3) := by decide +kernel
theorem dX9_weigh_27 : decode cX9_weigh 27 = .ok (.aload_n 2, 1) := by decide +kernel
theorem dX9_weigh_28 : decode cX9_weigh 28 = .ok (.iload 4, 2) := by decide +kernel
theorem dX9_weigh_30 : decode cX9_weigh 30 = .ok (.invokevirtual 68, 3) := by decide +kernel
theorem dX9_weigh_33 : decode cX9_weigh 33 = .ok (.goto 4, 3) := by decide +kernel
theorem dX9_weigh_36 : decode cX9_weigh 36 = .ok (.iconst 0, 1) := by decide +kernel
theorem dX9_weigh_37 : decode cX9_weigh 37 = .ok (.iastore, 1) := by decide +kernel
theorem dX9_weigh_38 : decode cX9_weigh 38 = .ok (.iload_n 3, 1) := by decide +kernel
theorem dX9_weigh_39 : decode cX9_weigh 39 = .ok (.aload_n 0, 1) := by decide +kernel
theorem dX9_weigh_40 : decode cX9_weigh 40 = .ok (.getfield 15, 3) := by decide +kernel
theorem dX9_weigh_43 : decode cX9_weigh 43 = .ok (.iload 4, 2) := by decide +kernel
theorem dX9_weigh_45 : decode cX9_weigh 45 = .ok (.iaload, 1) := by decide +kernel
theorem dX9_weigh_46 : decode cX9_weigh 46 = .ok (.iadd, 1) := by decide +kernel
theorem dX9_weigh_47 : decode cX9_weigh 47 = .ok (.istore_n 3, 1) := by decide +kernel
theorem dX9_weigh_48 : decode cX9_weigh 48 = .ok (.iinc 4 1, 3) := by decide +kernel
theorem dX9_weigh_51 : decode cX9_weigh 51 = .ok (.goto (-46), 3) := by decide +kernel
theorem dX9_weigh_54 : decode cX9_weigh 54 = .ok (.iload_n 3, 1) := by decide +kernel
theorem dX9_weigh_55 : decode cX9_weigh 55 = .ok (.ifCond .le 5, 3) := by decide +kernel
theorem dX9_weigh_58 : decode cX9_weigh 58 = .ok (.iload_n 3, 1) := by decide +kernel
theorem dX9_weigh_59 : decode cX9_weigh 59 = .ok (.ireturn, 1) := by decide +kernel
theorem dX9_weigh_60 : decode cX9_weigh 60 = .ok (.iconst 0, 1) := by decide +kernel
theorem dX9_weigh_61 : decode cX9_weigh 61 = .ok (.istore 4, 2) := by decide +kernel
theorem dX9_weigh_63 : decode cX9_weigh 63 = .ok (.iload 4, 2) := by decide +kernel
theorem dX9_weigh_65 : decode cX9_weigh 65 = .ok (.bipush 20, 2) := by decide +kernel
theorem dX9_weigh_67 : decode cX9_weigh 67 = .ok (.if_icmp .ge 30, 3) := by decide +kernel
theorem dX9_weigh_70 : decode cX9_weigh 70 = .ok (.aload_n 0, 1) := by decide +kernel
theorem dX9_weigh_71 : decode cX9_weigh 71 = .ok (.getfield 15, 3) := by decide +kernel
theorem dX9_weigh_74 : decode cX9_weigh 74 = .ok (.iload 4, 2) := by decide +kernel
theorem dX9_weigh_76 : decode cX9_weigh 76 = .ok (.iload_n 1, 1) := by decide +kernel
theorem dX9_weigh_77 : decode cX9_weigh 77 = .ok (.iload 4, 2) := by decide +kernel
theorem dX9_weigh_79 : decode cX9_weigh 79 = .ok (.invokestatic 64, 3) := by decide +kernel
theorem dX9_weigh_82 : decode cX9_weigh 82 = .ok (.ifCond .eq 7, 3) := by decide +kernel
theorem dX9_weigh_85 : decode cX9_weigh 85 = .ok (.iconst 1, 1) := by decide +kernel
theorem dX9_weigh_86 : decode cX9_weigh 86 = .ok (.goto 4, 3) := by decide +kernel
theorem dX9_weigh_89 : decode cX9_weigh 89 = .ok (.iconst 0, 1) := by decide +kernel
theorem dX9_weigh_90 : decode cX9_weigh 90 = .ok (.iastore, 1) := by decide +kernel
theorem dX9_weigh_91 : decode cX9_weigh 91 = .ok (.iinc 4 1, 3) := by decide +kernel
theorem dX9_weigh_94 : decode cX9_weigh 94 = .ok (.goto (-31), 3) := by decide +kernel
theorem dX9_weigh_97 : decode cX9_weigh 97 = .ok (.iload_n 1, 1) := by decide +kernel
theorem dX9_weigh_98 : decode cX9_weigh 98 = .ok (.invokestatic 55, 3) := by decide +kernel
theorem dX9_weigh_101 : decode cX9_weigh 101 = .ok (.ireturn, 1) := by decide +kernel
theorem dX9_divideRest_0 : decode cX9_divideRest 0 = .ok (.iload_n 3, 1) := by decide +kernel
theorem dX9_divideRest_1 : decode cX9_divideRest 1 = .ok (.ifCond .gt 4, 3) := by decide +kernel
theorem dX9_divideRest_4 : decode cX9_divideRest 4 = .ok (.return_, 1) := by decide +kernel
theorem dX9_divideRest_5 : decode cX9_divideRest 5 = .ok (.iload_n 2, 1) := by decide +kernel
theorem dX9_divideRest_6 : decode cX9_divideRest 6 = .ok (.istore 4, 2) := by decide +kernel
theorem dX9_divideRest_8 : decode cX9_divideRest 8 = .ok (.iconst 0, 1) := by decide +kernel
theorem dX9_divideRest_9 : decode cX9_divideRest 9 = .ok (.istore 5, 2) := by decide +kernel
theorem dX9_divideRest_11 : decode cX9_divideRest 11 = .ok (.iload 5, 2) := by decide +kernel
theorem dX9_divideRest_13 : decode cX9_divideRest 13 = .ok (.bipush 20, 2) := by decide +kernel
theorem dX9_divideRest_15 : decode cX9_divideRest 15 = .ok (.if_icmp .ge 75, 3) := by decide +kernel
theorem dX9_divideRest_18 : decode cX9_divideRest 18 = .ok (.iload_n 2, 1) := by decide +kernel
theorem dX9_divideRest_19 : decode cX9_divideRest 19 = .ok (.aload_n 0, 1) := by decide +kernel
theorem dX9_divideRest_20 : decode cX9_divideRest 20 = .ok (.getfield 15, 3) := by decide +kernel
theorem dX9_divideRest_23 : decode cX9_divideRest 23 = .ok (.iload 5, 2) := by decide +kernel
theorem dX9_divideRest_25 : decode cX9_divideRest 25 = .ok (.iaload, 1) := by decide +kernel
theorem dX9_divideRest_26 : decode cX9_divideRest 26 = .ok (.imul, 1) := by decide +kernel
theorem dX9_divideRest_27 : decode cX9_divideRest 27 = .ok (.iload_n 3, 1) := by decide +kernel
theorem dX9_divideRest_28 : decode cX9_divideRest 28 = .ok (.idiv, 1) := by decide +kernel
theorem dX9_divideRest_29 : decode cX9_divideRest 29 = .ok (.istore 6, 2) := by decide +kernel
theorem dX9_divideRest_31 : decode cX9_divideRest 31 = .ok (.aload_n 0, 1) := by decide +kernel
theorem dX9_divideRest_32 : decode cX9_divideRest 32 = .ok (.getfield 18, 3) := by decide +kernel
theorem dX9_divideRest_35 : decode cX9_divideRest 35 = .ok (.iload 5, 2) := by decide +kernel
theorem dX9_divideRest_37 : decode cX9_divideRest 37 = .ok (.iload_n 1, 1) := by decide +kernel
theorem dX9_divideRest_38 : decode cX9_divideRest 38 = .ok (.iload 5, 2) := by decide +kernel
theorem dX9_divideRest_40 : decode cX9_divideRest 40 = .ok (.invokestatic 64, 3) := by decide +kernel
theorem dX9_divideRest_43 : decode cX9_divideRest 43 = .ok (.ifCond .eq 20, 3) := by decide +kernel
theorem dX9_divideRest_46 : decode cX9_divideRest 46 = .ok (.iload_n 2, 1) := by decide +kernel
theorem dX9_divideRest_47 : decode cX9_divideRest 47 = .ok (.aload_n 0, 1) := by decide +kernel
theorem dX9_divideRest_48 : decode cX9_divideRest 48 = .ok (.getfield 15, 3) := by decide +kernel
theorem dX9_divideRest_51 : decode cX9_divideRest 51 = .ok (.iload 5, 2) := by decide +kernel
theorem dX9_divideRest_53 : decode cX9_divideRest 53 = .ok (.iaload, 1) := by decide +kernel
theorem dX9_divideRest_54 : decode cX9_divideRest 54 = .ok (.imul, 1) := by decide +kernel
theorem dX9_divideRest_55 : decode cX9_divideRest 55 = .ok (.iload 6, 2) := by decide +kernel
theorem dX9_divideRest_57 : decode cX9_divideRest 57 = .ok (.iload_n 3, 1) := by decide +kernel
theorem dX9_divideRest_58 : decode cX9_divideRest 58 = .ok (.imul, 1) := by decide +kernel
theorem dX9_divideRest_59 : decode cX9_divideRest 59 = .ok (.isub, 1) := by decide +kernel
theorem dX9_divideRest_60 : decode cX9_divideRest 60 = .ok (.goto 4, 3) := by decide +kernel
theorem dX9_divideRest_63 : decode cX9_divideRest 63 = .ok (.iconst (-1), 1) := by decide +kernel
theorem dX9_divideRest_64 : decode cX9_divideRest 64 = .ok (.iastore, 1) := by decide +kernel
theorem dX9_divideRest_65 : decode cX9_divideRest 65 = .ok (.aload_n 0, 1) := by decide +kernel
theorem dX9_divideRest_66 : decode cX9_divideRest 66 = .ok (.getfield 9, 3) := by decide +kernel
theorem dX9_divideRest_69 : decode cX9_divideRest 69 = .ok (.iload 5, 2) := by decide +kernel
theorem dX9_divideRest_71 : decode cX9_divideRest 71 = .ok (.dup2, 1) := by decide +kernel
theorem dX9_divideRest_72 : decode cX9_divideRest 72 = .ok (.iaload, 1) := by decide +kernel
theorem dX9_divideRest_73 : decode cX9_divideRest 73 = .ok (.iload 6, 2) := by decide +kernel
theorem dX9_divideRest_75 : decode cX9_divideRest 75 = .ok (.iadd, 1) := by decide +kernel
theorem dX9_divideRest_76 : decode cX9_divideRest 76 = .ok (.iastore, 1) := by decide +kernel
theorem dX9_divideRest_77 : decode cX9_divideRest 77 = .ok (.iload 4, 2) := by decide +kernel
theorem dX9_divideRest_79 : decode cX9_divideRest 79 = .ok (.iload 6, 2) := by decide +kernel
theorem dX9_divideRest_81 : decode cX9_divideRest 81 = .ok (.isub, 1) := by decide +kernel
theorem dX9_divideRest_82 : decode cX9_divideRest 82 = .ok (.istore 4, 2) := by decide +kernel
theorem dX9_divideRest_84 : decode cX9_divideRest 84 = .ok (.iinc 5 1, 3) := by decide +kernel
theorem dX9_divideRest_87 : decode cX9_divideRest 87 = .ok (.goto (-76), 3) := by decide +kernel
theorem dX9_divideRest_90 : decode cX9_divideRest 90 = .ok (.iconst 0, 1) := by decide +kernel
theorem dX9_divideRest_91 : decode cX9_divideRest 91 = .ok (.istore 5, 2) := by decide +kernel
theorem dX9_divideRest_93 : decode cX9_divideRest 93 = .ok (.iload 5, 2) := by decide +kernel
theorem dX9_divideRest_95 : decode cX9_divideRest 95 = .ok (.iload 4, 2) := by decide +kernel
theorem dX9_divideRest_97 : decode cX9_divideRest 97 = .ok (.if_icmp .ge 13, 3) := by decide +kernel
theorem dX9_divideRest_100 : decode cX9_divideRest 100 = .ok (.aload_n 0, 1) := by decide +kernel
theorem dX9_divideRest_101 : decode cX9_divideRest 101 = .ok (.invokevirtual 71, 3) := by decide +kernel
theorem dX9_divideRest_104 : decode cX9_divideRest 104 = .ok (.iinc 5 1, 3) := by decide +kernel
theorem dX9_divideRest_107 : decode cX9_divideRest 107 = .ok (.goto (-14), 3) := by decide +kernel
theorem dX9_divideRest_110 : decode cX9_divideRest 110 = .ok (.return_, 1) := by decide +kernel
theorem dX9_giveCent_0 : decode cX9_giveCent 0 = .ok (.iconst 0, 1) := by decide +kernel
theorem dX9_giveCent_1 : decode cX9_giveCent 1 = .ok (.istore_n 1, 1) := by decide +kernel
theorem dX9_giveCent_2 : decode cX9_giveCent 2 = .ok (.iconst 1, 1) := by decide +kernel
theorem dX9_giveCent_3 : decode cX9_giveCent 3 = .ok (.istore_n 2, 1) := by decide +kernel
theorem dX9_giveCent_4 : decode cX9_giveCent 4 = .ok (.iload_n 2, 1) := by decide +kernel
theorem dX9_giveCent_5 : decode cX9_giveCent 5 = .ok (.bipush 20, 2) := by decide +kernel
theorem dX9_giveCent_7 : decode cX9_giveCent 7 = .ok (.if_icmp .ge 26, 3) := by decide +kernel
theorem dX9_giveCent_10 : decode cX9_giveCent 10 = .ok (.aload_n 0, 1) := by decide +kernel
theorem dX9_giveCent_11 : decode cX9_giveCent 11 = .ok (.getfield 18, 3) := by decide +kernel
theorem dX9_giveCent_14 : decode cX9_giveCent 14 = .ok (.iload_n 2, 1) := by decide +kernel
theorem dX9_giveCent_15 : decode cX9_giveCent 15 = .ok (.iaload, 1) := by decide +kernel
theorem dX9_giveCent_16 : decode cX9_giveCent 16 = .ok (.aload_n 0, 1) := by decide +kernel
theorem dX9_giveCent_17 : decode cX9_giveCent 17 = .ok (.getfield 18, 3) := by decide +kernel
theorem dX9_giveCent_20 : decode cX9_giveCent 20 = .ok (.iload_n 1, 1) := by decide +kernel
theorem dX9_giveCent_21 : decode cX9_giveCent 21 = .ok (.iaload, 1) := by decide +kernel
theorem dX9_giveCent_22 : decode cX9_giveCent 22 = .ok (.if_icmp .le 5, 3) := by decide +kernel
theorem dX9_giveCent_25 : decode cX9_giveCent 25 = .ok (.iload_n 2, 1) := by decide +kernel
theorem dX9_giveCent_26 : decode cX9_giveCent 26 = .ok (.istore_n 1, 1) := by decide +kernel
theorem dX9_giveCent_27 : decode cX9_giveCent 27 = .ok (.iinc 2 1, 3) := by decide +kernel
theorem dX9_giveCent_30 : decode cX9_giveCent 30 = .ok (.goto (-26), 3) := by decide +kernel
theorem dX9_giveCent_33 : decode cX9_giveCent 33 = .ok (.aload_n 0, 1) := by decide +kernel
theorem dX9_giveCent_34 : decode cX9_giveCent 34 = .ok (.getfield 9, 3) := by decide +kernel
theorem dX9_giveCent_37 : decode cX9_giveCent 37 = .ok (.iload_n 1, 1) := by decide +kernel
theorem dX9_giveCent_38 : decode cX9_giveCent 38 = .ok (.dup2, 1) := by decide +kernel
theorem dX9_giveCent_39 : decode cX9_giveCent 39 = .ok (.iaload, 1) := by decide +kernel
theorem dX9_giveCent_40 : decode cX9_giveCent 40 = .ok (.iconst 1, 1) := by decide +kernel
theorem dX9_giveCent_41 : decode cX9_giveCent 41 = .ok (.iadd, 1) := by decide +kernel
theorem dX9_giveCent_42 : decode cX9_giveCent 42 = .ok (.iastore, 1) := by decide +kernel
theorem dX9_giveCent_43 : decode cX9_giveCent 43 = .ok (.aload_n 0, 1) := by decide +kernel
theorem dX9_giveCent_44 : decode cX9_giveCent 44 = .ok (.getfield 18, 3) := by decide +kernel
theorem dX9_giveCent_47 : decode cX9_giveCent 47 = .ok (.iload_n 1, 1) := by decide +kernel
theorem dX9_giveCent_48 : decode cX9_giveCent 48 = .ok (.iconst (-1), 1) := by decide +kernel
theorem dX9_giveCent_49 : decode cX9_giveCent 49 = .ok (.iastore, 1) := by decide +kernel
theorem dX9_giveCent_50 : decode cX9_giveCent 50 = .ok (.return_, 1) := by decide +kernel
theorem dX9_isIn_0 : decode cX9_isIn 0 = .ok (.iload_n 0, 1) := by decide +kernel
theorem dX9_isIn_1 : decode cX9_isIn 1 = .ok (.iload_n 1, 1) := by decide +kernel
theorem dX9_isIn_2 : decode cX9_isIn 2 = .ok (.iushr, 1) := by decide +kernel
theorem dX9_isIn_3 : decode cX9_isIn 3 = .ok (.iconst 1, 1) := by decide +kernel
theorem dX9_isIn_4 : decode cX9_isIn 4 = .ok (.iand, 1) := by decide +kernel
theorem dX9_isIn_5 : decode cX9_isIn 5 = .ok (.ifCond .eq 7, 3) := by decide +kernel
theorem dX9_isIn_8 : decode cX9_isIn 8 = .ok (.iconst 1, 1) := by decide +kernel
theorem dX9_isIn_9 : decode cX9_isIn 9 = .ok (.goto 4, 3) := by decide +kernel
theorem dX9_isIn_12 : decode cX9_isIn 12 = .ok (.iconst 0, 1) := by decide +kernel
theorem dX9_isIn_13 : decode cX9_isIn 13 = .ok (.ireturn, 1) := by decide +kernel
theorem dX10_init_0 : decode cX10_init 0 = .ok (.aload_n 0, 1) := by decide +kernel
theorem dX10_init_1 : decode cX10_init 1 = .ok (.invokespecial 3, 3) := by decide +kernel
theorem dX10_init_4 : decode cX10_init 4 = .ok (.aload_n 0, 1) := by decide +kernel
theorem dX10_init_5 : decode cX10_init 5 = .ok (.new 9, 3) := by decide +kernel
theorem dX10_init_8 : decode cX10_init 8 = .ok (.dup, 1) := by decide +kernel
theorem dX10_init_9 : decode cX10_init 9 = .ok (.invokespecial 11, 3) := by decide +kernel
theorem dX10_init_12 : decode cX10_init 12 = .ok (.putfield 12, 3) := by decide +kernel
theorem dX10_init_15 : decode cX10_init 15 = .ok (.aload_n 0, 1) := by decide +kernel
theorem dX10_init_16 : decode cX10_init 16 = .ok (.new 9, 3) := by decide +kernel
theorem dX10_init_19 : decode cX10_init 19 = .ok (.dup, 1) := by decide +kernel
theorem dX10_init_20 : decode cX10_init 20 = .ok (.invokespecial 11, 3) := by decide +kernel
theorem dX10_init_23 : decode cX10_init 23 = .ok (.putfield 16, 3) := by decide +kernel
theorem dX10_init_26 : decode cX10_init 26 = .ok (.aload_n 0, 1) := by decide +kernel
theorem dX10_init_27 : decode cX10_init 27 = .ok (.iconst 2, 1) := by decide +kernel
theorem dX10_init_28 : decode cX10_init 28 = .ok (.anewarray 9, 3) := by decide +kernel
theorem dX10_init_31 : decode cX10_init 31 = .ok (.putfield 19, 3) := by decide +kernel
theorem dX10_init_34 : decode cX10_init 34 = .ok (.aload_n 0, 1) := by decide +kernel
theorem dX10_init_35 : decode cX10_init 35 = .ok (.new 23, 3) := by decide +kernel
theorem dX10_init_38 : decode cX10_init 38 = .ok (.dup, 1) := by decide +kernel
theorem dX10_init_39 : decode cX10_init 39 = .ok (.invokespecial 25, 3) := by decide +kernel
theorem dX10_init_42 : decode cX10_init 42 = .ok (.putfield 26, 3) := by decide +kernel
theorem dX10_init_45 : decode cX10_init 45 = .ok (.aload_n 0, 1) := by decide +kernel
theorem dX10_init_46 : decode cX10_init 46 = .ok (.new 30, 3) := by decide +kernel
theorem dX10_init_49 : decode cX10_init 49 = .ok (.dup, 1) := by decide +kernel
theorem dX10_init_50 : decode cX10_init 50 = .ok (.invokespecial 32, 3) := by decide +kernel
theorem dX10_init_53 : decode cX10_init 53 = .ok (.putfield 33, 3) := by decide +kernel
theorem dX10_init_56 : decode cX10_init 56 = .ok (.aload_n 0, 1) := by decide +kernel
theorem dX10_init_57 : decode cX10_init 57 = .ok (.new 37, 3) := by decide +kernel
theorem dX10_init_60 : decode cX10_init 60 = .ok (.dup, 1) := by decide +kernel
theorem dX10_init_61 : decode cX10_init 61 = .ok (.invokespecial 39, 3) := by decide +kernel
theorem dX10_init_64 : decode cX10_init 64 = .ok (.putfield 40, 3) := by decide +kernel
theorem dX10_init_67 : decode cX10_init 67 = .ok (.aload_n 0, 1) := by decide +kernel
theorem dX10_init_68 : decode cX10_init 68 = .ok (.new 44, 3) := by decide +kernel
theorem dX10_init_71 : decode cX10_init 71 = .ok (.dup, 1) := by decide +kernel
theorem dX10_init_72 : decode cX10_init 72 = .ok (.invokespecial 46, 3) := by decide +kernel
theorem dX10_init_75 : decode cX10_init 75 = .ok (.putfield 47, 3) := by decide +kernel
theorem dX10_init_78 : decode cX10_init 78 = .ok (.aload_n 0, 1) := by decide +kernel
theorem dX10_init_79 : decode cX10_init 79 = .ok (.new 51, 3) := by decide +kernel
theorem dX10_init_82 : decode cX10_init 82 = .ok (.dup, 1) := by decide +kernel
theorem dX10_init_83 : decode cX10_init 83 = .ok (.invokespecial 53, 3) := by decide +kernel
theorem dX10_init_86 : decode cX10_init 86 = .ok (.putfield 54, 3) := by decide +kernel
theorem dX10_init_89 : decode cX10_init 89 = .ok (.aload_n 0, 1) := by decide +kernel
theorem dX10_init_90 : decode cX10_init 90 = .ok (.new 58, 3) := by decide +kernel
theorem dX10_init_93 : decode cX10_init 93 = .ok (.dup, 1) := by decide +kernel
theorem dX10_init_94 : decode cX10_init 94 = .ok (.invokespecial 60, 3) := by decide +kernel
theorem dX10_init_97 : decode cX10_init 97 = .ok (.putfield 61, 3) := by decide +kernel
theorem dX10_init_100 : decode cX10_init 100 = .ok (.return_, 1) := by decide +kernel
theorem dX10_addDriver_0 : decode cX10_addDriver 0 = .ok (.iload_n 1, 1) := by decide +kernel
theorem dX10_addDriver_1 : decode cX10_addDriver 1 = .ok (.iconst 1, 1) := by decide +kernel
theorem dX10_addDriver_2 : decode cX10_addDriver 2 = .ok (.iconst 4, 1) := by decide +kernel
theorem dX10_addDriver_3 : decode cX10_addDriver 3 = .ok (.invokestatic 65, 3) := by decide +kernel
theorem dX10_addDriver_6 : decode cX10_addDriver 6 = .ok (.ifCond .eq 36, 3) := by decide +kernel
theorem dX10_addDriver_9 : decode cX10_addDriver 9 = .ok (.iload_n 2, 1) := by decide +kernel
theorem dX10_addDriver_10 : decode cX10_addDriver 10 = .ok (.iconst 0, 1) := by decide +kernel
theorem dX10_addDriver_11 : decode cX10_addDriver 11 = .ok (.sipush 1439, 3) := by decide +kernel
theorem dX10_addDriver_14 : decode cX10_addDriver 14 = .ok (.invokestatic 65, 3) := by decide +kernel
theorem dX10_addDriver_17 : decode cX10_addDriver 17 = .ok (.ifCond .eq 25, 3) := by decide +kernel
theorem dX10_addDriver_20 : decode cX10_addDriver 20 = .ok (.iload_n 3, 1) := by decide +kernel
theorem dX10_addDriver_21 : decode cX10_addDriver 21 = .ok (.iconst 0, 1) := by decide +kernel
theorem dX10_addDriver_22 : decode cX10_addDriver 22 = .ok (.sipush 400, 3) := by decide +kernel
theorem dX10_addDriver_25 : decode cX10_addDriver 25 = .ok (.invokestatic 65, 3) := by decide +kernel
theorem dX10_addDriver_28 : decode cX10_addDriver 28 = .ok (.ifCond .eq 14, 3) := by decide +kernel
theorem dX10_addDriver_31 : decode cX10_addDriver 31 = .ok (.iload 4, 2) := by decide +kernel
theorem dX10_addDriver_33 : decode cX10_addDriver 33 = .ok (.iconst 1, 1) := by decide +kernel
theorem dX10_addDriver_34 : decode cX10_addDriver 34 = .ok (.bipush 99, 2) := by decide +kernel
theorem dX10_addDriver_36 : decode cX10_addDriver 36 = .ok (.invokestatic 65, 3) := by decide +kernel
theorem dX10_addDriver_39 : decode cX10_addDriver 39 = .ok (.ifCond .ne 13, 3) := by decide +kernel
theorem dX10_addDriver_42 : decode cX10_addDriver 42 = .ok (.new 69, 3) := by decide +kernel
theorem dX10_addDriver_45 : decode cX10_addDriver 45 = .ok (.dup, 1) := by decide +kernel
theorem dX10_addDriver_46 : decode cX10_addDriver 46 = .ok (.ldc 71, 2) := by decide +kernel
theorem dX10_addDriver_48 : decode cX10_addDriver 48 = .ok (.invokespecial 73, 3) := by decide +kernel
theorem dX10_addDriver_51 : decode cX10_addDriver 51 = .ok (.athrow, 1) := by decide +kernel
theorem dX10_addDriver_52 : decode cX10_addDriver 52 = .ok (.aload_n 0, 1) := by decide +kernel
theorem dX10_addDriver_53 : decode cX10_addDriver 53 = .ok (.getfield 12, 3) := by decide +kernel
theorem dX10_addDriver_56 : decode cX10_addDriver 56 = .ok (.invokevirtual 76, 3) := by decide +kernel
theorem dX10_addDriver_59 : decode cX10_addDriver 59 = .ok (.ifCond .eq 13, 3) := by decide +kernel
theorem dX10_addDriver_62 : decode cX10_addDriver 62 = .ok (.new 80, 3) := by decide +kernel
theorem dX10_addDriver_65 : decode cX10_addDriver 65 = .ok (.dup, 1) := by decide +kernel
theorem dX10_addDriver_66 : decode cX10_addDriver 66 = .ok (.ldc 82, 2) := by decide +kernel
theorem dX10_addDriver_68 : decode cX10_addDriver 68 = .ok (.invokespecial 84, 3) := by decide +kernel
theorem dX10_addDriver_71 : decode cX10_addDriver 71 = .ok (.athrow, 1) := by decide +kernel
theorem dX10_addDriver_72 : decode cX10_addDriver 72 = .ok (.aload_n 0, 1) := by decide +kernel
theorem dX10_addDriver_73 : decode cX10_addDriver 73 = .ok (.getfield 12, 3) := by decide +kernel
theorem dX10_addDriver_76 : decode cX10_addDriver 76 = .ok (.invokevirtual 85, 3) := by decide +kernel
theorem dX10_addDriver_79 : decode cX10_addDriver 79 = .ok (.astore 5, 2) := by decide +kernel
theorem dX10_addDriver_81 : decode cX10_addDriver 81 = .ok (.aload 5, 2) := by decide +kernel
theorem dX10_addDriver_83 : decode cX10_addDriver 83 = .ok (.iload_n 1, 1) := by decide +kernel
theorem dX10_addDriver_84 : decode cX10_addDriver 84 = .ok (.iload_n 2, 1) := by decide +kernel
theorem dX10_addDriver_85 : decode cX10_addDriver 85 = .ok (.iload_n 3, 1) := by decide +kernel
theorem dX10_addDriver_86 : decode cX10_addDriver 86 = .ok (.iload 4, 2) := by decide +kernel
theorem dX10_addDriver_88 : decode cX10_addDriver 88 = .ok (.invokevirtual 89, 3) := by decide +kernel
theorem dX10_addDriver_91 : decode cX10_addDriver 91 = .ok (.aload 5, 2) := by decide +kernel
theorem dX10_addDriver_93 : decode cX10_addDriver 93 = .ok (.getfield 95, 3) := by decide +kernel
theorem dX10_addDriver_96 : decode cX10_addDriver 96 = .ok (.ireturn, 1) := by decide +kernel
theorem dX10_setTrip_0 : decode cX10_setTrip 0 = .ok (.aload_n 0, 1) := by decide +kernel
theorem dX10_setTrip_1 : decode cX10_setTrip 1 = .ok (.getfield 12, 3) := by decide +kernel
theorem dX10_setTrip_4 : decode cX10_setTrip 4 = .ok (.iload_n 1, 1) := by decide +kernel
theorem dX10_setTrip_5 : decode cX10_setTrip 5 = .ok (.invokevirtual 99, 3) := by decide +kernel
theorem dX10_setTrip_8 : decode cX10_setTrip 8 = .ok (.astore 6, 2) := by decide +kernel
theorem dX10_setTrip_10 : decode cX10_setTrip 10 = .ok (.iload_n 2, 1) := by decide +kernel
theorem dX10_setTrip_11 : decode cX10_setTrip 11 = .ok (.iload_n 3, 1) := by decide +kernel
theorem dX10_setTrip_12 : decode cX10_setTrip 12 = .ok (.invokestatic 103, 3) := by decide +kernel
theorem dX10_setTrip_15 : decode cX10_setTrip 15 = .ok (.ifCond .eq 13, 3) := by decide +kernel
theorem dX10_setTrip_18 : decode cX10_setTrip 18 = .ok (.iload 4, 2) := by decide +kernel
theorem dX10_setTrip_20 : decode cX10_setTrip 20 = .ok (.iload 5, 2) := by decide +kernel
theorem dX10_setTrip_22 : decode cX10_setTrip 22 = .ok (.invokestatic 103, 3) := by decide +kernel
theorem dX10_setTrip_25 : decode cX10_setTrip 25 = .ok (.ifCond .ne 13, 3) := by decide +kernel
theorem dX10_setTrip_28 : decode cX10_setTrip 28 = .ok (.new 69, 3) := by decide +kernel
theorem dX10_setTrip_31 : decode cX10_setTrip 31 = .ok (.dup, 1) := by decide +kernel
theorem dX10_setTrip_32 : decode cX10_setTrip 32 = .ok (.ldc 107, 2) := by decide +kernel
theorem dX10_setTrip_34 : decode cX10_setTrip 34 = .ok (.invokespecial 73, 3) := by decide +kernel
theorem dX10_setTrip_37 : decode cX10_setTrip 37 = .ok (.athrow, 1) := by decide +kernel
theorem dX10_setTrip_38 : decode cX10_setTrip 38 = .ok (.aload 6, 2) := by decide +kernel
theorem dX10_setTrip_40 : decode cX10_setTrip 40 = .ok (.getfield 109, 3) := by decide +kernel
theorem dX10_setTrip_43 : decode cX10_setTrip 43 = .ok (.ifCond .ne 14, 3) := by decide +kernel
theorem dX10_setTrip_46 : decode cX10_setTrip 46 = .ok (.aload 6, 2) := by decide +kernel
theorem dX10_setTrip_48 : decode cX10_setTrip 48 = .ok (.getfield 113, 3) := by decide +kernel
theorem dX10_setTrip_51 : decode cX10_setTrip 51 = .ok (.invokevirtual 117, 3) := by decide +kernel
theorem dX10_setTrip_54 : decode cX10_setTrip 54 = .ok (.ifCond .le 13, 3) := by decide +kernel
theorem dX10_setTrip_57 : decode cX10_setTrip 57 = .ok (.new 80, 3) := by decide +kernel
theorem dX10_setTrip_60 : decode cX10_setTrip 60 = .ok (.dup, 1) := by decide +kernel
theorem dX10_setTrip_61 : decode cX10_setTrip 61 = .ok (.ldc 123, 2) := by decide +kernel
theorem dX10_setTrip_63 : decode cX10_setTrip 63 = .ok (.invokespecial 84, 3) := by decide +kernel
theorem dX10_setTrip_66 : decode cX10_setTrip 66 = .ok (.athrow, 1) := by decide +kernel
theorem dX10_setTrip_67 : decode cX10_setTrip 67 = .ok (.aload 6, 2) := by decide +kernel
theorem dX10_setTrip_69 : decode cX10_setTrip 69 = .ok (.getfield 113, 3) := by decide +kernel
theorem dX10_setTrip_72 : decode cX10_setTrip 72 = .ok (.iload_n 2, 1) := by decide +kernel
theorem dX10_setTrip_73 : decode cX10_setTrip 73 = .ok (.iload_n 3, 1) := by decide +kernel
theorem dX10_setTrip_74 : decode cX10_setTrip 74 = .ok (.iload 4, 2) := by decide +kernel
theorem dX10_setTrip_76 : decode cX10_setTrip 76 = .ok (.iload 5, 2) := by decide +kernel
theorem dX10_setTrip_78 : decode cX10_setTrip 78 = .ok (.invokevirtual 125, 3) := by decide +kernel
theorem dX10_setTrip_81 : decode cX10_setTrip 81 = .ok (.aload 6, 2) := by decide +kernel
theorem dX10_setTrip_83 : decode cX10_setTrip 83 = .ok (.getfield 113, 3) := by decide +kernel
theorem dX10_setTrip_86 : decode cX10_setTrip 86 = .ok (.invokevirtual 126, 3) := by decide +kernel
theorem dX10_setTrip_89 : decode cX10_setTrip 89 = .ok (.ireturn, 1) := by decide +kernel
theorem dX10_addRider_0 : decode cX10_addRider 0 = .ok (.iload_n 1, 1) := by decide +kernel
theorem dX10_addRider_1 : decode cX10_addRider 1 = .ok (.iload_n 2, 1) := by decide +kernel
theorem dX10_addRider_2 : decode cX10_addRider 2 = .ok (.invokestatic 103, 3) := by decide +kernel
theorem dX10_addRider_5 : decode cX10_addRider 5 = .ok (.ifCond .eq 36, 3) := by decide +kernel
theorem dX10_addRider_8 : decode cX10_addRider 8 = .ok (.iload_n 3, 1) := by decide +kernel
theorem dX10_addRider_9 : decode cX10_addRider 9 = .ok (.iload 4, 2) := by decide +kernel
theorem dX10_addRider_11 : decode cX10_addRider 11 = .ok (.invokestatic 103, 3) := by decide +kernel
theorem dX10_addRider_14 : decode cX10_addRider 14 = .ok (.ifCond .eq 27, 3) := by decide +kernel
theorem dX10_addRider_17 : decode cX10_addRider 17 = .ok (.iload 5, 2) := by decide +kernel
theorem dX10_addRider_19 : decode cX10_addRider 19 = .ok (.iconst 0, 1) := by decide +kernel
theorem dX10_addRider_20 : decode cX10_addRider 20 = .ok (.sipush 1439, 3) := by decide +kernel
theorem dX10_addRider_23 : decode cX10_addRider 23 = .ok (.invokestatic 65, 3) := by decide +kernel
theorem dX10_addRider_26 : decode cX10_addRider 26 = .ok (.ifCond .eq 15, 3) := by decide +kernel
theorem dX10_addRider_29 : decode cX10_addRider 29 = .ok (.iload 6, 2) := by decide +kernel
theorem dX10_addRider_31 : decode cX10_addRider 31 = .ok (.iconst 0, 1) := by decide +kernel
theorem dX10_addRider_32 : decode cX10_addRider 32 = .ok (.sipush 9999, 3) := by decide +kernel
theorem dX10_addRider_35 : decode cX10_addRider 35 = .ok (.invokestatic 65, 3) := by decide +kernel
theorem dX10_addRider_38 : decode cX10_addRider 38 = .ok (.ifCond .ne 13, 3) := by decide +kernel
theorem dX10_addRider_41 : decode cX10_addRider 41 = .ok (.new 69, 3) := by decide +kernel
theorem dX10_addRider_44 : decode cX10_addRider 44 = .ok (.dup, 1) := by decide +kernel
theorem dX10_addRider_45 : decode cX10_addRider 45 = .ok (.ldc 71, 2) := by decide +kernel
theorem dX10_addRider_47 : decode cX10_addRider 47 = .ok (.invokespecial 73, 3) := by decide +kernel
theorem dX10_addRider_50 : decode cX10_addRider 50 = .ok (.athrow, 1) := by decide +kernel
theorem dX10_addRider_51 : decode cX10_addRider 51 = .ok (.aload_n 0, 1) := by decide +kernel
theorem dX10_addRider_52 : decode cX10_addRider 52 = .ok (.getfield 12, 3) := by decide +kernel
theorem dX10_addRider_55 : decode cX10_addRider 55 = .ok (.invokevirtual 129, 3) := by decide +kernel
theorem dX10_addRider_58 : decode cX10_addRider 58 = .ok (.ifCond .eq 13, 3) := by decide +kernel
theorem dX10_addRider_61 : decode cX10_addRider 61 = .ok (.new 80, 3) := by decide +kernel
theorem dX10_addRider_64 : decode cX10_addRider 64 = .ok (.dup, 1) := by decide +kernel
theorem dX10_addRider_65 : decode cX10_addRider 65 = .ok (.ldc 132, 2) := by decide +kernel
theorem dX10_addRider_67 : decode cX10_addRider 67 = .ok (.invokespecial 84, 3) := by decide +kernel
theorem dX10_addRider_70 : decode cX10_addRider 70 = .ok (.athrow, 1) := by decide +kernel
theorem dX10_addRider_71 : decode cX10_addRider 71 = .ok (.aload_n 0, 1) := by decide +kernel
theorem dX10_addRider_72 : decode cX10_addRider 72 = .ok (.getfield 12, 3) := by decide +kernel
theorem dX10_addRider_75 : decode cX10_addRider 75 = .ok (.invokevirtual 134, 3) := by decide +kernel
theorem dX10_addRider_78 : decode cX10_addRider 78 = .ok (.astore 7, 2) := by decide +kernel
theorem dX10_addRider_80 : decode cX10_addRider 80 = .ok (.aload 7, 2) := by decide +kernel
theorem dX10_addRider_82 : decode cX10_addRider 82 = .ok (.iload 5, 2) := by decide +kernel
theorem dX10_addRider_84 : decode cX10_addRider 84 = .ok (.iload 6, 2) := by decide +kernel
theorem dX10_addRider_86 : decode cX10_addRider 86 = .ok (.invokevirtual 138, 3) := by decide +kernel
theorem dX10_addRider_89 : decode cX10_addRider 89 = .ok (.aload 7, 2) := by decide +kernel
theorem dX10_addRider_91 : decode cX10_addRider 91 = .ok (.iload_n 1, 1) := by decide +kernel
theorem dX10_addRider_92 : decode cX10_addRider 92 = .ok (.iload_n 2, 1) := by decide +kernel
theorem dX10_addRider_93 : decode cX10_addRider 93 = .ok (.iload_n 3, 1) := by decide +kernel
theorem dX10_addRider_94 : decode cX10_addRider 94 = .ok (.iload 4, 2) := by decide +kernel
theorem dX10_addRider_96 : decode cX10_addRider 96 = .ok (.invokevirtual 143, 3) := by decide +kernel
theorem dX10_addRider_99 : decode cX10_addRider 99 = .ok (.aload 7, 2) := by decide +kernel
theorem dX10_addRider_101 : decode cX10_addRider 101 = .ok (.getfield 146, 3) := by decide +kernel
theorem dX10_addRider_104 : decode cX10_addRider 104 = .ok (.ireturn, 1) := by decide +kernel
theorem dX10_driverCount_0 : decode cX10_driverCount 0 = .ok (.aload_n 0, 1) := by decide +kernel
theorem dX10_driverCount_1 : decode cX10_driverCount 1 = .ok (.getfield 12, 3) := by decide +kernel
theorem dX10_driverCount_4 : decode cX10_driverCount 4 = .ok (.getfield 147, 3) := by decide +kernel
theorem dX10_driverCount_7 : decode cX10_driverCount 7 = .ok (.ireturn, 1) := by decide +kernel
theorem dX10_riderCount_0 : decode cX10_riderCount 0 = .ok (.aload_n 0, 1) := by decide +kernel
theorem dX10_riderCount_1 : decode cX10_riderCount 1 = .ok (.getfield 12, 3) := by decide +kernel
theorem dX10_riderCount_4 : decode cX10_riderCount 4 = .ok (.getfield 150, 3) := by decide +kernel
theorem dX10_riderCount_7 : decode cX10_riderCount 7 = .ok (.ireturn, 1) := by decide +kernel
theorem dX10_isDone_0 : decode cX10_isDone 0 = .ok (.aload_n 0, 1) := by decide +kernel
theorem dX10_isDone_1 : decode cX10_isDone 1 = .ok (.getfield 12, 3) := by decide +kernel
theorem dX10_isDone_4 : decode cX10_isDone 4 = .ok (.iload_n 1, 1) := by decide +kernel
theorem dX10_isDone_5 : decode cX10_isDone 5 = .ok (.invokevirtual 99, 3) := by decide +kernel
theorem dX10_isDone_8 : decode cX10_isDone 8 = .ok (.getfield 109, 3) := by decide +kernel
theorem dX10_isDone_11 : decode cX10_isDone 11 = .ok (.ireturn, 1) := by decide +kernel
theorem dX10_riderState_0 : decode cX10_riderState 0 = .ok (.aload_n 0, 1) := by decide +kernel
theorem dX10_riderState_1 : decode cX10_riderState 1 = .ok (.getfield 12, 3) := by decide +kernel
theorem dX10_riderState_4 : decode cX10_riderState 4 = .ok (.iload_n 1, 1) := by decide +kernel
theorem dX10_riderState_5 : decode cX10_riderState 5 = .ok (.invokevirtual 152, 3) := by decide +kernel
theorem dX10_riderState_8 : decode cX10_riderState 8 = .ok (.getfield 156, 3) := by decide +kernel
theorem dX10_riderState_11 : decode cX10_riderState 11 = .ok (.ireturn, 1) := by decide +kernel
theorem dX10_driverOf_0 : decode cX10_driverOf 0 = .ok (.aload_n 0, 1) := by decide +kernel
theorem dX10_driverOf_1 : decode cX10_driverOf 1 = .ok (.getfield 12, 3) := by decide +kernel
theorem dX10_driverOf_4 : decode cX10_driverOf 4 = .ok (.iload_n 1, 1) := by decide +kernel
theorem dX10_driverOf_5 : decode cX10_driverOf 5 = .ok (.invokevirtual 152, 3) := by decide +kernel
theorem dX10_driverOf_8 : decode cX10_driverOf 8 = .ok (.getfield 159, 3) := by decide +kernel
theorem dX10_driverOf_11 : decode cX10_driverOf 11 = .ok (.ireturn, 1) := by decide +kernel
theorem dX10_ridersOf_0 : decode cX10_ridersOf 0 = .ok (.aload_n 0, 1) := by decide +kernel
theorem dX10_ridersOf_1 : decode cX10_ridersOf 1 = .ok (.getfield 12, 3) := by decide +kernel
theorem dX10_ridersOf_4 : decode cX10_ridersOf 4 = .ok (.iload_n 1, 1) := by decide +kernel
theorem dX10_ridersOf_5 : decode cX10_ridersOf 5 = .ok (.invokevirtual 99, 3) := by decide +kernel
theorem dX10_ridersOf_8 : decode cX10_ridersOf 8 = .ok (.getfield 113, 3) := by decide +kernel
theorem dX10_ridersOf_11 : decode cX10_ridersOf 11 = .ok (.invokevirtual 161, 3) := by decide +kernel
theorem dX10_ridersOf_14 : decode cX10_ridersOf 14 = .ok (.ireturn, 1) := by decide +kernel
theorem dX10_setPenalty_0 : decode cX10_setPenalty 0 = .ok (.iload_n 1, 1) := by decide +kernel
theorem dX10_setPenalty_1 : decode cX10_setPenalty 1 = .ok (.iconst 0, 1) := by decide +kernel
theorem dX10_setPenalty_2 : decode cX10_setPenalty 2 = .ok (.sipush 9999, 3) := by decide +kernel
theorem dX10_setPenalty_5 : decode cX10_setPenalty 5 = .ok (.invokestatic 65, 3) := by decide +kernel
theorem dX10_setPenalty_8 : decode cX10_setPenalty 8 = .ok (.ifCond .ne 13, 3) := by decide +kernel
theorem dX10_setPenalty_11 : decode cX10_setPenalty 11 = .ok (.new 69, 3) := by decide +kernel
theorem dX10_setPenalty_14 : decode cX10_setPenalty 14 = .ok (.dup, 1) := by decide +kernel
theorem dX10_setPenalty_15 : decode cX10_setPenalty 15 = .ok (.ldc 164, 2) := by decide +kernel
theorem dX10_setPenalty_17 : decode cX10_setPenalty 17 = .ok (.invokespecial 73, 3) := by decide +kernel
theorem dX10_setPenalty_20 : decode cX10_setPenalty 20 = .ok (.athrow, 1) := by decide +kernel
theorem dX10_setPenalty_21 : decode cX10_setPenalty 21 = .ok (.aload_n 0, 1) := by decide +kernel
theorem dX10_setPenalty_22 : decode cX10_setPenalty 22 = .ok (.getfield 12, 3) := by decide +kernel
theorem dX10_setPenalty_25 : decode cX10_setPenalty 25 = .ok (.getfield 166, 3) := by decide +kernel
theorem dX10_setPenalty_28 : decode cX10_setPenalty 28 = .ok (.istore_n 2, 1) := by decide +kernel
theorem dX10_setPenalty_29 : decode cX10_setPenalty 29 = .ok (.aload_n 0, 1) := by decide +kernel
theorem dX10_setPenalty_30 : decode cX10_setPenalty 30 = .ok (.getfield 12, 3) := by decide +kernel
theorem dX10_setPenalty_33 : decode cX10_setPenalty 33 = .ok (.iload_n 1, 1) := by decide +kernel
theorem dX10_setPenalty_34 : decode cX10_setPenalty 34 = .ok (.putfield 166, 3) := by decide +kernel
theorem dX10_setPenalty_37 : decode cX10_setPenalty 37 = .ok (.iload_n 2, 1) := by decide +kernel
theorem dX10_setPenalty_38 : decode cX10_setPenalty 38 = .ok (.ireturn, 1) := by decide +kernel
theorem dX10_stopCount_0 : decode cX10_stopCount 0 = .ok (.aload_n 0, 1) := by decide +kernel
theorem dX10_stopCount_1 : decode cX10_stopCount 1 = .ok (.getfield 12, 3) := by decide +kernel
theorem dX10_stopCount_4 : decode cX10_stopCount 4 = .ok (.iload_n 1, 1) := by decide +kernel
theorem dX10_stopCount_5 : decode cX10_stopCount 5 = .ok (.invokevirtual 99, 3) := by decide +kernel
theorem dX10_stopCount_8 : decode cX10_stopCount 8 = .ok (.getfield 113, 3) := by decide +kernel
theorem dX10_stopCount_11 : decode cX10_stopCount 11 = .ok (.getfield 169, 3) := by decide +kernel
theorem dX10_stopCount_14 : decode cX10_stopCount 14 = .ok (.ireturn, 1) := by decide +kernel
theorem dX10_stopRider_0 : decode cX10_stopRider 0 = .ok (.aload_n 0, 1) := by decide +kernel
theorem dX10_stopRider_1 : decode cX10_stopRider 1 = .ok (.iload_n 1, 1) := by decide +kernel
theorem dX10_stopRider_2 : decode cX10_stopRider 2 = .ok (.iload_n 2, 1) := by decide +kernel
theorem dX10_stopRider_3 : decode cX10_stopRider 3 = .ok (.invokevirtual 172, 3) := by decide +kernel
theorem dX10_stopRider_6 : decode cX10_stopRider 6 = .ok (.getfield 176, 3) := by decide +kernel
theorem dX10_stopRider_9 : decode cX10_stopRider 9 = .ok (.iload_n 2, 1) := by decide +kernel
theorem dX10_stopRider_10 : decode cX10_stopRider 10 = .ok (.iaload, 1) := by decide +kernel
theorem dX10_stopRider_11 : decode cX10_stopRider 11 = .ok (.ireturn, 1) := by decide +kernel
theorem dX10_arrival_0 : decode cX10_arrival 0 = .ok (.aload_n 0, 1) := by decide +kernel
theorem dX10_arrival_1 : decode cX10_arrival 1 = .ok (.iload_n 1, 1) := by decide +kernel
theorem dX10_arrival_2 : decode cX10_arrival 2 = .ok (.iload_n 2, 1) := by decide +kernel
theorem dX10_arrival_3 : decode cX10_arrival 3 = .ok (.invokevirtual 172, 3) := by decide +kernel
theorem dX10_arrival_6 : decode cX10_arrival 6 = .ok (.iload_n 2, 1) := by decide +kernel
theorem dX10_arrival_7 : decode cX10_arrival 7 = .ok (.aload_n 0, 1) := by decide +kernel
theorem dX10_arrival_8 : decode cX10_arrival 8 = .ok (.getfield 12, 3) := by decide +kernel
theorem dX10_arrival_11 : decode cX10_arrival 11 = .ok (.iload_n 1, 1) := by decide +kernel
theorem dX10_arrival_12 : decode cX10_arrival 12 = .ok (.invokevirtual 99, 3) := by decide +kernel
theorem dX10_arrival_15 : decode cX10_arrival 15 = .ok (.getfield 180, 3) := by decide +kernel
theorem dX10_arrival_18 : decode cX10_arrival 18 = .ok (.invokevirtual 183, 3) := by decide +kernel
theorem dX10_arrival_21 : decode cX10_arrival 21 = .ok (.ireturn, 1) := by decide +kernel
theorem dX10_routeLength_0 : decode cX10_routeLength 0 = .ok (.aload_n 0, 1) := by decide +kernel
theorem dX10_routeLength_1 : decode cX10_routeLength 1 = .ok (.getfield 12, 3) := by decide +kernel
theorem dX10_routeLength_4 : decode cX10_routeLength 4 = .ok (.iload_n 1, 1) := by decide +kernel
theorem dX10_routeLength_5 : decode cX10_routeLength 5 = .ok (.invokevirtual 99, 3) := by decide +kernel
theorem dX10_routeLength_8 : decode cX10_routeLength 8 = .ok (.getfield 113, 3) := by decide +kernel
theorem dX10_routeLength_11 : decode cX10_routeLength 11 = .ok (.invokevirtual 187, 3) := by decide +kernel
theorem dX10_routeLength_14 : decode cX10_routeLength 14 = .ok (.ireturn, 1) := by decide +kernel
theorem dX10_detour_0 : decode cX10_detour 0 = .ok (.aload_n 0, 1) := by decide +kernel
theorem dX10_detour_1 : decode cX10_detour 1 = .ok (.getfield 12, 3) := by decide +kernel
theorem dX10_detour_4 : decode cX10_detour 4 = .ok (.iload_n 1, 1) := by decide +kernel
theorem dX10_detour_5 : decode cX10_detour 5 = .ok (.invokevirtual 99, 3) := by decide +kernel
theorem dX10_detour_8 : decode cX10_detour 8 = .ok (.getfield 113, 3) := by decide +kernel
theorem dX10_detour_11 : decode cX10_detour 11 = .ok (.invokevirtual 190, 3) := by decide +kernel
theorem dX10_detour_14 : decode cX10_detour 14 = .ok (.ireturn, 1) := by decide +kernel
theorem dX10_extra_0 : decode cX10_extra 0 = .ok (.aload_n 0, 1) := by decide +kernel
theorem dX10_extra_1 : decode cX10_extra 1 = .ok (.getfield 12, 3) := by decide +kernel
theorem dX10_extra_4 : decode cX10_extra 4 = .ok (.iload_n 1, 1) := by decide +kernel
theorem dX10_extra_5 : decode cX10_extra 5 = .ok (.invokevirtual 152, 3) := by decide +kernel
theorem dX10_extra_8 : decode cX10_extra 8 = .ok (.astore_n 3, 1) := by decide +kernel
theorem dX10_extra_9 : decode cX10_extra 9 = .ok (.aload_n 0, 1) := by decide +kernel
theorem dX10_extra_10 : decode cX10_extra 10 = .ok (.getfield 26, 3) := by decide +kernel
theorem dX10_extra_13 : decode cX10_extra 13 = .ok (.aload_n 3, 1) := by decide +kernel
theorem dX10_extra_14 : decode cX10_extra 14 = .ok (.aload_n 0, 1) := by decide +kernel
theorem dX10_extra_15 : decode cX10_extra 15 = .ok (.getfield 12, 3) := by decide +kernel
theorem dX10_extra_18 : decode cX10_extra 18 = .ok (.iload_n 2, 1) := by decide +kernel
theorem dX10_extra_19 : decode cX10_extra 19 = .ok (.invokevirtual 99, 3) := by decide +kernel
theorem dX10_extra_22 : decode cX10_extra 22 = .ok (.invokevirtual 193, 3) := by decide +kernel
theorem dX10_extra_25 : decode cX10_extra 25 = .ok (.ireturn, 1) := by decide +kernel
theorem dX10_soloExtra_0 : decode cX10_soloExtra 0 = .ok (.aload_n 0, 1) := by decide +kernel
theorem dX10_soloExtra_1 : decode cX10_soloExtra 1 = .ok (.getfield 12, 3) := by decide +kernel
theorem dX10_soloExtra_4 : decode cX10_soloExtra 4 = .ok (.iload_n 1, 1) := by decide +kernel
theorem dX10_soloExtra_5 : decode cX10_soloExtra 5 = .ok (.invokevirtual 152, 3) := by decide +kernel
theorem dX10_soloExtra_8 : decode cX10_soloExtra 8 = .ok (.astore_n 3, 1) := by decide +kernel
theorem dX10_soloExtra_9 : decode cX10_soloExtra 9 = .ok (.aload_n 0, 1) := by decide +kernel
theorem dX10_soloExtra_10 : decode cX10_soloExtra 10 = .ok (.getfield 26, 3) := by decide +kernel
theorem dX10_soloExtra_13 : decode cX10_soloExtra 13 = .ok (.aload_n 3, 1) := by decide +kernel
theorem dX10_soloExtra_14 : decode cX10_soloExtra 14 = .ok (.aload_n 0, 1) := by decide +kernel
theorem dX10_soloExtra_15 : decode cX10_soloExtra 15 = .ok (.getfield 12, 3) := by decide +kernel
theorem dX10_soloExtra_18 : decode cX10_soloExtra 18 = .ok (.iload_n 2, 1) := by decide +kernel
theorem dX10_soloExtra_19 : decode cX10_soloExtra 19 = .ok (.invokevirtual 99, 3) := by decide +kernel
theorem dX10_soloExtra_22 : decode cX10_soloExtra 22 = .ok (.invokevirtual 197, 3) := by decide +kernel
theorem dX10_soloExtra_25 : decode cX10_soloExtra 25 = .ok (.ireturn, 1) := by decide +kernel
theorem dX10_bestDriver_0 : decode cX10_bestDriver 0 = .ok (.aload_n 0, 1) := by decide +kernel
theorem dX10_bestDriver_1 : decode cX10_bestDriver 1 = .ok (.getfield 12, 3) := by decide +kernel
theorem dX10_bestDriver_4 : decode cX10_bestDriver 4 = .ok (.iload_n 1, 1) := by decide +kernel
theorem dX10_bestDriver_5 : decode cX10_bestDriver 5 = .ok (.invokevirtual 152, 3) := by decide +kernel
theorem dX10_bestDriver_8 : decode cX10_bestDriver 8 = .ok (.astore_n 2, 1) := by decide +kernel
theorem dX10_bestDriver_9 : decode cX10_bestDriver 9 = .ok (.iconst (-1), 1) := by decide +kernel
theorem dX10_bestDriver_10 : decode cX10_bestDriver 10 = .ok (.istore_n 3, 1) := by decide +kernel
theorem dX10_bestDriver_11 : decode cX10_bestDriver 11 = .ok (.iconst (-1), 1) := by decide +kernel
theorem dX10_bestDriver_12 : decode cX10_bestDriver 12 = .ok (.istore 4, 2) := by decide +kernel
theorem dX10_bestDriver_14 : decode cX10_bestDriver 14 = .ok (.iconst 0, 1) := by decide +kernel
theorem dX10_bestDriver_15 : decode cX10_bestDriver 15 = .ok (.istore 5, 2) := by decide +kernel
theorem dX10_bestDriver_17 : decode cX10_bestDriver 17 = .ok (.iload 5, 2) := by decide +kernel
theorem dX10_bestDriver_19 : decode cX10_bestDriver 19 = .ok (.aload_n 0, 1) := by decide +kernel
theorem dX10_bestDriver_20 : decode cX10_bestDriver 20 = .ok (.getfield 12, 3) := by decide +kernel
theorem dX10_bestDriver_23 : decode cX10_bestDriver 23 = .ok (.getfield 147, 3) := by decide +kernel
theorem dX10_bestDriver_26 : decode cX10_bestDriver 26 = .ok (.if_icmp .ge 69, 3) := by decide +kernel
theorem dX10_bestDriver_29 : decode cX10_bestDriver 29 = .ok (.aload_n 0, 1) := by decide +kernel
theorem dX10_bestDriver_30 : decode cX10_bestDriver 30 = .ok (.getfield 12, 3) := by decide +kernel
theorem dX10_bestDriver_33 : decode cX10_bestDriver 33 = .ok (.iload 5, 2) := by decide +kernel
theorem dX10_bestDriver_35 : decode cX10_bestDriver 35 = .ok (.invokevirtual 99, 3) := by decide +kernel
theorem dX10_bestDriver_38 : decode cX10_bestDriver 38 = .ok (.astore 6, 2) := by decide +kernel
theorem dX10_bestDriver_40 : decode cX10_bestDriver 40 = .ok (.aload 6, 2) := by decide +kernel
theorem dX10_bestDriver_42 : decode cX10_bestDriver 42 = .ok (.getfield 109, 3) := by decide +kernel
theorem dX10_bestDriver_45 : decode cX10_bestDriver 45 = .ok (.ifCond .eq 7, 3) := by decide +kernel
theorem dX10_bestDriver_48 : decode cX10_bestDriver 48 = .ok (.iconst (-1), 1) := by decide +kernel
theorem dX10_bestDriver_49 : decode cX10_bestDriver 49 = .ok (.goto 13, 3) := by decide +kernel
theorem dX10_bestDriver_52 : decode cX10_bestDriver 52 = .ok (.aload_n 0, 1) := by decide +kernel
theorem dX10_bestDriver_53 : decode cX10_bestDriver 53 = .ok (.getfield 26, 3) := by decide +kernel
theorem dX10_bestDriver_56 : decode cX10_bestDriver 56 = .ok (.aload_n 2, 1) := by decide +kernel
theorem dX10_bestDriver_57 : decode cX10_bestDriver 57 = .ok (.aload 6, 2) := by decide +kernel
theorem dX10_bestDriver_59 : decode cX10_bestDriver 59 = .ok (.invokevirtual 193, 3) := by decide +kernel
theorem dX10_bestDriver_62 : decode cX10_bestDriver 62 = .ok (.istore 7, 2) := by decide +kernel
theorem dX10_bestDriver_64 : decode cX10_bestDriver 64 = .ok (.iload 7, 2) := by decide +kernel
theorem dX10_bestDriver_66 : decode cX10_bestDriver 66 = .ok (.iconst (-1), 1) := by decide +kernel
theorem dX10_bestDriver_67 : decode cX10_bestDriver 67 = .ok (.if_icmp .eq 22, 3) := by decide +kernel
theorem dX10_bestDriver_70 : decode cX10_bestDriver 70 = .ok (.iload_n 3, 1) := by decide +kernel
theorem dX10_bestDriver_71 : decode cX10_bestDriver 71 = .ok (.iconst (-1), 1) := by decide +kernel
theorem dX10_bestDriver_72 : decode cX10_bestDriver 72 = .ok (.if_icmp .eq 10, 3) := by decide +kernel
theorem dX10_bestDriver_75 : decode cX10_bestDriver 75 = .ok (.iload 7, 2) := by decide +kernel
theorem dX10_bestDriver_77 : decode cX10_bestDriver 77 = .ok (.iload 4, 2) := by decide +kernel
theorem dX10_bestDriver_79 : decode cX10_bestDriver 79 = .ok (.if_icmp .ge 10, 3) := by decide +kernel
theorem dX10_bestDriver_82 : decode cX10_bestDriver 82 = .ok (.iload 5, 2) := by decide +kernel
theorem dX10_bestDriver_84 : decode cX10_bestDriver 84 = .ok (.istore_n 3, 1) := by decide +kernel
theorem dX10_bestDriver_85 : decode cX10_bestDriver 85 = .ok (.iload 7, 2) := by decide +kernel
theorem dX10_bestDriver_87 : decode cX10_bestDriver 87 = .ok (.istore 4, 2) := by decide +kernel
theorem dX10_bestDriver_89 : decode cX10_bestDriver 89 = .ok (.iinc 5 1, 3) := by decide +kernel
theorem dX10_bestDriver_92 : decode cX10_bestDriver 92 = .ok (.goto (-75), 3) := by decide +kernel
theorem dX10_bestDriver_95 : decode cX10_bestDriver 95 = .ok (.iload_n 3, 1) := by decide +kernel
theorem dX10_bestDriver_96 : decode cX10_bestDriver 96 = .ok (.ireturn, 1) := by decide +kernel
theorem dX10_assign_0 : decode cX10_assign 0 = .ok (.aload_n 0, 1) := by decide +kernel
theorem dX10_assign_1 : decode cX10_assign 1 = .ok (.getfield 12, 3) := by decide +kernel
theorem dX10_assign_4 : decode cX10_assign 4 = .ok (.iload_n 1, 1) := by decide +kernel
theorem dX10_assign_5 : decode cX10_assign 5 = .ok (.invokevirtual 152, 3) := by decide +kernel
theorem dX10_assign_8 : decode cX10_assign 8 = .ok (.astore_n 3, 1) := by decide +kernel
theorem dX10_assign_9 : decode cX10_assign 9 = .ok (.aload_n 0, 1) := by decide +kernel
theorem dX10_assign_10 : decode cX10_assign 10 = .ok (.getfield 12, 3) := by decide +kernel
theorem dX10_assign_13 : decode cX10_assign 13 = .ok (.iload_n 2, 1) := by decide +kernel
theorem dX10_assign_14 : decode cX10_assign 14 = .ok (.invokevirtual 99, 3) := by decide +kernel
theorem dX10_assign_17 : decode cX10_assign 17 = .ok (.astore 4, 2) := by decide +kernel
theorem dX10_assign_19 : decode cX10_assign 19 = .ok (.aload_n 3, 1) := by decide +kernel
theorem dX10_assign_20 : decode cX10_assign 20 = .ok (.getfield 156, 3) := by decide +kernel
theorem dX10_assign_23 : decode cX10_assign 23 = .ok (.ifCond .eq 13, 3) := by decide +kernel
theorem dX10_assign_26 : decode cX10_assign 26 = .ok (.new 80, 3) := by decide +kernel
theorem dX10_assign_29 : decode cX10_assign 29 = .ok (.dup, 1) := by decide +kernel
theorem dX10_assign_30 : decode cX10_assign 30 = .ok (.ldc 200, 2) := by decide +kernel
theorem dX10_assign_32 : decode cX10_assign 32 = .ok (.invokespecial 84, 3) := by decide +kernel
theorem dX10_assign_35 : decode cX10_assign 35 = .ok (.athrow, 1) := by decide +kernel
theorem dX10_assign_36 : decode cX10_assign 36 = .ok (.aload 4, 2) := by decide +kernel
theorem dX10_assign_38 : decode cX10_assign 38 = .ok (.getfield 109, 3) := by decide +kernel
theorem dX10_assign_41 : decode cX10_assign 41 = .ok (.ifCond .eq 13, 3) := by decide +kernel
theorem dX10_assign_44 : decode cX10_assign 44 = .ok (.new 80, 3) := by decide +kernel
theorem dX10_assign_47 : decode cX10_assign 47 = .ok (.dup, 1) := by decide +kernel
theorem dX10_assign_48 : decode cX10_assign 48 = .ok (.ldc 202, 2) := by decide +kernel
theorem dX10_assign_50 : decode cX10_assign 50 = .ok (.invokespecial 84, 3) := by decide +kernel
theorem dX10_assign_53 : decode cX10_assign 53 = .ok (.athrow, 1) := by decide +kernel
theorem dX10_assign_54 : decode cX10_assign 54 = .ok (.aload_n 0, 1) := by decide +kernel
theorem dX10_assign_55 : decode cX10_assign 55 = .ok (.getfield 26, 3) := by decide +kernel
theorem dX10_assign_58 : decode cX10_assign 58 = .ok (.aload_n 3, 1) := by decide +kernel
theorem dX10_assign_59 : decode cX10_assign 59 = .ok (.aload 4, 2) := by decide +kernel
theorem dX10_assign_61 : decode cX10_assign 61 = .ok (.invokevirtual 204, 3) := by decide +kernel
theorem dX10_assign_64 : decode cX10_assign 64 = .ok (.istore 5, 2) := by decide +kernel
theorem dX10_assign_66 : decode cX10_assign 66 = .ok (.iload 5, 2) := by decide +kernel
theorem dX10_assign_68 : decode cX10_assign 68 = .ok (.iconst (-1), 1) := by decide +kernel
theorem dX10_assign_69 : decode cX10_assign 69 = .ok (.if_icmp .ne 13, 3) := by decide +kernel
theorem dX10_assign_72 : decode cX10_assign 72 = .ok (.new 80, 3) := by decide +kernel
theorem dX10_assign_75 : decode cX10_assign 75 = .ok (.dup, 1) := by decide +kernel
theorem dX10_assign_76 : decode cX10_assign 76 = .ok (.ldc 207, 2) := by decide +kernel
theorem dX10_assign_78 : decode cX10_assign 78 = .ok (.invokespecial 84, 3) := by decide +kernel
theorem dX10_assign_81 : decode cX10_assign 81 = .ok (.athrow, 1) := by decide +kernel
theorem dX10_assign_82 : decode cX10_assign 82 = .ok (.iload 5, 2) := by decide +kernel
theorem dX10_assign_84 : decode cX10_assign 84 = .ok (.ireturn, 1) := by decide +kernel
theorem dX10_unassign_0 : decode cX10_unassign 0 = .ok (.aload_n 0, 1) := by decide +kernel
theorem dX10_unassign_1 : decode cX10_unassign 1 = .ok (.iload_n 1, 1) := by decide +kernel
theorem dX10_unassign_2 : decode cX10_unassign 2 = .ok (.invokevirtual 209, 3) := by decide +kernel
theorem dX10_unassign_5 : decode cX10_unassign 5 = .ok (.astore_n 2, 1) := by decide +kernel
theorem dX10_unassign_6 : decode cX10_unassign 6 = .ok (.aload_n 0, 1) := by decide +kernel
theorem dX10_unassign_7 : decode cX10_unassign 7 = .ok (.getfield 12, 3) := by decide +kernel
theorem dX10_unassign_10 : decode cX10_unassign 10 = .ok (.aload_n 2, 1) := by decide +kernel
theorem dX10_unassign_11 : decode cX10_unassign 11 = .ok (.getfield 159, 3) := by decide +kernel
theorem dX10_unassign_14 : decode cX10_unassign 14 = .ok (.invokevirtual 99, 3) := by decide +kernel
theorem dX10_unassign_17 : decode cX10_unassign 17 = .ok (.getfield 113, 3) := by decide +kernel
theorem dX10_unassign_20 : decode cX10_unassign 20 = .ok (.astore_n 3, 1) := by decide +kernel
theorem dX10_unassign_21 : decode cX10_unassign 21 = .ok (.aload_n 3, 1) := by decide +kernel
theorem dX10_unassign_22 : decode cX10_unassign 22 = .ok (.invokevirtual 187, 3) := by decide +kernel
theorem dX10_unassign_25 : decode cX10_unassign 25 = .ok (.istore 4, 2) := by decide +kernel
theorem dX10_unassign_27 : decode cX10_unassign 27 = .ok (.aload_n 0, 1) := by decide +kernel
theorem dX10_unassign_28 : decode cX10_unassign 28 = .ok (.aload_n 2, 1) := by decide +kernel
theorem dX10_unassign_29 : decode cX10_unassign 29 = .ok (.iconst 0, 1) := by decide +kernel
theorem dX10_unassign_30 : decode cX10_unassign 30 = .ok (.invokevirtual 212, 3) := by decide +kernel
theorem dX10_unassign_33 : decode cX10_unassign 33 = .ok (.iload 4, 2) := by decide +kernel
theorem dX10_unassign_35 : decode cX10_unassign 35 = .ok (.aload_n 3, 1) := by decide +kernel
theorem dX10_unassign_36 : decode cX10_unassign 36 = .ok (.invokevirtual 187, 3) := by decide +kernel
theorem dX10_unassign_39 : decode cX10_unassign 39 = .ok (.isub, 1) := by decide +kernel
theorem dX10_unassign_40 : decode cX10_unassign 40 = .ok (.ireturn, 1) := by decide +kernel
theorem dX10_match_0 : decode cX10_match 0 = .ok (.aload_n 0, 1) := by decide +kernel
theorem dX10_match_1 : decode cX10_match 1 = .ok (.getfield 12, 3) := by decide +kernel
theorem dX10_match_4 : decode cX10_match 4 = .ok (.invokevirtual 216, 3) := by decide +kernel
theorem dX10_match_7 : decode cX10_match 7 = .ok (.aload_n 0, 1) := by decide +kernel
theorem dX10_match_8 : decode cX10_match 8 = .ok (.getfield 33, 3) := by decide +kernel
theorem dX10_match_11 : decode cX10_match 11 = .ok (.aload_n 0, 1) := by decide +kernel
theorem dX10_match_12 : decode cX10_match 12 = .ok (.getfield 12, 3) := by decide +kernel
theorem dX10_match_15 : decode cX10_match 15 = .ok (.aload_n 0, 1) := by decide +kernel
theorem dX10_match_16 : decode cX10_match 16 = .ok (.getfield 26, 3) := by decide +kernel
theorem dX10_match_19 : decode cX10_match 19 = .ok (.invokevirtual 219, 3) := by decide +kernel
theorem dX10_match_22 : decode cX10_match 22 = .ok (.aload_n 0, 1) := by decide +kernel
theorem dX10_match_23 : decode cX10_match 23 = .ok (.getfield 40, 3) := by decide +kernel
theorem dX10_match_26 : decode cX10_match 26 = .ok (.aload_n 0, 1) := by decide +kernel
theorem dX10_match_27 : decode cX10_match 27 = .ok (.getfield 12, 3) := by decide +kernel
theorem dX10_match_30 : decode cX10_match 30 = .ok (.aload_n 0, 1) := by decide +kernel
theorem dX10_match_31 : decode cX10_match 31 = .ok (.getfield 33, 3) := by decide +kernel
theorem dX10_match_34 : decode cX10_match 34 = .ok (.invokevirtual 223, 3) := by decide +kernel
theorem dX10_match_37 : decode cX10_match 37 = .ok (.iconst 0, 1) := by decide +kernel
theorem dX10_match_38 : decode cX10_match 38 = .ok (.istore_n 1, 1) := by decide +kernel
theorem dX10_match_39 : decode cX10_match 39 = .ok (.iconst 0, 1) := by decide +kernel
theorem dX10_match_40 : decode cX10_match 40 = .ok (.istore_n 2, 1) := by decide +kernel
theorem dX10_match_41 : decode cX10_match 41 = .ok (.iload_n 2, 1) := by decide +kernel
theorem dX10_match_42 : decode cX10_match 42 = .ok (.aload_n 0, 1) := by decide +kernel
theorem dX10_match_43 : decode cX10_match 43 = .ok (.getfield 12, 3) := by decide +kernel
theorem dX10_match_46 : decode cX10_match 46 = .ok (.getfield 147, 3) := by decide +kernel
theorem dX10_match_49 : decode cX10_match 49 = .ok (.if_icmp .ge 24, 3) := by decide +kernel
theorem dX10_match_52 : decode cX10_match 52 = .ok (.iload_n 1, 1) := by decide +kernel
theorem dX10_match_53 : decode cX10_match 53 = .ok (.aload_n 0, 1) := by decide +kernel
theorem dX10_match_54 : decode cX10_match 54 = .ok (.aload_n 0, 1) := by decide +kernel
theorem dX10_match_55 : decode cX10_match 55 = .ok (.getfield 12, 3) := by decide +kernel
theorem dX10_match_58 : decode cX10_match 58 = .ok (.iload_n 2, 1) := by decide +kernel
theorem dX10_match_59 : decode cX10_match 59 = .ok (.invokevirtual 99, 3) := by decide +kernel
theorem dX10_match_62 : decode cX10_match 62 = .ok (.invokevirtual 227, 3) := by decide +kernel
theorem dX10_match_65 : decode cX10_match 65 = .ok (.iadd, 1) := by decide +kernel
theorem dX10_match_66 : decode cX10_match 66 = .ok (.istore_n 1, 1) := by decide +kernel
theorem dX10_match_67 : decode cX10_match 67 = .ok (.iinc 2 1, 3) := by decide +kernel
theorem dX10_match_70 : decode cX10_match 70 = .ok (.goto (-29), 3) := by decide +kernel
theorem dX10_match_73 : decode cX10_match 73 = .ok (.iload_n 1, 1) := by decide +kernel
theorem dX10_match_74 : decode cX10_match 74 = .ok (.ireturn, 1) := by decide +kernel
theorem dX10_riderChoice_0 : decode cX10_riderChoice 0 = .ok (.aload_n 0, 1) := by decide +kernel
theorem dX10_riderChoice_1 : decode cX10_riderChoice 1 = .ok (.getfield 12, 3) := by decide +kernel
theorem dX10_riderChoice_4 : decode cX10_riderChoice 4 = .ok (.iload_n 1, 1) := by decide +kernel
theorem dX10_riderChoice_5 : decode cX10_riderChoice 5 = .ok (.invokevirtual 152, 3) := by decide +kernel
theorem dX10_riderChoice_8 : decode cX10_riderChoice 8 = .ok (.astore_n 3, 1) := by decide +kernel
theorem dX10_riderChoice_9 : decode cX10_riderChoice 9 = .ok (.aload_n 0, 1) := by decide +kernel
theorem dX10_riderChoice_10 : decode cX10_riderChoice 10 = .ok (.getfield 33, 3) := by decide +kernel
theorem dX10_riderChoice_13 : decode cX10_riderChoice 13 = .ok (.aload_n 0, 1) := by decide +kernel
theorem dX10_riderChoice_14 : decode cX10_riderChoice 14 = .ok (.getfield 12, 3) := by decide +kernel
theorem dX10_riderChoice_17 : decode cX10_riderChoice 17 = .ok (.aload_n 0, 1) := by decide +kernel
theorem dX10_riderChoice_18 : decode cX10_riderChoice 18 = .ok (.getfield 26, 3) := by decide +kernel
theorem dX10_riderChoice_21 : decode cX10_riderChoice 21 = .ok (.invokevirtual 219, 3) := by decide +kernel
theorem dX10_riderChoice_24 : decode cX10_riderChoice 24 = .ok (.aload_n 0, 1) := by decide +kernel
theorem dX10_riderChoice_25 : decode cX10_riderChoice 25 = .ok (.getfield 33, 3) := by decide +kernel
theorem dX10_riderChoice_28 : decode cX10_riderChoice 28 = .ok (.aload_n 0, 1) := by decide +kernel
theorem dX10_riderChoice_29 : decode cX10_riderChoice 29 = .ok (.getfield 12, 3) := by decide +kernel
theorem dX10_riderChoice_32 : decode cX10_riderChoice 32 = .ok (.aload_n 3, 1) := by decide +kernel
theorem dX10_riderChoice_33 : decode cX10_riderChoice 33 = .ok (.iload_n 2, 1) := by decide +kernel
theorem dX10_riderChoice_34 : decode cX10_riderChoice 34 = .ok (.invokevirtual 231, 3) := by decide +kernel
theorem dX10_riderChoice_37 : decode cX10_riderChoice 37 = .ok (.ireturn, 1) := by decide +kernel
theorem dX10_driverChoice_0 : decode cX10_driverChoice 0 = .ok (.aload_n 0, 1) := by decide +kernel
theorem dX10_driverChoice_1 : decode cX10_driverChoice 1 = .ok (.getfield 12, 3) := by decide +kernel
theorem dX10_driverChoice_4 : decode cX10_driverChoice 4 = .ok (.iload_n 1, 1) := by decide +kernel
theorem dX10_driverChoice_5 : decode cX10_driverChoice 5 = .ok (.invokevirtual 99, 3) := by decide +kernel
theorem dX10_driverChoice_8 : decode cX10_driverChoice 8 = .ok (.astore_n 3, 1) := by decide +kernel
theorem dX10_driverChoice_9 : decode cX10_driverChoice 9 = .ok (.aload_n 0, 1) := by decide +kernel
theorem dX10_driverChoice_10 : decode cX10_driverChoice 10 = .ok (.getfield 33, 3) := by decide +kernel
theorem dX10_driverChoice_13 : decode cX10_driverChoice 13 = .ok (.aload_n 0, 1) := by decide +kernel
theorem dX10_driverChoice_14 : decode cX10_driverChoice 14 = .ok (.getfield 12, 3) := by decide +kernel
theorem dX10_driverChoice_17 : decode cX10_driverChoice 17 = .ok (.aload_n 0, 1) := by decide +kernel
theorem dX10_driverChoice_18 : decode cX10_driverChoice 18 = .ok (.getfield 26, 3) := by decide +kernel
theorem dX10_driverChoice_21 : decode cX10_driverChoice 21 = .ok (.invokevirtual 219, 3) := by decide +kernel
theorem dX10_driverChoice_24 : decode cX10_driverChoice 24 = .ok (.aload_n 0, 1) := by decide +kernel
theorem dX10_driverChoice_25 : decode cX10_driverChoice 25 = .ok (.getfield 33, 3) := by decide +kernel
theorem dX10_driverChoice_28 : decode cX10_driverChoice 28 = .ok (.aload_n 0, 1) := by decide +kernel
theorem dX10_driverChoice_29 : decode cX10_driverChoice 29 = .ok (.getfield 12, 3) := by decide +kernel
theorem dX10_driverChoice_32 : decode cX10_driverChoice 32 = .ok (.aload_n 3, 1) := by decide +kernel
theorem dX10_driverChoice_33 : decode cX10_driverChoice 33 = .ok (.iload_n 2, 1) := by decide +kernel
theorem dX10_driverChoice_34 : decode cX10_driverChoice 34 = .ok (.invokevirtual 235, 3) := by decide +kernel
theorem dX10_driverChoice_37 : decode cX10_driverChoice 37 = .ok (.ireturn, 1) := by decide +kernel
theorem dX10_blockingPairs_0 : decode cX10_blockingPairs 0 = .ok (.aload_n 0, 1) := by decide +kernel
theorem dX10_blockingPairs_1 : decode cX10_blockingPairs 1 = .ok (.getfield 33, 3) := by decide +kernel
theorem dX10_blockingPairs_4 : decode cX10_blockingPairs 4 = .ok (.aload_n 0, 1) := by decide +kernel
theorem dX10_blockingPairs_5 : decode cX10_blockingPairs 5 = .ok (.getfield 12, 3) := by decide +kernel
theorem dX10_blockingPairs_8 : decode cX10_blockingPairs 8 = .ok (.aload_n 0, 1) := by decide +kernel
theorem dX10_blockingPairs_9 : decode cX10_blockingPairs 9 = .ok (.getfield 26, 3) := by decide +kernel
theorem dX10_blockingPairs_12 : decode cX10_blockingPairs 12 = .ok (.invokevirtual 219, 3) := by decide +kernel
theorem dX10_blockingPairs_15 : decode cX10_blockingPairs 15 = .ok (.iconst 0, 1) := by decide +kernel
theorem dX10_blockingPairs_16 : decode cX10_blockingPairs 16 = .ok (.istore_n 1, 1) := by decide +kernel
theorem dX10_blockingPairs_17 : decode cX10_blockingPairs 17 = .ok (.iconst 0, 1) := by decide +kernel
theorem dX10_blockingPairs_18 : decode cX10_blockingPairs 18 = .ok (.istore_n 2, 1) := by decide +kernel
theorem dX10_blockingPairs_19 : decode cX10_blockingPairs 19 = .ok (.iload_n 2, 1) := by decide +kernel
theorem dX10_blockingPairs_20 : decode cX10_blockingPairs 20 = .ok (.aload_n 0, 1) := by decide +kernel
theorem dX10_blockingPairs_21 : decode cX10_blockingPairs 21 = .ok (.getfield 12, 3) := by decide +kernel
theorem dX10_blockingPairs_24 : decode cX10_blockingPairs 24 = .ok (.getfield 147, 3) := by decide +kernel
theorem dX10_blockingPairs_27 : decode cX10_blockingPairs 27 = .ok (.if_icmp .ge 61, 3) := by decide +kernel
theorem dX10_blockingPairs_30 : decode cX10_blockingPairs 30 = .ok (.iconst 0, 1) := by decide +kernel
theorem dX10_blockingPairs_31 : decode cX10_blockingPairs 31 = .ok (.istore_n 3, 1) := by decide +kernel
theorem dX10_blockingPairs_32 : decode cX10_blockingPairs 32 = .ok (.iload_n 3, 1) := by decide +kernel
theorem dX10_blockingPairs_33 : decode cX10_blockingPairs 33 = .ok (.aload_n 0, 1) := by decide +kernel
theorem dX10_blockingPairs_34 : decode cX10_blockingPairs 34 = .ok (.getfield 12, 3) := by decide +kernel
theorem dX10_blockingPairs_37 : decode cX10_blockingPairs 37 = .ok (.getfield 150, 3) := by decide +kernel
theorem dX10_blockingPairs_40 : decode cX10_blockingPairs 40 = .ok (.if_icmp .ge 42, 3) := by decide +kernel
theorem dX10_blockingPairs_43 : decode cX10_blockingPairs 43 = .ok (.aload_n 0, 1) := by decide +kernel
theorem dX10_blockingPairs_44 : decode cX10_blockingPairs 44 = .ok (.getfield 33, 3) := by decide +kernel
theorem dX10_blockingPairs_47 : decode cX10_blockingPairs 47 = .ok (.aload_n 0, 1) := by decide +kernel
theorem dX10_blockingPairs_48 : decode cX10_blockingPairs 48 = .ok (.getfield 12, 3) := by decide +kernel
theorem dX10_blockingPairs_51 : decode cX10_blockingPairs 51 = .ok (.aload_n 0, 1) := by decide +kernel
theorem dX10_blockingPairs_52 : decode cX10_blockingPairs 52 = .ok (.getfield 12, 3) := by decide +kernel
theorem dX10_blockingPairs_55 : decode cX10_blockingPairs 55 = .ok (.iload_n 2, 1) := by decide +kernel
theorem dX10_blockingPairs_56 : decode cX10_blockingPairs 56 = .ok (.invokevirtual 99, 3) := by decide +kernel
theorem dX10_blockingPairs_59 : decode cX10_blockingPairs 59 = .ok (.aload_n 0, 1) := by decide +kernel
theorem dX10_blockingPairs_60 : decode cX10_blockingPairs 60 = .ok (.getfield 12, 3) := by decide +kernel
theorem dX10_blockingPairs_63 : decode cX10_blockingPairs 63 = .ok (.iload_n 3, 1) := by decide +kernel
theorem dX10_blockingPairs_64 : decode cX10_blockingPairs 64 = .ok (.invokevirtual 152, 3) := by decide +kernel
theorem dX10_blockingPairs_67 : decode cX10_blockingPairs 67 = .ok (.invokevirtual 239, 3) := by decide +kernel
theorem dX10_blockingPairs_70 : decode cX10_blockingPairs 70 = .ok (.ifCond .eq 6, 3) := by decide +kernel
theorem dX10_blockingPairs_73 : decode cX10_blockingPairs 73 = .ok (.iinc 1 1, 3) := by decide +kernel
theorem dX10_blockingPairs_76 : decode cX10_blockingPairs 76 = .ok (.iinc 3 1, 3) := by decide +kernel
theorem dX10_blockingPairs_79 : decode cX10_blockingPairs 79 = .ok (.goto (-47), 3) := by decide +kernel
theorem dX10_blockingPairs_82 : decode cX10_blockingPairs 82 = .ok (.iinc 2 1, 3) := by decide +kernel
theorem dX10_blockingPairs_85 : decode cX10_blockingPairs 85 = .ok (.goto (-66), 3) := by decide +kernel
theorem dX10_blockingPairs_88 : decode cX10_blockingPairs 88 = .ok (.iload_n 1, 1) := by decide +kernel
theorem dX10_blockingPairs_89 : decode cX10_blockingPairs 89 = .ok (.ireturn, 1) := by decide +kernel
theorem dX10_noShow_0 : decode cX10_noShow 0 = .ok (.aload_n 0, 1) := by decide +kernel
theorem dX10_noShow_1 : decode cX10_noShow 1 = .ok (.iload_n 1, 1) := by decide +kernel
theorem dX10_noShow_2 : decode cX10_noShow 2 = .ok (.invokevirtual 209, 3) := by decide +kernel
theorem dX10_noShow_5 : decode cX10_noShow 5 = .ok (.astore_n 2, 1) := by decide +kernel
theorem dX10_noShow_6 : decode cX10_noShow 6 = .ok (.aload_n 0, 1) := by decide +kernel
theorem dX10_noShow_7 : decode cX10_noShow 7 = .ok (.getfield 12, 3) := by decide +kernel
theorem dX10_noShow_10 : decode cX10_noShow 10 = .ok (.aload_n 2, 1) := by decide +kernel
theorem dX10_noShow_11 : decode cX10_noShow 11 = .ok (.getfield 159, 3) := by decide +kernel
theorem dX10_noShow_14 : decode cX10_noShow 14 = .ok (.invokevirtual 99, 3) := by decide +kernel
theorem dX10_noShow_17 : decode cX10_noShow 17 = .ok (.astore_n 3, 1) := by decide +kernel
theorem dX10_noShow_18 : decode cX10_noShow 18 = .ok (.aload_n 0, 1) := by decide +kernel
theorem dX10_noShow_19 : decode cX10_noShow 19 = .ok (.aload_n 2, 1) := by decide +kernel
theorem dX10_noShow_20 : decode cX10_noShow 20 = .ok (.iconst 2, 1) := by decide +kernel
theorem dX10_noShow_21 : decode cX10_noShow 21 = .ok (.invokevirtual 212, 3) := by decide +kernel
theorem dX10_noShow_24 : decode cX10_noShow 24 = .ok (.aload_n 2, 1) := by decide +kernel
theorem dX10_noShow_25 : decode cX10_noShow 25 = .ok (.dup, 1) := by decide +kernel
theorem dX10_noShow_26 : decode cX10_noShow 26 = .ok (.getfield 243, 3) := by decide +kernel
theorem dX10_noShow_29 : decode cX10_noShow 29 = .ok (.aload_n 0, 1) := by decide +kernel
theorem dX10_noShow_30 : decode cX10_noShow 30 = .ok (.getfield 12, 3) := by decide +kernel
theorem dX10_noShow_33 : decode cX10_noShow 33 = .ok (.getfield 166, 3) := by decide +kernel
theorem dX10_noShow_36 : decode cX10_noShow 36 = .ok (.i2l, 1) := by decide +kernel
theorem dX10_noShow_37 : decode cX10_noShow 37 = .ok (.lsub, 1) := by decide +kernel
theorem dX10_noShow_38 : decode cX10_noShow 38 = .ok (.putfield 243, 3) := by decide +kernel
theorem dX10_noShow_41 : decode cX10_noShow 41 = .ok (.aload_n 3, 1) := by decide +kernel
theorem dX10_noShow_42 : decode cX10_noShow 42 = .ok (.dup, 1) := by decide +kernel
theorem dX10_noShow_43 : decode cX10_noShow 43 = .ok (.getfield 247, 3) := by decide +kernel
theorem dX10_noShow_46 : decode cX10_noShow 46 = .ok (.aload_n 0, 1) := by decide +kernel
theorem dX10_noShow_47 : decode cX10_noShow 47 = .ok (.getfield 12, 3) := by decide +kernel
theorem dX10_noShow_50 : decode cX10_noShow 50 = .ok (.getfield 166, 3) := by decide +kernel
theorem dX10_noShow_53 : decode cX10_noShow 53 = .ok (.i2l, 1) := by decide +kernel
theorem dX10_noShow_54 : decode cX10_noShow 54 = .ok (.ladd, 1) := by decide +kernel
theorem dX10_noShow_55 : decode cX10_noShow 55 = .ok (.putfield 247, 3) := by decide +kernel
theorem dX10_noShow_58 : decode cX10_noShow 58 = .ok (.aload_n 3, 1) := by decide +kernel
theorem dX10_noShow_59 : decode cX10_noShow 59 = .ok (.getfield 95, 3) := by decide +kernel
theorem dX10_noShow_62 : decode cX10_noShow 62 = .ok (.ireturn, 1) := by decide +kernel
theorem dX10_comeBack_0 : decode cX10_comeBack 0 = .ok (.aload_n 0, 1) := by decide +kernel
theorem dX10_comeBack_1 : decode cX10_comeBack 1 = .ok (.getfield 12, 3) := by decide +kernel
theorem dX10_comeBack_4 : decode cX10_comeBack 4 = .ok (.iload_n 1, 1) := by decide +kernel
theorem dX10_comeBack_5 : decode cX10_comeBack 5 = .ok (.invokevirtual 152, 3) := by decide +kernel
theorem dX10_comeBack_8 : decode cX10_comeBack 8 = .ok (.astore_n 2, 1) := by decide +kernel
theorem dX10_comeBack_9 : decode cX10_comeBack 9 = .ok (.aload_n 2, 1) := by decide +kernel
theorem dX10_comeBack_10 : decode cX10_comeBack 10 = .ok (.getfield 156, 3) := by decide +kernel
theorem dX10_comeBack_13 : decode cX10_comeBack 13 = .ok (.iconst 2, 1) := by decide +kernel
theorem dX10_comeBack_14 : decode cX10_comeBack 14 = .ok (.if_icmp .eq 13, 3) := by decide +kernel
theorem dX10_comeBack_17 : decode cX10_comeBack 17 = .ok (.new 80, 3) := by decide +kernel
theorem dX10_comeBack_20 : decode cX10_comeBack 20 = .ok (.dup, 1) := by decide +kernel
theorem dX10_comeBack_21 : decode cX10_comeBack 21 = .ok (.ldc 248, 2) := by decide +kernel
theorem dX10_comeBack_23 : decode cX10_comeBack 23 = .ok (.invokespecial 84, 3) := by decide +kernel
theorem dX10_comeBack_26 : decode cX10_comeBack 26 = .ok (.athrow, 1) := by decide +kernel
theorem dX10_comeBack_27 : decode cX10_comeBack 27 = .ok (.aload_n 2, 1) := by decide +kernel
theorem dX10_comeBack_28 : decode cX10_comeBack 28 = .ok (.iconst 0, 1) := by decide +kernel
theorem dX10_comeBack_29 : decode cX10_comeBack 29 = .ok (.putfield 156, 3) := by decide +kernel
theorem dX10_comeBack_32 : decode cX10_comeBack 32 = .ok (.aload_n 2, 1) := by decide +kernel
theorem dX10_comeBack_33 : decode cX10_comeBack 33 = .ok (.getfield 243, 3) := by decide +kernel
theorem dX10_comeBack_36 : decode cX10_comeBack 36 = .ok (.lreturn, 1) := by decide +kernel
theorem dX10_replacement_0 : decode cX10_replacement 0 = .ok (.aload_n 0, 1) := by decide +kernel
theorem dX10_replacement_1 : decode cX10_replacement 1 = .ok (.aload_n 0, 1) := by decide +kernel
theorem dX10_replacement_2 : decode cX10_replacement 2 = .ok (.getfield 12, 3) := by decide +kernel
theorem dX10_replacement_5 : decode cX10_replacement 5 = .ok (.iload_n 1, 1) := by decide +kernel
theorem dX10_replacement_6 : decode cX10_replacement 6 = .ok (.invokevirtual 99, 3) := by decide +kernel
theorem dX10_replacement_9 : decode cX10_replacement 9 = .ok (.invokevirtual 250, 3) := by decide +kernel
theorem dX10_replacement_12 : decode cX10_replacement 12 = .ok (.ireturn, 1) := by decide +kernel
theorem dX10_fill_0 : decode cX10_fill 0 = .ok (.aload_n 0, 1) := by decide +kernel
theorem dX10_fill_1 : decode cX10_fill 1 = .ok (.getfield 12, 3) := by decide +kernel
theorem dX10_fill_4 : decode cX10_fill 4 = .ok (.iload_n 1, 1) := by decide +kernel
theorem dX10_fill_5 : decode cX10_fill 5 = .ok (.invokevirtual 99, 3) := by decide +kernel
theorem dX10_fill_8 : decode cX10_fill 8 = .ok (.astore_n 2, 1) := by decide +kernel
theorem dX10_fill_9 : decode cX10_fill 9 = .ok (.iconst 0, 1) := by decide +kernel
theorem dX10_fill_10 : decode cX10_fill 10 = .ok (.istore_n 3, 1) := by decide +kernel
theorem dX10_fill_11 : decode cX10_fill 11 = .ok (.iconst 0, 1) := by decide +kernel
theorem dX10_fill_12 : decode cX10_fill 12 = .ok (.istore 4, 2) := by decide +kernel
theorem dX10_fill_14 : decode cX10_fill 14 = .ok (.iload 4, 2) := by decide +kernel
theorem dX10_fill_16 : decode cX10_fill 16 = .ok (.bipush 20, 2) := by decide +kernel
theorem dX10_fill_18 : decode cX10_fill 18 = .ok (.if_icmp .ge 45, 3) := by decide +kernel
theorem dX10_fill_21 : decode cX10_fill 21 = .ok (.aload_n 0, 1) := by decide +kernel
theorem dX10_fill_22 : decode cX10_fill 22 = .ok (.aload_n 2, 1) := by decide +kernel
theorem dX10_fill_23 : decode cX10_fill 23 = .ok (.invokevirtual 250, 3) := by decide +kernel
theorem dX10_fill_26 : decode cX10_fill 26 = .ok (.istore 5, 2) := by decide +kernel
theorem dX10_fill_28 : decode cX10_fill 28 = .ok (.iload 5, 2) := by decide +kernel
theorem dX10_fill_30 : decode cX10_fill 30 = .ok (.iconst (-1), 1) := by decide +kernel
theorem dX10_fill_31 : decode cX10_fill 31 = .ok (.if_icmp .ne 5, 3) := by decide +kernel
theorem dX10_fill_34 : decode cX10_fill 34 = .ok (.iload_n 3, 1) := by decide +kernel
theorem dX10_fill_35 : decode cX10_fill 35 = .ok (.ireturn, 1) := by decide +kernel
theorem dX10_fill_36 : decode cX10_fill 36 = .ok (.aload_n 0, 1) := by decide +kernel
theorem dX10_fill_37 : decode cX10_fill 37 = .ok (.getfield 26, 3) := by decide +kernel
theorem dX10_fill_40 : decode cX10_fill 40 = .ok (.aload_n 0, 1) := by decide +kernel
theorem dX10_fill_41 : decode cX10_fill 41 = .ok (.getfield 12, 3) := by decide +kernel
theorem dX10_fill_44 : decode cX10_fill 44 = .ok (.iload 5, 2) := by decide +kernel
theorem dX10_fill_46 : decode cX10_fill 46 = .ok (.invokevirtual 152, 3) := by decide +kernel
theorem dX10_fill_49 : decode cX10_fill 49 = .ok (.aload_n 2, 1) := by decide +kernel
theorem dX10_fill_50 : decode cX10_fill 50 = .ok (.invokevirtual 204, 3) := by decide +kernel
theorem dX10_fill_53 : decode cX10_fill 53 = .ok (.pop, 1) := by decide +kernel
theorem dX10_fill_54 : decode cX10_fill 54 = .ok (.iinc 3 1, 3) := by decide +kernel
theorem dX10_fill_57 : decode cX10_fill 57 = .ok (.iinc 4 1, 3) := by decide +kernel
theorem dX10_fill_60 : decode cX10_fill 60 = .ok (.goto (-46), 3) := by decide +kernel
theorem dX10_fill_63 : decode cX10_fill 63 = .ok (.iload_n 3, 1) := by decide +kernel
theorem dX10_fill_64 : decode cX10_fill 64 = .ok (.ireturn, 1) := by decide +kernel
theorem dX10_tripCost_0 : decode cX10_tripCost 0 = .ok (.aload_n 0, 1) := by decide +kernel
theorem dX10_tripCost_1 : decode cX10_tripCost 1 = .ok (.getfield 12, 3) := by decide +kernel
theorem dX10_tripCost_4 : decode cX10_tripCost 4 = .ok (.iload_n 1, 1) := by decide +kernel
theorem dX10_tripCost_5 : decode cX10_tripCost 5 = .ok (.invokevirtual 99, 3) := by decide +kernel
theorem dX10_tripCost_8 : decode cX10_tripCost 8 = .ok (.astore_n 2, 1) := by decide +kernel
theorem dX10_tripCost_9 : decode cX10_tripCost 9 = .ok (.aload_n 2, 1) := by decide +kernel
theorem dX10_tripCost_10 : decode cX10_tripCost 10 = .ok (.getfield 113, 3) := by decide +kernel
theorem dX10_tripCost_13 : decode cX10_tripCost 13 = .ok (.invokevirtual 187, 3) := by decide +kernel
theorem dX10_tripCost_16 : decode cX10_tripCost 16 = .ok (.aload_n 2, 1) := by decide +kernel
theorem dX10_tripCost_17 : decode cX10_tripCost 17 = .ok (.getfield 253, 3) := by decide +kernel
theorem dX10_tripCost_20 : decode cX10_tripCost 20 = .ok (.imul, 1) := by decide +kernel
theorem dX10_tripCost_21 : decode cX10_tripCost 21 = .ok (.ireturn, 1) := by decide +kernel
theorem dX10_marginal_0 : decode cX10_marginal 0 = .ok (.aload_n 0, 1) := by decide +kernel
theorem dX10_marginal_1 : decode cX10_marginal 1 = .ok (.getfield 12, 3) := by decide +kernel
theorem dX10_marginal_4 : decode cX10_marginal 4 = .ok (.iload_n 1, 1) := by decide +kernel
theorem dX10_marginal_5 : decode cX10_marginal 5 = .ok (.invokevirtual 152, 3) := by decide +kernel
theorem dX10_marginal_8 : decode cX10_marginal 8 = .ok (.astore_n 2, 1) := by decide +kernel
theorem dX10_marginal_9 : decode cX10_marginal 9 = .ok (.aload_n 2, 1) := by decide +kernel
theorem dX10_marginal_10 : decode cX10_marginal 10 = .ok (.getfield 159, 3) := by decide +kernel
theorem dX10_marginal_13 : decode cX10_marginal 13 = .ok (.iconst (-1), 1) := by decide +kernel
theorem dX10_marginal_14 : decode cX10_marginal 14 = .ok (.if_icmp .ne 5, 3) := by decide +kernel
theorem dX10_marginal_17 : decode cX10_marginal 17 = .ok (.iconst (-1), 1) := by decide +kernel
theorem dX10_marginal_18 : decode cX10_marginal 18 = .ok (.ireturn, 1) := by decide +kernel
theorem dX10_marginal_19 : decode cX10_marginal 19 = .ok (.aload_n 0, 1) := by decide +kernel
theorem dX10_marginal_20 : decode cX10_marginal 20 = .ok (.getfield 12, 3) := by decide +kernel
theorem dX10_marginal_23 : decode cX10_marginal 23 = .ok (.aload_n 2, 1) := by decide +kernel
theorem dX10_marginal_24 : decode cX10_marginal 24 = .ok (.getfield 159, 3) := by decide +kernel
theorem dX10_marginal_27 : decode cX10_marginal 27 = .ok (.invokevirtual 99, 3) := by decide +kernel
theorem dX10_marginal_30 : decode cX10_marginal 30 = .ok (.getfield 113, 3) := by decide +kernel
theorem dX10_marginal_33 : decode cX10_marginal 33 = .ok (.aload_n 2, 1) := by decide +kernel
theorem dX10_marginal_34 : decode cX10_marginal 34 = .ok (.getfield 146, 3) := by decide +kernel
theorem dX10_marginal_37 : decode cX10_marginal 37 = .ok (.invokevirtual 256, 3) := by decide +kernel
theorem dX10_marginal_40 : decode cX10_marginal 40 = .ok (.ireturn, 1) := by decide +kernel
theorem dX10_share_0 : decode cX10_share 0 = .ok (.aload_n 0, 1) := by decide +kernel
theorem dX10_share_1 : decode cX10_share 1 = .ok (.getfield 12, 3) := by decide +kernel
theorem dX10_share_4 : decode cX10_share 4 = .ok (.iload_n 1, 1) := by decide +kernel
theorem dX10_share_5 : decode cX10_share 5 = .ok (.invokevirtual 152, 3) := by decide +kernel
theorem dX10_share_8 : decode cX10_share 8 = .ok (.astore_n 2, 1) := by decide +kernel
theorem dX10_share_9 : decode cX10_share 9 = .ok (.aload_n 2, 1) := by decide +kernel
theorem dX10_share_10 : decode cX10_share 10 = .ok (.getfield 159, 3) := by decide +kernel
theorem dX10_share_13 : decode cX10_share 13 = .ok (.iconst (-1), 1) := by decide +kernel
theorem dX10_share_14 : decode cX10_share 14 = .ok (.if_icmp .ne 5, 3) := by decide +kernel
theorem dX10_share_17 : decode cX10_share 17 = .ok (.iconst (-1), 1) := by decide +kernel
theorem dX10_share_18 : decode cX10_share 18 = .ok (.ireturn, 1) := by decide +kernel
theorem dX10_share_19 : decode cX10_share 19 = .ok (.aload_n 0, 1) := by decide +kernel
theorem dX10_share_20 : decode cX10_share 20 = .ok (.getfield 47, 3) := by decide +kernel
theorem dX10_share_23 : decode cX10_share 23 = .ok (.aload_n 0, 1) := by decide +kernel
theorem dX10_share_24 : decode cX10_share 24 = .ok (.getfield 12, 3) := by decide +kernel
theorem dX10_share_27 : decode cX10_share 27 = .ok (.aload_n 2, 1) := by decide +kernel
theorem dX10_share_28 : decode cX10_share 28 = .ok (.getfield 159, 3) := by decide +kernel
theorem dX10_share_31 : decode cX10_share 31 = .ok (.invokevirtual 99, 3) := by decide +kernel
theorem dX10_share_34 : decode cX10_share 34 = .ok (.invokevirtual 260, 3) := by decide +kernel
theorem dX10_share_37 : decode cX10_share 37 = .ok (.aload_n 0, 1) := by decide +kernel
theorem dX10_share_38 : decode cX10_share 38 = .ok (.getfield 47, 3) := by decide +kernel
theorem dX10_share_41 : decode cX10_share 41 = .ok (.getfield 264, 3) := by decide +kernel
theorem dX10_share_44 : decode cX10_share 44 = .ok (.aload_n 2, 1) := by decide +kernel
theorem dX10_share_45 : decode cX10_share 45 = .ok (.getfield 146, 3) := by decide +kernel
theorem dX10_share_48 : decode cX10_share 48 = .ok (.iaload, 1) := by decide +kernel
theorem dX10_share_49 : decode cX10_share 49 = .ok (.ireturn, 1) := by decide +kernel
theorem dX10_driverShare_0 : decode cX10_driverShare 0 = .ok (.aload_n 0, 1) := by decide +kernel
theorem dX10_driverShare_1 : decode cX10_driverShare 1 = .ok (.getfield 47, 3) := by decide +kernel
theorem dX10_driverShare_4 : decode cX10_driverShare 4 = .ok (.aload_n 0, 1) := by decide +kernel
theorem dX10_driverShare_5 : decode cX10_driverShare 5 = .ok (.getfield 12, 3) := by decide +kernel
theorem dX10_driverShare_8 : decode cX10_driverShare 8 = .ok (.iload_n 1, 1) := by decide +kernel
theorem dX10_driverShare_9 : decode cX10_driverShare 9 = .ok (.invokevirtual 99, 3) := by decide +kernel
theorem dX10_driverShare_12 : decode cX10_driverShare 12 = .ok (.invokevirtual 260, 3) := by decide +kernel
theorem dX10_driverShare_15 : decode cX10_driverShare 15 = .ok (.aload_n 0, 1) := by decide +kernel
theorem dX10_driverShare_16 : decode cX10_driverShare 16 = .ok (.getfield 47, 3) := by decide +kernel
theorem dX10_driverShare_19 : decode cX10_driverShare 19 = .ok (.getfield 267, 3) := by decide +kernel
theorem dX10_driverShare_22 : decode cX10_driverShare 22 = .ok (.ireturn, 1) := by decide +kernel
theorem dX10_complete_0 : decode cX10_complete 0 = .ok (.aload_n 0, 1) := by decide +kernel
theorem dX10_complete_1 : decode cX10_complete 1 = .ok (.getfield 12, 3) := by decide +kernel
theorem dX10_complete_4 : decode cX10_complete 4 = .ok (.iload_n 1, 1) := by decide +kernel
theorem dX10_complete_5 : decode cX10_complete 5 = .ok (.invokevirtual 99, 3) := by decide +kernel
theorem dX10_complete_8 : decode cX10_complete 8 = .ok (.astore_n 2, 1) := by decide +kernel
theorem dX10_complete_9 : decode cX10_complete 9 = .ok (.aload_n 2, 1) := by decide +kernel
theorem dX10_complete_10 : decode cX10_complete 10 = .ok (.getfield 109, 3) := by decide +kernel
theorem dX10_complete_13 : decode cX10_complete 13 = .ok (.ifCond .eq 14, 3) := by decide +kernel
theorem dX10_complete_16 : decode cX10_complete 16 = .ok (.new 80, 3) := by decide +kernel
theorem dX10_complete_19 : decode cX10_complete 19 = .ok (.dup, 1) := by decide +kernel
theorem dX10_complete_20 : decode cX10_complete 20 = .ok (.ldc_w 270, 3) := by decide +kernel
theorem dX10_complete_23 : decode cX10_complete 23 = .ok (.invokespecial 84, 3) := by decide +kernel
theorem dX10_complete_26 : decode cX10_complete 26 = .ok (.athrow, 1) := by decide +kernel
theorem dX10_complete_27 : decode cX10_complete 27 = .ok (.aload_n 0, 1) := by decide +kernel
theorem dX10_complete_28 : decode cX10_complete 28 = .ok (.getfield 47, 3) := by decide +kernel
theorem dX10_complete_31 : decode cX10_complete 31 = .ok (.aload_n 2, 1) := by decide +kernel
theorem dX10_complete_32 : decode cX10_complete 32 = .ok (.invokevirtual 260, 3) := by decide +kernel
theorem dX10_complete_35 : decode cX10_complete 35 = .ok (.iconst 0, 1) := by decide +kernel
theorem dX10_complete_36 : decode cX10_complete 36 = .ok (.istore_n 3, 1) := by decide +kernel
theorem dX10_complete_37 : decode cX10_complete 37 = .ok (.iconst 0, 1) := by decide +kernel
theorem dX10_complete_38 : decode cX10_complete 38 = .ok (.istore 4, 2) := by decide +kernel
theorem dX10_complete_40 : decode cX10_complete 40 = .ok (.iload 4, 2) := by decide +kernel
theorem dX10_complete_42 : decode cX10_complete 42 = .ok (.aload_n 0, 1) := by decide +kernel
theorem dX10_complete_43 : decode cX10_complete 43 = .ok (.getfield 12, 3) := by decide +kernel
theorem dX10_complete_46 : decode cX10_complete 46 = .ok (.getfield 150, 3) := by decide +kernel
theorem dX10_complete_49 : decode cX10_complete 49 = .ok (.if_icmp .ge 72, 3) := by decide +kernel
theorem dX10_complete_52 : decode cX10_complete 52 = .ok (.aload_n 0, 1) := by decide +kernel
theorem dX10_complete_53 : decode cX10_complete 53 = .ok (.getfield 12, 3) := by decide +kernel
theorem dX10_complete_56 : decode cX10_complete 56 = .ok (.iload 4, 2) := by decide +kernel
theorem dX10_complete_58 : decode cX10_complete 58 = .ok (.invokevirtual 152, 3) := by decide +kernel
theorem dX10_complete_61 : decode cX10_complete 61 = .ok (.astore 5, 2) := by decide +kernel
theorem dX10_complete_63 : decode cX10_complete 63 = .ok (.aload 5, 2) := by decide +kernel
theorem dX10_complete_65 : decode cX10_complete 65 = .ok (.getfield 159, 3) := by decide +kernel
theorem dX10_complete_68 : decode cX10_complete 68 = .ok (.aload_n 2, 1) := by decide +kernel
theorem dX10_complete_69 : decode cX10_complete 69 = .ok (.getfield 95, 3) := by decide +kernel
theorem dX10_complete_72 : decode cX10_complete 72 = .ok (.if_icmp .ne 43, 3) := by decide +kernel
theorem dX10_complete_75 : decode cX10_complete 75 = .ok (.aload 5, 2) := by decide +kernel
theorem dX10_complete_77 : decode cX10_complete 77 = .ok (.dup, 1) := by decide +kernel
theorem dX10_complete_78 : decode cX10_complete 78 = .ok (.getfield 243, 3) := by decide +kernel
theorem dX10_complete_81 : decode cX10_complete 81 = .ok (.aload_n 0, 1) := by decide +kernel
theorem dX10_complete_82 : decode cX10_complete 82 = .ok (.getfield 47, 3) := by decide +kernel
theorem dX10_complete_85 : decode cX10_complete 85 = .ok (.getfield 264, 3) := by decide +kernel
theorem dX10_complete_88 : decode cX10_complete 88 = .ok (.iload 4, 2) := by decide +kernel
theorem dX10_complete_90 : decode cX10_complete 90 = .ok (.iaload, 1) := by decide +kernel
theorem dX10_complete_91 : decode cX10_complete 91 = .ok (.i2l, 1) := by decide +kernel
theorem dX10_complete_92 : decode cX10_complete 92 = .ok (.lsub, 1) := by decide +kernel
theorem dX10_complete_93 : decode cX10_complete 93 = .ok (.putfield 243, 3) := by decide +kernel
theorem dX10_complete_96 : decode cX10_complete 96 = .ok (.aload 5, 2) := by decide +kernel
theorem dX10_complete_98 : decode cX10_complete 98 = .ok (.iconst 3, 1) := by decide +kernel
theorem dX10_complete_99 : decode cX10_complete 99 = .ok (.putfield 156, 3) := by decide +kernel
theorem dX10_complete_102 : decode cX10_complete 102 = .ok (.iload_n 3, 1) := by decide +kernel
theorem dX10_complete_103 : decode cX10_complete 103 = .ok (.aload_n 0, 1) := by decide +kernel
theorem dX10_complete_104 : decode cX10_complete 104 = .ok (.getfield 47, 3) := by decide +kernel
theorem dX10_complete_107 : decode cX10_complete 107 = .ok (.getfield 264, 3) := by decide +kernel
theorem dX10_complete_110 : decode cX10_complete 110 = .ok (.iload 4, 2) := by decide +kernel
theorem dX10_complete_112 : decode cX10_complete 112 = .ok (.iaload, 1) := by decide +kernel
theorem dX10_complete_113 : decode cX10_complete 113 = .ok (.iadd, 1) := by decide +kernel
theorem dX10_complete_114 : decode cX10_complete 114 = .ok (.istore_n 3, 1) := by decide +kernel
theorem dX10_complete_115 : decode cX10_complete 115 = .ok (.iinc 4 1, 3) := by decide +kernel
theorem dX10_complete_118 : decode cX10_complete 118 = .ok (.goto (-78), 3) := by decide +kernel
theorem dX10_complete_121 : decode cX10_complete 121 = .ok (.aload_n 2, 1) := by decide +kernel
theorem dX10_complete_122 : decode cX10_complete 122 = .ok (.dup, 1) := by decide +kernel
theorem dX10_complete_123 : decode cX10_complete 123 = .ok (.getfield 247, 3) := by decide +kernel
theorem dX10_complete_126 : decode cX10_complete 126 = .ok (.iload_n 3, 1) := by decide +kernel
theorem dX10_complete_127 : decode cX10_complete 127 = .ok (.i2l, 1) := by decide +kernel
theorem dX10_complete_128 : decode cX10_complete 128 = .ok (.ladd, 1) := by decide +kernel
theorem dX10_complete_129 : decode cX10_complete 129 = .ok (.putfield 247, 3) := by decide +kernel
theorem dX10_complete_132 : decode cX10_complete 132 = .ok (.aload_n 2, 1) := by decide +kernel
theorem dX10_complete_133 : decode cX10_complete 133 = .ok (.iconst 1, 1) := by decide +kernel
theorem dX10_complete_134 : decode cX10_complete 134 = .ok (.putfield 109, 3) := by decide +kernel
theorem dX10_complete_137 : decode cX10_complete 137 = .ok (.iload_n 3, 1) := by decide +kernel
theorem dX10_complete_138 : decode cX10_complete 138 = .ok (.ireturn, 1) := by decide +kernel
theorem dX10_riderCredit_0 : decode cX10_riderCredit 0 = .ok (.aload_n 0, 1) := by decide +kernel
theorem dX10_riderCredit_1 : decode cX10_riderCredit 1 = .ok (.getfield 12, 3) := by decide +kernel
