theorem dX0_init_0 : decode cX0_init 0 = .ok (.aload_n 0, 1) := by decide +kernel
theorem dX0_init_1 : decode cX0_init 1 = .ok (.invokespecial 3, 3) := by decide +kernel
theorem dX0_init_4 : decode cX0_init 4 = .ok (.aload_n 0, 1) := by decide +kernel
theorem dX0_init_5 : decode cX0_init 5 = .ok (.new 9, 3) := by decide +kernel
theorem dX0_init_8 : decode cX0_init 8 = .ok (.dup, 1) := by decide +kernel
theorem dX0_init_9 : decode cX0_init 9 = .ok (.invokespecial 11, 3) := by decide +kernel
theorem dX0_init_12 : decode cX0_init 12 = .ok (.putfield 12, 3) := by decide +kernel
theorem dX0_init_15 : decode cX0_init 15 = .ok (.aload_n 0, 1) := by decide +kernel
theorem dX0_init_16 : decode cX0_init 16 = .ok (.new 18, 3) := by decide +kernel
theorem dX0_init_19 : decode cX0_init 19 = .ok (.dup, 1) := by decide +kernel
theorem dX0_init_20 : decode cX0_init 20 = .ok (.invokespecial 20, 3) := by decide +kernel
theorem dX0_init_23 : decode cX0_init 23 = .ok (.putfield 21, 3) := by decide +kernel
theorem dX0_init_26 : decode cX0_init 26 = .ok (.aload_n 0, 1) := by decide +kernel
theorem dX0_init_27 : decode cX0_init 27 = .ok (.iconst 0, 1) := by decide +kernel
theorem dX0_init_28 : decode cX0_init 28 = .ok (.putfield 25, 3) := by decide +kernel
theorem dX0_init_31 : decode cX0_init 31 = .ok (.aload_n 0, 1) := by decide +kernel
theorem dX0_init_32 : decode cX0_init 32 = .ok (.iconst 0, 1) := by decide +kernel
theorem dX0_init_33 : decode cX0_init 33 = .ok (.putfield 29, 3) := by decide +kernel
theorem dX0_init_36 : decode cX0_init 36 = .ok (.aload_n 0, 1) := by decide +kernel
theorem dX0_init_37 : decode cX0_init 37 = .ok (.iconst 0, 1) := by decide +kernel
theorem dX0_init_38 : decode cX0_init 38 = .ok (.putfield 32, 3) := by decide +kernel
theorem dX0_init_41 : decode cX0_init 41 = .ok (.aload_n 0, 1) := by decide +kernel
theorem dX0_init_42 : decode cX0_init 42 = .ok (.iconst 0, 1) := by decide +kernel
theorem dX0_init_43 : decode cX0_init 43 = .ok (.putfield 35, 3) := by decide +kernel
theorem dX0_init_46 : decode cX0_init 46 = .ok (.aload_n 0, 1) := by decide +kernel
theorem dX0_init_47 : decode cX0_init 47 = .ok (.new 18, 3) := by decide +kernel
theorem dX0_init_50 : decode cX0_init 50 = .ok (.dup, 1) := by decide +kernel
theorem dX0_init_51 : decode cX0_init 51 = .ok (.invokespecial 20, 3) := by decide +kernel
theorem dX0_init_54 : decode cX0_init 54 = .ok (.putfield 38, 3) := by decide +kernel
theorem dX0_init_57 : decode cX0_init 57 = .ok (.aload_n 0, 1) := by decide +kernel
theorem dX0_init_58 : decode cX0_init 58 = .ok (.new 18, 3) := by decide +kernel
theorem dX0_init_61 : decode cX0_init 61 = .ok (.dup, 1) := by decide +kernel
theorem dX0_init_62 : decode cX0_init 62 = .ok (.invokespecial 20, 3) := by decide +kernel
theorem dX0_init_65 : decode cX0_init 65 = .ok (.putfield 41, 3) := by decide +kernel
theorem dX0_init_68 : decode cX0_init 68 = .ok (.return_, 1) := by decide +kernel
theorem dX0_robotAt_0 : decode cX0_robotAt 0 = .ok (.iconst 0, 1) := by decide +kernel
theorem dX0_robotAt_1 : decode cX0_robotAt 1 = .ok (.istore_n 2, 1) := by decide +kernel
theorem dX0_robotAt_2 : decode cX0_robotAt 2 = .ok (.iload_n 2, 1) := by decide +kernel
theorem dX0_robotAt_3 : decode cX0_robotAt 3 = .ok (.aload_n 0, 1) := by decide +kernel
theorem dX0_robotAt_4 : decode cX0_robotAt 4 = .ok (.getfield 21, 3) := by decide +kernel
theorem dX0_robotAt_7 : decode cX0_robotAt 7 = .ok (.invokevirtual 44, 3) := by decide +kernel
theorem dX0_robotAt_10 : decode cX0_robotAt 10 = .ok (.if_icmp .ge 31, 3) := by decide +kernel
theorem dX0_robotAt_13 : decode cX0_robotAt 13 = .ok (.aload_n 0, 1) := by decide +kernel
theorem dX0_robotAt_14 : decode cX0_robotAt 14 = .ok (.getfield 21, 3) := by decide +kernel
theorem dX0_robotAt_17 : decode cX0_robotAt 17 = .ok (.iload_n 2, 1) := by decide +kernel
theorem dX0_robotAt_18 : decode cX0_robotAt 18 = .ok (.invokevirtual 48, 3) := by decide +kernel
theorem dX0_robotAt_21 : decode cX0_robotAt 21 = .ok (.checkcast 52, 3) := by decide +kernel
theorem dX0_robotAt_24 : decode cX0_robotAt 24 = .ok (.astore_n 3, 1) := by decide +kernel
theorem dX0_robotAt_25 : decode cX0_robotAt 25 = .ok (.aload_n 3, 1) := by decide +kernel
theorem dX0_robotAt_26 : decode cX0_robotAt 26 = .ok (.getfield 54, 3) := by decide +kernel
theorem dX0_robotAt_29 : decode cX0_robotAt 29 = .ok (.iload_n 1, 1) := by decide +kernel
theorem dX0_robotAt_30 : decode cX0_robotAt 30 = .ok (.if_icmp .ne 5, 3) := by decide +kernel
theorem dX0_robotAt_33 : decode cX0_robotAt 33 = .ok (.aload_n 3, 1) := by decide +kernel
theorem dX0_robotAt_34 : decode cX0_robotAt 34 = .ok (.areturn, 1) := by decide +kernel
theorem dX0_robotAt_35 : decode cX0_robotAt 35 = .ok (.iinc 2 1, 3) := by decide +kernel
theorem dX0_robotAt_38 : decode cX0_robotAt 38 = .ok (.goto (-36), 3) := by decide +kernel
theorem dX0_robotAt_41 : decode cX0_robotAt 41 = .ok (.aconst_null, 1) := by decide +kernel
theorem dX0_robotAt_42 : decode cX0_robotAt 42 = .ok (.areturn, 1) := by decide +kernel
theorem dX0_robotWith_0 : decode cX0_robotWith 0 = .ok (.iconst 0, 1) := by decide +kernel
theorem dX0_robotWith_1 : decode cX0_robotWith 1 = .ok (.istore_n 2, 1) := by decide +kernel
theorem dX0_robotWith_2 : decode cX0_robotWith 2 = .ok (.iload_n 2, 1) := by decide +kernel
theorem dX0_robotWith_3 : decode cX0_robotWith 3 = .ok (.aload_n 0, 1) := by decide +kernel
theorem dX0_robotWith_4 : decode cX0_robotWith 4 = .ok (.getfield 21, 3) := by decide +kernel
theorem dX0_robotWith_7 : decode cX0_robotWith 7 = .ok (.invokevirtual 44, 3) := by decide +kernel
theorem dX0_robotWith_10 : decode cX0_robotWith 10 = .ok (.if_icmp .ge 31, 3) := by decide +kernel
theorem dX0_robotWith_13 : decode cX0_robotWith 13 = .ok (.aload_n 0, 1) := by decide +kernel
theorem dX0_robotWith_14 : decode cX0_robotWith 14 = .ok (.getfield 21, 3) := by decide +kernel
theorem dX0_robotWith_17 : decode cX0_robotWith 17 = .ok (.iload_n 2, 1) := by decide +kernel
theorem dX0_robotWith_18 : decode cX0_robotWith 18 = .ok (.invokevirtual 48, 3) := by decide +kernel
theorem dX0_robotWith_21 : decode cX0_robotWith 21 = .ok (.checkcast 52, 3) := by decide +kernel
theorem dX0_robotWith_24 : decode cX0_robotWith 24 = .ok (.astore_n 3, 1) := by decide +kernel
theorem dX0_robotWith_25 : decode cX0_robotWith 25 = .ok (.aload_n 3, 1) := by decide +kernel
theorem dX0_robotWith_26 : decode cX0_robotWith 26 = .ok (.getfield 57, 3) := by decide +kernel
theorem dX0_robotWith_29 : decode cX0_robotWith 29 = .ok (.aload_n 1, 1) := by decide +kernel
theorem dX0_robotWith_30 : decode cX0_robotWith 30 = .ok (.if_acmp .ne 5, 3) := by decide +kernel
theorem dX0_robotWith_33 : decode cX0_robotWith 33 = .ok (.aload_n 3, 1) := by decide +kernel
theorem dX0_robotWith_34 : decode cX0_robotWith 34 = .ok (.areturn, 1) := by decide +kernel
theorem dX0_robotWith_35 : decode cX0_robotWith 35 = .ok (.iinc 2 1, 3) := by decide +kernel
theorem dX0_robotWith_38 : decode cX0_robotWith 38 = .ok (.goto (-36), 3) := by decide +kernel
theorem dX0_robotWith_41 : decode cX0_robotWith 41 = .ok (.aconst_null, 1) := by decide +kernel
theorem dX0_robotWith_42 : decode cX0_robotWith 42 = .ok (.areturn, 1) := by decide +kernel
theorem dX0_carrierOf_0 : decode cX0_carrierOf 0 = .ok (.aload_n 0, 1) := by decide +kernel
theorem dX0_carrierOf_1 : decode cX0_carrierOf 1 = .ok (.aload_n 1, 1) := by decide +kernel
theorem dX0_carrierOf_2 : decode cX0_carrierOf 2 = .ok (.invokevirtual 61, 3) := by decide +kernel
theorem dX0_carrierOf_5 : decode cX0_carrierOf 5 = .ok (.astore_n 2, 1) := by decide +kernel
theorem dX0_carrierOf_6 : decode cX0_carrierOf 6 = .ok (.aload_n 2, 1) := by decide +kernel
theorem dX0_carrierOf_7 : decode cX0_carrierOf 7 = .ok (.ifnull 11, 3) := by decide +kernel
theorem dX0_carrierOf_10 : decode cX0_carrierOf 10 = .ok (.aload_n 2, 1) := by decide +kernel
theorem dX0_carrierOf_11 : decode cX0_carrierOf 11 = .ok (.getfield 65, 3) := by decide +kernel
theorem dX0_carrierOf_14 : decode cX0_carrierOf 14 = .ok (.iconst 1, 1) := by decide +kernel
theorem dX0_carrierOf_15 : decode cX0_carrierOf 15 = .ok (.if_icmp .ne 7, 3) := by decide +kernel
theorem dX0_carrierOf_18 : decode cX0_carrierOf 18 = .ok (.aconst_null, 1) := by decide +kernel
theorem dX0_carrierOf_19 : decode cX0_carrierOf 19 = .ok (.goto 4, 3) := by decide +kernel
theorem dX0_carrierOf_22 : decode cX0_carrierOf 22 = .ok (.aload_n 2, 1) := by decide +kernel
theorem dX0_carrierOf_23 : decode cX0_carrierOf 23 = .ok (.areturn, 1) := by decide +kernel
theorem dX0_workerFor_0 : decode cX0_workerFor 0 = .ok (.iconst 0, 1) := by decide +kernel
theorem dX0_workerFor_1 : decode cX0_workerFor 1 = .ok (.istore_n 2, 1) := by decide +kernel
theorem dX0_workerFor_2 : decode cX0_workerFor 2 = .ok (.iload_n 2, 1) := by decide +kernel
theorem dX0_workerFor_3 : decode cX0_workerFor 3 = .ok (.aload_n 0, 1) := by decide +kernel
theorem dX0_workerFor_4 : decode cX0_workerFor 4 = .ok (.getfield 21, 3) := by decide +kernel
theorem dX0_workerFor_7 : decode cX0_workerFor 7 = .ok (.invokevirtual 44, 3) := by decide +kernel
theorem dX0_workerFor_10 : decode cX0_workerFor 10 = .ok (.if_icmp .ge 31, 3) := by decide +kernel
theorem dX0_workerFor_13 : decode cX0_workerFor 13 = .ok (.aload_n 0, 1) := by decide +kernel
theorem dX0_workerFor_14 : decode cX0_workerFor 14 = .ok (.getfield 21, 3) := by decide +kernel
theorem dX0_workerFor_17 : decode cX0_workerFor 17 = .ok (.iload_n 2, 1) := by decide +kernel
theorem dX0_workerFor_18 : decode cX0_workerFor 18 = .ok (.invokevirtual 48, 3) := by decide +kernel
theorem dX0_workerFor_21 : decode cX0_workerFor 21 = .ok (.checkcast 52, 3) := by decide +kernel
theorem dX0_workerFor_24 : decode cX0_workerFor 24 = .ok (.astore_n 3, 1) := by decide +kernel
theorem dX0_workerFor_25 : decode cX0_workerFor 25 = .ok (.aload_n 3, 1) := by decide +kernel
theorem dX0_workerFor_26 : decode cX0_workerFor 26 = .ok (.getfield 68, 3) := by decide +kernel
theorem dX0_workerFor_29 : decode cX0_workerFor 29 = .ok (.aload_n 1, 1) := by decide +kernel
theorem dX0_workerFor_30 : decode cX0_workerFor 30 = .ok (.if_acmp .ne 5, 3) := by decide +kernel
theorem dX0_workerFor_33 : decode cX0_workerFor 33 = .ok (.aload_n 3, 1) := by decide +kernel
theorem dX0_workerFor_34 : decode cX0_workerFor 34 = .ok (.areturn, 1) := by decide +kernel
theorem dX0_workerFor_35 : decode cX0_workerFor 35 = .ok (.iinc 2 1, 3) := by decide +kernel
theorem dX0_workerFor_38 : decode cX0_workerFor 38 = .ok (.goto (-36), 3) := by decide +kernel
theorem dX0_workerFor_41 : decode cX0_workerFor 41 = .ok (.aconst_null, 1) := by decide +kernel
theorem dX0_workerFor_42 : decode cX0_workerFor 42 = .ok (.areturn, 1) := by decide +kernel
theorem dX0_worksFor_0 : decode cX0_worksFor 0 = .ok (.iconst 0, 1) := by decide +kernel
theorem dX0_worksFor_1 : decode cX0_worksFor 1 = .ok (.istore_n 2, 1) := by decide +kernel
theorem dX0_worksFor_2 : decode cX0_worksFor 2 = .ok (.iload_n 2, 1) := by decide +kernel
theorem dX0_worksFor_3 : decode cX0_worksFor 3 = .ok (.aload_n 0, 1) := by decide +kernel
theorem dX0_worksFor_4 : decode cX0_worksFor 4 = .ok (.getfield 21, 3) := by decide +kernel
theorem dX0_worksFor_7 : decode cX0_worksFor 7 = .ok (.invokevirtual 44, 3) := by decide +kernel
theorem dX0_worksFor_10 : decode cX0_worksFor 10 = .ok (.if_icmp .ge 38, 3) := by decide +kernel
theorem dX0_worksFor_13 : decode cX0_worksFor 13 = .ok (.aload_n 0, 1) := by decide +kernel
theorem dX0_worksFor_14 : decode cX0_worksFor 14 = .ok (.getfield 21, 3) := by decide +kernel
theorem dX0_worksFor_17 : decode cX0_worksFor 17 = .ok (.iload_n 2, 1) := by decide +kernel
theorem dX0_worksFor_18 : decode cX0_worksFor 18 = .ok (.invokevirtual 48, 3) := by decide +kernel
theorem dX0_worksFor_21 : decode cX0_worksFor 21 = .ok (.checkcast 52, 3) := by decide +kernel
theorem dX0_worksFor_24 : decode cX0_worksFor 24 = .ok (.getfield 68, 3) := by decide +kernel
theorem dX0_worksFor_27 : decode cX0_worksFor 27 = .ok (.astore_n 3, 1) := by decide +kernel
theorem dX0_worksFor_28 : decode cX0_worksFor 28 = .ok (.aload_n 3, 1) := by decide +kernel
theorem dX0_worksFor_29 : decode cX0_worksFor 29 = .ok (.ifnull 13, 3) := by decide +kernel
theorem dX0_worksFor_32 : decode cX0_worksFor 32 = .ok (.aload_n 3, 1) := by decide +kernel
theorem dX0_worksFor_33 : decode cX0_worksFor 33 = .ok (.getfield 72, 3) := by decide +kernel
theorem dX0_worksFor_36 : decode cX0_worksFor 36 = .ok (.aload_n 1, 1) := by decide +kernel
theorem dX0_worksFor_37 : decode cX0_worksFor 37 = .ok (.if_acmp .ne 5, 3) := by decide +kernel
theorem dX0_worksFor_40 : decode cX0_worksFor 40 = .ok (.iconst 1, 1) := by decide +kernel
theorem dX0_worksFor_41 : decode cX0_worksFor 41 = .ok (.ireturn, 1) := by decide +kernel
theorem dX0_worksFor_42 : decode cX0_worksFor 42 = .ok (.iinc 2 1, 3) := by decide +kernel
theorem dX0_worksFor_45 : decode cX0_worksFor 45 = .ok (.goto (-43), 3) := by decide +kernel
theorem dX0_worksFor_48 : decode cX0_worksFor 48 = .ok (.iconst 0, 1) := by decide +kernel
theorem dX0_worksFor_49 : decode cX0_worksFor 49 = .ok (.ireturn, 1) := by decide +kernel
theorem dX0_nearestIdle_0 : decode cX0_nearestIdle 0 = .ok (.aconst_null, 1) := by decide +kernel
theorem dX0_nearestIdle_1 : decode cX0_nearestIdle 1 = .ok (.astore_n 2, 1) := by decide +kernel
theorem dX0_nearestIdle_2 : decode cX0_nearestIdle 2 = .ok (.bipush 64, 2) := by decide +kernel
theorem dX0_nearestIdle_4 : decode cX0_nearestIdle 4 = .ok (.istore_n 3, 1) := by decide +kernel
theorem dX0_nearestIdle_5 : decode cX0_nearestIdle 5 = .ok (.iconst 0, 1) := by decide +kernel
theorem dX0_nearestIdle_6 : decode cX0_nearestIdle 6 = .ok (.istore 4, 2) := by decide +kernel
theorem dX0_nearestIdle_8 : decode cX0_nearestIdle 8 = .ok (.iload 4, 2) := by decide +kernel
theorem dX0_nearestIdle_10 : decode cX0_nearestIdle 10 = .ok (.aload_n 0, 1) := by decide +kernel
theorem dX0_nearestIdle_11 : decode cX0_nearestIdle 11 = .ok (.getfield 21, 3) := by decide +kernel
theorem dX0_nearestIdle_14 : decode cX0_nearestIdle 14 = .ok (.invokevirtual 44, 3) := by decide +kernel
theorem dX0_nearestIdle_17 : decode cX0_nearestIdle 17 = .ok (.if_icmp .ge 65, 3) := by decide +kernel
theorem dX0_nearestIdle_20 : decode cX0_nearestIdle 20 = .ok (.aload_n 0, 1) := by decide +kernel
theorem dX0_nearestIdle_21 : decode cX0_nearestIdle 21 = .ok (.getfield 21, 3) := by decide +kernel
theorem dX0_nearestIdle_24 : decode cX0_nearestIdle 24 = .ok (.iload 4, 2) := by decide +kernel
theorem dX0_nearestIdle_26 : decode cX0_nearestIdle 26 = .ok (.invokevirtual 48, 3) := by decide +kernel
theorem dX0_nearestIdle_29 : decode cX0_nearestIdle 29 = .ok (.checkcast 52, 3) := by decide +kernel
theorem dX0_nearestIdle_32 : decode cX0_nearestIdle 32 = .ok (.astore 5, 2) := by decide +kernel
theorem dX0_nearestIdle_34 : decode cX0_nearestIdle 34 = .ok (.aload 5, 2) := by decide +kernel
theorem dX0_nearestIdle_36 : decode cX0_nearestIdle 36 = .ok (.getfield 65, 3) := by decide +kernel
theorem dX0_nearestIdle_39 : decode cX0_nearestIdle 39 = .ok (.ifCond .ne 37, 3) := by decide +kernel
theorem dX0_nearestIdle_42 : decode cX0_nearestIdle 42 = .ok (.aload_n 0, 1) := by decide +kernel
theorem dX0_nearestIdle_43 : decode cX0_nearestIdle 43 = .ok (.getfield 12, 3) := by decide +kernel
theorem dX0_nearestIdle_46 : decode cX0_nearestIdle 46 = .ok (.aload 5, 2) := by decide +kernel
theorem dX0_nearestIdle_48 : decode cX0_nearestIdle 48 = .ok (.getfield 54, 3) := by decide +kernel
theorem dX0_nearestIdle_51 : decode cX0_nearestIdle 51 = .ok (.iload_n 1, 1) := by decide +kernel
theorem dX0_nearestIdle_52 : decode cX0_nearestIdle 52 = .ok (.iconst (-1), 1) := by decide +kernel
theorem dX0_nearestIdle_53 : decode cX0_nearestIdle 53 = .ok (.invokevirtual 78, 3) := by decide +kernel
theorem dX0_nearestIdle_56 : decode cX0_nearestIdle 56 = .ok (.istore 6, 2) := by decide +kernel
theorem dX0_nearestIdle_58 : decode cX0_nearestIdle 58 = .ok (.iload 6, 2) := by decide +kernel
theorem dX0_nearestIdle_60 : decode cX0_nearestIdle 60 = .ok (.iconst (-1), 1) := by decide +kernel
theorem dX0_nearestIdle_61 : decode cX0_nearestIdle 61 = .ok (.if_icmp .eq 15, 3) := by decide +kernel
theorem dX0_nearestIdle_64 : decode cX0_nearestIdle 64 = .ok (.iload 6, 2) := by decide +kernel
theorem dX0_nearestIdle_66 : decode cX0_nearestIdle 66 = .ok (.iload_n 3, 1) := by decide +kernel
theorem dX0_nearestIdle_67 : decode cX0_nearestIdle 67 = .ok (.if_icmp .ge 9, 3) := by decide +kernel
theorem dX0_nearestIdle_70 : decode cX0_nearestIdle 70 = .ok (.aload 5, 2) := by decide +kernel
theorem dX0_nearestIdle_72 : decode cX0_nearestIdle 72 = .ok (.astore_n 2, 1) := by decide +kernel
theorem dX0_nearestIdle_73 : decode cX0_nearestIdle 73 = .ok (.iload 6, 2) := by decide +kernel
theorem dX0_nearestIdle_75 : decode cX0_nearestIdle 75 = .ok (.istore_n 3, 1) := by decide +kernel
theorem dX0_nearestIdle_76 : decode cX0_nearestIdle 76 = .ok (.iinc 4 1, 3) := by decide +kernel
theorem dX0_nearestIdle_79 : decode cX0_nearestIdle 79 = .ok (.goto (-71), 3) := by decide +kernel
theorem dX0_nearestIdle_82 : decode cX0_nearestIdle 82 = .ok (.aload_n 2, 1) := by decide +kernel
theorem dX0_nearestIdle_83 : decode cX0_nearestIdle 83 = .ok (.areturn, 1) := by decide +kernel
theorem dX0_moveRobot_0 : decode cX0_moveRobot 0 = .ok (.aload_n 1, 1) := by decide +kernel
theorem dX0_moveRobot_1 : decode cX0_moveRobot 1 = .ok (.iload_n 2, 1) := by decide +kernel
theorem dX0_moveRobot_2 : decode cX0_moveRobot 2 = .ok (.invokevirtual 82, 3) := by decide +kernel
theorem dX0_moveRobot_5 : decode cX0_moveRobot 5 = .ok (.aload_n 0, 1) := by decide +kernel
theorem dX0_moveRobot_6 : decode cX0_moveRobot 6 = .ok (.dup, 1) := by decide +kernel
theorem dX0_moveRobot_7 : decode cX0_moveRobot 7 = .ok (.getfield 25, 3) := by decide +kernel
theorem dX0_moveRobot_10 : decode cX0_moveRobot 10 = .ok (.iconst 1, 1) := by decide +kernel
theorem dX0_moveRobot_11 : decode cX0_moveRobot 11 = .ok (.iadd, 1) := by decide +kernel
theorem dX0_moveRobot_12 : decode cX0_moveRobot 12 = .ok (.putfield 25, 3) := by decide +kernel
theorem dX0_moveRobot_15 : decode cX0_moveRobot 15 = .ok (.return_, 1) := by decide +kernel
theorem dX0_askForCells_0 : decode cX0_askForCells 0 = .ok (.iconst 0, 1) := by decide +kernel
theorem dX0_askForCells_1 : decode cX0_askForCells 1 = .ok (.istore_n 2, 1) := by decide +kernel
theorem dX0_askForCells_2 : decode cX0_askForCells 2 = .ok (.iload_n 2, 1) := by decide +kernel
theorem dX0_askForCells_3 : decode cX0_askForCells 3 = .ok (.aload_n 0, 1) := by decide +kernel
theorem dX0_askForCells_4 : decode cX0_askForCells 4 = .ok (.getfield 21, 3) := by decide +kernel
theorem dX0_askForCells_7 : decode cX0_askForCells 7 = .ok (.invokevirtual 44, 3) := by decide +kernel
theorem dX0_askForCells_10 : decode cX0_askForCells 10 = .ok (.if_icmp .ge 31, 3) := by decide +kernel
theorem dX0_askForCells_13 : decode cX0_askForCells 13 = .ok (.aload_n 0, 1) := by decide +kernel
theorem dX0_askForCells_14 : decode cX0_askForCells 14 = .ok (.getfield 21, 3) := by decide +kernel
theorem dX0_askForCells_17 : decode cX0_askForCells 17 = .ok (.iload_n 2, 1) := by decide +kernel
theorem dX0_askForCells_18 : decode cX0_askForCells 18 = .ok (.invokevirtual 48, 3) := by decide +kernel
theorem dX0_askForCells_21 : decode cX0_askForCells 21 = .ok (.checkcast 52, 3) := by decide +kernel
theorem dX0_askForCells_24 : decode cX0_askForCells 24 = .ok (.astore_n 3, 1) := by decide +kernel
theorem dX0_askForCells_25 : decode cX0_askForCells 25 = .ok (.aload_n 3, 1) := by decide +kernel
theorem dX0_askForCells_26 : decode cX0_askForCells 26 = .ok (.aload_n 0, 1) := by decide +kernel
theorem dX0_askForCells_27 : decode cX0_askForCells 27 = .ok (.aload_n 3, 1) := by decide +kernel
theorem dX0_askForCells_28 : decode cX0_askForCells 28 = .ok (.invokevirtual 86, 3) := by decide +kernel
theorem dX0_askForCells_31 : decode cX0_askForCells 31 = .ok (.iload_n 1, 1) := by decide +kernel
theorem dX0_askForCells_32 : decode cX0_askForCells 32 = .ok (.invokevirtual 90, 3) := by decide +kernel
theorem dX0_askForCells_35 : decode cX0_askForCells 35 = .ok (.iinc 2 1, 3) := by decide +kernel
theorem dX0_askForCells_38 : decode cX0_askForCells 38 = .ok (.goto (-36), 3) := by decide +kernel
theorem dX0_askForCells_41 : decode cX0_askForCells 41 = .ok (.return_, 1) := by decide +kernel
theorem dX0_wantedCell_0 : decode cX0_wantedCell 0 = .ok (.aload_n 1, 1) := by decide +kernel
theorem dX0_wantedCell_1 : decode cX0_wantedCell 1 = .ok (.invokevirtual 94, 3) := by decide +kernel
theorem dX0_wantedCell_4 : decode cX0_wantedCell 4 = .ok (.istore_n 2, 1) := by decide +kernel
theorem dX0_wantedCell_5 : decode cX0_wantedCell 5 = .ok (.aload_n 1, 1) := by decide +kernel
theorem dX0_wantedCell_6 : decode cX0_wantedCell 6 = .ok (.invokevirtual 97, 3) := by decide +kernel
theorem dX0_wantedCell_9 : decode cX0_wantedCell 9 = .ok (.ifCond .eq 11, 3) := by decide +kernel
theorem dX0_wantedCell_12 : decode cX0_wantedCell 12 = .ok (.aload_n 1, 1) := by decide +kernel
theorem dX0_wantedCell_13 : decode cX0_wantedCell 13 = .ok (.getfield 54, 3) := by decide +kernel
theorem dX0_wantedCell_16 : decode cX0_wantedCell 16 = .ok (.iload_n 2, 1) := by decide +kernel
theorem dX0_wantedCell_17 : decode cX0_wantedCell 17 = .ok (.if_icmp .ne 5, 3) := by decide +kernel
theorem dX0_wantedCell_20 : decode cX0_wantedCell 20 = .ok (.iconst (-1), 1) := by decide +kernel
theorem dX0_wantedCell_21 : decode cX0_wantedCell 21 = .ok (.ireturn, 1) := by decide +kernel
theorem dX0_wantedCell_22 : decode cX0_wantedCell 22 = .ok (.aload_n 0, 1) := by decide +kernel
theorem dX0_wantedCell_23 : decode cX0_wantedCell 23 = .ok (.getfield 12, 3) := by decide +kernel
theorem dX0_wantedCell_26 : decode cX0_wantedCell 26 = .ok (.aload_n 1, 1) := by decide +kernel
theorem dX0_wantedCell_27 : decode cX0_wantedCell 27 = .ok (.getfield 54, 3) := by decide +kernel
theorem dX0_wantedCell_30 : decode cX0_wantedCell 30 = .ok (.iload_n 2, 1) := by decide +kernel
theorem dX0_wantedCell_31 : decode cX0_wantedCell 31 = .ok (.aload_n 1, 1) := by decide +kernel
theorem dX0_wantedCell_32 : decode cX0_wantedCell 32 = .ok (.getfield 101, 3) := by decide +kernel
theorem dX0_wantedCell_35 : decode cX0_wantedCell 35 = .ok (.invokevirtual 104, 3) := by decide +kernel
theorem dX0_wantedCell_38 : decode cX0_wantedCell 38 = .ok (.istore_n 3, 1) := by decide +kernel
theorem dX0_wantedCell_39 : decode cX0_wantedCell 39 = .ok (.iload_n 3, 1) := by decide +kernel
theorem dX0_wantedCell_40 : decode cX0_wantedCell 40 = .ok (.iconst (-1), 1) := by decide +kernel
theorem dX0_wantedCell_41 : decode cX0_wantedCell 41 = .ok (.if_icmp .ne 30, 3) := by decide +kernel
theorem dX0_wantedCell_44 : decode cX0_wantedCell 44 = .ok (.aload_n 1, 1) := by decide +kernel
theorem dX0_wantedCell_45 : decode cX0_wantedCell 45 = .ok (.getfield 101, 3) := by decide +kernel
theorem dX0_wantedCell_48 : decode cX0_wantedCell 48 = .ok (.iconst (-1), 1) := by decide +kernel
theorem dX0_wantedCell_49 : decode cX0_wantedCell 49 = .ok (.if_icmp .eq 22, 3) := by decide +kernel
theorem dX0_wantedCell_52 : decode cX0_wantedCell 52 = .ok (.aload_n 1, 1) := by decide +kernel
theorem dX0_wantedCell_53 : decode cX0_wantedCell 53 = .ok (.iconst (-1), 1) := by decide +kernel
theorem dX0_wantedCell_54 : decode cX0_wantedCell 54 = .ok (.putfield 101, 3) := by decide +kernel
theorem dX0_wantedCell_57 : decode cX0_wantedCell 57 = .ok (.aload_n 0, 1) := by decide +kernel
theorem dX0_wantedCell_58 : decode cX0_wantedCell 58 = .ok (.getfield 12, 3) := by decide +kernel
theorem dX0_wantedCell_61 : decode cX0_wantedCell 61 = .ok (.aload_n 1, 1) := by decide +kernel
theorem dX0_wantedCell_62 : decode cX0_wantedCell 62 = .ok (.getfield 54, 3) := by decide +kernel
theorem dX0_wantedCell_65 : decode cX0_wantedCell 65 = .ok (.iload_n 2, 1) := by decide +kernel
theorem dX0_wantedCell_66 : decode cX0_wantedCell 66 = .ok (.iconst (-1), 1) := by decide +kernel
theorem dX0_wantedCell_67 : decode cX0_wantedCell 67 = .ok (.invokevirtual 104, 3) := by decide +kernel
theorem dX0_wantedCell_70 : decode cX0_wantedCell 70 = .ok (.istore_n 3, 1) := by decide +kernel
theorem dX0_wantedCell_71 : decode cX0_wantedCell 71 = .ok (.iload_n 3, 1) := by decide +kernel
theorem dX0_wantedCell_72 : decode cX0_wantedCell 72 = .ok (.ireturn, 1) := by decide +kernel
theorem dX0_settleRings_0 : decode cX0_settleRings 0 = .ok (.iconst 0, 1) := by decide +kernel
theorem dX0_settleRings_1 : decode cX0_settleRings 1 = .ok (.istore_n 1, 1) := by decide +kernel
theorem dX0_settleRings_2 : decode cX0_settleRings 2 = .ok (.iload_n 1, 1) := by decide +kernel
theorem dX0_settleRings_3 : decode cX0_settleRings 3 = .ok (.aload_n 0, 1) := by decide +kernel
theorem dX0_settleRings_4 : decode cX0_settleRings 4 = .ok (.getfield 21, 3) := by decide +kernel
theorem dX0_settleRings_7 : decode cX0_settleRings 7 = .ok (.invokevirtual 44, 3) := by decide +kernel
theorem dX0_settleRings_10 : decode cX0_settleRings 10 = .ok (.if_icmp .ge 79, 3) := by decide +kernel
theorem dX0_settleRings_13 : decode cX0_settleRings 13 = .ok (.aload_n 0, 1) := by decide +kernel
theorem dX0_settleRings_14 : decode cX0_settleRings 14 = .ok (.aload_n 0, 1) := by decide +kernel
theorem dX0_settleRings_15 : decode cX0_settleRings 15 = .ok (.getfield 21, 3) := by decide +kernel
theorem dX0_settleRings_18 : decode cX0_settleRings 18 = .ok (.iload_n 1, 1) := by decide +kernel
theorem dX0_settleRings_19 : decode cX0_settleRings 19 = .ok (.invokevirtual 48, 3) := by decide +kernel
theorem dX0_settleRings_22 : decode cX0_settleRings 22 = .ok (.checkcast 52, 3) := by decide +kernel
theorem dX0_settleRings_25 : decode cX0_settleRings 25 = .ok (.invokevirtual 107, 3) := by decide +kernel
theorem dX0_settleRings_28 : decode cX0_settleRings 28 = .ok (.aload_n 0, 1) := by decide +kernel
theorem dX0_settleRings_29 : decode cX0_settleRings 29 = .ok (.getfield 38, 3) := by decide +kernel
theorem dX0_settleRings_32 : decode cX0_settleRings 32 = .ok (.invokevirtual 44, 3) := by decide +kernel
theorem dX0_settleRings_35 : decode cX0_settleRings 35 = .ok (.iconst 2, 1) := by decide +kernel
theorem dX0_settleRings_36 : decode cX0_settleRings 36 = .ok (.if_icmp .le 10, 3) := by decide +kernel
theorem dX0_settleRings_39 : decode cX0_settleRings 39 = .ok (.aload_n 0, 1) := by decide +kernel
theorem dX0_settleRings_40 : decode cX0_settleRings 40 = .ok (.invokevirtual 111, 3) := by decide +kernel
theorem dX0_settleRings_43 : decode cX0_settleRings 43 = .ok (.goto 40, 3) := by decide +kernel
theorem dX0_settleRings_46 : decode cX0_settleRings 46 = .ok (.aload_n 0, 1) := by decide +kernel
theorem dX0_settleRings_47 : decode cX0_settleRings 47 = .ok (.getfield 38, 3) := by decide +kernel
theorem dX0_settleRings_50 : decode cX0_settleRings 50 = .ok (.invokevirtual 44, 3) := by decide +kernel
theorem dX0_settleRings_53 : decode cX0_settleRings 53 = .ok (.iconst 2, 1) := by decide +kernel
theorem dX0_settleRings_54 : decode cX0_settleRings 54 = .ok (.if_icmp .ne 29, 3) := by decide +kernel
theorem dX0_settleRings_57 : decode cX0_settleRings 57 = .ok (.aload_n 0, 1) := by decide +kernel
theorem dX0_settleRings_58 : decode cX0_settleRings 58 = .ok (.aload_n 0, 1) := by decide +kernel
theorem dX0_settleRings_59 : decode cX0_settleRings 59 = .ok (.getfield 38, 3) := by decide +kernel
theorem dX0_settleRings_62 : decode cX0_settleRings 62 = .ok (.iconst 0, 1) := by decide +kernel
theorem dX0_settleRings_63 : decode cX0_settleRings 63 = .ok (.invokevirtual 48, 3) := by decide +kernel
theorem dX0_settleRings_66 : decode cX0_settleRings 66 = .ok (.checkcast 52, 3) := by decide +kernel
theorem dX0_settleRings_69 : decode cX0_settleRings 69 = .ok (.aload_n 0, 1) := by decide +kernel
theorem dX0_settleRings_70 : decode cX0_settleRings 70 = .ok (.getfield 38, 3) := by decide +kernel
theorem dX0_settleRings_73 : decode cX0_settleRings 73 = .ok (.iconst 1, 1) := by decide +kernel
theorem dX0_settleRings_74 : decode cX0_settleRings 74 = .ok (.invokevirtual 48, 3) := by decide +kernel
theorem dX0_settleRings_77 : decode cX0_settleRings 77 = .ok (.checkcast 52, 3) := by decide +kernel
theorem dX0_settleRings_80 : decode cX0_settleRings 80 = .ok (.invokevirtual 114, 3) := by decide +kernel
theorem dX0_settleRings_83 : decode cX0_settleRings 83 = .ok (.iinc 1 1, 3) := by decide +kernel
theorem dX0_settleRings_86 : decode cX0_settleRings 86 = .ok (.goto (-84), 3) := by decide +kernel
theorem dX0_settleRings_89 : decode cX0_settleRings 89 = .ok (.return_, 1) := by decide +kernel
theorem dX0_gatherRing_0 : decode cX0_gatherRing 0 = .ok (.aload_n 0, 1) := by decide +kernel
theorem dX0_gatherRing_1 : decode cX0_gatherRing 1 = .ok (.getfield 38, 3) := by decide +kernel
theorem dX0_gatherRing_4 : decode cX0_gatherRing 4 = .ok (.invokevirtual 118, 3) := by decide +kernel
theorem dX0_gatherRing_7 : decode cX0_gatherRing 7 = .ok (.aload_n 1, 1) := by decide +kernel
theorem dX0_gatherRing_8 : decode cX0_gatherRing 8 = .ok (.astore_n 2, 1) := by decide +kernel
theorem dX0_gatherRing_9 : decode cX0_gatherRing 9 = .ok (.iconst 0, 1) := by decide +kernel
theorem dX0_gatherRing_10 : decode cX0_gatherRing 10 = .ok (.istore_n 3, 1) := by decide +kernel
theorem dX0_gatherRing_11 : decode cX0_gatherRing 11 = .ok (.iload_n 3, 1) := by decide +kernel
theorem dX0_gatherRing_12 : decode cX0_gatherRing 12 = .ok (.bipush 6, 2) := by decide +kernel
theorem dX0_gatherRing_14 : decode cX0_gatherRing 14 = .ok (.if_icmp .ge 51, 3) := by decide +kernel
theorem dX0_gatherRing_17 : decode cX0_gatherRing 17 = .ok (.aload_n 0, 1) := by decide +kernel
theorem dX0_gatherRing_18 : decode cX0_gatherRing 18 = .ok (.getfield 38, 3) := by decide +kernel
theorem dX0_gatherRing_21 : decode cX0_gatherRing 21 = .ok (.aload_n 2, 1) := by decide +kernel
theorem dX0_gatherRing_22 : decode cX0_gatherRing 22 = .ok (.invokevirtual 121, 3) := by decide +kernel
theorem dX0_gatherRing_25 : decode cX0_gatherRing 25 = .ok (.pop, 1) := by decide +kernel
theorem dX0_gatherRing_26 : decode cX0_gatherRing 26 = .ok (.aload_n 0, 1) := by decide +kernel
theorem dX0_gatherRing_27 : decode cX0_gatherRing 27 = .ok (.aload_n 2, 1) := by decide +kernel
theorem dX0_gatherRing_28 : decode cX0_gatherRing 28 = .ok (.getfield 125, 3) := by decide +kernel
theorem dX0_gatherRing_31 : decode cX0_gatherRing 31 = .ok (.invokevirtual 128, 3) := by decide +kernel
theorem dX0_gatherRing_34 : decode cX0_gatherRing 34 = .ok (.astore_n 2, 1) := by decide +kernel
theorem dX0_gatherRing_35 : decode cX0_gatherRing 35 = .ok (.aload_n 2, 1) := by decide +kernel
theorem dX0_gatherRing_36 : decode cX0_gatherRing 36 = .ok (.aload_n 1, 1) := by decide +kernel
theorem dX0_gatherRing_37 : decode cX0_gatherRing 37 = .ok (.if_acmp .ne 4, 3) := by decide +kernel
theorem dX0_gatherRing_40 : decode cX0_gatherRing 40 = .ok (.return_, 1) := by decide +kernel
theorem dX0_gatherRing_41 : decode cX0_gatherRing 41 = .ok (.aload_n 2, 1) := by decide +kernel
theorem dX0_gatherRing_42 : decode cX0_gatherRing 42 = .ok (.ifnull 23, 3) := by decide +kernel
theorem dX0_gatherRing_45 : decode cX0_gatherRing 45 = .ok (.aload_n 2, 1) := by decide +kernel
theorem dX0_gatherRing_46 : decode cX0_gatherRing 46 = .ok (.getfield 132, 3) := by decide +kernel
theorem dX0_gatherRing_49 : decode cX0_gatherRing 49 = .ok (.aload_n 1, 1) := by decide +kernel
theorem dX0_gatherRing_50 : decode cX0_gatherRing 50 = .ok (.getfield 132, 3) := by decide +kernel
theorem dX0_gatherRing_53 : decode cX0_gatherRing 53 = .ok (.if_icmp .ge 6, 3) := by decide +kernel
theorem dX0_gatherRing_56 : decode cX0_gatherRing 56 = .ok (.goto 9, 3) := by decide +kernel
theorem dX0_gatherRing_59 : decode cX0_gatherRing 59 = .ok (.iinc 3 1, 3) := by decide +kernel
theorem dX0_gatherRing_62 : decode cX0_gatherRing 62 = .ok (.goto (-51), 3) := by decide +kernel
theorem dX0_gatherRing_65 : decode cX0_gatherRing 65 = .ok (.aload_n 0, 1) := by decide +kernel
theorem dX0_gatherRing_66 : decode cX0_gatherRing 66 = .ok (.getfield 38, 3) := by decide +kernel
theorem dX0_gatherRing_69 : decode cX0_gatherRing 69 = .ok (.invokevirtual 118, 3) := by decide +kernel
theorem dX0_gatherRing_72 : decode cX0_gatherRing 72 = .ok (.return_, 1) := by decide +kernel
theorem dX0_turnRing_0 : decode cX0_turnRing 0 = .ok (.iconst 0, 1) := by decide +kernel
theorem dX0_turnRing_1 : decode cX0_turnRing 1 = .ok (.istore_n 1, 1) := by decide +kernel
theorem dX0_turnRing_2 : decode cX0_turnRing 2 = .ok (.iload_n 1, 1) := by decide +kernel
theorem dX0_turnRing_3 : decode cX0_turnRing 3 = .ok (.aload_n 0, 1) := by decide +kernel
theorem dX0_turnRing_4 : decode cX0_turnRing 4 = .ok (.getfield 38, 3) := by decide +kernel
theorem dX0_turnRing_7 : decode cX0_turnRing 7 = .ok (.invokevirtual 44, 3) := by decide +kernel
theorem dX0_turnRing_10 : decode cX0_turnRing 10 = .ok (.if_icmp .ge 30, 3) := by decide +kernel
theorem dX0_turnRing_13 : decode cX0_turnRing 13 = .ok (.aload_n 0, 1) := by decide +kernel
theorem dX0_turnRing_14 : decode cX0_turnRing 14 = .ok (.getfield 38, 3) := by decide +kernel
theorem dX0_turnRing_17 : decode cX0_turnRing 17 = .ok (.iload_n 1, 1) := by decide +kernel
theorem dX0_turnRing_18 : decode cX0_turnRing 18 = .ok (.invokevirtual 48, 3) := by decide +kernel
theorem dX0_turnRing_21 : decode cX0_turnRing 21 = .ok (.checkcast 52, 3) := by decide +kernel
theorem dX0_turnRing_24 : decode cX0_turnRing 24 = .ok (.astore_n 2, 1) := by decide +kernel
theorem dX0_turnRing_25 : decode cX0_turnRing 25 = .ok (.aload_n 0, 1) := by decide +kernel
theorem dX0_turnRing_26 : decode cX0_turnRing 26 = .ok (.aload_n 2, 1) := by decide +kernel
theorem dX0_turnRing_27 : decode cX0_turnRing 27 = .ok (.aload_n 2, 1) := by decide +kernel
theorem dX0_turnRing_28 : decode cX0_turnRing 28 = .ok (.getfield 125, 3) := by decide +kernel
theorem dX0_turnRing_31 : decode cX0_turnRing 31 = .ok (.invokevirtual 135, 3) := by decide +kernel
theorem dX0_turnRing_34 : decode cX0_turnRing 34 = .ok (.iinc 1 1, 3) := by decide +kernel
theorem dX0_turnRing_37 : decode cX0_turnRing 37 = .ok (.goto (-35), 3) := by decide +kernel
theorem dX0_turnRing_40 : decode cX0_turnRing 40 = .ok (.aload_n 0, 1) := by decide +kernel
theorem dX0_turnRing_41 : decode cX0_turnRing 41 = .ok (.dup, 1) := by decide +kernel
theorem dX0_turnRing_42 : decode cX0_turnRing 42 = .ok (.getfield 29, 3) := by decide +kernel
theorem dX0_turnRing_45 : decode cX0_turnRing 45 = .ok (.iconst 1, 1) := by decide +kernel
theorem dX0_turnRing_46 : decode cX0_turnRing 46 = .ok (.iadd, 1) := by decide +kernel
theorem dX0_turnRing_47 : decode cX0_turnRing 47 = .ok (.putfield 29, 3) := by decide +kernel
theorem dX0_turnRing_50 : decode cX0_turnRing 50 = .ok (.return_, 1) := by decide +kernel
theorem dX0_breakRing_0 : decode cX0_breakRing 0 = .ok (.aload_n 1, 1) := by decide +kernel
theorem dX0_breakRing_1 : decode cX0_breakRing 1 = .ok (.aload_n 2, 1) := by decide +kernel
theorem dX0_breakRing_2 : decode cX0_breakRing 2 = .ok (.invokevirtual 139, 3) := by decide +kernel
theorem dX0_breakRing_5 : decode cX0_breakRing 5 = .ok (.ifCond .eq 7, 3) := by decide +kernel
theorem dX0_breakRing_8 : decode cX0_breakRing 8 = .ok (.aload_n 1, 1) := by decide +kernel
theorem dX0_breakRing_9 : decode cX0_breakRing 9 = .ok (.goto 4, 3) := by decide +kernel
theorem dX0_breakRing_12 : decode cX0_breakRing 12 = .ok (.aload_n 2, 1) := by decide +kernel
theorem dX0_breakRing_13 : decode cX0_breakRing 13 = .ok (.astore_n 3, 1) := by decide +kernel
theorem dX0_breakRing_14 : decode cX0_breakRing 14 = .ok (.aload_n 3, 1) := by decide +kernel
theorem dX0_breakRing_15 : decode cX0_breakRing 15 = .ok (.aload_n 1, 1) := by decide +kernel
theorem dX0_breakRing_16 : decode cX0_breakRing 16 = .ok (.if_acmp .ne 7, 3) := by decide +kernel
theorem dX0_breakRing_19 : decode cX0_breakRing 19 = .ok (.aload_n 2, 1) := by decide +kernel
theorem dX0_breakRing_20 : decode cX0_breakRing 20 = .ok (.goto 4, 3) := by decide +kernel
theorem dX0_breakRing_23 : decode cX0_breakRing 23 = .ok (.aload_n 1, 1) := by decide +kernel
theorem dX0_breakRing_24 : decode cX0_breakRing 24 = .ok (.astore 4, 2) := by decide +kernel
theorem dX0_breakRing_26 : decode cX0_breakRing 26 = .ok (.aload_n 0, 1) := by decide +kernel
theorem dX0_breakRing_27 : decode cX0_breakRing 27 = .ok (.aload 4, 2) := by decide +kernel
theorem dX0_breakRing_29 : decode cX0_breakRing 29 = .ok (.aload_n 3, 1) := by decide +kernel
theorem dX0_breakRing_30 : decode cX0_breakRing 30 = .ok (.invokevirtual 143, 3) := by decide +kernel
theorem dX0_breakRing_33 : decode cX0_breakRing 33 = .ok (.ifCond .eq 22, 3) := by decide +kernel
theorem dX0_breakRing_36 : decode cX0_breakRing 36 = .ok (.aload 4, 2) := by decide +kernel
theorem dX0_breakRing_38 : decode cX0_breakRing 38 = .ok (.aload_n 3, 1) := by decide +kernel
theorem dX0_breakRing_39 : decode cX0_breakRing 39 = .ok (.invokevirtual 147, 3) := by decide +kernel
theorem dX0_breakRing_42 : decode cX0_breakRing 42 = .ok (.aload_n 0, 1) := by decide +kernel
theorem dX0_breakRing_43 : decode cX0_breakRing 43 = .ok (.dup, 1) := by decide +kernel
theorem dX0_breakRing_44 : decode cX0_breakRing 44 = .ok (.getfield 32, 3) := by decide +kernel
theorem dX0_breakRing_47 : decode cX0_breakRing 47 = .ok (.iconst 1, 1) := by decide +kernel
theorem dX0_breakRing_48 : decode cX0_breakRing 48 = .ok (.iadd, 1) := by decide +kernel
theorem dX0_breakRing_49 : decode cX0_breakRing 49 = .ok (.putfield 32, 3) := by decide +kernel
theorem dX0_breakRing_52 : decode cX0_breakRing 52 = .ok (.goto 42, 3) := by decide +kernel
theorem dX0_breakRing_55 : decode cX0_breakRing 55 = .ok (.aload_n 0, 1) := by decide +kernel
theorem dX0_breakRing_56 : decode cX0_breakRing 56 = .ok (.aload_n 3, 1) := by decide +kernel
theorem dX0_breakRing_57 : decode cX0_breakRing 57 = .ok (.aload 4, 2) := by decide +kernel
theorem dX0_breakRing_59 : decode cX0_breakRing 59 = .ok (.invokevirtual 143, 3) := by decide +kernel
theorem dX0_breakRing_62 : decode cX0_breakRing 62 = .ok (.ifCond .eq 22, 3) := by decide +kernel
theorem dX0_breakRing_65 : decode cX0_breakRing 65 = .ok (.aload_n 3, 1) := by decide +kernel
theorem dX0_breakRing_66 : decode cX0_breakRing 66 = .ok (.aload 4, 2) := by decide +kernel
theorem dX0_breakRing_68 : decode cX0_breakRing 68 = .ok (.invokevirtual 147, 3) := by decide +kernel
theorem dX0_breakRing_71 : decode cX0_breakRing 71 = .ok (.aload_n 0, 1) := by decide +kernel
theorem dX0_breakRing_72 : decode cX0_breakRing 72 = .ok (.dup, 1) := by decide +kernel
theorem dX0_breakRing_73 : decode cX0_breakRing 73 = .ok (.getfield 32, 3) := by decide +kernel
theorem dX0_breakRing_76 : decode cX0_breakRing 76 = .ok (.iconst 1, 1) := by decide +kernel
theorem dX0_breakRing_77 : decode cX0_breakRing 77 = .ok (.iadd, 1) := by decide +kernel
theorem dX0_breakRing_78 : decode cX0_breakRing 78 = .ok (.putfield 32, 3) := by decide +kernel
theorem dX0_breakRing_81 : decode cX0_breakRing 81 = .ok (.goto 13, 3) := by decide +kernel
theorem dX0_breakRing_84 : decode cX0_breakRing 84 = .ok (.aload_n 0, 1) := by decide +kernel
theorem dX0_breakRing_85 : decode cX0_breakRing 85 = .ok (.dup, 1) := by decide +kernel
theorem dX0_breakRing_86 : decode cX0_breakRing 86 = .ok (.getfield 35, 3) := by decide +kernel
theorem dX0_breakRing_89 : decode cX0_breakRing 89 = .ok (.iconst 1, 1) := by decide +kernel
theorem dX0_breakRing_90 : decode cX0_breakRing 90 = .ok (.iadd, 1) := by decide +kernel
theorem dX0_breakRing_91 : decode cX0_breakRing 91 = .ok (.putfield 35, 3) := by decide +kernel
theorem dX0_breakRing_94 : decode cX0_breakRing 94 = .ok (.return_, 1) := by decide +kernel
theorem dX0_canYieldTo_0 : decode cX0_canYieldTo 0 = .ok (.aload_n 0, 1) := by decide +kernel
theorem dX0_canYieldTo_1 : decode cX0_canYieldTo 1 = .ok (.getfield 12, 3) := by decide +kernel
theorem dX0_canYieldTo_4 : decode cX0_canYieldTo 4 = .ok (.aload_n 1, 1) := by decide +kernel
theorem dX0_canYieldTo_5 : decode cX0_canYieldTo 5 = .ok (.getfield 54, 3) := by decide +kernel
theorem dX0_canYieldTo_8 : decode cX0_canYieldTo 8 = .ok (.aload_n 1, 1) := by decide +kernel
theorem dX0_canYieldTo_9 : decode cX0_canYieldTo 9 = .ok (.invokevirtual 94, 3) := by decide +kernel
theorem dX0_canYieldTo_12 : decode cX0_canYieldTo 12 = .ok (.aload_n 2, 1) := by decide +kernel
theorem dX0_canYieldTo_13 : decode cX0_canYieldTo 13 = .ok (.getfield 54, 3) := by decide +kernel
theorem dX0_canYieldTo_16 : decode cX0_canYieldTo 16 = .ok (.invokevirtual 104, 3) := by decide +kernel
theorem dX0_canYieldTo_19 : decode cX0_canYieldTo 19 = .ok (.iconst (-1), 1) := by decide +kernel
theorem dX0_canYieldTo_20 : decode cX0_canYieldTo 20 = .ok (.if_icmp .eq 7, 3) := by decide +kernel
theorem dX0_canYieldTo_23 : decode cX0_canYieldTo 23 = .ok (.iconst 1, 1) := by decide +kernel
theorem dX0_canYieldTo_24 : decode cX0_canYieldTo 24 = .ok (.goto 4, 3) := by decide +kernel
theorem dX0_canYieldTo_27 : decode cX0_canYieldTo 27 = .ok (.iconst 0, 1) := by decide +kernel
theorem dX0_canYieldTo_28 : decode cX0_canYieldTo 28 = .ok (.ireturn, 1) := by decide +kernel
theorem dX0_stepAside_0 : decode cX0_stepAside 0 = .ok (.iconst 0, 1) := by decide +kernel
theorem dX0_stepAside_1 : decode cX0_stepAside 1 = .ok (.istore_n 1, 1) := by decide +kernel
theorem dX0_stepAside_2 : decode cX0_stepAside 2 = .ok (.iload_n 1, 1) := by decide +kernel
theorem dX0_stepAside_3 : decode cX0_stepAside 3 = .ok (.aload_n 0, 1) := by decide +kernel
theorem dX0_stepAside_4 : decode cX0_stepAside 4 = .ok (.getfield 21, 3) := by decide +kernel
theorem dX0_stepAside_7 : decode cX0_stepAside 7 = .ok (.invokevirtual 44, 3) := by decide +kernel
theorem dX0_stepAside_10 : decode cX0_stepAside 10 = .ok (.if_icmp .ge 59, 3) := by decide +kernel
theorem dX0_stepAside_13 : decode cX0_stepAside 13 = .ok (.aload_n 0, 1) := by decide +kernel
theorem dX0_stepAside_14 : decode cX0_stepAside 14 = .ok (.getfield 21, 3) := by decide +kernel
theorem dX0_stepAside_17 : decode cX0_stepAside 17 = .ok (.iload_n 1, 1) := by decide +kernel
theorem dX0_stepAside_18 : decode cX0_stepAside 18 = .ok (.invokevirtual 48, 3) := by decide +kernel
theorem dX0_stepAside_21 : decode cX0_stepAside 21 = .ok (.checkcast 52, 3) := by decide +kernel
theorem dX0_stepAside_24 : decode cX0_stepAside 24 = .ok (.astore_n 2, 1) := by decide +kernel
theorem dX0_stepAside_25 : decode cX0_stepAside 25 = .ok (.aload_n 2, 1) := by decide +kernel
theorem dX0_stepAside_26 : decode cX0_stepAside 26 = .ok (.getfield 65, 3) := by decide +kernel
theorem dX0_stepAside_29 : decode cX0_stepAside 29 = .ok (.ifCond .ne 34, 3) := by decide +kernel
theorem dX0_stepAside_32 : decode cX0_stepAside 32 = .ok (.aload_n 0, 1) := by decide +kernel
theorem dX0_stepAside_33 : decode cX0_stepAside 33 = .ok (.aload_n 2, 1) := by decide +kernel
theorem dX0_stepAside_34 : decode cX0_stepAside 34 = .ok (.getfield 54, 3) := by decide +kernel
theorem dX0_stepAside_37 : decode cX0_stepAside 37 = .ok (.invokevirtual 150, 3) := by decide +kernel
theorem dX0_stepAside_40 : decode cX0_stepAside 40 = .ok (.ifCond .eq 23, 3) := by decide +kernel
theorem dX0_stepAside_43 : decode cX0_stepAside 43 = .ok (.aload_n 0, 1) := by decide +kernel
theorem dX0_stepAside_44 : decode cX0_stepAside 44 = .ok (.aload_n 2, 1) := by decide +kernel
theorem dX0_stepAside_45 : decode cX0_stepAside 45 = .ok (.getfield 54, 3) := by decide +kernel
theorem dX0_stepAside_48 : decode cX0_stepAside 48 = .ok (.invokevirtual 154, 3) := by decide +kernel
theorem dX0_stepAside_51 : decode cX0_stepAside 51 = .ok (.istore_n 3, 1) := by decide +kernel
theorem dX0_stepAside_52 : decode cX0_stepAside 52 = .ok (.iload_n 3, 1) := by decide +kernel
theorem dX0_stepAside_53 : decode cX0_stepAside 53 = .ok (.iconst (-1), 1) := by decide +kernel
theorem dX0_stepAside_54 : decode cX0_stepAside 54 = .ok (.if_icmp .eq 9, 3) := by decide +kernel
theorem dX0_stepAside_57 : decode cX0_stepAside 57 = .ok (.aload_n 0, 1) := by decide +kernel
theorem dX0_stepAside_58 : decode cX0_stepAside 58 = .ok (.aload_n 2, 1) := by decide +kernel
theorem dX0_stepAside_59 : decode cX0_stepAside 59 = .ok (.iload_n 3, 1) := by decide +kernel
theorem dX0_stepAside_60 : decode cX0_stepAside 60 = .ok (.invokevirtual 135, 3) := by decide +kernel
theorem dX0_stepAside_63 : decode cX0_stepAside 63 = .ok (.iinc 1 1, 3) := by decide +kernel
theorem dX0_stepAside_66 : decode cX0_stepAside 66 = .ok (.goto (-64), 3) := by decide +kernel
theorem dX0_stepAside_69 : decode cX0_stepAside 69 = .ok (.return_, 1) := by decide +kernel
theorem dX0_cellAside_0 : decode cX0_cellAside 0 = .ok (.iconst 0, 1) := by decide +kernel
theorem dX0_cellAside_1 : decode cX0_cellAside 1 = .ok (.istore_n 2, 1) := by decide +kernel
theorem dX0_cellAside_2 : decode cX0_cellAside 2 = .ok (.iload_n 2, 1) := by decide +kernel
theorem dX0_cellAside_3 : decode cX0_cellAside 3 = .ok (.iconst 4, 1) := by decide +kernel
theorem dX0_cellAside_4 : decode cX0_cellAside 4 = .ok (.if_icmp .ge 44, 3) := by decide +kernel
theorem dX0_cellAside_7 : decode cX0_cellAside 7 = .ok (.iload_n 1, 1) := by decide +kernel
theorem dX0_cellAside_8 : decode cX0_cellAside 8 = .ok (.iload_n 2, 1) := by decide +kernel
theorem dX0_cellAside_9 : decode cX0_cellAside 9 = .ok (.invokestatic 158, 3) := by decide +kernel
theorem dX0_cellAside_12 : decode cX0_cellAside 12 = .ok (.istore_n 3, 1) := by decide +kernel
theorem dX0_cellAside_13 : decode cX0_cellAside 13 = .ok (.aload_n 0, 1) := by decide +kernel
theorem dX0_cellAside_14 : decode cX0_cellAside 14 = .ok (.getfield 12, 3) := by decide +kernel
theorem dX0_cellAside_17 : decode cX0_cellAside 17 = .ok (.iload_n 3, 1) := by decide +kernel
theorem dX0_cellAside_18 : decode cX0_cellAside 18 = .ok (.invokevirtual 162, 3) := by decide +kernel
theorem dX0_cellAside_21 : decode cX0_cellAside 21 = .ok (.ifCond .eq 21, 3) := by decide +kernel
theorem dX0_cellAside_24 : decode cX0_cellAside 24 = .ok (.aload_n 0, 1) := by decide +kernel
theorem dX0_cellAside_25 : decode cX0_cellAside 25 = .ok (.iload_n 3, 1) := by decide +kernel
theorem dX0_cellAside_26 : decode cX0_cellAside 26 = .ok (.invokevirtual 128, 3) := by decide +kernel
theorem dX0_cellAside_29 : decode cX0_cellAside 29 = .ok (.ifnonnull 13, 3) := by decide +kernel
theorem dX0_cellAside_32 : decode cX0_cellAside 32 = .ok (.aload_n 0, 1) := by decide +kernel
theorem dX0_cellAside_33 : decode cX0_cellAside 33 = .ok (.iload_n 3, 1) := by decide +kernel
theorem dX0_cellAside_34 : decode cX0_cellAside 34 = .ok (.invokevirtual 150, 3) := by decide +kernel
theorem dX0_cellAside_37 : decode cX0_cellAside 37 = .ok (.ifCond .ne 5, 3) := by decide +kernel
theorem dX0_cellAside_40 : decode cX0_cellAside 40 = .ok (.iload_n 3, 1) := by decide +kernel
theorem dX0_cellAside_41 : decode cX0_cellAside 41 = .ok (.ireturn, 1) := by decide +kernel
theorem dX0_cellAside_42 : decode cX0_cellAside 42 = .ok (.iinc 2 1, 3) := by decide +kernel
theorem dX0_cellAside_45 : decode cX0_cellAside 45 = .ok (.goto (-43), 3) := by decide +kernel
theorem dX0_cellAside_48 : decode cX0_cellAside 48 = .ok (.iconst (-1), 1) := by decide +kernel
theorem dX0_cellAside_49 : decode cX0_cellAside 49 = .ok (.ireturn, 1) := by decide +kernel
theorem dX0_isAskedFor_0 : decode cX0_isAskedFor 0 = .ok (.iconst 0, 1) := by decide +kernel
theorem dX0_isAskedFor_1 : decode cX0_isAskedFor 1 = .ok (.istore_n 2, 1) := by decide +kernel
theorem dX0_isAskedFor_2 : decode cX0_isAskedFor 2 = .ok (.iload_n 2, 1) := by decide +kernel
theorem dX0_isAskedFor_3 : decode cX0_isAskedFor 3 = .ok (.aload_n 0, 1) := by decide +kernel
theorem dX0_isAskedFor_4 : decode cX0_isAskedFor 4 = .ok (.getfield 21, 3) := by decide +kernel
theorem dX0_isAskedFor_7 : decode cX0_isAskedFor 7 = .ok (.invokevirtual 44, 3) := by decide +kernel
theorem dX0_isAskedFor_10 : decode cX0_isAskedFor 10 = .ok (.if_icmp .ge 29, 3) := by decide +kernel
theorem dX0_isAskedFor_13 : decode cX0_isAskedFor 13 = .ok (.aload_n 0, 1) := by decide +kernel
theorem dX0_isAskedFor_14 : decode cX0_isAskedFor 14 = .ok (.getfield 21, 3) := by decide +kernel
theorem dX0_isAskedFor_17 : decode cX0_isAskedFor 17 = .ok (.iload_n 2, 1) := by decide +kernel
theorem dX0_isAskedFor_18 : decode cX0_isAskedFor 18 = .ok (.invokevirtual 48, 3) := by decide +kernel
theorem dX0_isAskedFor_21 : decode cX0_isAskedFor 21 = .ok (.checkcast 52, 3) := by decide +kernel
theorem dX0_isAskedFor_24 : decode cX0_isAskedFor 24 = .ok (.getfield 125, 3) := by decide +kernel
theorem dX0_isAskedFor_27 : decode cX0_isAskedFor 27 = .ok (.iload_n 1, 1) := by decide +kernel
theorem dX0_isAskedFor_28 : decode cX0_isAskedFor 28 = .ok (.if_icmp .ne 5, 3) := by decide +kernel
theorem dX0_isAskedFor_31 : decode cX0_isAskedFor 31 = .ok (.iconst 1, 1) := by decide +kernel
theorem dX0_isAskedFor_32 : decode cX0_isAskedFor 32 = .ok (.ireturn, 1) := by decide +kernel
theorem dX0_isAskedFor_33 : decode cX0_isAskedFor 33 = .ok (.iinc 2 1, 3) := by decide +kernel
theorem dX0_isAskedFor_36 : decode cX0_isAskedFor 36 = .ok (.goto (-34), 3) := by decide +kernel
theorem dX0_isAskedFor_39 : decode cX0_isAskedFor 39 = .ok (.iconst 0, 1) := by decide +kernel
theorem dX0_isAskedFor_40 : decode cX0_isAskedFor 40 = .ok (.ireturn, 1) := by decide +kernel
theorem dX0_moveOn_0 : decode cX0_moveOn 0 = .ok (.aload_n 0, 1) := by decide +kernel
theorem dX0_moveOn_1 : decode cX0_moveOn 1 = .ok (.invokevirtual 165, 3) := by decide +kernel
theorem dX0_moveOn_4 : decode cX0_moveOn 4 = .ok (.iconst 0, 1) := by decide +kernel
theorem dX0_moveOn_5 : decode cX0_moveOn 5 = .ok (.istore_n 1, 1) := by decide +kernel
theorem dX0_moveOn_6 : decode cX0_moveOn 6 = .ok (.iload_n 1, 1) := by decide +kernel
theorem dX0_moveOn_7 : decode cX0_moveOn 7 = .ok (.aload_n 0, 1) := by decide +kernel
theorem dX0_moveOn_8 : decode cX0_moveOn 8 = .ok (.getfield 41, 3) := by decide +kernel
theorem dX0_moveOn_11 : decode cX0_moveOn 11 = .ok (.invokevirtual 44, 3) := by decide +kernel
theorem dX0_moveOn_14 : decode cX0_moveOn 14 = .ok (.if_icmp .ge 41, 3) := by decide +kernel
theorem dX0_moveOn_17 : decode cX0_moveOn 17 = .ok (.aload_n 0, 1) := by decide +kernel
theorem dX0_moveOn_18 : decode cX0_moveOn 18 = .ok (.getfield 41, 3) := by decide +kernel
theorem dX0_moveOn_21 : decode cX0_moveOn 21 = .ok (.iload_n 1, 1) := by decide +kernel
theorem dX0_moveOn_22 : decode cX0_moveOn 22 = .ok (.invokevirtual 48, 3) := by decide +kernel
theorem dX0_moveOn_25 : decode cX0_moveOn 25 = .ok (.checkcast 52, 3) := by decide +kernel
theorem dX0_moveOn_28 : decode cX0_moveOn 28 = .ok (.astore_n 2, 1) := by decide +kernel
theorem dX0_moveOn_29 : decode cX0_moveOn 29 = .ok (.aload_n 0, 1) := by decide +kernel
theorem dX0_moveOn_30 : decode cX0_moveOn 30 = .ok (.aload_n 2, 1) := by decide +kernel
theorem dX0_moveOn_31 : decode cX0_moveOn 31 = .ok (.getfield 125, 3) := by decide +kernel
theorem dX0_moveOn_34 : decode cX0_moveOn 34 = .ok (.invokevirtual 128, 3) := by decide +kernel
theorem dX0_moveOn_37 : decode cX0_moveOn 37 = .ok (.ifnonnull 12, 3) := by decide +kernel
theorem dX0_moveOn_40 : decode cX0_moveOn 40 = .ok (.aload_n 0, 1) := by decide +kernel
theorem dX0_moveOn_41 : decode cX0_moveOn 41 = .ok (.aload_n 2, 1) := by decide +kernel
theorem dX0_moveOn_42 : decode cX0_moveOn 42 = .ok (.aload_n 2, 1) := by decide +kernel
theorem dX0_moveOn_43 : decode cX0_moveOn 43 = .ok (.getfield 125, 3) := by decide +kernel
theorem dX0_moveOn_46 : decode cX0_moveOn 46 = .ok (.invokevirtual 135, 3) := by decide +kernel
theorem dX0_moveOn_49 : decode cX0_moveOn 49 = .ok (.iinc 1 1, 3) := by decide +kernel
theorem dX0_moveOn_52 : decode cX0_moveOn 52 = .ok (.goto (-46), 3) := by decide +kernel
theorem dX0_moveOn_55 : decode cX0_moveOn 55 = .ok (.return_, 1) := by decide +kernel
theorem dX0_lineUpAskers_0 : decode cX0_lineUpAskers 0 = .ok (.aload_n 0, 1) := by decide +kernel
theorem dX0_lineUpAskers_1 : decode cX0_lineUpAskers 1 = .ok (.getfield 41, 3) := by decide +kernel
theorem dX0_lineUpAskers_4 : decode cX0_lineUpAskers 4 = .ok (.invokevirtual 118, 3) := by decide +kernel
theorem dX0_lineUpAskers_7 : decode cX0_lineUpAskers 7 = .ok (.iconst 0, 1) := by decide +kernel
theorem dX0_lineUpAskers_8 : decode cX0_lineUpAskers 8 = .ok (.istore_n 1, 1) := by decide +kernel
theorem dX0_lineUpAskers_9 : decode cX0_lineUpAskers 9 = .ok (.iload_n 1, 1) := by decide +kernel
theorem dX0_lineUpAskers_10 : decode cX0_lineUpAskers 10 = .ok (.aload_n 0, 1) := by decide +kernel
theorem dX0_lineUpAskers_11 : decode cX0_lineUpAskers 11 = .ok (.getfield 21, 3) := by decide +kernel
theorem dX0_lineUpAskers_14 : decode cX0_lineUpAskers 14 = .ok (.invokevirtual 44, 3) := by decide +kernel
theorem dX0_lineUpAskers_17 : decode cX0_lineUpAskers 17 = .ok (.if_icmp .ge 42, 3) := by decide +kernel
theorem dX0_lineUpAskers_20 : decode cX0_lineUpAskers 20 = .ok (.aload_n 0, 1) := by decide +kernel
theorem dX0_lineUpAskers_21 : decode cX0_lineUpAskers 21 = .ok (.getfield 21, 3) := by decide +kernel
theorem dX0_lineUpAskers_24 : decode cX0_lineUpAskers 24 = .ok (.iload_n 1, 1) := by decide +kernel
theorem dX0_lineUpAskers_25 : decode cX0_lineUpAskers 25 = .ok (.invokevirtual 48, 3) := by decide +kernel
theorem dX0_lineUpAskers_28 : decode cX0_lineUpAskers 28 = .ok (.checkcast 52, 3) := by decide +kernel
theorem dX0_lineUpAskers_31 : decode cX0_lineUpAskers 31 = .ok (.astore_n 2, 1) := by decide +kernel
theorem dX0_lineUpAskers_32 : decode cX0_lineUpAskers 32 = .ok (.aload_n 2, 1) := by decide +kernel
theorem dX0_lineUpAskers_33 : decode cX0_lineUpAskers 33 = .ok (.getfield 125, 3) := by decide +kernel
theorem dX0_lineUpAskers_36 : decode cX0_lineUpAskers 36 = .ok (.iconst (-1), 1) := by decide +kernel
theorem dX0_lineUpAskers_37 : decode cX0_lineUpAskers 37 = .ok (.if_icmp .eq 16, 3) := by decide +kernel
theorem dX0_lineUpAskers_40 : decode cX0_lineUpAskers 40 = .ok (.aload_n 0, 1) := by decide +kernel
theorem dX0_lineUpAskers_41 : decode cX0_lineUpAskers 41 = .ok (.getfield 41, 3) := by decide +kernel
theorem dX0_lineUpAskers_44 : decode cX0_lineUpAskers 44 = .ok (.aload_n 0, 1) := by decide +kernel
theorem dX0_lineUpAskers_45 : decode cX0_lineUpAskers 45 = .ok (.aload_n 2, 1) := by decide +kernel
theorem dX0_lineUpAskers_46 : decode cX0_lineUpAskers 46 = .ok (.invokevirtual 168, 3) := by decide +kernel
theorem dX0_lineUpAskers_49 : decode cX0_lineUpAskers 49 = .ok (.aload_n 2, 1) := by decide +kernel
theorem dX0_lineUpAskers_50 : decode cX0_lineUpAskers 50 = .ok (.invokevirtual 171, 3) := by decide +kernel
theorem dX0_lineUpAskers_53 : decode cX0_lineUpAskers 53 = .ok (.iinc 1 1, 3) := by decide +kernel
theorem dX0_lineUpAskers_56 : decode cX0_lineUpAskers 56 = .ok (.goto (-47), 3) := by decide +kernel
theorem dX0_lineUpAskers_59 : decode cX0_lineUpAskers 59 = .ok (.return_, 1) := by decide +kernel
theorem dX0_placeInQueue_0 : decode cX0_placeInQueue 0 = .ok (.iconst 0, 1) := by decide +kernel
theorem dX0_placeInQueue_1 : decode cX0_placeInQueue 1 = .ok (.istore_n 2, 1) := by decide +kernel
theorem dX0_placeInQueue_2 : decode cX0_placeInQueue 2 = .ok (.iload_n 2, 1) := by decide +kernel
theorem dX0_placeInQueue_3 : decode cX0_placeInQueue 3 = .ok (.aload_n 0, 1) := by decide +kernel
theorem dX0_placeInQueue_4 : decode cX0_placeInQueue 4 = .ok (.getfield 41, 3) := by decide +kernel
theorem dX0_placeInQueue_7 : decode cX0_placeInQueue 7 = .ok (.invokevirtual 44, 3) := by decide +kernel
theorem dX0_placeInQueue_10 : decode cX0_placeInQueue 10 = .ok (.if_icmp .ge 27, 3) := by decide +kernel
theorem dX0_placeInQueue_13 : decode cX0_placeInQueue 13 = .ok (.aload_n 0, 1) := by decide +kernel
theorem dX0_placeInQueue_14 : decode cX0_placeInQueue 14 = .ok (.getfield 41, 3) := by decide +kernel
theorem dX0_placeInQueue_17 : decode cX0_placeInQueue 17 = .ok (.iload_n 2, 1) := by decide +kernel
theorem dX0_placeInQueue_18 : decode cX0_placeInQueue 18 = .ok (.invokevirtual 48, 3) := by decide +kernel
theorem dX0_placeInQueue_21 : decode cX0_placeInQueue 21 = .ok (.checkcast 52, 3) := by decide +kernel
theorem dX0_placeInQueue_24 : decode cX0_placeInQueue 24 = .ok (.aload_n 1, 1) := by decide +kernel
theorem dX0_placeInQueue_25 : decode cX0_placeInQueue 25 = .ok (.invokevirtual 174, 3) := by decide +kernel
theorem dX0_placeInQueue_28 : decode cX0_placeInQueue 28 = .ok (.ifCond .eq 9, 3) := by decide +kernel
theorem dX0_placeInQueue_31 : decode cX0_placeInQueue 31 = .ok (.iinc 2 1, 3) := by decide +kernel
theorem dX0_placeInQueue_34 : decode cX0_placeInQueue 34 = .ok (.goto (-32), 3) := by decide +kernel
theorem dX0_placeInQueue_37 : decode cX0_placeInQueue 37 = .ok (.iload_n 2, 1) := by decide +kernel
theorem dX0_placeInQueue_38 : decode cX0_placeInQueue 38 = .ok (.ireturn, 1) := by decide +kernel
theorem dX0_arrive_0 : decode cX0_arrive 0 = .ok (.iconst 0, 1) := by decide +kernel
theorem dX0_arrive_1 : decode cX0_arrive 1 = .ok (.istore_n 1, 1) := by decide +kernel
theorem dX0_arrive_2 : decode cX0_arrive 2 = .ok (.iload_n 1, 1) := by decide +kernel
theorem dX0_arrive_3 : decode cX0_arrive 3 = .ok (.aload_n 0, 1) := by decide +kernel
theorem dX0_arrive_4 : decode cX0_arrive 4 = .ok (.getfield 21, 3) := by decide +kernel
theorem dX0_arrive_7 : decode cX0_arrive 7 = .ok (.invokevirtual 44, 3) := by decide +kernel
theorem dX0_arrive_10 : decode cX0_arrive 10 = .ok (.if_icmp .ge 36, 3) := by decide +kernel
theorem dX0_arrive_13 : decode cX0_arrive 13 = .ok (.aload_n 0, 1) := by decide +kernel
theorem dX0_arrive_14 : decode cX0_arrive 14 = .ok (.getfield 21, 3) := by decide +kernel
theorem dX0_arrive_17 : decode cX0_arrive 17 = .ok (.iload_n 1, 1) := by decide +kernel
theorem dX0_arrive_18 : decode cX0_arrive 18 = .ok (.invokevirtual 48, 3) := by decide +kernel
theorem dX0_arrive_21 : decode cX0_arrive 21 = .ok (.checkcast 52, 3) := by decide +kernel
theorem dX0_arrive_24 : decode cX0_arrive 24 = .ok (.astore_n 2, 1) := by decide +kernel
theorem dX0_arrive_25 : decode cX0_arrive 25 = .ok (.aload_n 2, 1) := by decide +kernel
theorem dX0_arrive_26 : decode cX0_arrive 26 = .ok (.getfield 54, 3) := by decide +kernel
theorem dX0_arrive_29 : decode cX0_arrive 29 = .ok (.aload_n 2, 1) := by decide +kernel
theorem dX0_arrive_30 : decode cX0_arrive 30 = .ok (.invokevirtual 94, 3) := by decide +kernel
theorem dX0_arrive_33 : decode cX0_arrive 33 = .ok (.if_icmp .ne 7, 3) := by decide +kernel
theorem dX0_arrive_36 : decode cX0_arrive 36 = .ok (.aload_n 2, 1) := by decide +kernel
theorem dX0_arrive_37 : decode cX0_arrive 37 = .ok (.invokevirtual 177, 3) := by decide +kernel
theorem dX0_arrive_40 : decode cX0_arrive 40 = .ok (.iinc 1 1, 3) := by decide +kernel
theorem dX0_arrive_43 : decode cX0_arrive 43 = .ok (.goto (-41), 3) := by decide +kernel
theorem dX0_arrive_46 : decode cX0_arrive 46 = .ok (.return_, 1) := by decide +kernel
theorem dX1_init_0 : decode cX1_init 0 = .ok (.aload_n 0, 1) := by decide +kernel
theorem dX1_init_1 : decode cX1_init 1 = .ok (.invokespecial 5, 3) := by decide +kernel
theorem dX1_init_4 : decode cX1_init 4 = .ok (.aload_n 0, 1) := by decide +kernel
theorem dX1_init_5 : decode cX1_init 5 = .ok (.lconst 0, 1) := by decide +kernel
theorem dX1_init_6 : decode cX1_init 6 = .ok (.putfield 11, 3) := by decide +kernel
theorem dX1_init_9 : decode cX1_init 9 = .ok (.aload_n 0, 1) := by decide +kernel
theorem dX1_init_10 : decode cX1_init 10 = .ok (.lconst 0, 1) := by decide +kernel
theorem dX1_init_11 : decode cX1_init 11 = .ok (.putfield 15, 3) := by decide +kernel
theorem dX1_init_14 : decode cX1_init 14 = .ok (.aload_n 0, 1) := by decide +kernel
theorem dX1_init_15 : decode cX1_init 15 = .ok (.lconst 0, 1) := by decide +kernel
theorem dX1_init_16 : decode cX1_init 16 = .ok (.putfield 18, 3) := by decide +kernel
theorem dX1_init_19 : decode cX1_init 19 = .ok (.return_, 1) := by decide +kernel
theorem dX1_setOf_0 : decode cX1_setOf 0 = .ok (.iload_n 0, 1) := by decide +kernel
theorem dX1_setOf_1 : decode cX1_setOf 1 = .ok (.ifCond .lt 15, 3) := by decide +kernel
theorem dX1_setOf_4 : decode cX1_setOf 4 = .ok (.iload_n 0, 1) := by decide +kernel
theorem dX1_setOf_5 : decode cX1_setOf 5 = .ok (.bipush 64, 2) := by decide +kernel
theorem dX1_setOf_7 : decode cX1_setOf 7 = .ok (.if_icmp .ge 9, 3) := by decide +kernel
theorem dX1_setOf_10 : decode cX1_setOf 10 = .ok (.lconst 1, 1) := by decide +kernel
theorem dX1_setOf_11 : decode cX1_setOf 11 = .ok (.iload_n 0, 1) := by decide +kernel
theorem dX1_setOf_12 : decode cX1_setOf 12 = .ok (.lshl, 1) := by decide +kernel
theorem dX1_setOf_13 : decode cX1_setOf 13 = .ok (.goto 4, 3) := by decide +kernel
theorem dX1_setOf_16 : decode cX1_setOf 16 = .ok (.lconst 0, 1) := by decide +kernel
theorem dX1_setOf_17 : decode cX1_setOf 17 = .ok (.lreturn, 1) := by decide +kernel
theorem dX1_isWall_0 : decode cX1_isWall 0 = .ok (.aload_n 0, 1) := by decide +kernel
theorem dX1_isWall_1 : decode cX1_isWall 1 = .ok (.getfield 11, 3) := by decide +kernel
theorem dX1_isWall_4 : decode cX1_isWall 4 = .ok (.iload_n 1, 1) := by decide +kernel
theorem dX1_isWall_5 : decode cX1_isWall 5 = .ok (.invokestatic 21, 3) := by decide +kernel
theorem dX1_isWall_8 : decode cX1_isWall 8 = .ok (.land, 1) := by decide +kernel
theorem dX1_isWall_9 : decode cX1_isWall 9 = .ok (.lconst 0, 1) := by decide +kernel
theorem dX1_isWall_10 : decode cX1_isWall 10 = .ok (.lcmp, 1) := by decide +kernel
theorem dX1_isWall_11 : decode cX1_isWall 11 = .ok (.ifCond .eq 7, 3) := by decide +kernel
theorem dX1_isWall_14 : decode cX1_isWall 14 = .ok (.iconst 1, 1) := by decide +kernel
theorem dX1_isWall_15 : decode cX1_isWall 15 = .ok (.goto 4, 3) := by decide +kernel
theorem dX1_isWall_18 : decode cX1_isWall 18 = .ok (.iconst 0, 1) := by decide +kernel
theorem dX1_isWall_19 : decode cX1_isWall 19 = .ok (.ireturn, 1) := by decide +kernel
theorem dX1_buildWall_0 : decode cX1_buildWall 0 = .ok (.aload_n 0, 1) := by decide +kernel
theorem dX1_buildWall_1 : decode cX1_buildWall 1 = .ok (.dup, 1) := by decide +kernel
theorem dX1_buildWall_2 : decode cX1_buildWall 2 = .ok (.getfield 11, 3) := by decide +kernel
theorem dX1_buildWall_5 : decode cX1_buildWall 5 = .ok (.iload_n 1, 1) := by decide +kernel
theorem dX1_buildWall_6 : decode cX1_buildWall 6 = .ok (.invokestatic 21, 3) := by decide +kernel
theorem dX1_buildWall_9 : decode cX1_buildWall 9 = .ok (.lor, 1) := by decide +kernel
theorem dX1_buildWall_10 : decode cX1_buildWall 10 = .ok (.putfield 11, 3) := by decide +kernel
theorem dX1_buildWall_13 : decode cX1_buildWall 13 = .ok (.return_, 1) := by decide +kernel
theorem dX1_isClosed_0 : decode cX1_isClosed 0 = .ok (.aload_n 0, 1) := by decide +kernel
theorem dX1_isClosed_1 : decode cX1_isClosed 1 = .ok (.getfield 15, 3) := by decide +kernel
theorem dX1_isClosed_4 : decode cX1_isClosed 4 = .ok (.iload_n 1, 1) := by decide +kernel
theorem dX1_isClosed_5 : decode cX1_isClosed 5 = .ok (.invokestatic 21, 3) := by decide +kernel
theorem dX1_isClosed_8 : decode cX1_isClosed 8 = .ok (.land, 1) := by decide +kernel
theorem dX1_isClosed_9 : decode cX1_isClosed 9 = .ok (.lconst 0, 1) := by decide +kernel
theorem dX1_isClosed_10 : decode cX1_isClosed 10 = .ok (.lcmp, 1) := by decide +kernel
theorem dX1_isClosed_11 : decode cX1_isClosed 11 = .ok (.ifCond .eq 7, 3) := by decide +kernel
theorem dX1_isClosed_14 : decode cX1_isClosed 14 = .ok (.iconst 1, 1) := by decide +kernel
theorem dX1_isClosed_15 : decode cX1_isClosed 15 = .ok (.goto 4, 3) := by decide +kernel
theorem dX1_isClosed_18 : decode cX1_isClosed 18 = .ok (.iconst 0, 1) := by decide +kernel
theorem dX1_isClosed_19 : decode cX1_isClosed 19 = .ok (.ireturn, 1) := by decide +kernel
theorem dX1_markClosed_0 : decode cX1_markClosed 0 = .ok (.aload_n 0, 1) := by decide +kernel
theorem dX1_markClosed_1 : decode cX1_markClosed 1 = .ok (.iload_n 2, 1) := by decide +kernel
theorem dX1_markClosed_2 : decode cX1_markClosed 2 = .ok (.ifCond .eq 15, 3) := by decide +kernel
theorem dX1_markClosed_5 : decode cX1_markClosed 5 = .ok (.aload_n 0, 1) := by decide +kernel
theorem dX1_markClosed_6 : decode cX1_markClosed 6 = .ok (.getfield 15, 3) := by decide +kernel
theorem dX1_markClosed_9 : decode cX1_markClosed 9 = .ok (.iload_n 1, 1) := by decide +kernel
theorem dX1_markClosed_10 : decode cX1_markClosed 10 = .ok (.invokestatic 21, 3) := by decide +kernel
theorem dX1_markClosed_13 : decode cX1_markClosed 13 = .ok (.lor, 1) := by decide +kernel
theorem dX1_markClosed_14 : decode cX1_markClosed 14 = .ok (.goto 16, 3) := by decide +kernel
theorem dX1_markClosed_17 : decode cX1_markClosed 17 = .ok (.aload_n 0, 1) := by decide +kernel
theorem dX1_markClosed_18 : decode cX1_markClosed 18 = .ok (.getfield 15, 3) := by decide +kernel
theorem dX1_markClosed_21 : decode cX1_markClosed 21 = .ok (.iload_n 1, 1) := by decide +kernel
theorem dX1_markClosed_22 : decode cX1_markClosed 22 = .ok (.invokestatic 21, 3) := by decide +kernel
theorem dX1_markClosed_25 : decode cX1_markClosed 25 = .ok (.ldc2_w 25, 3) := by decide +kernel
theorem dX1_markClosed_28 : decode cX1_markClosed 28 = .ok (.lxor, 1) := by decide +kernel
theorem dX1_markClosed_29 : decode cX1_markClosed 29 = .ok (.land, 1) := by decide +kernel
theorem dX1_markClosed_30 : decode cX1_markClosed 30 = .ok (.putfield 15, 3) := by decide +kernel
theorem dX1_markClosed_33 : decode cX1_markClosed 33 = .ok (.return_, 1) := by decide +kernel
theorem dX1_markDead_0 : decode cX1_markDead 0 = .ok (.aload_n 0, 1) := by decide +kernel
theorem dX1_markDead_1 : decode cX1_markDead 1 = .ok (.iload_n 2, 1) := by decide +kernel
theorem dX1_markDead_2 : decode cX1_markDead 2 = .ok (.ifCond .eq 15, 3) := by decide +kernel
theorem dX1_markDead_5 : decode cX1_markDead 5 = .ok (.aload_n 0, 1) := by decide +kernel
theorem dX1_markDead_6 : decode cX1_markDead 6 = .ok (.getfield 18, 3) := by decide +kernel
theorem dX1_markDead_9 : decode cX1_markDead 9 = .ok (.iload_n 1, 1) := by decide +kernel
theorem dX1_markDead_10 : decode cX1_markDead 10 = .ok (.invokestatic 21, 3) := by decide +kernel
theorem dX1_markDead_13 : decode cX1_markDead 13 = .ok (.lor, 1) := by decide +kernel
theorem dX1_markDead_14 : decode cX1_markDead 14 = .ok (.goto 16, 3) := by decide +kernel
theorem dX1_markDead_17 : decode cX1_markDead 17 = .ok (.aload_n 0, 1) := by decide +kernel
theorem dX1_markDead_18 : decode cX1_markDead 18 = .ok (.getfield 18, 3) := by decide +kernel
theorem dX1_markDead_21 : decode cX1_markDead 21 = .ok (.iload_n 1, 1) := by decide +kernel
theorem dX1_markDead_22 : decode cX1_markDead 22 = .ok (.invokestatic 21, 3) := by decide +kernel
theorem dX1_markDead_25 : decode cX1_markDead 25 = .ok (.ldc2_w 25, 3) := by decide +kernel
theorem dX1_markDead_28 : decode cX1_markDead 28 = .ok (.lxor, 1) := by decide +kernel
theorem dX1_markDead_29 : decode cX1_markDead 29 = .ok (.land, 1) := by decide +kernel
theorem dX1_markDead_30 : decode cX1_markDead 30 = .ok (.putfield 18, 3) := by decide +kernel
theorem dX1_markDead_33 : decode cX1_markDead 33 = .ok (.return_, 1) := by decide +kernel
theorem dX1_openCells_0 : decode cX1_openCells 0 = .ok (.aload_n 0, 1) := by decide +kernel
theorem dX1_openCells_1 : decode cX1_openCells 1 = .ok (.getfield 11, 3) := by decide +kernel
theorem dX1_openCells_4 : decode cX1_openCells 4 = .ok (.aload_n 0, 1) := by decide +kernel
theorem dX1_openCells_5 : decode cX1_openCells 5 = .ok (.getfield 15, 3) := by decide +kernel
theorem dX1_openCells_8 : decode cX1_openCells 8 = .ok (.lor, 1) := by decide +kernel
theorem dX1_openCells_9 : decode cX1_openCells 9 = .ok (.aload_n 0, 1) := by decide +kernel
theorem dX1_openCells_10 : decode cX1_openCells 10 = .ok (.getfield 18, 3) := by decide +kernel
theorem dX1_openCells_13 : decode cX1_openCells 13 = .ok (.lor, 1) := by decide +kernel
theorem dX1_openCells_14 : decode cX1_openCells 14 = .ok (.ldc2_w 25, 3) := by decide +kernel
theorem dX1_openCells_17 : decode cX1_openCells 17 = .ok (.lxor, 1) := by decide +kernel
theorem dX1_openCells_18 : decode cX1_openCells 18 = .ok (.lreturn, 1) := by decide +kernel
theorem dX1_isOpen_0 : decode cX1_isOpen 0 = .ok (.aload_n 0, 1) := by decide +kernel
theorem dX1_isOpen_1 : decode cX1_isOpen 1 = .ok (.invokevirtual 27, 3) := by decide +kernel
theorem dX1_isOpen_4 : decode cX1_isOpen 4 = .ok (.iload_n 1, 1) := by decide +kernel
theorem dX1_isOpen_5 : decode cX1_isOpen 5 = .ok (.invokestatic 21, 3) := by decide +kernel
theorem dX1_isOpen_8 : decode cX1_isOpen 8 = .ok (.land, 1) := by decide +kernel
theorem dX1_isOpen_9 : decode cX1_isOpen 9 = .ok (.lconst 0, 1) := by decide +kernel
theorem dX1_isOpen_10 : decode cX1_isOpen 10 = .ok (.lcmp, 1) := by decide +kernel
theorem dX1_isOpen_11 : decode cX1_isOpen 11 = .ok (.ifCond .eq 7, 3) := by decide +kernel
theorem dX1_isOpen_14 : decode cX1_isOpen 14 = .ok (.iconst 1, 1) := by decide +kernel
theorem dX1_isOpen_15 : decode cX1_isOpen 15 = .ok (.goto 4, 3) := by decide +kernel
theorem dX1_isOpen_18 : decode cX1_isOpen 18 = .ok (.iconst 0, 1) := by decide +kernel
theorem dX1_isOpen_19 : decode cX1_isOpen 19 = .ok (.ireturn, 1) := by decide +kernel
theorem dX1_neighbour_0 : decode cX1_neighbour 0 = .ok (.iload_n 0, 1) := by decide +kernel
theorem dX1_neighbour_1 : decode cX1_neighbour 1 = .ok (.bipush 8, 2) := by decide +kernel
theorem dX1_neighbour_3 : decode cX1_neighbour 3 = .ok (.irem, 1) := by decide +kernel
theorem dX1_neighbour_4 : decode cX1_neighbour 4 = .ok (.istore_n 2, 1) := by decide +kernel
theorem dX1_neighbour_5 : decode cX1_neighbour 5 = .ok (.iload_n 1, 1) := by decide +kernel
theorem dX1_neighbour_6 : decode cX1_neighbour 6 = .ok (.tableswitch 67 0 2 #[26, 41, 53], 26) := by decide +kernel
theorem dX1_neighbour_32 : decode cX1_neighbour 32 = .ok (.iload_n 0, 1) := by decide +kernel
theorem dX1_neighbour_33 : decode cX1_neighbour 33 = .ok (.bipush 8, 2) := by decide +kernel
theorem dX1_neighbour_35 : decode cX1_neighbour 35 = .ok (.if_icmp .lt 10, 3) := by decide +kernel
theorem dX1_neighbour_38 : decode cX1_neighbour 38 = .ok (.iload_n 0, 1) := by decide +kernel
theorem dX1_neighbour_39 : decode cX1_neighbour 39 = .ok (.bipush 8, 2) := by decide +kernel
theorem dX1_neighbour_41 : decode cX1_neighbour 41 = .ok (.isub, 1) := by decide +kernel
theorem dX1_neighbour_42 : decode cX1_neighbour 42 = .ok (.goto 4, 3) := by decide +kernel
theorem dX1_neighbour_45 : decode cX1_neighbour 45 = .ok (.iconst (-1), 1) := by decide +kernel
theorem dX1_neighbour_46 : decode cX1_neighbour 46 = .ok (.ireturn, 1) := by decide +kernel
theorem dX1_neighbour_47 : decode cX1_neighbour 47 = .ok (.iload_n 2, 1) := by decide +kernel
theorem dX1_neighbour_48 : decode cX1_neighbour 48 = .ok (.ifCond .le 9, 3) := by decide +kernel
theorem dX1_neighbour_51 : decode cX1_neighbour 51 = .ok (.iload_n 0, 1) := by decide +kernel
theorem dX1_neighbour_52 : decode cX1_neighbour 52 = .ok (.iconst 1, 1) := by decide +kernel
theorem dX1_neighbour_53 : decode cX1_neighbour 53 = .ok (.isub, 1) := by decide +kernel
theorem dX1_neighbour_54 : decode cX1_neighbour 54 = .ok (.goto 4, 3) := by decide +kernel
theorem dX1_neighbour_57 : decode cX1_neighbour 57 = .ok (.iconst (-1), 1) := by decide +kernel
theorem dX1_neighbour_58 : decode cX1_neighbour 58 = .ok (.ireturn, 1) := by decide +kernel
theorem dX1_neighbour_59 : decode cX1_neighbour 59 = .ok (.iload_n 2, 1) := by decide +kernel
theorem dX1_neighbour_60 : decode cX1_neighbour 60 = .ok (.bipush 7, 2) := by decide +kernel
theorem dX1_neighbour_62 : decode cX1_neighbour 62 = .ok (.if_icmp .ge 9, 3) := by decide +kernel
theorem dX1_neighbour_65 : decode cX1_neighbour 65 = .ok (.iload_n 0, 1) := by decide +kernel
theorem dX1_neighbour_66 : decode cX1_neighbour 66 = .ok (.iconst 1, 1) := by decide +kernel
theorem dX1_neighbour_67 : decode cX1_neighbour 67 = .ok (.iadd, 1) := by decide +kernel
theorem dX1_neighbour_68 : decode cX1_neighbour 68 = .ok (.goto 4, 3) := by decide +kernel
theorem dX1_neighbour_71 : decode cX1_neighbour 71 = .ok (.iconst (-1), 1) := by decide +kernel
theorem dX1_neighbour_72 : decode cX1_neighbour 72 = .ok (.ireturn, 1) := by decide +kernel
theorem dX1_neighbour_73 : decode cX1_neighbour 73 = .ok (.iload_n 0, 1) := by decide +kernel
theorem dX1_neighbour_74 : decode cX1_neighbour 74 = .ok (.bipush 56, 2) := by decide +kernel
theorem dX1_neighbour_76 : decode cX1_neighbour 76 = .ok (.if_icmp .ge 10, 3) := by decide +kernel
theorem dX1_neighbour_79 : decode cX1_neighbour 79 = .ok (.iload_n 0, 1) := by decide +kernel
theorem dX1_neighbour_80 : decode cX1_neighbour 80 = .ok (.bipush 8, 2) := by decide +kernel
theorem dX1_neighbour_82 : decode cX1_neighbour 82 = .ok (.iadd, 1) := by decide +kernel
theorem dX1_neighbour_83 : decode cX1_neighbour 83 = .ok (.goto 4, 3) := by decide +kernel
theorem dX1_neighbour_86 : decode cX1_neighbour 86 = .ok (.iconst (-1), 1) := by decide +kernel
theorem dX1_neighbour_87 : decode cX1_neighbour 87 = .ok (.ireturn, 1) := by decide +kernel
theorem dX1_neighboursOf_0 : decode cX1_neighboursOf 0 = .ok (.lload_n 0, 1) := by decide +kernel
theorem dX1_neighboursOf_1 : decode cX1_neighboursOf 1 = .ok (.bipush 8, 2) := by decide +kernel
theorem dX1_neighboursOf_3 : decode cX1_neighboursOf 3 = .ok (.lshl, 1) := by decide +kernel
theorem dX1_neighboursOf_4 : decode cX1_neighboursOf 4 = .ok (.lload_n 0, 1) := by decide +kernel
theorem dX1_neighboursOf_5 : decode cX1_neighboursOf 5 = .ok (.bipush 8, 2) := by decide +kernel
theorem dX1_neighboursOf_7 : decode cX1_neighboursOf 7 = .ok (.lushr, 1) := by decide +kernel
theorem dX1_neighboursOf_8 : decode cX1_neighboursOf 8 = .ok (.lor, 1) := by decide +kernel
theorem dX1_neighboursOf_9 : decode cX1_neighboursOf 9 = .ok (.lload_n 0, 1) := by decide +kernel
theorem dX1_neighboursOf_10 : decode cX1_neighboursOf 10 = .ok (.ldc2_w 31, 3) := by decide +kernel
theorem dX1_neighboursOf_13 : decode cX1_neighboursOf 13 = .ok (.land, 1) := by decide +kernel
theorem dX1_neighboursOf_14 : decode cX1_neighboursOf 14 = .ok (.iconst 1, 1) := by decide +kernel
theorem dX1_neighboursOf_15 : decode cX1_neighboursOf 15 = .ok (.lshl, 1) := by decide +kernel
theorem dX1_neighboursOf_16 : decode cX1_neighboursOf 16 = .ok (.lor, 1) := by decide +kernel
theorem dX1_neighboursOf_17 : decode cX1_neighboursOf 17 = .ok (.lload_n 0, 1) := by decide +kernel
theorem dX1_neighboursOf_18 : decode cX1_neighboursOf 18 = .ok (.ldc2_w 33, 3) := by decide +kernel
theorem dX1_neighboursOf_21 : decode cX1_neighboursOf 21 = .ok (.land, 1) := by decide +kernel
theorem dX1_neighboursOf_22 : decode cX1_neighboursOf 22 = .ok (.iconst 1, 1) := by decide +kernel
theorem dX1_neighboursOf_23 : decode cX1_neighboursOf 23 = .ok (.lushr, 1) := by decide +kernel
theorem dX1_neighboursOf_24 : decode cX1_neighboursOf 24 = .ok (.lor, 1) := by decide +kernel
theorem dX1_neighboursOf_25 : decode cX1_neighboursOf 25 = .ok (.lreturn, 1) := by decide +kernel
theorem dX1_stepsBetween_0 : decode cX1_stepsBetween 0 = .ok (.iload_n 1, 1) := by decide +kernel
theorem dX1_stepsBetween_1 : decode cX1_stepsBetween 1 = .ok (.iload_n 2, 1) := by decide +kernel
theorem dX1_stepsBetween_2 : decode cX1_stepsBetween 2 = .ok (.if_icmp .ne 5, 3) := by decide +kernel
theorem dX1_stepsBetween_5 : decode cX1_stepsBetween 5 = .ok (.iconst 0, 1) := by decide +kernel
theorem dX1_stepsBetween_6 : decode cX1_stepsBetween 6 = .ok (.ireturn, 1) := by decide +kernel
theorem dX1_stepsBetween_7 : decode cX1_stepsBetween 7 = .ok (.aload_n 0, 1) := by decide +kernel
theorem dX1_stepsBetween_8 : decode cX1_stepsBetween 8 = .ok (.invokevirtual 27, 3) := by decide +kernel
theorem dX1_stepsBetween_11 : decode cX1_stepsBetween 11 = .ok (.iload_n 3, 1) := by decide +kernel
theorem dX1_stepsBetween_12 : decode cX1_stepsBetween 12 = .ok (.invokestatic 21, 3) := by decide +kernel
theorem dX1_stepsBetween_15 : decode cX1_stepsBetween 15 = .ok (.ldc2_w 25, 3) := by decide +kernel
theorem dX1_stepsBetween_18 : decode cX1_stepsBetween 18 = .ok (.lxor, 1) := by decide +kernel
theorem dX1_stepsBetween_19 : decode cX1_stepsBetween 19 = .ok (.land, 1) := by decide +kernel
theorem dX1_stepsBetween_20 : decode cX1_stepsBetween 20 = .ok (.lstore 4, 2) := by decide +kernel
theorem dX1_stepsBetween_22 : decode cX1_stepsBetween 22 = .ok (.lload 4, 2) := by decide +kernel
theorem dX1_stepsBetween_24 : decode cX1_stepsBetween 24 = .ok (.iload_n 2, 1) := by decide +kernel
theorem dX1_stepsBetween_25 : decode cX1_stepsBetween 25 = .ok (.invokestatic 21, 3) := by decide +kernel
theorem dX1_stepsBetween_28 : decode cX1_stepsBetween 28 = .ok (.land, 1) := by decide +kernel
theorem dX1_stepsBetween_29 : decode cX1_stepsBetween 29 = .ok (.lstore 6, 2) := by decide +kernel
theorem dX1_stepsBetween_31 : decode cX1_stepsBetween 31 = .ok (.iload_n 1, 1) := by decide +kernel
theorem dX1_stepsBetween_32 : decode cX1_stepsBetween 32 = .ok (.invokestatic 21, 3) := by decide +kernel
theorem dX1_stepsBetween_35 : decode cX1_stepsBetween 35 = .ok (.lstore 8, 2) := by decide +kernel
theorem dX1_stepsBetween_37 : decode cX1_stepsBetween 37 = .ok (.iconst 1, 1) := by decide +kernel
theorem dX1_stepsBetween_38 : decode cX1_stepsBetween 38 = .ok (.istore 10, 2) := by decide +kernel
theorem dX1_stepsBetween_40 : decode cX1_stepsBetween 40 = .ok (.iload 10, 2) := by decide +kernel
theorem dX1_stepsBetween_42 : decode cX1_stepsBetween 42 = .ok (.bipush 64, 2) := by decide +kernel
theorem dX1_stepsBetween_44 : decode cX1_stepsBetween 44 = .ok (.if_icmp .ge 56, 3) := by decide +kernel
theorem dX1_stepsBetween_47 : decode cX1_stepsBetween 47 = .ok (.lload 6, 2) := by decide +kernel
theorem dX1_stepsBetween_49 : decode cX1_stepsBetween 49 = .ok (.lconst 0, 1) := by decide +kernel
theorem dX1_stepsBetween_50 : decode cX1_stepsBetween 50 = .ok (.lcmp, 1) := by decide +kernel
theorem dX1_stepsBetween_51 : decode cX1_stepsBetween 51 = .ok (.ifCond .eq 49, 3) := by decide +kernel
theorem dX1_stepsBetween_54 : decode cX1_stepsBetween 54 = .ok (.lload 8, 2) := by decide +kernel
theorem dX1_stepsBetween_56 : decode cX1_stepsBetween 56 = .ok (.lload 8, 2) := by decide +kernel
theorem dX1_stepsBetween_58 : decode cX1_stepsBetween 58 = .ok (.invokestatic 35, 3) := by decide +kernel
theorem dX1_stepsBetween_61 : decode cX1_stepsBetween 61 = .ok (.lload 4, 2) := by decide +kernel
theorem dX1_stepsBetween_63 : decode cX1_stepsBetween 63 = .ok (.land, 1) := by decide +kernel
theorem dX1_stepsBetween_64 : decode cX1_stepsBetween 64 = .ok (.lor, 1) := by decide +kernel
theorem dX1_stepsBetween_65 : decode cX1_stepsBetween 65 = .ok (.lstore 11, 2) := by decide +kernel
theorem dX1_stepsBetween_67 : decode cX1_stepsBetween 67 = .ok (.lload 11, 2) := by decide +kernel
theorem dX1_stepsBetween_69 : decode cX1_stepsBetween 69 = .ok (.lload 6, 2) := by decide +kernel
theorem dX1_stepsBetween_71 : decode cX1_stepsBetween 71 = .ok (.land, 1) := by decide +kernel
theorem dX1_stepsBetween_72 : decode cX1_stepsBetween 72 = .ok (.lconst 0, 1) := by decide +kernel
theorem dX1_stepsBetween_73 : decode cX1_stepsBetween 73 = .ok (.lcmp, 1) := by decide +kernel
theorem dX1_stepsBetween_74 : decode cX1_stepsBetween 74 = .ok (.ifCond .eq 6, 3) := by decide +kernel
theorem dX1_stepsBetween_77 : decode cX1_stepsBetween 77 = .ok (.iload 10, 2) := by decide +kernel
theorem dX1_stepsBetween_79 : decode cX1_stepsBetween 79 = .ok (.ireturn, 1) := by decide +kernel
theorem dX1_stepsBetween_80 : decode cX1_stepsBetween 80 = .ok (.lload 11, 2) := by decide +kernel
theorem dX1_stepsBetween_82 : decode cX1_stepsBetween 82 = .ok (.lload 8, 2) := by decide +kernel
theorem dX1_stepsBetween_84 : decode cX1_stepsBetween 84 = .ok (.lcmp, 1) := by decide +kernel
theorem dX1_stepsBetween_85 : decode cX1_stepsBetween 85 = .ok (.ifCond .ne 5, 3) := by decide +kernel
theorem dX1_stepsBetween_88 : decode cX1_stepsBetween 88 = .ok (.iconst (-1), 1) := by decide +kernel
theorem dX1_stepsBetween_89 : decode cX1_stepsBetween 89 = .ok (.ireturn, 1) := by decide +kernel
theorem dX1_stepsBetween_90 : decode cX1_stepsBetween 90 = .ok (.lload 11, 2) := by decide +kernel
theorem dX1_stepsBetween_92 : decode cX1_stepsBetween 92 = .ok (.lstore 8, 2) := by decide +kernel
theorem dX1_stepsBetween_94 : decode cX1_stepsBetween 94 = .ok (.iinc 10 1, 3) := by decide +kernel
theorem dX1_stepsBetween_97 : decode cX1_stepsBetween 97 = .ok (.goto (-57), 3) := by decide +kernel
theorem dX1_stepsBetween_100 : decode cX1_stepsBetween 100 = .ok (.iconst (-1), 1) := by decide +kernel
theorem dX1_stepsBetween_101 : decode cX1_stepsBetween 101 = .ok (.ireturn, 1) := by decide +kernel
theorem dX1_nextCell_0 : decode cX1_nextCell 0 = .ok (.iconst (-1), 1) := by decide +kernel
theorem dX1_nextCell_1 : decode cX1_nextCell 1 = .ok (.istore 4, 2) := by decide +kernel
theorem dX1_nextCell_3 : decode cX1_nextCell 3 = .ok (.bipush 64, 2) := by decide +kernel
theorem dX1_nextCell_5 : decode cX1_nextCell 5 = .ok (.istore 5, 2) := by decide +kernel
theorem dX1_nextCell_7 : decode cX1_nextCell 7 = .ok (.iconst 0, 1) := by decide +kernel
theorem dX1_nextCell_8 : decode cX1_nextCell 8 = .ok (.istore 6, 2) := by decide +kernel
theorem dX1_nextCell_10 : decode cX1_nextCell 10 = .ok (.iload 6, 2) := by decide +kernel
theorem dX1_nextCell_12 : decode cX1_nextCell 12 = .ok (.iconst 4, 1) := by decide +kernel
theorem dX1_nextCell_13 : decode cX1_nextCell 13 = .ok (.if_icmp .ge 63, 3) := by decide +kernel
theorem dX1_nextCell_16 : decode cX1_nextCell 16 = .ok (.iload_n 1, 1) := by decide +kernel
theorem dX1_nextCell_17 : decode cX1_nextCell 17 = .ok (.iload 6, 2) := by decide +kernel
theorem dX1_nextCell_19 : decode cX1_nextCell 19 = .ok (.invokestatic 39, 3) := by decide +kernel
theorem dX1_nextCell_22 : decode cX1_nextCell 22 = .ok (.istore 7, 2) := by decide +kernel
theorem dX1_nextCell_24 : decode cX1_nextCell 24 = .ok (.aload_n 0, 1) := by decide +kernel
theorem dX1_nextCell_25 : decode cX1_nextCell 25 = .ok (.iload 7, 2) := by decide +kernel
theorem dX1_nextCell_27 : decode cX1_nextCell 27 = .ok (.invokevirtual 43, 3) := by decide +kernel
theorem dX1_nextCell_30 : decode cX1_nextCell 30 = .ok (.ifCond .eq 40, 3) := by decide +kernel
theorem dX1_nextCell_33 : decode cX1_nextCell 33 = .ok (.iload 7, 2) := by decide +kernel
theorem dX1_nextCell_35 : decode cX1_nextCell 35 = .ok (.iload_n 3, 1) := by decide +kernel
theorem dX1_nextCell_36 : decode cX1_nextCell 36 = .ok (.if_icmp .eq 34, 3) := by decide +kernel
theorem dX1_nextCell_39 : decode cX1_nextCell 39 = .ok (.aload_n 0, 1) := by decide +kernel
theorem dX1_nextCell_40 : decode cX1_nextCell 40 = .ok (.iload 7, 2) := by decide +kernel
theorem dX1_nextCell_42 : decode cX1_nextCell 42 = .ok (.iload_n 2, 1) := by decide +kernel
theorem dX1_nextCell_43 : decode cX1_nextCell 43 = .ok (.iload_n 3, 1) := by decide +kernel
theorem dX1_nextCell_44 : decode cX1_nextCell 44 = .ok (.invokevirtual 47, 3) := by decide +kernel
theorem dX1_nextCell_47 : decode cX1_nextCell 47 = .ok (.istore 8, 2) := by decide +kernel
theorem dX1_nextCell_49 : decode cX1_nextCell 49 = .ok (.iload 8, 2) := by decide +kernel
theorem dX1_nextCell_51 : decode cX1_nextCell 51 = .ok (.iconst (-1), 1) := by decide +kernel
theorem dX1_nextCell_52 : decode cX1_nextCell 52 = .ok (.if_icmp .eq 18, 3) := by decide +kernel
theorem dX1_nextCell_55 : decode cX1_nextCell 55 = .ok (.iload 8, 2) := by decide +kernel
theorem dX1_nextCell_57 : decode cX1_nextCell 57 = .ok (.iload 5, 2) := by decide +kernel
theorem dX1_nextCell_59 : decode cX1_nextCell 59 = .ok (.if_icmp .ge 11, 3) := by decide +kernel
theorem dX1_nextCell_62 : decode cX1_nextCell 62 = .ok (.iload 7, 2) := by decide +kernel
theorem dX1_nextCell_64 : decode cX1_nextCell 64 = .ok (.istore 4, 2) := by decide +kernel
theorem dX1_nextCell_66 : decode cX1_nextCell 66 = .ok (.iload 8, 2) := by decide +kernel
theorem dX1_nextCell_68 : decode cX1_nextCell 68 = .ok (.istore 5, 2) := by decide +kernel
theorem dX1_nextCell_70 : decode cX1_nextCell 70 = .ok (.iinc 6 1, 3) := by decide +kernel
theorem dX1_nextCell_73 : decode cX1_nextCell 73 = .ok (.goto (-63), 3) := by decide +kernel
theorem dX1_nextCell_76 : decode cX1_nextCell 76 = .ok (.iload 4, 2) := by decide +kernel
theorem dX1_nextCell_78 : decode cX1_nextCell 78 = .ok (.ireturn, 1) := by decide +kernel
theorem dX2_init_0 : decode cX2_init 0 = .ok (.aload_n 0, 1) := by decide +kernel
theorem dX2_init_1 : decode cX2_init 1 = .ok (.invokespecial 1, 3) := by decide +kernel
theorem dX2_init_4 : decode cX2_init 4 = .ok (.aload_n 0, 1) := by decide +kernel
theorem dX2_init_5 : decode cX2_init 5 = .ok (.aconst_null, 1) := by decide +kernel
theorem dX2_init_6 : decode cX2_init 6 = .ok (.putfield 7, 3) := by decide +kernel
theorem dX2_init_9 : decode cX2_init 9 = .ok (.aload_n 0, 1) := by decide +kernel
theorem dX2_init_10 : decode cX2_init 10 = .ok (.aload_n 1, 1) := by decide +kernel
theorem dX2_init_11 : decode cX2_init 11 = .ok (.putfield 13, 3) := by decide +kernel
theorem dX2_init_14 : decode cX2_init 14 = .ok (.aload_n 0, 1) := by decide +kernel
theorem dX2_init_15 : decode cX2_init 15 = .ok (.iload_n 2, 1) := by decide +kernel
theorem dX2_init_16 : decode cX2_init 16 = .ok (.putfield 17, 3) := by decide +kernel
theorem dX2_init_19 : decode cX2_init 19 = .ok (.aload_n 0, 1) := by decide +kernel
theorem dX2_init_20 : decode cX2_init 20 = .ok (.iload_n 3, 1) := by decide +kernel
theorem dX2_init_21 : decode cX2_init 21 = .ok (.putfield 21, 3) := by decide +kernel
theorem dX2_init_24 : decode cX2_init 24 = .ok (.return_, 1) := by decide +kernel
theorem dX3_init_0 : decode cX3_init 0 = .ok (.aload_n 0, 1) := by decide +kernel
theorem dX3_init_1 : decode cX3_init 1 = .ok (.invokespecial 1, 3) := by decide +kernel
theorem dX3_init_4 : decode cX3_init 4 = .ok (.aload_n 0, 1) := by decide +kernel
theorem dX3_init_5 : decode cX3_init 5 = .ok (.new 7, 3) := by decide +kernel
theorem dX3_init_8 : decode cX3_init 8 = .ok (.dup, 1) := by decide +kernel
theorem dX3_init_9 : decode cX3_init 9 = .ok (.invokespecial 9, 3) := by decide +kernel
theorem dX3_init_12 : decode cX3_init 12 = .ok (.putfield 10, 3) := by decide +kernel
theorem dX3_init_15 : decode cX3_init 15 = .ok (.aload_n 0, 1) := by decide +kernel
theorem dX3_init_16 : decode cX3_init 16 = .ok (.iload_n 1, 1) := by decide +kernel
theorem dX3_init_17 : decode cX3_init 17 = .ok (.putfield 16, 3) := by decide +kernel
theorem dX3_init_20 : decode cX3_init 20 = .ok (.return_, 1) := by decide +kernel
theorem dX4_init_0 : decode cX4_init 0 = .ok (.aload_n 0, 1) := by decide +kernel
theorem dX4_init_1 : decode cX4_init 1 = .ok (.invokespecial 1, 3) := by decide +kernel
theorem dX4_init_4 : decode cX4_init 4 = .ok (.aload_n 0, 1) := by decide +kernel
theorem dX4_init_5 : decode cX4_init 5 = .ok (.aload_n 1, 1) := by decide +kernel
theorem dX4_init_6 : decode cX4_init 6 = .ok (.putfield 7, 3) := by decide +kernel
theorem dX4_init_9 : decode cX4_init 9 = .ok (.aload_n 0, 1) := by decide +kernel
theorem dX4_init_10 : decode cX4_init 10 = .ok (.aload_n 2, 1) := by decide +kernel
theorem dX4_init_11 : decode cX4_init 11 = .ok (.putfield 13, 3) := by decide +kernel
theorem dX4_init_14 : decode cX4_init 14 = .ok (.aload_n 0, 1) := by decide +kernel
theorem dX4_init_15 : decode cX4_init 15 = .ok (.iload_n 3, 1) := by decide +kernel
theorem dX4_init_16 : decode cX4_init 16 = .ok (.putfield 17, 3) := by decide +kernel
theorem dX4_init_19 : decode cX4_init 19 = .ok (.return_, 1) := by decide +kernel
theorem dX5_init_0 : decode cX5_init 0 = .ok (.aload_n 0, 1) := by decide +kernel
theorem dX5_init_1 : decode cX5_init 1 = .ok (.invokespecial 3, 3) := by decide +kernel
theorem dX5_init_4 : decode cX5_init 4 = .ok (.aload_n 0, 1) := by decide +kernel
theorem dX5_init_5 : decode cX5_init 5 = .ok (.iconst 0, 1) := by decide +kernel
theorem dX5_init_6 : decode cX5_init 6 = .ok (.putfield 9, 3) := by decide +kernel
theorem dX5_init_9 : decode cX5_init 9 = .ok (.aload_n 0, 1) := by decide +kernel
theorem dX5_init_10 : decode cX5_init 10 = .ok (.aconst_null, 1) := by decide +kernel
theorem dX5_init_11 : decode cX5_init 11 = .ok (.putfield 15, 3) := by decide +kernel
theorem dX5_init_14 : decode cX5_init 14 = .ok (.aload_n 0, 1) := by decide +kernel
theorem dX5_init_15 : decode cX5_init 15 = .ok (.aconst_null, 1) := by decide +kernel
theorem dX5_init_16 : decode cX5_init 16 = .ok (.putfield 19, 3) := by decide +kernel
theorem dX5_init_19 : decode cX5_init 19 = .ok (.aload_n 0, 1) := by decide +kernel
theorem dX5_init_20 : decode cX5_init 20 = .ok (.iconst (-1), 1) := by decide +kernel
theorem dX5_init_21 : decode cX5_init 21 = .ok (.putfield 23, 3) := by decide +kernel
theorem dX5_init_24 : decode cX5_init 24 = .ok (.aload_n 0, 1) := by decide +kernel
theorem dX5_init_25 : decode cX5_init 25 = .ok (.iconst 0, 1) := by decide +kernel
theorem dX5_init_26 : decode cX5_init 26 = .ok (.putfield 26, 3) := by decide +kernel
theorem dX5_init_29 : decode cX5_init 29 = .ok (.aload_n 0, 1) := by decide +kernel
theorem dX5_init_30 : decode cX5_init 30 = .ok (.iconst (-1), 1) := by decide +kernel
theorem dX5_init_31 : decode cX5_init 31 = .ok (.putfield 29, 3) := by decide +kernel
theorem dX5_init_34 : decode cX5_init 34 = .ok (.aload_n 0, 1) := by decide +kernel
theorem dX5_init_35 : decode cX5_init 35 = .ok (.iload_n 1, 1) := by decide +kernel
theorem dX5_init_36 : decode cX5_init 36 = .ok (.putfield 32, 3) := by decide +kernel
theorem dX5_init_39 : decode cX5_init 39 = .ok (.aload_n 0, 1) := by decide +kernel
theorem dX5_init_40 : decode cX5_init 40 = .ok (.iload_n 2, 1) := by decide +kernel
theorem dX5_init_41 : decode cX5_init 41 = .ok (.putfield 35, 3) := by decide +kernel
theorem dX5_init_44 : decode cX5_init 44 = .ok (.aload_n 0, 1) := by decide +kernel
theorem dX5_init_45 : decode cX5_init 45 = .ok (.iload_n 3, 1) := by decide +kernel
theorem dX5_init_46 : decode cX5_init 46 = .ok (.putfield 38, 3) := by decide +kernel
theorem dX5_init_49 : decode cX5_init 49 = .ok (.return_, 1) := by decide +kernel
theorem dX5_isAbove_0 : decode cX5_isAbove 0 = .ok (.aload_n 0, 1) := by decide +kernel
theorem dX5_isAbove_1 : decode cX5_isAbove 1 = .ok (.getfield 38, 3) := by decide +kernel
theorem dX5_isAbove_4 : decode cX5_isAbove 4 = .ok (.aload_n 1, 1) := by decide +kernel
theorem dX5_isAbove_5 : decode cX5_isAbove 5 = .ok (.getfield 38, 3) := by decide +kernel
theorem dX5_isAbove_8 : decode cX5_isAbove 8 = .ok (.if_icmp .gt 25, 3) := by decide +kernel
theorem dX5_isAbove_11 : decode cX5_isAbove 11 = .ok (.aload_n 0, 1) := by decide +kernel
theorem dX5_isAbove_12 : decode cX5_isAbove 12 = .ok (.getfield 38, 3) := by decide +kernel
theorem dX5_isAbove_15 : decode cX5_isAbove 15 = .ok (.aload_n 1, 1) := by decide +kernel
theorem dX5_isAbove_16 : decode cX5_isAbove 16 = .ok (.getfield 38, 3) := by decide +kernel
theorem dX5_isAbove_19 : decode cX5_isAbove 19 = .ok (.if_icmp .ne 18, 3) := by decide +kernel
theorem dX5_isAbove_22 : decode cX5_isAbove 22 = .ok (.aload_n 0, 1) := by decide +kernel
theorem dX5_isAbove_23 : decode cX5_isAbove 23 = .ok (.getfield 32, 3) := by decide +kernel
theorem dX5_isAbove_26 : decode cX5_isAbove 26 = .ok (.aload_n 1, 1) := by decide +kernel
theorem dX5_isAbove_27 : decode cX5_isAbove 27 = .ok (.getfield 32, 3) := by decide +kernel
theorem dX5_isAbove_30 : decode cX5_isAbove 30 = .ok (.if_icmp .ge 7, 3) := by decide +kernel
theorem dX5_isAbove_33 : decode cX5_isAbove 33 = .ok (.iconst 1, 1) := by decide +kernel
theorem dX5_isAbove_34 : decode cX5_isAbove 34 = .ok (.goto 4, 3) := by decide +kernel
theorem dX5_isAbove_37 : decode cX5_isAbove 37 = .ok (.iconst 0, 1) := by decide +kernel
theorem dX5_isAbove_38 : decode cX5_isAbove 38 = .ok (.ireturn, 1) := by decide +kernel
theorem dX5_goesBefore_0 : decode cX5_goesBefore 0 = .ok (.aload_n 0, 1) := by decide +kernel
theorem dX5_goesBefore_1 : decode cX5_goesBefore 1 = .ok (.getfield 26, 3) := by decide +kernel
theorem dX5_goesBefore_4 : decode cX5_goesBefore 4 = .ok (.aload_n 1, 1) := by decide +kernel
theorem dX5_goesBefore_5 : decode cX5_goesBefore 5 = .ok (.getfield 26, 3) := by decide +kernel
theorem dX5_goesBefore_8 : decode cX5_goesBefore 8 = .ok (.if_icmp .lt 22, 3) := by decide +kernel
theorem dX5_goesBefore_11 : decode cX5_goesBefore 11 = .ok (.aload_n 0, 1) := by decide +kernel
theorem dX5_goesBefore_12 : decode cX5_goesBefore 12 = .ok (.getfield 26, 3) := by decide +kernel
theorem dX5_goesBefore_15 : decode cX5_goesBefore 15 = .ok (.aload_n 1, 1) := by decide +kernel
theorem dX5_goesBefore_16 : decode cX5_goesBefore 16 = .ok (.getfield 26, 3) := by decide +kernel
theorem dX5_goesBefore_19 : decode cX5_goesBefore 19 = .ok (.if_icmp .ne 15, 3) := by decide +kernel
theorem dX5_goesBefore_22 : decode cX5_goesBefore 22 = .ok (.aload_n 0, 1) := by decide +kernel
theorem dX5_goesBefore_23 : decode cX5_goesBefore 23 = .ok (.aload_n 1, 1) := by decide +kernel
theorem dX5_goesBefore_24 : decode cX5_goesBefore 24 = .ok (.invokevirtual 41, 3) := by decide +kernel
theorem dX5_goesBefore_27 : decode cX5_goesBefore 27 = .ok (.ifCond .eq 7, 3) := by decide +kernel
theorem dX5_goesBefore_30 : decode cX5_goesBefore 30 = .ok (.iconst 1, 1) := by decide +kernel
theorem dX5_goesBefore_31 : decode cX5_goesBefore 31 = .ok (.goto 4, 3) := by decide +kernel
theorem dX5_goesBefore_34 : decode cX5_goesBefore 34 = .ok (.iconst 0, 1) := by decide +kernel
theorem dX5_goesBefore_35 : decode cX5_goesBefore 35 = .ok (.ireturn, 1) := by decide +kernel
theorem dX5_isOnItsWay_0 : decode cX5_isOnItsWay 0 = .ok (.aload_n 0, 1) := by decide +kernel
theorem dX5_isOnItsWay_1 : decode cX5_isOnItsWay 1 = .ok (.getfield 9, 3) := by decide +kernel
theorem dX5_isOnItsWay_4 : decode cX5_isOnItsWay 4 = .ok (.iconst 1, 1) := by decide +kernel
theorem dX5_isOnItsWay_5 : decode cX5_isOnItsWay 5 = .ok (.if_icmp .eq 19, 3) := by decide +kernel
theorem dX5_isOnItsWay_8 : decode cX5_isOnItsWay 8 = .ok (.aload_n 0, 1) := by decide +kernel
theorem dX5_isOnItsWay_9 : decode cX5_isOnItsWay 9 = .ok (.getfield 9, 3) := by decide +kernel
theorem dX5_isOnItsWay_12 : decode cX5_isOnItsWay 12 = .ok (.iconst 2, 1) := by decide +kernel
theorem dX5_isOnItsWay_13 : decode cX5_isOnItsWay 13 = .ok (.if_icmp .eq 11, 3) := by decide +kernel
theorem dX5_isOnItsWay_16 : decode cX5_isOnItsWay 16 = .ok (.aload_n 0, 1) := by decide +kernel
theorem dX5_isOnItsWay_17 : decode cX5_isOnItsWay 17 = .ok (.getfield 9, 3) := by decide +kernel
theorem dX5_isOnItsWay_20 : decode cX5_isOnItsWay 20 = .ok (.iconst 4, 1) := by decide +kernel
theorem dX5_isOnItsWay_21 : decode cX5_isOnItsWay 21 = .ok (.if_icmp .ne 7, 3) := by decide +kernel
theorem dX5_isOnItsWay_24 : decode cX5_isOnItsWay 24 = .ok (.iconst 1, 1) := by decide +kernel
theorem dX5_isOnItsWay_25 : decode cX5_isOnItsWay 25 = .ok (.goto 4, 3) := by decide +kernel
theorem dX5_isOnItsWay_28 : decode cX5_isOnItsWay 28 = .ok (.iconst 0, 1) := by decide +kernel
theorem dX5_isOnItsWay_29 : decode cX5_isOnItsWay 29 = .ok (.ireturn, 1) := by decide +kernel
theorem dX5_goal_0 : decode cX5_goal 0 = .ok (.aload_n 0, 1) := by decide +kernel
theorem dX5_goal_1 : decode cX5_goal 1 = .ok (.getfield 9, 3) := by decide +kernel
theorem dX5_goal_4 : decode cX5_goal 4 = .ok (.iconst 1, 1) := by decide +kernel
theorem dX5_goal_5 : decode cX5_goal 5 = .ok (.if_icmp .eq 11, 3) := by decide +kernel
theorem dX5_goal_8 : decode cX5_goal 8 = .ok (.aload_n 0, 1) := by decide +kernel
theorem dX5_goal_9 : decode cX5_goal 9 = .ok (.getfield 9, 3) := by decide +kernel
theorem dX5_goal_12 : decode cX5_goal 12 = .ok (.iconst 4, 1) := by decide +kernel
theorem dX5_goal_13 : decode cX5_goal 13 = .ok (.if_icmp .ne 22, 3) := by decide +kernel
theorem dX5_goal_16 : decode cX5_goal 16 = .ok (.aload_n 0, 1) := by decide +kernel
theorem dX5_goal_17 : decode cX5_goal 17 = .ok (.getfield 15, 3) := by decide +kernel
theorem dX5_goal_20 : decode cX5_goal 20 = .ok (.ifnonnull 7, 3) := by decide +kernel
theorem dX5_goal_23 : decode cX5_goal 23 = .ok (.iconst (-1), 1) := by decide +kernel
theorem dX5_goal_24 : decode cX5_goal 24 = .ok (.goto 10, 3) := by decide +kernel
theorem dX5_goal_27 : decode cX5_goal 27 = .ok (.aload_n 0, 1) := by decide +kernel
theorem dX5_goal_28 : decode cX5_goal 28 = .ok (.getfield 15, 3) := by decide +kernel
theorem dX5_goal_31 : decode cX5_goal 31 = .ok (.getfield 45, 3) := by decide +kernel
theorem dX5_goal_34 : decode cX5_goal 34 = .ok (.ireturn, 1) := by decide +kernel
theorem dX5_goal_35 : decode cX5_goal 35 = .ok (.aload_n 0, 1) := by decide +kernel
theorem dX5_goal_36 : decode cX5_goal 36 = .ok (.getfield 19, 3) := by decide +kernel
theorem dX5_goal_39 : decode cX5_goal 39 = .ok (.ifnull 13, 3) := by decide +kernel
theorem dX5_goal_42 : decode cX5_goal 42 = .ok (.aload_n 0, 1) := by decide +kernel
theorem dX5_goal_43 : decode cX5_goal 43 = .ok (.getfield 19, 3) := by decide +kernel
theorem dX5_goal_46 : decode cX5_goal 46 = .ok (.getfield 50, 3) := by decide +kernel
theorem dX5_goal_49 : decode cX5_goal 49 = .ok (.ifnonnull 7, 3) := by decide +kernel
theorem dX5_goal_52 : decode cX5_goal 52 = .ok (.iconst (-1), 1) := by decide +kernel
theorem dX5_goal_53 : decode cX5_goal 53 = .ok (.goto 13, 3) := by decide +kernel
theorem dX5_goal_56 : decode cX5_goal 56 = .ok (.aload_n 0, 1) := by decide +kernel
theorem dX5_goal_57 : decode cX5_goal 57 = .ok (.getfield 19, 3) := by decide +kernel
theorem dX5_goal_60 : decode cX5_goal 60 = .ok (.getfield 50, 3) := by decide +kernel
theorem dX5_goal_63 : decode cX5_goal 63 = .ok (.getfield 56, 3) := by decide +kernel
theorem dX5_goal_66 : decode cX5_goal 66 = .ok (.ireturn, 1) := by decide +kernel
theorem dX5_become_0 : decode cX5_become 0 = .ok (.aload_n 0, 1) := by decide +kernel
theorem dX5_become_1 : decode cX5_become 1 = .ok (.iload_n 1, 1) := by decide +kernel
theorem dX5_become_2 : decode cX5_become 2 = .ok (.putfield 9, 3) := by decide +kernel
theorem dX5_become_5 : decode cX5_become 5 = .ok (.aload_n 0, 1) := by decide +kernel
theorem dX5_become_6 : decode cX5_become 6 = .ok (.invokevirtual 59, 3) := by decide +kernel
theorem dX5_become_9 : decode cX5_become 9 = .ok (.return_, 1) := by decide +kernel
theorem dX5_moveTo_0 : decode cX5_moveTo 0 = .ok (.aload_n 0, 1) := by decide +kernel
theorem dX5_moveTo_1 : decode cX5_moveTo 1 = .ok (.iload_n 1, 1) := by decide +kernel
theorem dX5_moveTo_2 : decode cX5_moveTo 2 = .ok (.putfield 35, 3) := by decide +kernel
theorem dX5_moveTo_5 : decode cX5_moveTo 5 = .ok (.aload_n 0, 1) := by decide +kernel
theorem dX5_moveTo_6 : decode cX5_moveTo 6 = .ok (.invokevirtual 59, 3) := by decide +kernel
theorem dX5_moveTo_9 : decode cX5_moveTo 9 = .ok (.return_, 1) := by decide +kernel
theorem dX5_forgetAsking_0 : decode cX5_forgetAsking 0 = .ok (.aload_n 0, 1) := by decide +kernel
theorem dX5_forgetAsking_1 : decode cX5_forgetAsking 1 = .ok (.iconst (-1), 1) := by decide +kernel
theorem dX5_forgetAsking_2 : decode cX5_forgetAsking 2 = .ok (.putfield 23, 3) := by decide +kernel
theorem dX5_forgetAsking_5 : decode cX5_forgetAsking 5 = .ok (.aload_n 0, 1) := by decide +kernel
theorem dX5_forgetAsking_6 : decode cX5_forgetAsking 6 = .ok (.iconst (-1), 1) := by decide +kernel
theorem dX5_forgetAsking_7 : decode cX5_forgetAsking 7 = .ok (.putfield 29, 3) := by decide +kernel
theorem dX5_forgetAsking_10 : decode cX5_forgetAsking 10 = .ok (.return_, 1) := by decide +kernel
theorem dX5_askFor_0 : decode cX5_askFor 0 = .ok (.iload_n 1, 1) := by decide +kernel
theorem dX5_askFor_1 : decode cX5_askFor 1 = .ok (.aload_n 0, 1) := by decide +kernel
theorem dX5_askFor_2 : decode cX5_askFor 2 = .ok (.getfield 23, 3) := by decide +kernel
theorem dX5_askFor_5 : decode cX5_askFor 5 = .ok (.if_icmp .eq 8, 3) := by decide +kernel
theorem dX5_askFor_8 : decode cX5_askFor 8 = .ok (.aload_n 0, 1) := by decide +kernel
theorem dX5_askFor_9 : decode cX5_askFor 9 = .ok (.iload_n 2, 1) := by decide +kernel
theorem dX5_askFor_10 : decode cX5_askFor 10 = .ok (.putfield 26, 3) := by decide +kernel
theorem dX5_askFor_13 : decode cX5_askFor 13 = .ok (.aload_n 0, 1) := by decide +kernel
theorem dX5_askFor_14 : decode cX5_askFor 14 = .ok (.iload_n 1, 1) := by decide +kernel
theorem dX5_askFor_15 : decode cX5_askFor 15 = .ok (.putfield 23, 3) := by decide +kernel
theorem dX5_askFor_18 : decode cX5_askFor 18 = .ok (.return_, 1) := by decide +kernel
theorem dX5_yieldTo_0 : decode cX5_yieldTo 0 = .ok (.aload_n 0, 1) := by decide +kernel
theorem dX5_yieldTo_1 : decode cX5_yieldTo 1 = .ok (.aload_n 1, 1) := by decide +kernel
theorem dX5_yieldTo_2 : decode cX5_yieldTo 2 = .ok (.getfield 35, 3) := by decide +kernel
theorem dX5_yieldTo_5 : decode cX5_yieldTo 5 = .ok (.putfield 29, 3) := by decide +kernel
theorem dX5_yieldTo_8 : decode cX5_yieldTo 8 = .ok (.aload_n 0, 1) := by decide +kernel
theorem dX5_yieldTo_9 : decode cX5_yieldTo 9 = .ok (.iconst (-1), 1) := by decide +kernel
theorem dX5_yieldTo_10 : decode cX5_yieldTo 10 = .ok (.putfield 23, 3) := by decide +kernel
theorem dX5_yieldTo_13 : decode cX5_yieldTo 13 = .ok (.return_, 1) := by decide +kernel
theorem dX5_fetch_0 : decode cX5_fetch 0 = .ok (.aload_n 0, 1) := by decide +kernel
theorem dX5_fetch_1 : decode cX5_fetch 1 = .ok (.aload_n 1, 1) := by decide +kernel
theorem dX5_fetch_2 : decode cX5_fetch 2 = .ok (.putfield 15, 3) := by decide +kernel
theorem dX5_fetch_5 : decode cX5_fetch 5 = .ok (.aload_n 0, 1) := by decide +kernel
theorem dX5_fetch_6 : decode cX5_fetch 6 = .ok (.aload_n 2, 1) := by decide +kernel
theorem dX5_fetch_7 : decode cX5_fetch 7 = .ok (.putfield 19, 3) := by decide +kernel
theorem dX5_fetch_10 : decode cX5_fetch 10 = .ok (.aload_n 0, 1) := by decide +kernel
theorem dX5_fetch_11 : decode cX5_fetch 11 = .ok (.iconst 1, 1) := by decide +kernel
theorem dX5_fetch_12 : decode cX5_fetch 12 = .ok (.invokevirtual 62, 3) := by decide +kernel
theorem dX5_fetch_15 : decode cX5_fetch 15 = .ok (.return_, 1) := by decide +kernel
theorem dX5_leaveLine_0 : decode cX5_leaveLine 0 = .ok (.aload_n 0, 1) := by decide +kernel
theorem dX5_leaveLine_1 : decode cX5_leaveLine 1 = .ok (.aconst_null, 1) := by decide +kernel
theorem dX5_leaveLine_2 : decode cX5_leaveLine 2 = .ok (.putfield 19, 3) := by decide +kernel
theorem dX5_leaveLine_5 : decode cX5_leaveLine 5 = .ok (.aload_n 0, 1) := by decide +kernel
theorem dX5_leaveLine_6 : decode cX5_leaveLine 6 = .ok (.getfield 9, 3) := by decide +kernel
theorem dX5_leaveLine_9 : decode cX5_leaveLine 9 = .ok (.iconst 1, 1) := by decide +kernel
theorem dX5_leaveLine_10 : decode cX5_leaveLine 10 = .ok (.if_icmp .ne 16, 3) := by decide +kernel
theorem dX5_leaveLine_13 : decode cX5_leaveLine 13 = .ok (.aload_n 0, 1) := by decide +kernel
theorem dX5_leaveLine_14 : decode cX5_leaveLine 14 = .ok (.aconst_null, 1) := by decide +kernel
theorem dX5_leaveLine_15 : decode cX5_leaveLine 15 = .ok (.putfield 15, 3) := by decide +kernel
theorem dX5_leaveLine_18 : decode cX5_leaveLine 18 = .ok (.aload_n 0, 1) := by decide +kernel
theorem dX5_leaveLine_19 : decode cX5_leaveLine 19 = .ok (.iconst 0, 1) := by decide +kernel
theorem dX5_leaveLine_20 : decode cX5_leaveLine 20 = .ok (.invokevirtual 62, 3) := by decide +kernel
theorem dX5_leaveLine_23 : decode cX5_leaveLine 23 = .ok (.goto 8, 3) := by decide +kernel
theorem dX5_leaveLine_26 : decode cX5_leaveLine 26 = .ok (.aload_n 0, 1) := by decide +kernel
theorem dX5_leaveLine_27 : decode cX5_leaveLine 27 = .ok (.iconst 4, 1) := by decide +kernel
theorem dX5_leaveLine_28 : decode cX5_leaveLine 28 = .ok (.invokevirtual 62, 3) := by decide +kernel
theorem dX5_leaveLine_31 : decode cX5_leaveLine 31 = .ok (.return_, 1) := by decide +kernel
theorem dX5_breakDown_0 : decode cX5_breakDown 0 = .ok (.aload_n 0, 1) := by decide +kernel
theorem dX5_breakDown_1 : decode cX5_breakDown 1 = .ok (.aconst_null, 1) := by decide +kernel
theorem dX5_breakDown_2 : decode cX5_breakDown 2 = .ok (.putfield 19, 3) := by decide +kernel
theorem dX5_breakDown_5 : decode cX5_breakDown 5 = .ok (.aload_n 0, 1) := by decide +kernel
theorem dX5_breakDown_6 : decode cX5_breakDown 6 = .ok (.getfield 9, 3) := by decide +kernel
theorem dX5_breakDown_9 : decode cX5_breakDown 9 = .ok (.iconst 1, 1) := by decide +kernel
theorem dX5_breakDown_10 : decode cX5_breakDown 10 = .ok (.if_icmp .ne 8, 3) := by decide +kernel
theorem dX5_breakDown_13 : decode cX5_breakDown 13 = .ok (.aload_n 0, 1) := by decide +kernel
theorem dX5_breakDown_14 : decode cX5_breakDown 14 = .ok (.aconst_null, 1) := by decide +kernel
theorem dX5_breakDown_15 : decode cX5_breakDown 15 = .ok (.putfield 15, 3) := by decide +kernel
theorem dX5_breakDown_18 : decode cX5_breakDown 18 = .ok (.aload_n 0, 1) := by decide +kernel
theorem dX5_breakDown_19 : decode cX5_breakDown 19 = .ok (.iconst 5, 1) := by decide +kernel
theorem dX5_breakDown_20 : decode cX5_breakDown 20 = .ok (.invokevirtual 62, 3) := by decide +kernel
theorem dX5_breakDown_23 : decode cX5_breakDown 23 = .ok (.return_, 1) := by decide +kernel
theorem dX5_reachGoal_0 : decode cX5_reachGoal 0 = .ok (.aload_n 0, 1) := by decide +kernel
theorem dX5_reachGoal_1 : decode cX5_reachGoal 1 = .ok (.getfield 9, 3) := by decide +kernel
theorem dX5_reachGoal_4 : decode cX5_reachGoal 4 = .ok (.iconst 1, 1) := by decide +kernel
theorem dX5_reachGoal_5 : decode cX5_reachGoal 5 = .ok (.if_icmp .ne 11, 3) := by decide +kernel
theorem dX5_reachGoal_8 : decode cX5_reachGoal 8 = .ok (.aload_n 0, 1) := by decide +kernel
theorem dX5_reachGoal_9 : decode cX5_reachGoal 9 = .ok (.iconst 2, 1) := by decide +kernel
theorem dX5_reachGoal_10 : decode cX5_reachGoal 10 = .ok (.invokevirtual 62, 3) := by decide +kernel
theorem dX5_reachGoal_13 : decode cX5_reachGoal 13 = .ok (.goto 37, 3) := by decide +kernel
theorem dX5_reachGoal_16 : decode cX5_reachGoal 16 = .ok (.aload_n 0, 1) := by decide +kernel
theorem dX5_reachGoal_17 : decode cX5_reachGoal 17 = .ok (.getfield 9, 3) := by decide +kernel
theorem dX5_reachGoal_20 : decode cX5_reachGoal 20 = .ok (.iconst 2, 1) := by decide +kernel
theorem dX5_reachGoal_21 : decode cX5_reachGoal 21 = .ok (.if_icmp .ne 11, 3) := by decide +kernel
theorem dX5_reachGoal_24 : decode cX5_reachGoal 24 = .ok (.aload_n 0, 1) := by decide +kernel
theorem dX5_reachGoal_25 : decode cX5_reachGoal 25 = .ok (.iconst 3, 1) := by decide +kernel
theorem dX5_reachGoal_26 : decode cX5_reachGoal 26 = .ok (.invokevirtual 62, 3) := by decide +kernel
theorem dX5_reachGoal_29 : decode cX5_reachGoal 29 = .ok (.goto 21, 3) := by decide +kernel
theorem dX5_reachGoal_32 : decode cX5_reachGoal 32 = .ok (.aload_n 0, 1) := by decide +kernel
theorem dX5_reachGoal_33 : decode cX5_reachGoal 33 = .ok (.getfield 9, 3) := by decide +kernel
theorem dX5_reachGoal_36 : decode cX5_reachGoal 36 = .ok (.iconst 4, 1) := by decide +kernel
theorem dX5_reachGoal_37 : decode cX5_reachGoal 37 = .ok (.if_icmp .ne 13, 3) := by decide +kernel
theorem dX5_reachGoal_40 : decode cX5_reachGoal 40 = .ok (.aload_n 0, 1) := by decide +kernel
theorem dX5_reachGoal_41 : decode cX5_reachGoal 41 = .ok (.aconst_null, 1) := by decide +kernel
theorem dX5_reachGoal_42 : decode cX5_reachGoal 42 = .ok (.putfield 15, 3) := by decide +kernel
theorem dX5_reachGoal_45 : decode cX5_reachGoal 45 = .ok (.aload_n 0, 1) := by decide +kernel
theorem dX5_reachGoal_46 : decode cX5_reachGoal 46 = .ok (.iconst 0, 1) := by decide +kernel
theorem dX5_reachGoal_47 : decode cX5_reachGoal 47 = .ok (.invokevirtual 62, 3) := by decide +kernel
theorem dX5_reachGoal_50 : decode cX5_reachGoal 50 = .ok (.return_, 1) := by decide +kernel
theorem dX6_init_0 : decode cX6_init 0 = .ok (.aload_n 0, 1) := by decide +kernel
theorem dX6_init_1 : decode cX6_init 1 = .ok (.invokespecial 1, 3) := by decide +kernel
theorem dX6_init_4 : decode cX6_init 4 = .ok (.aload_n 0, 1) := by decide +kernel
theorem dX6_init_5 : decode cX6_init 5 = .ok (.new 7, 3) := by decide +kernel
theorem dX6_init_8 : decode cX6_init 8 = .ok (.dup, 1) := by decide +kernel
theorem dX6_init_9 : decode cX6_init 9 = .ok (.invokespecial 9, 3) := by decide +kernel
theorem dX6_init_12 : decode cX6_init 12 = .ok (.putfield 10, 3) := by decide +kernel
theorem dX6_init_15 : decode cX6_init 15 = .ok (.aload_n 0, 1) := by decide +kernel
theorem dX6_init_16 : decode cX6_init 16 = .ok (.iload_n 1, 1) := by decide +kernel
theorem dX6_init_17 : decode cX6_init 17 = .ok (.putfield 16, 3) := by decide +kernel
theorem dX6_init_20 : decode cX6_init 20 = .ok (.aload_n 0, 1) := by decide +kernel
theorem dX6_init_21 : decode cX6_init 21 = .ok (.iload_n 2, 1) := by decide +kernel
theorem dX6_init_22 : decode cX6_init 22 = .ok (.putfield 20, 3) := by decide +kernel
theorem dX6_init_25 : decode cX6_init 25 = .ok (.return_, 1) := by decide +kernel
theorem dX6_forget_0 : decode cX6_forget 0 = .ok (.iconst 0, 1) := by decide +kernel
theorem dX6_forget_1 : decode cX6_forget 1 = .ok (.istore_n 2, 1) := by decide +kernel
theorem dX6_forget_2 : decode cX6_forget 2 = .ok (.iload_n 2, 1) := by decide +kernel
theorem dX6_forget_3 : decode cX6_forget 3 = .ok (.aload_n 0, 1) := by decide +kernel
theorem dX6_forget_4 : decode cX6_forget 4 = .ok (.getfield 10, 3) := by decide +kernel
theorem dX6_forget_7 : decode cX6_forget 7 = .ok (.invokevirtual 23, 3) := by decide +kernel
theorem dX6_forget_10 : decode cX6_forget 10 = .ok (.if_icmp .ge 31, 3) := by decide +kernel
theorem dX6_forget_13 : decode cX6_forget 13 = .ok (.aload_n 0, 1) := by decide +kernel
theorem dX6_forget_14 : decode cX6_forget 14 = .ok (.getfield 10, 3) := by decide +kernel
theorem dX6_forget_17 : decode cX6_forget 17 = .ok (.iload_n 2, 1) := by decide +kernel
theorem dX6_forget_18 : decode cX6_forget 18 = .ok (.invokevirtual 27, 3) := by decide +kernel
theorem dX6_forget_21 : decode cX6_forget 21 = .ok (.aload_n 1, 1) := by decide +kernel
theorem dX6_forget_22 : decode cX6_forget 22 = .ok (.if_acmp .ne 13, 3) := by decide +kernel
theorem dX6_forget_25 : decode cX6_forget 25 = .ok (.aload_n 0, 1) := by decide +kernel
theorem dX6_forget_26 : decode cX6_forget 26 = .ok (.getfield 10, 3) := by decide +kernel
theorem dX6_forget_29 : decode cX6_forget 29 = .ok (.iload_n 2, 1) := by decide +kernel
theorem dX6_forget_30 : decode cX6_forget 30 = .ok (.invokevirtual 31, 3) := by decide +kernel
theorem dX6_forget_33 : decode cX6_forget 33 = .ok (.pop, 1) := by decide +kernel
theorem dX6_forget_34 : decode cX6_forget 34 = .ok (.return_, 1) := by decide +kernel
theorem dX6_forget_35 : decode cX6_forget 35 = .ok (.iinc 2 1, 3) := by decide +kernel
theorem dX6_forget_38 : decode cX6_forget 38 = .ok (.goto (-36), 3) := by decide +kernel
theorem dX6_forget_41 : decode cX6_forget 41 = .ok (.return_, 1) := by decide +kernel
theorem dX7_init_0 : decode cX7_init 0 = .ok (.aload_n 0, 1) := by decide +kernel
theorem dX7_init_1 : decode cX7_init 1 = .ok (.invokespecial 1, 3) := by decide +kernel
theorem dX7_init_4 : decode cX7_init 4 = .ok (.aload_n 0, 1) := by decide +kernel
theorem dX7_init_5 : decode cX7_init 5 = .ok (.iconst 0, 1) := by decide +kernel
theorem dX7_init_6 : decode cX7_init 6 = .ok (.putfield 7, 3) := by decide +kernel
theorem dX7_init_9 : decode cX7_init 9 = .ok (.aload_n 0, 1) := by decide +kernel
theorem dX7_init_10 : decode cX7_init 10 = .ok (.iconst 0, 1) := by decide +kernel
theorem dX7_init_11 : decode cX7_init 11 = .ok (.putfield 13, 3) := by decide +kernel
theorem dX7_init_14 : decode cX7_init 14 = .ok (.aload_n 0, 1) := by decide +kernel
theorem dX7_init_15 : decode cX7_init 15 = .ok (.iload_n 1, 1) := by decide +kernel
theorem dX7_init_16 : decode cX7_init 16 = .ok (.putfield 16, 3) := by decide +kernel
theorem dX7_init_19 : decode cX7_init 19 = .ok (.aload_n 0, 1) := by decide +kernel
theorem dX7_init_20 : decode cX7_init 20 = .ok (.iload_n 2, 1) := by decide +kernel
theorem dX7_init_21 : decode cX7_init 21 = .ok (.putfield 19, 3) := by decide +kernel
theorem dX7_init_24 : decode cX7_init 24 = .ok (.aload_n 0, 1) := by decide +kernel
theorem dX7_init_25 : decode cX7_init 25 = .ok (.iload_n 3, 1) := by decide +kernel
theorem dX7_init_26 : decode cX7_init 26 = .ok (.putfield 22, 3) := by decide +kernel
theorem dX7_init_29 : decode cX7_init 29 = .ok (.return_, 1) := by decide +kernel
theorem dX7_put_0 : decode cX7_put 0 = .ok (.aload_n 0, 1) := by decide +kernel
theorem dX7_put_1 : decode cX7_put 1 = .ok (.dup, 1) := by decide +kernel
theorem dX7_put_2 : decode cX7_put 2 = .ok (.getfield 7, 3) := by decide +kernel
theorem dX7_put_5 : decode cX7_put 5 = .ok (.iload_n 1, 1) := by decide +kernel
theorem dX7_put_6 : decode cX7_put 6 = .ok (.iadd, 1) := by decide +kernel
theorem dX7_put_7 : decode cX7_put 7 = .ok (.putfield 7, 3) := by decide +kernel
theorem dX7_put_10 : decode cX7_put 10 = .ok (.aload_n 0, 1) := by decide +kernel
theorem dX7_put_11 : decode cX7_put 11 = .ok (.dup, 1) := by decide +kernel
theorem dX7_put_12 : decode cX7_put 12 = .ok (.getfield 13, 3) := by decide +kernel
theorem dX7_put_15 : decode cX7_put 15 = .ok (.iload_n 1, 1) := by decide +kernel
theorem dX7_put_16 : decode cX7_put 16 = .ok (.iadd, 1) := by decide +kernel
theorem dX7_put_17 : decode cX7_put 17 = .ok (.putfield 13, 3) := by decide +kernel
theorem dX7_put_20 : decode cX7_put 20 = .ok (.return_, 1) := by decide +kernel
theorem dX8_init_0 : decode cX8_init 0 = .ok (.aload_n 0, 1) := by decide +kernel
theorem dX8_init_1 : decode cX8_init 1 = .ok (.invokespecial 1, 3) := by decide +kernel
theorem dX8_init_4 : decode cX8_init 4 = .ok (.aload_n 0, 1) := by decide +kernel
theorem dX8_init_5 : decode cX8_init 5 = .ok (.new 7, 3) := by decide +kernel
theorem dX8_init_8 : decode cX8_init 8 = .ok (.dup, 1) := by decide +kernel
theorem dX8_init_9 : decode cX8_init 9 = .ok (.invokespecial 9, 3) := by decide +kernel
theorem dX8_init_12 : decode cX8_init 12 = .ok (.putfield 10, 3) := by decide +kernel
theorem dX8_init_15 : decode cX8_init 15 = .ok (.aload_n 0, 1) := by decide +kernel
theorem dX8_init_16 : decode cX8_init 16 = .ok (.new 16, 3) := by decide +kernel
theorem dX8_init_19 : decode cX8_init 19 = .ok (.dup, 1) := by decide +kernel
theorem dX8_init_20 : decode cX8_init 20 = .ok (.invokespecial 18, 3) := by decide +kernel
theorem dX8_init_23 : decode cX8_init 23 = .ok (.putfield 19, 3) := by decide +kernel
theorem dX8_init_26 : decode cX8_init 26 = .ok (.aload_n 0, 1) := by decide +kernel
theorem dX8_init_27 : decode cX8_init 27 = .ok (.new 16, 3) := by decide +kernel
theorem dX8_init_30 : decode cX8_init 30 = .ok (.dup, 1) := by decide +kernel
theorem dX8_init_31 : decode cX8_init 31 = .ok (.invokespecial 18, 3) := by decide +kernel
theorem dX8_init_34 : decode cX8_init 34 = .ok (.putfield 23, 3) := by decide +kernel
theorem dX8_init_37 : decode cX8_init 37 = .ok (.aload_n 0, 1) := by decide +kernel
theorem dX8_init_38 : decode cX8_init 38 = .ok (.new 16, 3) := by decide +kernel
theorem dX8_init_41 : decode cX8_init 41 = .ok (.dup, 1) := by decide +kernel
theorem dX8_init_42 : decode cX8_init 42 = .ok (.invokespecial 18, 3) := by decide +kernel
theorem dX8_init_45 : decode cX8_init 45 = .ok (.putfield 26, 3) := by decide +kernel
theorem dX8_init_48 : decode cX8_init 48 = .ok (.aload_n 0, 1) := by decide +kernel
theorem dX8_init_49 : decode cX8_init 49 = .ok (.new 16, 3) := by decide +kernel
theorem dX8_init_52 : decode cX8_init 52 = .ok (.dup, 1) := by decide +kernel
theorem dX8_init_53 : decode cX8_init 53 = .ok (.invokespecial 18, 3) := by decide +kernel
theorem dX8_init_56 : decode cX8_init 56 = .ok (.putfield 29, 3) := by decide +kernel
theorem dX8_init_59 : decode cX8_init 59 = .ok (.aload_n 0, 1) := by decide +kernel
theorem dX8_init_60 : decode cX8_init 60 = .ok (.iconst 0, 1) := by decide +kernel
theorem dX8_init_61 : decode cX8_init 61 = .ok (.putfield 32, 3) := by decide +kernel
theorem dX8_init_64 : decode cX8_init 64 = .ok (.return_, 1) := by decide +kernel
theorem dX8_wall_0 : decode cX8_wall 0 = .ok (.iload_n 1, 1) := by decide +kernel
theorem dX8_wall_1 : decode cX8_wall 1 = .ok (.invokestatic 36, 3) := by decide +kernel
theorem dX8_wall_4 : decode cX8_wall 4 = .ok (.aload_n 0, 1) := by decide +kernel
theorem dX8_wall_5 : decode cX8_wall 5 = .ok (.getfield 10, 3) := by decide +kernel
theorem dX8_wall_8 : decode cX8_wall 8 = .ok (.getfield 40, 3) := by decide +kernel
theorem dX8_wall_11 : decode cX8_wall 11 = .ok (.iload_n 1, 1) := by decide +kernel
theorem dX8_wall_12 : decode cX8_wall 12 = .ok (.invokevirtual 44, 3) := by decide +kernel
theorem dX8_wall_15 : decode cX8_wall 15 = .ok (.ifCond .ne 30, 3) := by decide +kernel
theorem dX8_wall_18 : decode cX8_wall 18 = .ok (.aload_n 0, 1) := by decide +kernel
theorem dX8_wall_19 : decode cX8_wall 19 = .ok (.iload_n 1, 1) := by decide +kernel
theorem dX8_wall_20 : decode cX8_wall 20 = .ok (.invokevirtual 50, 3) := by decide +kernel
theorem dX8_wall_23 : decode cX8_wall 23 = .ok (.ifCond .ne 22, 3) := by decide +kernel
theorem dX8_wall_26 : decode cX8_wall 26 = .ok (.aload_n 0, 1) := by decide +kernel
theorem dX8_wall_27 : decode cX8_wall 27 = .ok (.iload_n 1, 1) := by decide +kernel
theorem dX8_wall_28 : decode cX8_wall 28 = .ok (.invokevirtual 53, 3) := by decide +kernel
theorem dX8_wall_31 : decode cX8_wall 31 = .ok (.ifCond .ne 14, 3) := by decide +kernel
theorem dX8_wall_34 : decode cX8_wall 34 = .ok (.aload_n 0, 1) := by decide +kernel
theorem dX8_wall_35 : decode cX8_wall 35 = .ok (.getfield 10, 3) := by decide +kernel
theorem dX8_wall_38 : decode cX8_wall 38 = .ok (.iload_n 1, 1) := by decide +kernel
theorem dX8_wall_39 : decode cX8_wall 39 = .ok (.invokevirtual 56, 3) := by decide +kernel
theorem dX8_wall_42 : decode cX8_wall 42 = .ok (.ifnull 13, 3) := by decide +kernel
theorem dX8_wall_45 : decode cX8_wall 45 = .ok (.new 60, 3) := by decide +kernel
theorem dX8_wall_48 : decode cX8_wall 48 = .ok (.dup, 1) := by decide +kernel
theorem dX8_wall_49 : decode cX8_wall 49 = .ok (.ldc 62, 2) := by decide +kernel
theorem dX8_wall_51 : decode cX8_wall 51 = .ok (.invokespecial 64, 3) := by decide +kernel
theorem dX8_wall_54 : decode cX8_wall 54 = .ok (.athrow, 1) := by decide +kernel
theorem dX8_wall_55 : decode cX8_wall 55 = .ok (.aload_n 0, 1) := by decide +kernel
theorem dX8_wall_56 : decode cX8_wall 56 = .ok (.getfield 10, 3) := by decide +kernel
theorem dX8_wall_59 : decode cX8_wall 59 = .ok (.getfield 40, 3) := by decide +kernel
theorem dX8_wall_62 : decode cX8_wall 62 = .ok (.iload_n 1, 1) := by decide +kernel
theorem dX8_wall_63 : decode cX8_wall 63 = .ok (.invokevirtual 67, 3) := by decide +kernel
theorem dX8_wall_66 : decode cX8_wall 66 = .ok (.return_, 1) := by decide +kernel
theorem dX8_setClosed_0 : decode cX8_setClosed 0 = .ok (.iload_n 1, 1) := by decide +kernel
theorem dX8_setClosed_1 : decode cX8_setClosed 1 = .ok (.invokestatic 36, 3) := by decide +kernel
theorem dX8_setClosed_4 : decode cX8_setClosed 4 = .ok (.aload_n 0, 1) := by decide +kernel
theorem dX8_setClosed_5 : decode cX8_setClosed 5 = .ok (.getfield 10, 3) := by decide +kernel
theorem dX8_setClosed_8 : decode cX8_setClosed 8 = .ok (.getfield 40, 3) := by decide +kernel
theorem dX8_setClosed_11 : decode cX8_setClosed 11 = .ok (.iload_n 1, 1) := by decide +kernel
theorem dX8_setClosed_12 : decode cX8_setClosed 12 = .ok (.invokevirtual 70, 3) := by decide +kernel
theorem dX8_setClosed_15 : decode cX8_setClosed 15 = .ok (.istore_n 3, 1) := by decide +kernel
theorem dX8_setClosed_16 : decode cX8_setClosed 16 = .ok (.aload_n 0, 1) := by decide +kernel
theorem dX8_setClosed_17 : decode cX8_setClosed 17 = .ok (.getfield 10, 3) := by decide +kernel
theorem dX8_setClosed_20 : decode cX8_setClosed 20 = .ok (.getfield 40, 3) := by decide +kernel
theorem dX8_setClosed_23 : decode cX8_setClosed 23 = .ok (.iload_n 1, 1) := by decide +kernel
theorem dX8_setClosed_24 : decode cX8_setClosed 24 = .ok (.iload_n 2, 1) := by decide +kernel
theorem dX8_setClosed_25 : decode cX8_setClosed 25 = .ok (.invokevirtual 73, 3) := by decide +kernel
theorem dX8_setClosed_28 : decode cX8_setClosed 28 = .ok (.iload_n 3, 1) := by decide +kernel
theorem dX8_setClosed_29 : decode cX8_setClosed 29 = .ok (.ireturn, 1) := by decide +kernel
theorem dX8_distance_0 : decode cX8_distance 0 = .ok (.iload_n 1, 1) := by decide +kernel
theorem dX8_distance_1 : decode cX8_distance 1 = .ok (.invokestatic 36, 3) := by decide +kernel
theorem dX8_distance_4 : decode cX8_distance 4 = .ok (.iload_n 2, 1) := by decide +kernel
theorem dX8_distance_5 : decode cX8_distance 5 = .ok (.invokestatic 36, 3) := by decide +kernel
theorem dX8_distance_8 : decode cX8_distance 8 = .ok (.aload_n 0, 1) := by decide +kernel
theorem dX8_distance_9 : decode cX8_distance 9 = .ok (.getfield 10, 3) := by decide +kernel
theorem dX8_distance_12 : decode cX8_distance 12 = .ok (.getfield 40, 3) := by decide +kernel
theorem dX8_distance_15 : decode cX8_distance 15 = .ok (.iload_n 1, 1) := by decide +kernel
theorem dX8_distance_16 : decode cX8_distance 16 = .ok (.iload_n 2, 1) := by decide +kernel
theorem dX8_distance_17 : decode cX8_distance 17 = .ok (.iconst (-1), 1) := by decide +kernel
theorem dX8_distance_18 : decode cX8_distance 18 = .ok (.invokevirtual 77, 3) := by decide +kernel
theorem dX8_distance_21 : decode cX8_distance 21 = .ok (.ireturn, 1) := by decide +kernel
theorem dX8_addStation_0 : decode cX8_addStation 0 = .ok (.iload_n 1, 1) := by decide +kernel
theorem dX8_addStation_1 : decode cX8_addStation 1 = .ok (.invokestatic 36, 3) := by decide +kernel
theorem dX8_addStation_4 : decode cX8_addStation 4 = .ok (.aload_n 0, 1) := by decide +kernel
theorem dX8_addStation_5 : decode cX8_addStation 5 = .ok (.getfield 10, 3) := by decide +kernel
theorem dX8_addStation_8 : decode cX8_addStation 8 = .ok (.getfield 40, 3) := by decide +kernel
theorem dX8_addStation_11 : decode cX8_addStation 11 = .ok (.iload_n 1, 1) := by decide +kernel
theorem dX8_addStation_12 : decode cX8_addStation 12 = .ok (.invokevirtual 44, 3) := by decide +kernel
theorem dX8_addStation_15 : decode cX8_addStation 15 = .ok (.ifCond .ne 22, 3) := by decide +kernel
theorem dX8_addStation_18 : decode cX8_addStation 18 = .ok (.aload_n 0, 1) := by decide +kernel
theorem dX8_addStation_19 : decode cX8_addStation 19 = .ok (.iload_n 1, 1) := by decide +kernel
theorem dX8_addStation_20 : decode cX8_addStation 20 = .ok (.invokevirtual 53, 3) := by decide +kernel
theorem dX8_addStation_23 : decode cX8_addStation 23 = .ok (.ifCond .ne 14, 3) := by decide +kernel
theorem dX8_addStation_26 : decode cX8_addStation 26 = .ok (.aload_n 0, 1) := by decide +kernel
theorem dX8_addStation_27 : decode cX8_addStation 27 = .ok (.getfield 19, 3) := by decide +kernel
theorem dX8_addStation_30 : decode cX8_addStation 30 = .ok (.invokevirtual 81, 3) := by decide +kernel
theorem dX8_addStation_33 : decode cX8_addStation 33 = .ok (.iconst 3, 1) := by decide +kernel
theorem dX8_addStation_34 : decode cX8_addStation 34 = .ok (.if_icmp .lt 13, 3) := by decide +kernel
theorem dX8_addStation_37 : decode cX8_addStation 37 = .ok (.new 60, 3) := by decide +kernel
theorem dX8_addStation_40 : decode cX8_addStation 40 = .ok (.dup, 1) := by decide +kernel
theorem dX8_addStation_41 : decode cX8_addStation 41 = .ok (.ldc 85, 2) := by decide +kernel
theorem dX8_addStation_43 : decode cX8_addStation 43 = .ok (.invokespecial 64, 3) := by decide +kernel
theorem dX8_addStation_46 : decode cX8_addStation 46 = .ok (.athrow, 1) := by decide +kernel
theorem dX8_addStation_47 : decode cX8_addStation 47 = .ok (.new 87, 3) := by decide +kernel
theorem dX8_addStation_50 : decode cX8_addStation 50 = .ok (.dup, 1) := by decide +kernel
theorem dX8_addStation_51 : decode cX8_addStation 51 = .ok (.aload_n 0, 1) := by decide +kernel
theorem dX8_addStation_52 : decode cX8_addStation 52 = .ok (.getfield 19, 3) := by decide +kernel
theorem dX8_addStation_55 : decode cX8_addStation 55 = .ok (.invokevirtual 81, 3) := by decide +kernel
theorem dX8_addStation_58 : decode cX8_addStation 58 = .ok (.iload_n 1, 1) := by decide +kernel
theorem dX8_addStation_59 : decode cX8_addStation 59 = .ok (.invokespecial 89, 3) := by decide +kernel
theorem dX8_addStation_62 : decode cX8_addStation 62 = .ok (.astore_n 2, 1) := by decide +kernel
theorem dX8_addStation_63 : decode cX8_addStation 63 = .ok (.aload_n 0, 1) := by decide +kernel
theorem dX8_addStation_64 : decode cX8_addStation 64 = .ok (.getfield 19, 3) := by decide +kernel
theorem dX8_addStation_67 : decode cX8_addStation 67 = .ok (.aload_n 2, 1) := by decide +kernel
theorem dX8_addStation_68 : decode cX8_addStation 68 = .ok (.invokevirtual 92, 3) := by decide +kernel
theorem dX8_addStation_71 : decode cX8_addStation 71 = .ok (.pop, 1) := by decide +kernel
theorem dX8_addStation_72 : decode cX8_addStation 72 = .ok (.aload_n 2, 1) := by decide +kernel
theorem dX8_addStation_73 : decode cX8_addStation 73 = .ok (.getfield 96, 3) := by decide +kernel
theorem dX8_addStation_76 : decode cX8_addStation 76 = .ok (.ireturn, 1) := by decide +kernel
theorem dX8_addTray_0 : decode cX8_addTray 0 = .ok (.iload_n 1, 1) := by decide +kernel
theorem dX8_addTray_1 : decode cX8_addTray 1 = .ok (.invokestatic 36, 3) := by decide +kernel
theorem dX8_addTray_4 : decode cX8_addTray 4 = .ok (.iload_n 2, 1) := by decide +kernel
theorem dX8_addTray_5 : decode cX8_addTray 5 = .ok (.invokestatic 99, 3) := by decide +kernel
theorem dX8_addTray_8 : decode cX8_addTray 8 = .ok (.iload_n 3, 1) := by decide +kernel
theorem dX8_addTray_9 : decode cX8_addTray 9 = .ok (.iconst 0, 1) := by decide +kernel
theorem dX8_addTray_10 : decode cX8_addTray 10 = .ok (.bipush 100, 2) := by decide +kernel
theorem dX8_addTray_12 : decode cX8_addTray 12 = .ok (.invokestatic 102, 3) := by decide +kernel
theorem dX8_addTray_15 : decode cX8_addTray 15 = .ok (.aload_n 0, 1) := by decide +kernel
theorem dX8_addTray_16 : decode cX8_addTray 16 = .ok (.getfield 10, 3) := by decide +kernel
theorem dX8_addTray_19 : decode cX8_addTray 19 = .ok (.getfield 40, 3) := by decide +kernel
theorem dX8_addTray_22 : decode cX8_addTray 22 = .ok (.iload_n 1, 1) := by decide +kernel
theorem dX8_addTray_23 : decode cX8_addTray 23 = .ok (.invokevirtual 44, 3) := by decide +kernel
theorem dX8_addTray_26 : decode cX8_addTray 26 = .ok (.ifCond .ne 23, 3) := by decide +kernel
theorem dX8_addTray_29 : decode cX8_addTray 29 = .ok (.aload_n 0, 1) := by decide +kernel
theorem dX8_addTray_30 : decode cX8_addTray 30 = .ok (.iload_n 1, 1) := by decide +kernel
theorem dX8_addTray_31 : decode cX8_addTray 31 = .ok (.invokevirtual 50, 3) := by decide +kernel
theorem dX8_addTray_34 : decode cX8_addTray 34 = .ok (.ifCond .ne 15, 3) := by decide +kernel
theorem dX8_addTray_37 : decode cX8_addTray 37 = .ok (.aload_n 0, 1) := by decide +kernel
theorem dX8_addTray_38 : decode cX8_addTray 38 = .ok (.getfield 23, 3) := by decide +kernel
theorem dX8_addTray_41 : decode cX8_addTray 41 = .ok (.invokevirtual 81, 3) := by decide +kernel
theorem dX8_addTray_44 : decode cX8_addTray 44 = .ok (.bipush 16, 2) := by decide +kernel
theorem dX8_addTray_46 : decode cX8_addTray 46 = .ok (.if_icmp .lt 13, 3) := by decide +kernel
theorem dX8_addTray_49 : decode cX8_addTray 49 = .ok (.new 60, 3) := by decide +kernel
theorem dX8_addTray_52 : decode cX8_addTray 52 = .ok (.dup, 1) := by decide +kernel
theorem dX8_addTray_53 : decode cX8_addTray 53 = .ok (.ldc 106, 2) := by decide +kernel
theorem dX8_addTray_55 : decode cX8_addTray 55 = .ok (.invokespecial 64, 3) := by decide +kernel
theorem dX8_addTray_58 : decode cX8_addTray 58 = .ok (.athrow, 1) := by decide +kernel
theorem dX8_addTray_59 : decode cX8_addTray 59 = .ok (.new 108, 3) := by decide +kernel
theorem dX8_addTray_62 : decode cX8_addTray 62 = .ok (.dup, 1) := by decide +kernel
theorem dX8_addTray_63 : decode cX8_addTray 63 = .ok (.aload_n 0, 1) := by decide +kernel
theorem dX8_addTray_64 : decode cX8_addTray 64 = .ok (.getfield 23, 3) := by decide +kernel
theorem dX8_addTray_67 : decode cX8_addTray 67 = .ok (.invokevirtual 81, 3) := by decide +kernel
theorem dX8_addTray_70 : decode cX8_addTray 70 = .ok (.iload_n 1, 1) := by decide +kernel
theorem dX8_addTray_71 : decode cX8_addTray 71 = .ok (.iload_n 2, 1) := by decide +kernel
theorem dX8_addTray_72 : decode cX8_addTray 72 = .ok (.invokespecial 110, 3) := by decide +kernel
theorem dX8_addTray_75 : decode cX8_addTray 75 = .ok (.astore 4, 2) := by decide +kernel
theorem dX8_addTray_77 : decode cX8_addTray 77 = .ok (.aload 4, 2) := by decide +kernel
theorem dX8_addTray_79 : decode cX8_addTray 79 = .ok (.iload_n 3, 1) := by decide +kernel
theorem dX8_addTray_80 : decode cX8_addTray 80 = .ok (.invokevirtual 112, 3) := by decide +kernel
theorem dX8_addTray_83 : decode cX8_addTray 83 = .ok (.aload_n 0, 1) := by decide +kernel
theorem dX8_addTray_84 : decode cX8_addTray 84 = .ok (.getfield 23, 3) := by decide +kernel
theorem dX8_addTray_87 : decode cX8_addTray 87 = .ok (.aload 4, 2) := by decide +kernel
theorem dX8_addTray_89 : decode cX8_addTray 89 = .ok (.invokevirtual 92, 3) := by decide +kernel
theorem dX8_addTray_92 : decode cX8_addTray 92 = .ok (.pop, 1) := by decide +kernel
theorem dX8_addTray_93 : decode cX8_addTray 93 = .ok (.aload 4, 2) := by decide +kernel
theorem dX8_addTray_95 : decode cX8_addTray 95 = .ok (.getfield 115, 3) := by decide +kernel
theorem dX8_addTray_98 : decode cX8_addTray 98 = .ok (.ireturn, 1) := by decide +kernel
theorem dX8_fill_0 : decode cX8_fill 0 = .ok (.aload_n 0, 1) := by decide +kernel
theorem dX8_fill_1 : decode cX8_fill 1 = .ok (.iload_n 1, 1) := by decide +kernel
theorem dX8_fill_2 : decode cX8_fill 2 = .ok (.invokevirtual 116, 3) := by decide +kernel
theorem dX8_fill_5 : decode cX8_fill 5 = .ok (.astore_n 3, 1) := by decide +kernel
theorem dX8_fill_6 : decode cX8_fill 6 = .ok (.iload_n 2, 1) := by decide +kernel
theorem dX8_fill_7 : decode cX8_fill 7 = .ok (.iconst 1, 1) := by decide +kernel
theorem dX8_fill_8 : decode cX8_fill 8 = .ok (.bipush 100, 2) := by decide +kernel
theorem dX8_fill_10 : decode cX8_fill 10 = .ok (.invokestatic 102, 3) := by decide +kernel
theorem dX8_fill_13 : decode cX8_fill 13 = .ok (.aload_n 0, 1) := by decide +kernel
theorem dX8_fill_14 : decode cX8_fill 14 = .ok (.getfield 10, 3) := by decide +kernel
theorem dX8_fill_17 : decode cX8_fill 17 = .ok (.aload_n 3, 1) := by decide +kernel
theorem dX8_fill_18 : decode cX8_fill 18 = .ok (.invokevirtual 120, 3) := by decide +kernel
theorem dX8_fill_21 : decode cX8_fill 21 = .ok (.ifnull 13, 3) := by decide +kernel
theorem dX8_fill_24 : decode cX8_fill 24 = .ok (.new 60, 3) := by decide +kernel
theorem dX8_fill_27 : decode cX8_fill 27 = .ok (.dup, 1) := by decide +kernel
theorem dX8_fill_28 : decode cX8_fill 28 = .ok (.ldc 124, 2) := by decide +kernel
theorem dX8_fill_30 : decode cX8_fill 30 = .ok (.invokespecial 64, 3) := by decide +kernel
theorem dX8_fill_33 : decode cX8_fill 33 = .ok (.athrow, 1) := by decide +kernel
theorem dX8_fill_34 : decode cX8_fill 34 = .ok (.aload_n 3, 1) := by decide +kernel
theorem dX8_fill_35 : decode cX8_fill 35 = .ok (.iload_n 2, 1) := by decide +kernel
theorem dX8_fill_36 : decode cX8_fill 36 = .ok (.invokevirtual 112, 3) := by decide +kernel
theorem dX8_fill_39 : decode cX8_fill 39 = .ok (.aload_n 3, 1) := by decide +kernel
theorem dX8_fill_40 : decode cX8_fill 40 = .ok (.getfield 126, 3) := by decide +kernel
theorem dX8_fill_43 : decode cX8_fill 43 = .ok (.ireturn, 1) := by decide +kernel
theorem dX8_addOrder_0 : decode cX8_addOrder 0 = .ok (.aload_n 0, 1) := by decide +kernel
theorem dX8_addOrder_1 : decode cX8_addOrder 1 = .ok (.getfield 26, 3) := by decide +kernel
theorem dX8_addOrder_4 : decode cX8_addOrder 4 = .ok (.invokevirtual 81, 3) := by decide +kernel
theorem dX8_addOrder_7 : decode cX8_addOrder 7 = .ok (.bipush 10, 2) := by decide +kernel
theorem dX8_addOrder_9 : decode cX8_addOrder 9 = .ok (.if_icmp .lt 13, 3) := by decide +kernel
theorem dX8_addOrder_12 : decode cX8_addOrder 12 = .ok (.new 60, 3) := by decide +kernel
theorem dX8_addOrder_15 : decode cX8_addOrder 15 = .ok (.dup, 1) := by decide +kernel
theorem dX8_addOrder_16 : decode cX8_addOrder 16 = .ok (.ldc 129, 2) := by decide +kernel
theorem dX8_addOrder_18 : decode cX8_addOrder 18 = .ok (.invokespecial 64, 3) := by decide +kernel
theorem dX8_addOrder_21 : decode cX8_addOrder 21 = .ok (.athrow, 1) := by decide +kernel
theorem dX8_addOrder_22 : decode cX8_addOrder 22 = .ok (.new 131, 3) := by decide +kernel
theorem dX8_addOrder_25 : decode cX8_addOrder 25 = .ok (.dup, 1) := by decide +kernel
theorem dX8_addOrder_26 : decode cX8_addOrder 26 = .ok (.aload_n 0, 1) := by decide +kernel
theorem dX8_addOrder_27 : decode cX8_addOrder 27 = .ok (.getfield 26, 3) := by decide +kernel
theorem dX8_addOrder_30 : decode cX8_addOrder 30 = .ok (.invokevirtual 81, 3) := by decide +kernel
theorem dX8_addOrder_33 : decode cX8_addOrder 33 = .ok (.invokespecial 133, 3) := by decide +kernel
theorem dX8_addOrder_36 : decode cX8_addOrder 36 = .ok (.astore_n 1, 1) := by decide +kernel
theorem dX8_addOrder_37 : decode cX8_addOrder 37 = .ok (.aload_n 0, 1) := by decide +kernel
theorem dX8_addOrder_38 : decode cX8_addOrder 38 = .ok (.getfield 26, 3) := by decide +kernel
theorem dX8_addOrder_41 : decode cX8_addOrder 41 = .ok (.aload_n 1, 1) := by decide +kernel
theorem dX8_addOrder_42 : decode cX8_addOrder 42 = .ok (.invokevirtual 92, 3) := by decide +kernel
theorem dX8_addOrder_45 : decode cX8_addOrder 45 = .ok (.pop, 1) := by decide +kernel
theorem dX8_addOrder_46 : decode cX8_addOrder 46 = .ok (.aload_n 1, 1) := by decide +kernel
theorem dX8_addOrder_47 : decode cX8_addOrder 47 = .ok (.getfield 135, 3) := by decide +kernel
theorem dX8_addOrder_50 : decode cX8_addOrder 50 = .ok (.ireturn, 1) := by decide +kernel
theorem dX8_addLine_0 : decode cX8_addLine 0 = .ok (.aload_n 0, 1) := by decide +kernel
theorem dX8_addLine_1 : decode cX8_addLine 1 = .ok (.iload_n 1, 1) := by decide +kernel
theorem dX8_addLine_2 : decode cX8_addLine 2 = .ok (.invokevirtual 136, 3) := by decide +kernel
theorem dX8_addLine_5 : decode cX8_addLine 5 = .ok (.astore 4, 2) := by decide +kernel
theorem dX8_addLine_7 : decode cX8_addLine 7 = .ok (.iload_n 2, 1) := by decide +kernel
theorem dX8_addLine_8 : decode cX8_addLine 8 = .ok (.invokestatic 99, 3) := by decide +kernel
theorem dX8_addLine_11 : decode cX8_addLine 11 = .ok (.iload_n 3, 1) := by decide +kernel
theorem dX8_addLine_12 : decode cX8_addLine 12 = .ok (.iconst 1, 1) := by decide +kernel
theorem dX8_addLine_13 : decode cX8_addLine 13 = .ok (.bipush 50, 2) := by decide +kernel
theorem dX8_addLine_15 : decode cX8_addLine 15 = .ok (.invokestatic 102, 3) := by decide +kernel
theorem dX8_addLine_18 : decode cX8_addLine 18 = .ok (.aload 4, 2) := by decide +kernel
theorem dX8_addLine_20 : decode cX8_addLine 20 = .ok (.getfield 140, 3) := by decide +kernel
theorem dX8_addLine_23 : decode cX8_addLine 23 = .ok (.invokevirtual 81, 3) := by decide +kernel
theorem dX8_addLine_26 : decode cX8_addLine 26 = .ok (.iconst 3, 1) := by decide +kernel
theorem dX8_addLine_27 : decode cX8_addLine 27 = .ok (.if_icmp .lt 13, 3) := by decide +kernel
theorem dX8_addLine_30 : decode cX8_addLine 30 = .ok (.new 60, 3) := by decide +kernel
theorem dX8_addLine_33 : decode cX8_addLine 33 = .ok (.dup, 1) := by decide +kernel
theorem dX8_addLine_34 : decode cX8_addLine 34 = .ok (.ldc 143, 2) := by decide +kernel
theorem dX8_addLine_36 : decode cX8_addLine 36 = .ok (.invokespecial 64, 3) := by decide +kernel
theorem dX8_addLine_39 : decode cX8_addLine 39 = .ok (.athrow, 1) := by decide +kernel
theorem dX8_addLine_40 : decode cX8_addLine 40 = .ok (.aload 4, 2) := by decide +kernel
theorem dX8_addLine_42 : decode cX8_addLine 42 = .ok (.getfield 140, 3) := by decide +kernel
theorem dX8_addLine_45 : decode cX8_addLine 45 = .ok (.new 145, 3) := by decide +kernel
theorem dX8_addLine_48 : decode cX8_addLine 48 = .ok (.dup, 1) := by decide +kernel
theorem dX8_addLine_49 : decode cX8_addLine 49 = .ok (.aload 4, 2) := by decide +kernel
theorem dX8_addLine_51 : decode cX8_addLine 51 = .ok (.iload_n 2, 1) := by decide +kernel
theorem dX8_addLine_52 : decode cX8_addLine 52 = .ok (.iload_n 3, 1) := by decide +kernel
theorem dX8_addLine_53 : decode cX8_addLine 53 = .ok (.invokespecial 147, 3) := by decide +kernel
theorem dX8_addLine_56 : decode cX8_addLine 56 = .ok (.invokevirtual 92, 3) := by decide +kernel
theorem dX8_addLine_59 : decode cX8_addLine 59 = .ok (.pop, 1) := by decide +kernel
theorem dX8_addLine_60 : decode cX8_addLine 60 = .ok (.aload 4, 2) := by decide +kernel
theorem dX8_addLine_62 : decode cX8_addLine 62 = .ok (.getfield 140, 3) := by decide +kernel
theorem dX8_addLine_65 : decode cX8_addLine 65 = .ok (.invokevirtual 81, 3) := by decide +kernel
theorem dX8_addLine_68 : decode cX8_addLine 68 = .ok (.iconst 1, 1) := by decide +kernel
theorem dX8_addLine_69 : decode cX8_addLine 69 = .ok (.isub, 1) := by decide +kernel
theorem dX8_addLine_70 : decode cX8_addLine 70 = .ok (.ireturn, 1) := by decide +kernel
theorem dX8_claim_0 : decode cX8_claim 0 = .ok (.aload_n 0, 1) := by decide +kernel
theorem dX8_claim_1 : decode cX8_claim 1 = .ok (.iload_n 1, 1) := by decide +kernel
theorem dX8_claim_2 : decode cX8_claim 2 = .ok (.invokevirtual 150, 3) := by decide +kernel
theorem dX8_claim_5 : decode cX8_claim 5 = .ok (.astore 4, 2) := by decide +kernel
theorem dX8_claim_7 : decode cX8_claim 7 = .ok (.aload_n 0, 1) := by decide +kernel
theorem dX8_claim_8 : decode cX8_claim 8 = .ok (.iload_n 2, 1) := by decide +kernel
theorem dX8_claim_9 : decode cX8_claim 9 = .ok (.iload_n 3, 1) := by decide +kernel
theorem dX8_claim_10 : decode cX8_claim 10 = .ok (.invokevirtual 154, 3) := by decide +kernel
theorem dX8_claim_13 : decode cX8_claim 13 = .ok (.astore 5, 2) := by decide +kernel
theorem dX8_claim_15 : decode cX8_claim 15 = .ok (.aload 5, 2) := by decide +kernel
theorem dX8_claim_17 : decode cX8_claim 17 = .ok (.getfield 158, 3) := by decide +kernel
theorem dX8_claim_20 : decode cX8_claim 20 = .ok (.ifnull 13, 3) := by decide +kernel
theorem dX8_claim_23 : decode cX8_claim 23 = .ok (.new 60, 3) := by decide +kernel
theorem dX8_claim_26 : decode cX8_claim 26 = .ok (.dup, 1) := by decide +kernel
theorem dX8_claim_27 : decode cX8_claim 27 = .ok (.ldc 162, 2) := by decide +kernel
theorem dX8_claim_29 : decode cX8_claim 29 = .ok (.invokespecial 64, 3) := by decide +kernel
theorem dX8_claim_32 : decode cX8_claim 32 = .ok (.athrow, 1) := by decide +kernel
theorem dX8_claim_33 : decode cX8_claim 33 = .ok (.aload 5, 2) := by decide +kernel
theorem dX8_claim_35 : decode cX8_claim 35 = .ok (.aload 4, 2) := by decide +kernel
theorem dX8_claim_37 : decode cX8_claim 37 = .ok (.putfield 158, 3) := by decide +kernel
theorem dX8_claim_40 : decode cX8_claim 40 = .ok (.aload 4, 2) := by decide +kernel
theorem dX8_claim_42 : decode cX8_claim 42 = .ok (.getfield 164, 3) := by decide +kernel
theorem dX8_claim_45 : decode cX8_claim 45 = .ok (.aload 5, 2) := by decide +kernel
theorem dX8_claim_47 : decode cX8_claim 47 = .ok (.invokevirtual 92, 3) := by decide +kernel
theorem dX8_claim_50 : decode cX8_claim 50 = .ok (.pop, 1) := by decide +kernel
theorem dX8_claim_51 : decode cX8_claim 51 = .ok (.aload 4, 2) := by decide +kernel
theorem dX8_claim_53 : decode cX8_claim 53 = .ok (.getfield 164, 3) := by decide +kernel
theorem dX8_claim_56 : decode cX8_claim 56 = .ok (.invokevirtual 81, 3) := by decide +kernel
theorem dX8_claim_59 : decode cX8_claim 59 = .ok (.ireturn, 1) := by decide +kernel
theorem dX8_giveUp_0 : decode cX8_giveUp 0 = .ok (.aload_n 0, 1) := by decide +kernel
theorem dX8_giveUp_1 : decode cX8_giveUp 1 = .ok (.iload_n 1, 1) := by decide +kernel
theorem dX8_giveUp_2 : decode cX8_giveUp 2 = .ok (.iload_n 2, 1) := by decide +kernel
theorem dX8_giveUp_3 : decode cX8_giveUp 3 = .ok (.invokevirtual 154, 3) := by decide +kernel
theorem dX8_giveUp_6 : decode cX8_giveUp 6 = .ok (.astore_n 3, 1) := by decide +kernel
theorem dX8_giveUp_7 : decode cX8_giveUp 7 = .ok (.aload_n 3, 1) := by decide +kernel
theorem dX8_giveUp_8 : decode cX8_giveUp 8 = .ok (.getfield 158, 3) := by decide +kernel
theorem dX8_giveUp_11 : decode cX8_giveUp 11 = .ok (.astore 4, 2) := by decide +kernel
theorem dX8_giveUp_13 : decode cX8_giveUp 13 = .ok (.aload 4, 2) := by decide +kernel
theorem dX8_giveUp_15 : decode cX8_giveUp 15 = .ok (.ifnonnull 13, 3) := by decide +kernel
theorem dX8_giveUp_18 : decode cX8_giveUp 18 = .ok (.new 60, 3) := by decide +kernel
theorem dX8_giveUp_21 : decode cX8_giveUp 21 = .ok (.dup, 1) := by decide +kernel
theorem dX8_giveUp_22 : decode cX8_giveUp 22 = .ok (.ldc 167, 2) := by decide +kernel
theorem dX8_giveUp_24 : decode cX8_giveUp 24 = .ok (.invokespecial 64, 3) := by decide +kernel
theorem dX8_giveUp_27 : decode cX8_giveUp 27 = .ok (.athrow, 1) := by decide +kernel
theorem dX8_giveUp_28 : decode cX8_giveUp 28 = .ok (.aload_n 0, 1) := by decide +kernel
theorem dX8_giveUp_29 : decode cX8_giveUp 29 = .ok (.getfield 10, 3) := by decide +kernel
theorem dX8_giveUp_32 : decode cX8_giveUp 32 = .ok (.aload_n 3, 1) := by decide +kernel
theorem dX8_giveUp_33 : decode cX8_giveUp 33 = .ok (.invokevirtual 169, 3) := by decide +kernel
theorem dX8_giveUp_36 : decode cX8_giveUp 36 = .ok (.astore 5, 2) := by decide +kernel
theorem dX8_giveUp_38 : decode cX8_giveUp 38 = .ok (.aload 5, 2) := by decide +kernel
theorem dX8_giveUp_40 : decode cX8_giveUp 40 = .ok (.ifnull 8, 3) := by decide +kernel
theorem dX8_giveUp_43 : decode cX8_giveUp 43 = .ok (.aload 5, 2) := by decide +kernel
theorem dX8_giveUp_45 : decode cX8_giveUp 45 = .ok (.invokevirtual 173, 3) := by decide +kernel
theorem dX8_giveUp_48 : decode cX8_giveUp 48 = .ok (.aload 4, 2) := by decide +kernel
theorem dX8_giveUp_50 : decode cX8_giveUp 50 = .ok (.aload_n 3, 1) := by decide +kernel
theorem dX8_giveUp_51 : decode cX8_giveUp 51 = .ok (.invokevirtual 178, 3) := by decide +kernel
theorem dX8_giveUp_54 : decode cX8_giveUp 54 = .ok (.aload_n 3, 1) := by decide +kernel
theorem dX8_giveUp_55 : decode cX8_giveUp 55 = .ok (.aconst_null, 1) := by decide +kernel
theorem dX8_giveUp_56 : decode cX8_giveUp 56 = .ok (.putfield 158, 3) := by decide +kernel
theorem dX8_giveUp_59 : decode cX8_giveUp 59 = .ok (.aload 4, 2) := by decide +kernel
theorem dX8_giveUp_61 : decode cX8_giveUp 61 = .ok (.getfield 96, 3) := by decide +kernel
theorem dX8_giveUp_64 : decode cX8_giveUp 64 = .ok (.ireturn, 1) := by decide +kernel
theorem dX8_left_0 : decode cX8_left 0 = .ok (.aload_n 0, 1) := by decide +kernel
theorem dX8_left_1 : decode cX8_left 1 = .ok (.iload_n 1, 1) := by decide +kernel
theorem dX8_left_2 : decode cX8_left 2 = .ok (.iload_n 2, 1) := by decide +kernel
theorem dX8_left_3 : decode cX8_left 3 = .ok (.invokevirtual 154, 3) := by decide +kernel
theorem dX8_left_6 : decode cX8_left 6 = .ok (.getfield 182, 3) := by decide +kernel
theorem dX8_left_9 : decode cX8_left 9 = .ok (.ireturn, 1) := by decide +kernel
theorem dX8_claimant_0 : decode cX8_claimant 0 = .ok (.aload_n 0, 1) := by decide +kernel
theorem dX8_claimant_1 : decode cX8_claimant 1 = .ok (.iload_n 1, 1) := by decide +kernel
theorem dX8_claimant_2 : decode cX8_claimant 2 = .ok (.iload_n 2, 1) := by decide +kernel
theorem dX8_claimant_3 : decode cX8_claimant 3 = .ok (.invokevirtual 154, 3) := by decide +kernel
theorem dX8_claimant_6 : decode cX8_claimant 6 = .ok (.getfield 158, 3) := by decide +kernel
theorem dX8_claimant_9 : decode cX8_claimant 9 = .ok (.astore_n 3, 1) := by decide +kernel
theorem dX8_claimant_10 : decode cX8_claimant 10 = .ok (.aload_n 3, 1) := by decide +kernel
theorem dX8_claimant_11 : decode cX8_claimant 11 = .ok (.ifnonnull 7, 3) := by decide +kernel
theorem dX8_claimant_14 : decode cX8_claimant 14 = .ok (.iconst (-1), 1) := by decide +kernel
theorem dX8_claimant_15 : decode cX8_claimant 15 = .ok (.goto 7, 3) := by decide +kernel
theorem dX8_claimant_18 : decode cX8_claimant 18 = .ok (.aload_n 3, 1) := by decide +kernel
theorem dX8_claimant_19 : decode cX8_claimant 19 = .ok (.getfield 96, 3) := by decide +kernel
theorem dX8_claimant_22 : decode cX8_claimant 22 = .ok (.ireturn, 1) := by decide +kernel
theorem dX8_amount_0 : decode cX8_amount 0 = .ok (.aload_n 0, 1) := by decide +kernel
theorem dX8_amount_1 : decode cX8_amount 1 = .ok (.iload_n 1, 1) := by decide +kernel
theorem dX8_amount_2 : decode cX8_amount 2 = .ok (.invokevirtual 116, 3) := by decide +kernel
theorem dX8_amount_5 : decode cX8_amount 5 = .ok (.getfield 126, 3) := by decide +kernel
theorem dX8_amount_8 : decode cX8_amount 8 = .ok (.ireturn, 1) := by decide +kernel
theorem dX8_trayCell_0 : decode cX8_trayCell 0 = .ok (.aload_n 0, 1) := by decide +kernel
theorem dX8_trayCell_1 : decode cX8_trayCell 1 = .ok (.iload_n 1, 1) := by decide +kernel
theorem dX8_trayCell_2 : decode cX8_trayCell 2 = .ok (.invokevirtual 116, 3) := by decide +kernel
theorem dX8_trayCell_5 : decode cX8_trayCell 5 = .ok (.astore_n 2, 1) := by decide +kernel
theorem dX8_trayCell_6 : decode cX8_trayCell 6 = .ok (.aload_n 0, 1) := by decide +kernel
theorem dX8_trayCell_7 : decode cX8_trayCell 7 = .ok (.getfield 10, 3) := by decide +kernel
theorem dX8_trayCell_10 : decode cX8_trayCell 10 = .ok (.aload_n 2, 1) := by decide +kernel
theorem dX8_trayCell_11 : decode cX8_trayCell 11 = .ok (.invokevirtual 120, 3) := by decide +kernel
theorem dX8_trayCell_14 : decode cX8_trayCell 14 = .ok (.astore_n 3, 1) := by decide +kernel
theorem dX8_trayCell_15 : decode cX8_trayCell 15 = .ok (.aload_n 3, 1) := by decide +kernel
theorem dX8_trayCell_16 : decode cX8_trayCell 16 = .ok (.ifnonnull 10, 3) := by decide +kernel
theorem dX8_trayCell_19 : decode cX8_trayCell 19 = .ok (.aload_n 2, 1) := by decide +kernel
theorem dX8_trayCell_20 : decode cX8_trayCell 20 = .ok (.getfield 185, 3) := by decide +kernel
theorem dX8_trayCell_23 : decode cX8_trayCell 23 = .ok (.goto 7, 3) := by decide +kernel
theorem dX8_trayCell_26 : decode cX8_trayCell 26 = .ok (.aload_n 3, 1) := by decide +kernel
theorem dX8_trayCell_27 : decode cX8_trayCell 27 = .ok (.getfield 188, 3) := by decide +kernel
theorem dX8_trayCell_30 : decode cX8_trayCell 30 = .ok (.ireturn, 1) := by decide +kernel
theorem dX8_addRobot_0 : decode cX8_addRobot 0 = .ok (.iload_n 1, 1) := by decide +kernel
theorem dX8_addRobot_1 : decode cX8_addRobot 1 = .ok (.invokestatic 36, 3) := by decide +kernel
theorem dX8_addRobot_4 : decode cX8_addRobot 4 = .ok (.iload_n 2, 1) := by decide +kernel
theorem dX8_addRobot_5 : decode cX8_addRobot 5 = .ok (.iconst 0, 1) := by decide +kernel
theorem dX8_addRobot_6 : decode cX8_addRobot 6 = .ok (.bipush 9, 2) := by decide +kernel
theorem dX8_addRobot_8 : decode cX8_addRobot 8 = .ok (.invokestatic 102, 3) := by decide +kernel
theorem dX8_addRobot_11 : decode cX8_addRobot 11 = .ok (.aload_n 0, 1) := by decide +kernel
theorem dX8_addRobot_12 : decode cX8_addRobot 12 = .ok (.getfield 10, 3) := by decide +kernel
theorem dX8_addRobot_15 : decode cX8_addRobot 15 = .ok (.getfield 40, 3) := by decide +kernel
theorem dX8_addRobot_18 : decode cX8_addRobot 18 = .ok (.iload_n 1, 1) := by decide +kernel
theorem dX8_addRobot_19 : decode cX8_addRobot 19 = .ok (.invokevirtual 44, 3) := by decide +kernel
theorem dX8_addRobot_22 : decode cX8_addRobot 22 = .ok (.ifCond .ne 29, 3) := by decide +kernel
theorem dX8_addRobot_25 : decode cX8_addRobot 25 = .ok (.aload_n 0, 1) := by decide +kernel
theorem dX8_addRobot_26 : decode cX8_addRobot 26 = .ok (.getfield 10, 3) := by decide +kernel
theorem dX8_addRobot_29 : decode cX8_addRobot 29 = .ok (.iload_n 1, 1) := by decide +kernel
theorem dX8_addRobot_30 : decode cX8_addRobot 30 = .ok (.invokevirtual 56, 3) := by decide +kernel
theorem dX8_addRobot_33 : decode cX8_addRobot 33 = .ok (.ifnonnull 18, 3) := by decide +kernel
theorem dX8_addRobot_36 : decode cX8_addRobot 36 = .ok (.aload_n 0, 1) := by decide +kernel
theorem dX8_addRobot_37 : decode cX8_addRobot 37 = .ok (.getfield 10, 3) := by decide +kernel
theorem dX8_addRobot_40 : decode cX8_addRobot 40 = .ok (.getfield 191, 3) := by decide +kernel
theorem dX8_addRobot_43 : decode cX8_addRobot 43 = .ok (.invokevirtual 81, 3) := by decide +kernel
theorem dX8_addRobot_46 : decode cX8_addRobot 46 = .ok (.bipush 6, 2) := by decide +kernel
theorem dX8_addRobot_48 : decode cX8_addRobot 48 = .ok (.if_icmp .lt 13, 3) := by decide +kernel
theorem dX8_addRobot_51 : decode cX8_addRobot 51 = .ok (.new 60, 3) := by decide +kernel
theorem dX8_addRobot_54 : decode cX8_addRobot 54 = .ok (.dup, 1) := by decide +kernel
theorem dX8_addRobot_55 : decode cX8_addRobot 55 = .ok (.ldc 194, 2) := by decide +kernel
theorem dX8_addRobot_57 : decode cX8_addRobot 57 = .ok (.invokespecial 64, 3) := by decide +kernel
theorem dX8_addRobot_60 : decode cX8_addRobot 60 = .ok (.athrow, 1) := by decide +kernel
theorem dX8_addRobot_61 : decode cX8_addRobot 61 = .ok (.new 174, 3) := by decide +kernel
theorem dX8_addRobot_64 : decode cX8_addRobot 64 = .ok (.dup, 1) := by decide +kernel
theorem dX8_addRobot_65 : decode cX8_addRobot 65 = .ok (.aload_n 0, 1) := by decide +kernel
theorem dX8_addRobot_66 : decode cX8_addRobot 66 = .ok (.getfield 10, 3) := by decide +kernel
theorem dX8_addRobot_69 : decode cX8_addRobot 69 = .ok (.getfield 191, 3) := by decide +kernel
theorem dX8_addRobot_72 : decode cX8_addRobot 72 = .ok (.invokevirtual 81, 3) := by decide +kernel
theorem dX8_addRobot_75 : decode cX8_addRobot 75 = .ok (.iload_n 1, 1) := by decide +kernel
theorem dX8_addRobot_76 : decode cX8_addRobot 76 = .ok (.iload_n 2, 1) := by decide +kernel
theorem dX8_addRobot_77 : decode cX8_addRobot 77 = .ok (.invokespecial 196, 3) := by decide +kernel
theorem dX8_addRobot_80 : decode cX8_addRobot 80 = .ok (.astore_n 3, 1) := by decide +kernel
theorem dX8_addRobot_81 : decode cX8_addRobot 81 = .ok (.aload_n 0, 1) := by decide +kernel
theorem dX8_addRobot_82 : decode cX8_addRobot 82 = .ok (.getfield 10, 3) := by decide +kernel
theorem dX8_addRobot_85 : decode cX8_addRobot 85 = .ok (.getfield 191, 3) := by decide +kernel
theorem dX8_addRobot_88 : decode cX8_addRobot 88 = .ok (.aload_n 3, 1) := by decide +kernel
theorem dX8_addRobot_89 : decode cX8_addRobot 89 = .ok (.invokevirtual 92, 3) := by decide +kernel
theorem dX8_addRobot_92 : decode cX8_addRobot 92 = .ok (.pop, 1) := by decide +kernel
theorem dX8_addRobot_93 : decode cX8_addRobot 93 = .ok (.aload_n 3, 1) := by decide +kernel
theorem dX8_addRobot_94 : decode cX8_addRobot 94 = .ok (.getfield 197, 3) := by decide +kernel
theorem dX8_addRobot_97 : decode cX8_addRobot 97 = .ok (.ireturn, 1) := by decide +kernel
theorem dX8_die_0 : decode cX8_die 0 = .ok (.aload_n 0, 1) := by decide +kernel
theorem dX8_die_1 : decode cX8_die 1 = .ok (.iload_n 1, 1) := by decide +kernel
theorem dX8_die_2 : decode cX8_die 2 = .ok (.invokevirtual 198, 3) := by decide +kernel
theorem dX8_die_5 : decode cX8_die 5 = .ok (.astore_n 2, 1) := by decide +kernel
theorem dX8_die_6 : decode cX8_die 6 = .ok (.aload_n 2, 1) := by decide +kernel
theorem dX8_die_7 : decode cX8_die 7 = .ok (.getfield 201, 3) := by decide +kernel
theorem dX8_die_10 : decode cX8_die 10 = .ok (.iconst 5, 1) := by decide +kernel
theorem dX8_die_11 : decode cX8_die 11 = .ok (.if_icmp .ne 13, 3) := by decide +kernel
theorem dX8_die_14 : decode cX8_die 14 = .ok (.new 60, 3) := by decide +kernel
theorem dX8_die_17 : decode cX8_die 17 = .ok (.dup, 1) := by decide +kernel
theorem dX8_die_18 : decode cX8_die 18 = .ok (.ldc 204, 2) := by decide +kernel
theorem dX8_die_20 : decode cX8_die 20 = .ok (.invokespecial 64, 3) := by decide +kernel
theorem dX8_die_23 : decode cX8_die 23 = .ok (.athrow, 1) := by decide +kernel
theorem dX8_die_24 : decode cX8_die 24 = .ok (.aload_n 2, 1) := by decide +kernel
theorem dX8_die_25 : decode cX8_die 25 = .ok (.invokevirtual 206, 3) := by decide +kernel
theorem dX8_die_28 : decode cX8_die 28 = .ok (.aload_n 0, 1) := by decide +kernel
theorem dX8_die_29 : decode cX8_die 29 = .ok (.getfield 10, 3) := by decide +kernel
theorem dX8_die_32 : decode cX8_die 32 = .ok (.getfield 40, 3) := by decide +kernel
theorem dX8_die_35 : decode cX8_die 35 = .ok (.aload_n 2, 1) := by decide +kernel
theorem dX8_die_36 : decode cX8_die 36 = .ok (.getfield 188, 3) := by decide +kernel
theorem dX8_die_39 : decode cX8_die 39 = .ok (.iconst 1, 1) := by decide +kernel
theorem dX8_die_40 : decode cX8_die 40 = .ok (.invokevirtual 209, 3) := by decide +kernel
theorem dX8_die_43 : decode cX8_die 43 = .ok (.aload_n 2, 1) := by decide +kernel
theorem dX8_die_44 : decode cX8_die 44 = .ok (.getfield 212, 3) := by decide +kernel
theorem dX8_die_47 : decode cX8_die 47 = .ok (.invokestatic 216, 3) := by decide +kernel
theorem dX8_die_50 : decode cX8_die 50 = .ok (.ireturn, 1) := by decide +kernel
theorem dX8_repair_0 : decode cX8_repair 0 = .ok (.aload_n 0, 1) := by decide +kernel
theorem dX8_repair_1 : decode cX8_repair 1 = .ok (.iload_n 1, 1) := by decide +kernel
theorem dX8_repair_2 : decode cX8_repair 2 = .ok (.invokevirtual 198, 3) := by decide +kernel
theorem dX8_repair_5 : decode cX8_repair 5 = .ok (.astore_n 2, 1) := by decide +kernel
theorem dX8_repair_6 : decode cX8_repair 6 = .ok (.aload_n 2, 1) := by decide +kernel
theorem dX8_repair_7 : decode cX8_repair 7 = .ok (.getfield 201, 3) := by decide +kernel
theorem dX8_repair_10 : decode cX8_repair 10 = .ok (.iconst 5, 1) := by decide +kernel
theorem dX8_repair_11 : decode cX8_repair 11 = .ok (.if_icmp .eq 13, 3) := by decide +kernel
theorem dX8_repair_14 : decode cX8_repair 14 = .ok (.new 60, 3) := by decide +kernel
theorem dX8_repair_17 : decode cX8_repair 17 = .ok (.dup, 1) := by decide +kernel
theorem dX8_repair_18 : decode cX8_repair 18 = .ok (.ldc 220, 2) := by decide +kernel
theorem dX8_repair_20 : decode cX8_repair 20 = .ok (.invokespecial 64, 3) := by decide +kernel
theorem dX8_repair_23 : decode cX8_repair 23 = .ok (.athrow, 1) := by decide +kernel
theorem dX8_repair_24 : decode cX8_repair 24 = .ok (.aload_n 2, 1) := by decide +kernel
theorem dX8_repair_25 : decode cX8_repair 25 = .ok (.aload_n 2, 1) := by decide +kernel
theorem dX8_repair_26 : decode cX8_repair 26 = .ok (.getfield 212, 3) := by decide +kernel
theorem dX8_repair_29 : decode cX8_repair 29 = .ok (.ifnonnull 7, 3) := by decide +kernel
theorem dX8_repair_32 : decode cX8_repair 32 = .ok (.iconst 0, 1) := by decide +kernel
theorem dX8_repair_33 : decode cX8_repair 33 = .ok (.goto 4, 3) := by decide +kernel
theorem dX8_repair_36 : decode cX8_repair 36 = .ok (.iconst 4, 1) := by decide +kernel
theorem dX8_repair_37 : decode cX8_repair 37 = .ok (.invokevirtual 222, 3) := by decide +kernel
theorem dX8_repair_40 : decode cX8_repair 40 = .ok (.aload_n 0, 1) := by decide +kernel
theorem dX8_repair_41 : decode cX8_repair 41 = .ok (.getfield 10, 3) := by decide +kernel
theorem dX8_repair_44 : decode cX8_repair 44 = .ok (.getfield 40, 3) := by decide +kernel
theorem dX8_repair_47 : decode cX8_repair 47 = .ok (.aload_n 2, 1) := by decide +kernel
theorem dX8_repair_48 : decode cX8_repair 48 = .ok (.getfield 188, 3) := by decide +kernel
theorem dX8_repair_51 : decode cX8_repair 51 = .ok (.iconst 0, 1) := by decide +kernel
theorem dX8_repair_52 : decode cX8_repair 52 = .ok (.invokevirtual 209, 3) := by decide +kernel
theorem dX8_repair_55 : decode cX8_repair 55 = .ok (.aload_n 2, 1) := by decide +kernel
theorem dX8_repair_56 : decode cX8_repair 56 = .ok (.getfield 201, 3) := by decide +kernel
theorem dX8_repair_59 : decode cX8_repair 59 = .ok (.ireturn, 1) := by decide +kernel
theorem dX8_robotIn_0 : decode cX8_robotIn 0 = .ok (.iload_n 1, 1) := by decide +kernel
theorem dX8_robotIn_1 : decode cX8_robotIn 1 = .ok (.invokestatic 36, 3) := by decide +kernel
theorem dX8_robotIn_4 : decode cX8_robotIn 4 = .ok (.aload_n 0, 1) := by decide +kernel
theorem dX8_robotIn_5 : decode cX8_robotIn 5 = .ok (.getfield 10, 3) := by decide +kernel
theorem dX8_robotIn_8 : decode cX8_robotIn 8 = .ok (.iload_n 1, 1) := by decide +kernel
theorem dX8_robotIn_9 : decode cX8_robotIn 9 = .ok (.invokevirtual 56, 3) := by decide +kernel
theorem dX8_robotIn_12 : decode cX8_robotIn 12 = .ok (.astore_n 2, 1) := by decide +kernel
theorem dX8_robotIn_13 : decode cX8_robotIn 13 = .ok (.aload_n 2, 1) := by decide +kernel
theorem dX8_robotIn_14 : decode cX8_robotIn 14 = .ok (.ifnonnull 7, 3) := by decide +kernel
theorem dX8_robotIn_17 : decode cX8_robotIn 17 = .ok (.iconst (-1), 1) := by decide +kernel
theorem dX8_robotIn_18 : decode cX8_robotIn 18 = .ok (.goto 7, 3) := by decide +kernel
theorem dX8_robotIn_21 : decode cX8_robotIn 21 = .ok (.aload_n 2, 1) := by decide +kernel
theorem dX8_robotIn_22 : decode cX8_robotIn 22 = .ok (.getfield 197, 3) := by decide +kernel
theorem dX8_robotIn_25 : decode cX8_robotIn 25 = .ok (.ireturn, 1) := by decide +kernel
theorem dX8_cellOf_0 : decode cX8_cellOf 0 = .ok (.aload_n 0, 1) := by decide +kernel
theorem dX8_cellOf_1 : decode cX8_cellOf 1 = .ok (.iload_n 1, 1) := by decide +kernel
theorem dX8_cellOf_2 : decode cX8_cellOf 2 = .ok (.invokevirtual 198, 3) := by decide +kernel
theorem dX8_cellOf_5 : decode cX8_cellOf 5 = .ok (.getfield 188, 3) := by decide +kernel
theorem dX8_cellOf_8 : decode cX8_cellOf 8 = .ok (.ireturn, 1) := by decide +kernel
theorem dX8_state_0 : decode cX8_state 0 = .ok (.aload_n 0, 1) := by decide +kernel
theorem dX8_state_1 : decode cX8_state 1 = .ok (.iload_n 1, 1) := by decide +kernel
theorem dX8_state_2 : decode cX8_state 2 = .ok (.invokevirtual 198, 3) := by decide +kernel
theorem dX8_state_5 : decode cX8_state 5 = .ok (.getfield 201, 3) := by decide +kernel
theorem dX8_state_8 : decode cX8_state 8 = .ok (.ireturn, 1) := by decide +kernel
theorem dX8_trayOf_0 : decode cX8_trayOf 0 = .ok (.aload_n 0, 1) := by decide +kernel
theorem dX8_trayOf_1 : decode cX8_trayOf 1 = .ok (.iload_n 1, 1) := by decide +kernel
theorem dX8_trayOf_2 : decode cX8_trayOf 2 = .ok (.invokevirtual 198, 3) := by decide +kernel
theorem dX8_trayOf_5 : decode cX8_trayOf 5 = .ok (.getfield 212, 3) := by decide +kernel
theorem dX8_trayOf_8 : decode cX8_trayOf 8 = .ok (.invokestatic 216, 3) := by decide +kernel
theorem dX8_trayOf_11 : decode cX8_trayOf 11 = .ok (.ireturn, 1) := by decide +kernel
theorem dX8_asked_0 : decode cX8_asked 0 = .ok (.aload_n 0, 1) := by decide +kernel
theorem dX8_asked_1 : decode cX8_asked 1 = .ok (.iload_n 1, 1) := by decide +kernel
theorem dX8_asked_2 : decode cX8_asked 2 = .ok (.invokevirtual 198, 3) := by decide +kernel
theorem dX8_asked_5 : decode cX8_asked 5 = .ok (.getfield 225, 3) := by decide +kernel
theorem dX8_asked_8 : decode cX8_asked 8 = .ok (.ireturn, 1) := by decide +kernel
theorem dX8_tick_0 : decode cX8_tick 0 = .ok (.iload_n 1, 1) := by decide +kernel
theorem dX8_tick_1 : decode cX8_tick 1 = .ok (.iconst 1, 1) := by decide +kernel
theorem dX8_tick_2 : decode cX8_tick 2 = .ok (.bipush 50, 2) := by decide +kernel
theorem dX8_tick_4 : decode cX8_tick 4 = .ok (.invokestatic 102, 3) := by decide +kernel
theorem dX8_tick_7 : decode cX8_tick 7 = .ok (.aload_n 0, 1) := by decide +kernel
theorem dX8_tick_8 : decode cX8_tick 8 = .ok (.getfield 32, 3) := by decide +kernel
theorem dX8_tick_11 : decode cX8_tick 11 = .ok (.iload_n 1, 1) := by decide +kernel
theorem dX8_tick_12 : decode cX8_tick 12 = .ok (.iadd, 1) := by decide +kernel
theorem dX8_tick_13 : decode cX8_tick 13 = .ok (.sipush 3000, 3) := by decide +kernel
theorem dX8_tick_16 : decode cX8_tick 16 = .ok (.if_icmp .le 13, 3) := by decide +kernel
theorem dX8_tick_19 : decode cX8_tick 19 = .ok (.new 60, 3) := by decide +kernel
theorem dX8_tick_22 : decode cX8_tick 22 = .ok (.dup, 1) := by decide +kernel
theorem dX8_tick_23 : decode cX8_tick 23 = .ok (.ldc 228, 2) := by decide +kernel
theorem dX8_tick_25 : decode cX8_tick 25 = .ok (.invokespecial 64, 3) := by decide +kernel
theorem dX8_tick_28 : decode cX8_tick 28 = .ok (.athrow, 1) := by decide +kernel
theorem dX8_tick_29 : decode cX8_tick 29 = .ok (.aload_n 0, 1) := by decide +kernel
theorem dX8_tick_30 : decode cX8_tick 30 = .ok (.getfield 29, 3) := by decide +kernel
theorem dX8_tick_33 : decode cX8_tick 33 = .ok (.invokevirtual 81, 3) := by decide +kernel
theorem dX8_tick_36 : decode cX8_tick 36 = .ok (.istore_n 2, 1) := by decide +kernel
theorem dX8_tick_37 : decode cX8_tick 37 = .ok (.iconst 0, 1) := by decide +kernel
theorem dX8_tick_38 : decode cX8_tick 38 = .ok (.istore_n 3, 1) := by decide +kernel
theorem dX8_tick_39 : decode cX8_tick 39 = .ok (.iload_n 3, 1) := by decide +kernel
theorem dX8_tick_40 : decode cX8_tick 40 = .ok (.iload_n 1, 1) := by decide +kernel
theorem dX8_tick_41 : decode cX8_tick 41 = .ok (.if_icmp .ge 66, 3) := by decide +kernel
theorem dX8_tick_44 : decode cX8_tick 44 = .ok (.aload_n 0, 1) := by decide +kernel
theorem dX8_tick_45 : decode cX8_tick 45 = .ok (.dup, 1) := by decide +kernel
theorem dX8_tick_46 : decode cX8_tick 46 = .ok (.getfield 32, 3) := by decide +kernel
theorem dX8_tick_49 : decode cX8_tick 49 = .ok (.iconst 1, 1) := by decide +kernel
theorem dX8_tick_50 : decode cX8_tick 50 = .ok (.iadd, 1) := by decide +kernel
theorem dX8_tick_51 : decode cX8_tick 51 = .ok (.putfield 32, 3) := by decide +kernel
theorem dX8_tick_54 : decode cX8_tick 54 = .ok (.aload_n 0, 1) := by decide +kernel
theorem dX8_tick_55 : decode cX8_tick 55 = .ok (.invokevirtual 230, 3) := by decide +kernel
theorem dX8_tick_58 : decode cX8_tick 58 = .ok (.aload_n 0, 1) := by decide +kernel
theorem dX8_tick_59 : decode cX8_tick 59 = .ok (.invokevirtual 233, 3) := by decide +kernel
theorem dX8_tick_62 : decode cX8_tick 62 = .ok (.aload_n 0, 1) := by decide +kernel
theorem dX8_tick_63 : decode cX8_tick 63 = .ok (.getfield 10, 3) := by decide +kernel
theorem dX8_tick_66 : decode cX8_tick 66 = .ok (.aload_n 0, 1) := by decide +kernel
theorem dX8_tick_67 : decode cX8_tick 67 = .ok (.getfield 32, 3) := by decide +kernel
theorem dX8_tick_70 : decode cX8_tick 70 = .ok (.invokevirtual 236, 3) := by decide +kernel
theorem dX8_tick_73 : decode cX8_tick 73 = .ok (.aload_n 0, 1) := by decide +kernel
theorem dX8_tick_74 : decode cX8_tick 74 = .ok (.getfield 10, 3) := by decide +kernel
theorem dX8_tick_77 : decode cX8_tick 77 = .ok (.invokevirtual 239, 3) := by decide +kernel
theorem dX8_tick_80 : decode cX8_tick 80 = .ok (.aload_n 0, 1) := by decide +kernel
theorem dX8_tick_81 : decode cX8_tick 81 = .ok (.getfield 10, 3) := by decide +kernel
theorem dX8_tick_84 : decode cX8_tick 84 = .ok (.invokevirtual 242, 3) := by decide +kernel
theorem dX8_tick_87 : decode cX8_tick 87 = .ok (.aload_n 0, 1) := by decide +kernel
theorem dX8_tick_88 : decode cX8_tick 88 = .ok (.getfield 10, 3) := by decide +kernel
theorem dX8_tick_91 : decode cX8_tick 91 = .ok (.invokevirtual 245, 3) := by decide +kernel
theorem dX8_tick_94 : decode cX8_tick 94 = .ok (.aload_n 0, 1) := by decide +kernel
theorem dX8_tick_95 : decode cX8_tick 95 = .ok (.getfield 10, 3) := by decide +kernel
theorem dX8_tick_98 : decode cX8_tick 98 = .ok (.invokevirtual 248, 3) := by decide +kernel
theorem dX8_tick_101 : decode cX8_tick 101 = .ok (.iinc 3 1, 3) := by decide +kernel
theorem dX8_tick_104 : decode cX8_tick 104 = .ok (.goto (-65), 3) := by decide +kernel
theorem dX8_tick_107 : decode cX8_tick 107 = .ok (.aload_n 0, 1) := by decide +kernel
theorem dX8_tick_108 : decode cX8_tick 108 = .ok (.getfield 29, 3) := by decide +kernel
theorem dX8_tick_111 : decode cX8_tick 111 = .ok (.invokevirtual 81, 3) := by decide +kernel
theorem dX8_tick_114 : decode cX8_tick 114 = .ok (.iload_n 2, 1) := by decide +kernel
theorem dX8_tick_115 : decode cX8_tick 115 = .ok (.isub, 1) := by decide +kernel
theorem dX8_tick_116 : decode cX8_tick 116 = .ok (.ireturn, 1) := by decide +kernel
theorem dX8_time_0 : decode cX8_time 0 = .ok (.aload_n 0, 1) := by decide +kernel
theorem dX8_time_1 : decode cX8_time 1 = .ok (.getfield 32, 3) := by decide +kernel
theorem dX8_time_4 : decode cX8_time 4 = .ok (.ireturn, 1) := by decide +kernel
theorem dX8_steps_0 : decode cX8_steps 0 = .ok (.aload_n 0, 1) := by decide +kernel
theorem dX8_steps_1 : decode cX8_steps 1 = .ok (.getfield 10, 3) := by decide +kernel
theorem dX8_steps_4 : decode cX8_steps 4 = .ok (.getfield 251, 3) := by decide +kernel
theorem dX8_steps_7 : decode cX8_steps 7 = .ok (.ireturn, 1) := by decide +kernel
theorem dX8_rings_0 : decode cX8_rings 0 = .ok (.aload_n 0, 1) := by decide +kernel
theorem dX8_rings_1 : decode cX8_rings 1 = .ok (.getfield 10, 3) := by decide +kernel
theorem dX8_rings_4 : decode cX8_rings 4 = .ok (.getfield 254, 3) := by decide +kernel
theorem dX8_rings_7 : decode cX8_rings 7 = .ok (.ireturn, 1) := by decide +kernel
theorem dX8_yields_0 : decode cX8_yields 0 = .ok (.aload_n 0, 1) := by decide +kernel
theorem dX8_yields_1 : decode cX8_yields 1 = .ok (.getfield 10, 3) := by decide +kernel
theorem dX8_yields_4 : decode cX8_yields 4 = .ok (.getfield 257, 3) := by decide +kernel
theorem dX8_yields_7 : decode cX8_yields 7 = .ok (.ireturn, 1) := by decide +kernel
theorem dX8_knots_0 : decode cX8_knots 0 = .ok (.aload_n 0, 1) := by decide +kernel
theorem dX8_knots_1 : decode cX8_knots 1 = .ok (.getfield 10, 3) := by decide +kernel
theorem dX8_knots_4 : decode cX8_knots 4 = .ok (.getfield 260, 3) := by decide +kernel
theorem dX8_knots_7 : decode cX8_knots 7 = .ok (.ireturn, 1) := by decide +kernel
theorem dX8_stock_0 : decode cX8_stock 0 = .ok (.iload_n 1, 1) := by decide +kernel
theorem dX8_stock_1 : decode cX8_stock 1 = .ok (.invokestatic 99, 3) := by decide +kernel
theorem dX8_stock_4 : decode cX8_stock 4 = .ok (.iconst 0, 1) := by decide +kernel
theorem dX8_stock_5 : decode cX8_stock 5 = .ok (.istore_n 2, 1) := by decide +kernel
theorem dX8_stock_6 : decode cX8_stock 6 = .ok (.iconst 0, 1) := by decide +kernel
theorem dX8_stock_7 : decode cX8_stock 7 = .ok (.istore_n 3, 1) := by decide +kernel
theorem dX8_stock_8 : decode cX8_stock 8 = .ok (.iload_n 3, 1) := by decide +kernel
theorem dX8_stock_9 : decode cX8_stock 9 = .ok (.aload_n 0, 1) := by decide +kernel
theorem dX8_stock_10 : decode cX8_stock 10 = .ok (.getfield 23, 3) := by decide +kernel
theorem dX8_stock_13 : decode cX8_stock 13 = .ok (.invokevirtual 81, 3) := by decide +kernel
theorem dX8_stock_16 : decode cX8_stock 16 = .ok (.if_icmp .ge 39, 3) := by decide +kernel
theorem dX8_stock_19 : decode cX8_stock 19 = .ok (.aload_n 0, 1) := by decide +kernel
theorem dX8_stock_20 : decode cX8_stock 20 = .ok (.getfield 23, 3) := by decide +kernel
theorem dX8_stock_23 : decode cX8_stock 23 = .ok (.iload_n 3, 1) := by decide +kernel
theorem dX8_stock_24 : decode cX8_stock 24 = .ok (.invokevirtual 263, 3) := by decide +kernel
theorem dX8_stock_27 : decode cX8_stock 27 = .ok (.checkcast 108, 3) := by decide +kernel
theorem dX8_stock_30 : decode cX8_stock 30 = .ok (.astore 4, 2) := by decide +kernel
theorem dX8_stock_32 : decode cX8_stock 32 = .ok (.aload 4, 2) := by decide +kernel
theorem dX8_stock_34 : decode cX8_stock 34 = .ok (.getfield 267, 3) := by decide +kernel
theorem dX8_stock_37 : decode cX8_stock 37 = .ok (.iload_n 1, 1) := by decide +kernel
theorem dX8_stock_38 : decode cX8_stock 38 = .ok (.if_icmp .ne 11, 3) := by decide +kernel
theorem dX8_stock_41 : decode cX8_stock 41 = .ok (.iload_n 2, 1) := by decide +kernel
theorem dX8_stock_42 : decode cX8_stock 42 = .ok (.aload 4, 2) := by decide +kernel
theorem dX8_stock_44 : decode cX8_stock 44 = .ok (.getfield 126, 3) := by decide +kernel
theorem dX8_stock_47 : decode cX8_stock 47 = .ok (.iadd, 1) := by decide +kernel
theorem dX8_stock_48 : decode cX8_stock 48 = .ok (.istore_n 2, 1) := by decide +kernel
theorem dX8_stock_49 : decode cX8_stock 49 = .ok (.iinc 3 1, 3) := by decide +kernel
theorem dX8_stock_52 : decode cX8_stock 52 = .ok (.goto (-44), 3) := by decide +kernel
theorem dX8_stock_55 : decode cX8_stock 55 = .ok (.iload_n 2, 1) := by decide +kernel
theorem dX8_stock_56 : decode cX8_stock 56 = .ok (.ireturn, 1) := by decide +kernel
theorem dX8_stockByPicks_0 : decode cX8_stockByPicks 0 = .ok (.iload_n 1, 1) := by decide +kernel
theorem dX8_stockByPicks_1 : decode cX8_stockByPicks 1 = .ok (.invokestatic 99, 3) := by decide +kernel
theorem dX8_stockByPicks_4 : decode cX8_stockByPicks 4 = .ok (.iconst 0, 1) := by decide +kernel
theorem dX8_stockByPicks_5 : decode cX8_stockByPicks 5 = .ok (.istore_n 2, 1) := by decide +kernel
theorem dX8_stockByPicks_6 : decode cX8_stockByPicks 6 = .ok (.iconst 0, 1) := by decide +kernel
theorem dX8_stockByPicks_7 : decode cX8_stockByPicks 7 = .ok (.istore_n 3, 1) := by decide +kernel
theorem dX8_stockByPicks_8 : decode cX8_stockByPicks 8 = .ok (.iload_n 3, 1) := by decide +kernel
theorem dX8_stockByPicks_9 : decode cX8_stockByPicks 9 = .ok (.aload_n 0, 1) := by decide +kernel
theorem dX8_stockByPicks_10 : decode cX8_stockByPicks 10 = .ok (.getfield 23, 3) := by decide +kernel
theorem dX8_stockByPicks_13 : decode cX8_stockByPicks 13 = .ok (.invokevirtual 81, 3) := by decide +kernel
theorem dX8_stockByPicks_16 : decode cX8_stockByPicks 16 = .ok (.if_icmp .ge 39, 3) := by decide +kernel
theorem dX8_stockByPicks_19 : decode cX8_stockByPicks 19 = .ok (.aload_n 0, 1) := by decide +kernel
theorem dX8_stockByPicks_20 : decode cX8_stockByPicks 20 = .ok (.getfield 23, 3) := by decide +kernel
theorem dX8_stockByPicks_23 : decode cX8_stockByPicks 23 = .ok (.iload_n 3, 1) := by decide +kernel
theorem dX8_stockByPicks_24 : decode cX8_stockByPicks 24 = .ok (.invokevirtual 263, 3) := by decide +kernel
theorem dX8_stockByPicks_27 : decode cX8_stockByPicks 27 = .ok (.checkcast 108, 3) := by decide +kernel
theorem dX8_stockByPicks_30 : decode cX8_stockByPicks 30 = .ok (.astore 4, 2) := by decide +kernel
theorem dX8_stockByPicks_32 : decode cX8_stockByPicks 32 = .ok (.aload 4, 2) := by decide +kernel
theorem dX8_stockByPicks_34 : decode cX8_stockByPicks 34 = .ok (.getfield 267, 3) := by decide +kernel
theorem dX8_stockByPicks_37 : decode cX8_stockByPicks 37 = .ok (.iload_n 1, 1) := by decide +kernel
theorem dX8_stockByPicks_38 : decode cX8_stockByPicks 38 = .ok (.if_icmp .ne 11, 3) := by decide +kernel
theorem dX8_stockByPicks_41 : decode cX8_stockByPicks 41 = .ok (.iload_n 2, 1) := by decide +kernel
theorem dX8_stockByPicks_42 : decode cX8_stockByPicks 42 = .ok (.aload 4, 2) := by decide +kernel
theorem dX8_stockByPicks_44 : decode cX8_stockByPicks 44 = .ok (.getfield 270, 3) := by decide +kernel
theorem dX8_stockByPicks_47 : decode cX8_stockByPicks 47 = .ok (.iadd, 1) := by decide +kernel
theorem dX8_stockByPicks_48 : decode cX8_stockByPicks 48 = .ok (.istore_n 2, 1) := by decide +kernel
theorem dX8_stockByPicks_49 : decode cX8_stockByPicks 49 = .ok (.iinc 3 1, 3) := by decide +kernel
theorem dX8_stockByPicks_52 : decode cX8_stockByPicks 52 = .ok (.goto (-44), 3) := by decide +kernel
theorem dX8_stockByPicks_55 : decode cX8_stockByPicks 55 = .ok (.iconst 0, 1) := by decide +kernel
theorem dX8_stockByPicks_56 : decode cX8_stockByPicks 56 = .ok (.istore_n 3, 1) := by decide +kernel
theorem dX8_stockByPicks_57 : decode cX8_stockByPicks 57 = .ok (.iload_n 3, 1) := by decide +kernel
theorem dX8_stockByPicks_58 : decode cX8_stockByPicks 58 = .ok (.aload_n 0, 1) := by decide +kernel
theorem dX8_stockByPicks_59 : decode cX8_stockByPicks 59 = .ok (.getfield 29, 3) := by decide +kernel
theorem dX8_stockByPicks_62 : decode cX8_stockByPicks 62 = .ok (.invokevirtual 81, 3) := by decide +kernel
theorem dX8_stockByPicks_65 : decode cX8_stockByPicks 65 = .ok (.if_icmp .ge 33, 3) := by decide +kernel
theorem dX8_stockByPicks_68 : decode cX8_stockByPicks 68 = .ok (.aload_n 0, 1) := by decide +kernel
theorem dX8_stockByPicks_69 : decode cX8_stockByPicks 69 = .ok (.getfield 29, 3) := by decide +kernel
theorem dX8_stockByPicks_72 : decode cX8_stockByPicks 72 = .ok (.iload_n 3, 1) := by decide +kernel
theorem dX8_stockByPicks_73 : decode cX8_stockByPicks 73 = .ok (.invokevirtual 263, 3) := by decide +kernel
theorem dX8_stockByPicks_76 : decode cX8_stockByPicks 76 = .ok (.checkcast 273, 3) := by decide +kernel
theorem dX8_stockByPicks_79 : decode cX8_stockByPicks 79 = .ok (.getfield 275, 3) := by decide +kernel
theorem dX8_stockByPicks_82 : decode cX8_stockByPicks 82 = .ok (.getfield 267, 3) := by decide +kernel
theorem dX8_stockByPicks_85 : decode cX8_stockByPicks 85 = .ok (.iload_n 1, 1) := by decide +kernel
theorem dX8_stockByPicks_86 : decode cX8_stockByPicks 86 = .ok (.if_icmp .ne 6, 3) := by decide +kernel
theorem dX8_stockByPicks_89 : decode cX8_stockByPicks 89 = .ok (.iinc 2 (-1), 3) := by decide +kernel
theorem dX8_stockByPicks_92 : decode cX8_stockByPicks 92 = .ok (.iinc 3 1, 3) := by decide +kernel
theorem dX8_stockByPicks_95 : decode cX8_stockByPicks 95 = .ok (.goto (-38), 3) := by decide +kernel
theorem dX8_stockByPicks_98 : decode cX8_stockByPicks 98 = .ok (.iload_n 2, 1) := by decide +kernel
theorem dX8_stockByPicks_99 : decode cX8_stockByPicks 99 = .ok (.ireturn, 1) := by decide +kernel
theorem dX8_picks_0 : decode cX8_picks 0 = .ok (.aload_n 0, 1) := by decide +kernel
theorem dX8_picks_1 : decode cX8_picks 1 = .ok (.getfield 29, 3) := by decide +kernel
theorem dX8_picks_4 : decode cX8_picks 4 = .ok (.invokevirtual 81, 3) := by decide +kernel
theorem dX8_picks_7 : decode cX8_picks 7 = .ok (.ireturn, 1) := by decide +kernel
theorem dX8_pickedFrom_0 : decode cX8_pickedFrom 0 = .ok (.aload_n 0, 1) := by decide +kernel
theorem dX8_pickedFrom_1 : decode cX8_pickedFrom 1 = .ok (.iload_n 1, 1) := by decide +kernel
theorem dX8_pickedFrom_2 : decode cX8_pickedFrom 2 = .ok (.invokevirtual 276, 3) := by decide +kernel
theorem dX8_pickedFrom_5 : decode cX8_pickedFrom 5 = .ok (.getfield 275, 3) := by decide +kernel
theorem dX8_pickedFrom_8 : decode cX8_pickedFrom 8 = .ok (.getfield 115, 3) := by decide +kernel
theorem dX8_pickedFrom_11 : decode cX8_pickedFrom 11 = .ok (.ireturn, 1) := by decide +kernel
theorem dX8_pickedFor_0 : decode cX8_pickedFor 0 = .ok (.aload_n 0, 1) := by decide +kernel
theorem dX8_pickedFor_1 : decode cX8_pickedFor 1 = .ok (.iload_n 1, 1) := by decide +kernel
theorem dX8_pickedFor_2 : decode cX8_pickedFor 2 = .ok (.invokevirtual 276, 3) := by decide +kernel
theorem dX8_pickedFor_5 : decode cX8_pickedFor 5 = .ok (.getfield 280, 3) := by decide +kernel
theorem dX8_pickedFor_8 : decode cX8_pickedFor 8 = .ok (.getfield 135, 3) := by decide +kernel
theorem dX8_pickedFor_11 : decode cX8_pickedFor 11 = .ok (.ireturn, 1) := by decide +kernel
theorem dX8_pickedIn_0 : decode cX8_pickedIn 0 = .ok (.aload_n 0, 1) := by decide +kernel
theorem dX8_pickedIn_1 : decode cX8_pickedIn 1 = .ok (.iload_n 1, 1) := by decide +kernel
theorem dX8_pickedIn_2 : decode cX8_pickedIn 2 = .ok (.invokevirtual 276, 3) := by decide +kernel
theorem dX8_pickedIn_5 : decode cX8_pickedIn 5 = .ok (.getfield 284, 3) := by decide +kernel
theorem dX8_pickedIn_8 : decode cX8_pickedIn 8 = .ok (.ireturn, 1) := by decide +kernel
theorem dX8_requireRange_0 : decode cX8_requireRange 0 = .ok (.iload_n 0, 1) := by decide +kernel
theorem dX8_requireRange_1 : decode cX8_requireRange 1 = .ok (.iload_n 1, 1) := by decide +kernel
theorem dX8_requireRange_2 : decode cX8_requireRange 2 = .ok (.if_icmp .lt 8, 3) := by decide +kernel
theorem dX8_requireRange_5 : decode cX8_requireRange 5 = .ok (.iload_n 0, 1) := by decide +kernel
theorem dX8_requireRange_6 : decode cX8_requireRange 6 = .ok (.iload_n 2, 1) := by decide +kernel
theorem dX8_requireRange_7 : decode cX8_requireRange 7 = .ok (.if_icmp .le 14, 3) := by decide +kernel
theorem dX8_requireRange_10 : decode cX8_requireRange 10 = .ok (.new 287, 3) := by decide +kernel
theorem dX8_requireRange_13 : decode cX8_requireRange 13 = .ok (.dup, 1) := by decide +kernel
theorem dX8_requireRange_14 : decode cX8_requireRange 14 = .ok (.ldc_w 289, 3) := by decide +kernel
theorem dX8_requireRange_17 : decode cX8_requireRange 17 = .ok (.invokespecial 291, 3) := by decide +kernel
theorem dX8_requireRange_20 : decode cX8_requireRange 20 = .ok (.athrow, 1) := by decide +kernel
theorem dX8_requireRange_21 : decode cX8_requireRange 21 = .ok (.return_, 1) := by decide +kernel
theorem dX8_requireCell_0 : decode cX8_requireCell 0 = .ok (.iload_n 0, 1) := by decide +kernel
theorem dX8_requireCell_1 : decode cX8_requireCell 1 = .ok (.iconst 0, 1) := by decide +kernel
theorem dX8_requireCell_2 : decode cX8_requireCell 2 = .ok (.bipush 63, 2) := by decide +kernel
theorem dX8_requireCell_4 : decode cX8_requireCell 4 = .ok (.invokestatic 102, 3) := by decide +kernel
theorem dX8_requireCell_7 : decode cX8_requireCell 7 = .ok (.return_, 1) := by decide +kernel
theorem dX8_requireGood_0 : decode cX8_requireGood 0 = .ok (.iload_n 0, 1) := by decide +kernel
theorem dX8_requireGood_1 : decode cX8_requireGood 1 = .ok (.iconst 0, 1) := by decide +kernel
theorem dX8_requireGood_2 : decode cX8_requireGood 2 = .ok (.iconst 5, 1) := by decide +kernel
theorem dX8_requireGood_3 : decode cX8_requireGood 3 = .ok (.invokestatic 102, 3) := by decide +kernel
theorem dX8_requireGood_6 : decode cX8_requireGood 6 = .ok (.return_, 1) := by decide +kernel
theorem dX8_requireNumber_0 : decode cX8_requireNumber 0 = .ok (.iload_n 0, 1) := by decide +kernel
theorem dX8_requireNumber_1 : decode cX8_requireNumber 1 = .ok (.ifCond .lt 8, 3) := by decide +kernel
theorem dX8_requireNumber_4 : decode cX8_requireNumber 4 = .ok (.iload_n 0, 1) := by decide +kernel
theorem dX8_requireNumber_5 : decode cX8_requireNumber 5 = .ok (.iload_n 1, 1) := by decide +kernel
theorem dX8_requireNumber_6 : decode cX8_requireNumber 6 = .ok (.if_icmp .lt 14, 3) := by decide +kernel
theorem dX8_requireNumber_9 : decode cX8_requireNumber 9 = .ok (.new 292, 3) := by decide +kernel
theorem dX8_requireNumber_12 : decode cX8_requireNumber 12 = .ok (.dup, 1) := by decide +kernel
theorem dX8_requireNumber_13 : decode cX8_requireNumber 13 = .ok (.ldc_w 294, 3) := by decide +kernel
theorem dX8_requireNumber_16 : decode cX8_requireNumber 16 = .ok (.invokespecial 296, 3) := by decide +kernel
theorem dX8_requireNumber_19 : decode cX8_requireNumber 19 = .ok (.athrow, 1) := by decide +kernel
theorem dX8_requireNumber_20 : decode cX8_requireNumber 20 = .ok (.return_, 1) := by decide +kernel
theorem dX8_findStation_0 : decode cX8_findStation 0 = .ok (.iload_n 1, 1) := by decide +kernel
theorem dX8_findStation_1 : decode cX8_findStation 1 = .ok (.aload_n 0, 1) := by decide +kernel
theorem dX8_findStation_2 : decode cX8_findStation 2 = .ok (.getfield 19, 3) := by decide +kernel
theorem dX8_findStation_5 : decode cX8_findStation 5 = .ok (.invokevirtual 81, 3) := by decide +kernel
theorem dX8_findStation_8 : decode cX8_findStation 8 = .ok (.invokestatic 297, 3) := by decide +kernel
theorem dX8_findStation_11 : decode cX8_findStation 11 = .ok (.aload_n 0, 1) := by decide +kernel
theorem dX8_findStation_12 : decode cX8_findStation 12 = .ok (.getfield 19, 3) := by decide +kernel
theorem dX8_findStation_15 : decode cX8_findStation 15 = .ok (.iload_n 1, 1) := by decide +kernel
theorem dX8_findStation_16 : decode cX8_findStation 16 = .ok (.invokevirtual 263, 3) := by decide +kernel
theorem dX8_findStation_19 : decode cX8_findStation 19 = .ok (.checkcast 87, 3) := by decide +kernel
theorem dX8_findStation_22 : decode cX8_findStation 22 = .ok (.areturn, 1) := by decide +kernel
theorem dX8_findTray_0 : decode cX8_findTray 0 = .ok (.iload_n 1, 1) := by decide +kernel
theorem dX8_findTray_1 : decode cX8_findTray 1 = .ok (.aload_n 0, 1) := by decide +kernel
theorem dX8_findTray_2 : decode cX8_findTray 2 = .ok (.getfield 23, 3) := by decide +kernel
theorem dX8_findTray_5 : decode cX8_findTray 5 = .ok (.invokevirtual 81, 3) := by decide +kernel
theorem dX8_findTray_8 : decode cX8_findTray 8 = .ok (.invokestatic 297, 3) := by decide +kernel
theorem dX8_findTray_11 : decode cX8_findTray 11 = .ok (.aload_n 0, 1) := by decide +kernel
theorem dX8_findTray_12 : decode cX8_findTray 12 = .ok (.getfield 23, 3) := by decide +kernel
theorem dX8_findTray_15 : decode cX8_findTray 15 = .ok (.iload_n 1, 1) := by decide +kernel
theorem dX8_findTray_16 : decode cX8_findTray 16 = .ok (.invokevirtual 263, 3) := by decide +kernel
theorem dX8_findTray_19 : decode cX8_findTray 19 = .ok (.checkcast 108, 3) := by decide +kernel
theorem dX8_findTray_22 : decode cX8_findTray 22 = .ok (.areturn, 1) := by decide +kernel
theorem dX8_findOrder_0 : decode cX8_findOrder 0 = .ok (.iload_n 1, 1) := by decide +kernel
theorem dX8_findOrder_1 : decode cX8_findOrder 1 = .ok (.aload_n 0, 1) := by decide +kernel
theorem dX8_findOrder_2 : decode cX8_findOrder 2 = .ok (.getfield 26, 3) := by decide +kernel
theorem dX8_findOrder_5 : decode cX8_findOrder 5 = .ok (.invokevirtual 81, 3) := by decide +kernel
theorem dX8_findOrder_8 : decode cX8_findOrder 8 = .ok (.invokestatic 297, 3) := by decide +kernel
theorem dX8_findOrder_11 : decode cX8_findOrder 11 = .ok (.aload_n 0, 1) := by decide +kernel
theorem dX8_findOrder_12 : decode cX8_findOrder 12 = .ok (.getfield 26, 3) := by decide +kernel
theorem dX8_findOrder_15 : decode cX8_findOrder 15 = .ok (.iload_n 1, 1) := by decide +kernel
theorem dX8_findOrder_16 : decode cX8_findOrder 16 = .ok (.invokevirtual 263, 3) := by decide +kernel
theorem dX8_findOrder_19 : decode cX8_findOrder 19 = .ok (.checkcast 131, 3) := by decide +kernel
theorem dX8_findOrder_22 : decode cX8_findOrder 22 = .ok (.areturn, 1) := by decide +kernel
theorem dX8_findLine_0 : decode cX8_findLine 0 = .ok (.aload_n 0, 1) := by decide +kernel
theorem dX8_findLine_1 : decode cX8_findLine 1 = .ok (.iload_n 1, 1) := by decide +kernel
theorem dX8_findLine_2 : decode cX8_findLine 2 = .ok (.invokevirtual 136, 3) := by decide +kernel
theorem dX8_findLine_5 : decode cX8_findLine 5 = .ok (.getfield 140, 3) := by decide +kernel
theorem dX8_findLine_8 : decode cX8_findLine 8 = .ok (.astore_n 3, 1) := by decide +kernel
theorem dX8_findLine_9 : decode cX8_findLine 9 = .ok (.iload_n 2, 1) := by decide +kernel
theorem dX8_findLine_10 : decode cX8_findLine 10 = .ok (.aload_n 3, 1) := by decide +kernel
theorem dX8_findLine_11 : decode cX8_findLine 11 = .ok (.invokevirtual 81, 3) := by decide +kernel
theorem dX8_findLine_14 : decode cX8_findLine 14 = .ok (.invokestatic 297, 3) := by decide +kernel
theorem dX8_findLine_17 : decode cX8_findLine 17 = .ok (.aload_n 3, 1) := by decide +kernel
theorem dX8_findLine_18 : decode cX8_findLine 18 = .ok (.iload_n 2, 1) := by decide +kernel
theorem dX8_findLine_19 : decode cX8_findLine 19 = .ok (.invokevirtual 263, 3) := by decide +kernel
theorem dX8_findLine_22 : decode cX8_findLine 22 = .ok (.checkcast 145, 3) := by decide +kernel
theorem dX8_findLine_25 : decode cX8_findLine 25 = .ok (.areturn, 1) := by decide +kernel
theorem dX8_findRobot_0 : decode cX8_findRobot 0 = .ok (.iload_n 1, 1) := by decide +kernel
theorem dX8_findRobot_1 : decode cX8_findRobot 1 = .ok (.aload_n 0, 1) := by decide +kernel
theorem dX8_findRobot_2 : decode cX8_findRobot 2 = .ok (.getfield 10, 3) := by decide +kernel
theorem dX8_findRobot_5 : decode cX8_findRobot 5 = .ok (.getfield 191, 3) := by decide +kernel
theorem dX8_findRobot_8 : decode cX8_findRobot 8 = .ok (.invokevirtual 81, 3) := by decide +kernel
theorem dX8_findRobot_11 : decode cX8_findRobot 11 = .ok (.invokestatic 297, 3) := by decide +kernel
theorem dX8_findRobot_14 : decode cX8_findRobot 14 = .ok (.aload_n 0, 1) := by decide +kernel
theorem dX8_findRobot_15 : decode cX8_findRobot 15 = .ok (.getfield 10, 3) := by decide +kernel
theorem dX8_findRobot_18 : decode cX8_findRobot 18 = .ok (.getfield 191, 3) := by decide +kernel
theorem dX8_findRobot_21 : decode cX8_findRobot 21 = .ok (.iload_n 1, 1) := by decide +kernel
theorem dX8_findRobot_22 : decode cX8_findRobot 22 = .ok (.invokevirtual 263, 3) := by decide +kernel
theorem dX8_findRobot_25 : decode cX8_findRobot 25 = .ok (.checkcast 174, 3) := by decide +kernel
theorem dX8_findRobot_28 : decode cX8_findRobot 28 = .ok (.areturn, 1) := by decide +kernel
theorem dX8_findPick_0 : decode cX8_findPick 0 = .ok (.iload_n 1, 1) := by decide +kernel
theorem dX8_findPick_1 : decode cX8_findPick 1 = .ok (.aload_n 0, 1) := by decide +kernel
theorem dX8_findPick_2 : decode cX8_findPick 2 = .ok (.getfield 29, 3) := by decide +kernel
theorem dX8_findPick_5 : decode cX8_findPick 5 = .ok (.invokevirtual 81, 3) := by decide +kernel
theorem dX8_findPick_8 : decode cX8_findPick 8 = .ok (.invokestatic 297, 3) := by decide +kernel
theorem dX8_findPick_11 : decode cX8_findPick 11 = .ok (.aload_n 0, 1) := by decide +kernel
theorem dX8_findPick_12 : decode cX8_findPick 12 = .ok (.getfield 29, 3) := by decide +kernel
theorem dX8_findPick_15 : decode cX8_findPick 15 = .ok (.iload_n 1, 1) := by decide +kernel
theorem dX8_findPick_16 : decode cX8_findPick 16 = .ok (.invokevirtual 263, 3) := by decide +kernel
theorem dX8_findPick_19 : decode cX8_findPick 19 = .ok (.checkcast 273, 3) := by decide +kernel
theorem dX8_findPick_22 : decode cX8_findPick 22 = .ok (.areturn, 1) := by decide +kernel
theorem dX8_numberOf_0 : decode cX8_numberOf 0 = .ok (.aload_n 0, 1) := by decide +kernel
theorem dX8_numberOf_1 : decode cX8_numberOf 1 = .ok (.ifnonnull 7, 3) := by decide +kernel
theorem dX8_numberOf_4 : decode cX8_numberOf 4 = .ok (.iconst (-1), 1) := by decide +kernel
theorem dX8_numberOf_5 : decode cX8_numberOf 5 = .ok (.goto 7, 3) := by decide +kernel
theorem dX8_numberOf_8 : decode cX8_numberOf 8 = .ok (.aload_n 0, 1) := by decide +kernel
theorem dX8_numberOf_9 : decode cX8_numberOf 9 = .ok (.getfield 115, 3) := by decide +kernel
theorem dX8_numberOf_12 : decode cX8_numberOf 12 = .ok (.ireturn, 1) := by decide +kernel
theorem dX8_isHome_0 : decode cX8_isHome 0 = .ok (.iconst 0, 1) := by decide +kernel
theorem dX8_isHome_1 : decode cX8_isHome 1 = .ok (.istore_n 2, 1) := by decide +kernel
theorem dX8_isHome_2 : decode cX8_isHome 2 = .ok (.iload_n 2, 1) := by decide +kernel
theorem dX8_isHome_3 : decode cX8_isHome 3 = .ok (.aload_n 0, 1) := by decide +kernel
theorem dX8_isHome_4 : decode cX8_isHome 4 = .ok (.getfield 23, 3) := by decide +kernel
theorem dX8_isHome_7 : decode cX8_isHome 7 = .ok (.invokevirtual 81, 3) := by decide +kernel
theorem dX8_isHome_10 : decode cX8_isHome 10 = .ok (.if_icmp .ge 29, 3) := by decide +kernel
theorem dX8_isHome_13 : decode cX8_isHome 13 = .ok (.aload_n 0, 1) := by decide +kernel
theorem dX8_isHome_14 : decode cX8_isHome 14 = .ok (.getfield 23, 3) := by decide +kernel
theorem dX8_isHome_17 : decode cX8_isHome 17 = .ok (.iload_n 2, 1) := by decide +kernel
theorem dX8_isHome_18 : decode cX8_isHome 18 = .ok (.invokevirtual 263, 3) := by decide +kernel
theorem dX8_isHome_21 : decode cX8_isHome 21 = .ok (.checkcast 108, 3) := by decide +kernel
theorem dX8_isHome_24 : decode cX8_isHome 24 = .ok (.getfield 185, 3) := by decide +kernel
theorem dX8_isHome_27 : decode cX8_isHome 27 = .ok (.iload_n 1, 1) := by decide +kernel
theorem dX8_isHome_28 : decode cX8_isHome 28 = .ok (.if_icmp .ne 5, 3) := by decide +kernel
theorem dX8_isHome_31 : decode cX8_isHome 31 = .ok (.iconst 1, 1) := by decide +kernel
theorem dX8_isHome_32 : decode cX8_isHome 32 = .ok (.ireturn, 1) := by decide +kernel
theorem dX8_isHome_33 : decode cX8_isHome 33 = .ok (.iinc 2 1, 3) := by decide +kernel
theorem dX8_isHome_36 : decode cX8_isHome 36 = .ok (.goto (-34), 3) := by decide +kernel
theorem dX8_isHome_39 : decode cX8_isHome 39 = .ok (.iconst 0, 1) := by decide +kernel
theorem dX8_isHome_40 : decode cX8_isHome 40 = .ok (.ireturn, 1) := by decide +kernel
theorem dX8_isStation_0 : decode cX8_isStation 0 = .ok (.iconst 0, 1) := by decide +kernel
theorem dX8_isStation_1 : decode cX8_isStation 1 = .ok (.istore_n 2, 1) := by decide +kernel
theorem dX8_isStation_2 : decode cX8_isStation 2 = .ok (.iload_n 2, 1) := by decide +kernel
theorem dX8_isStation_3 : decode cX8_isStation 3 = .ok (.aload_n 0, 1) := by decide +kernel
theorem dX8_isStation_4 : decode cX8_isStation 4 = .ok (.getfield 19, 3) := by decide +kernel
theorem dX8_isStation_7 : decode cX8_isStation 7 = .ok (.invokevirtual 81, 3) := by decide +kernel
theorem dX8_isStation_10 : decode cX8_isStation 10 = .ok (.if_icmp .ge 29, 3) := by decide +kernel
theorem dX8_isStation_13 : decode cX8_isStation 13 = .ok (.aload_n 0, 1) := by decide +kernel
theorem dX8_isStation_14 : decode cX8_isStation 14 = .ok (.getfield 19, 3) := by decide +kernel
theorem dX8_isStation_17 : decode cX8_isStation 17 = .ok (.iload_n 2, 1) := by decide +kernel
theorem dX8_isStation_18 : decode cX8_isStation 18 = .ok (.invokevirtual 263, 3) := by decide +kernel
theorem dX8_isStation_21 : decode cX8_isStation 21 = .ok (.checkcast 87, 3) := by decide +kernel
theorem dX8_isStation_24 : decode cX8_isStation 24 = .ok (.getfield 300, 3) := by decide +kernel
theorem dX8_isStation_27 : decode cX8_isStation 27 = .ok (.iload_n 1, 1) := by decide +kernel
theorem dX8_isStation_28 : decode cX8_isStation 28 = .ok (.if_icmp .ne 5, 3) := by decide +kernel
theorem dX8_isStation_31 : decode cX8_isStation 31 = .ok (.iconst 1, 1) := by decide +kernel
theorem dX8_isStation_32 : decode cX8_isStation 32 = .ok (.ireturn, 1) := by decide +kernel
theorem dX8_isStation_33 : decode cX8_isStation 33 = .ok (.iinc 2 1, 3) := by decide +kernel
theorem dX8_isStation_36 : decode cX8_isStation 36 = .ok (.goto (-34), 3) := by decide +kernel
theorem dX8_isStation_39 : decode cX8_isStation 39 = .ok (.iconst 0, 1) := by decide +kernel
theorem dX8_isStation_40 : decode cX8_isStation 40 = .ok (.ireturn, 1) := by decide +kernel
theorem dX8_pickFromServing_0 : decode cX8_pickFromServing 0 = .ok (.iconst 0, 1) := by decide +kernel
theorem dX8_pickFromServing_1 : decode cX8_pickFromServing 1 = .ok (.istore_n 1, 1) := by decide +kernel
theorem dX8_pickFromServing_2 : decode cX8_pickFromServing 2 = .ok (.iload_n 1, 1) := by decide +kernel
theorem dX8_pickFromServing_3 : decode cX8_pickFromServing 3 = .ok (.aload_n 0, 1) := by decide +kernel
theorem dX8_pickFromServing_4 : decode cX8_pickFromServing 4 = .ok (.getfield 10, 3) := by decide +kernel
theorem dX8_pickFromServing_7 : decode cX8_pickFromServing 7 = .ok (.getfield 191, 3) := by decide +kernel
theorem dX8_pickFromServing_10 : decode cX8_pickFromServing 10 = .ok (.invokevirtual 81, 3) := by decide +kernel
theorem dX8_pickFromServing_13 : decode cX8_pickFromServing 13 = .ok (.if_icmp .ge 59, 3) := by decide +kernel
theorem dX8_pickFromServing_16 : decode cX8_pickFromServing 16 = .ok (.aload_n 0, 1) := by decide +kernel
theorem dX8_pickFromServing_17 : decode cX8_pickFromServing 17 = .ok (.getfield 10, 3) := by decide +kernel
theorem dX8_pickFromServing_20 : decode cX8_pickFromServing 20 = .ok (.getfield 191, 3) := by decide +kernel
theorem dX8_pickFromServing_23 : decode cX8_pickFromServing 23 = .ok (.iload_n 1, 1) := by decide +kernel
theorem dX8_pickFromServing_24 : decode cX8_pickFromServing 24 = .ok (.invokevirtual 263, 3) := by decide +kernel
theorem dX8_pickFromServing_27 : decode cX8_pickFromServing 27 = .ok (.checkcast 174, 3) := by decide +kernel
theorem dX8_pickFromServing_30 : decode cX8_pickFromServing 30 = .ok (.astore_n 2, 1) := by decide +kernel
theorem dX8_pickFromServing_31 : decode cX8_pickFromServing 31 = .ok (.aload_n 2, 1) := by decide +kernel
theorem dX8_pickFromServing_32 : decode cX8_pickFromServing 32 = .ok (.getfield 201, 3) := by decide +kernel
theorem dX8_pickFromServing_35 : decode cX8_pickFromServing 35 = .ok (.iconst 3, 1) := by decide +kernel
theorem dX8_pickFromServing_36 : decode cX8_pickFromServing 36 = .ok (.if_icmp .ne 30, 3) := by decide +kernel
theorem dX8_pickFromServing_39 : decode cX8_pickFromServing 39 = .ok (.aload_n 2, 1) := by decide +kernel
theorem dX8_pickFromServing_40 : decode cX8_pickFromServing 40 = .ok (.getfield 212, 3) := by decide +kernel
theorem dX8_pickFromServing_43 : decode cX8_pickFromServing 43 = .ok (.ifnull 23, 3) := by decide +kernel
theorem dX8_pickFromServing_46 : decode cX8_pickFromServing 46 = .ok (.aload_n 2, 1) := by decide +kernel
theorem dX8_pickFromServing_47 : decode cX8_pickFromServing 47 = .ok (.getfield 301, 3) := by decide +kernel
theorem dX8_pickFromServing_50 : decode cX8_pickFromServing 50 = .ok (.ifnull 16, 3) := by decide +kernel
theorem dX8_pickFromServing_53 : decode cX8_pickFromServing 53 = .ok (.aload_n 0, 1) := by decide +kernel
theorem dX8_pickFromServing_54 : decode cX8_pickFromServing 54 = .ok (.aload_n 2, 1) := by decide +kernel
theorem dX8_pickFromServing_55 : decode cX8_pickFromServing 55 = .ok (.aload_n 2, 1) := by decide +kernel
theorem dX8_pickFromServing_56 : decode cX8_pickFromServing 56 = .ok (.getfield 212, 3) := by decide +kernel
theorem dX8_pickFromServing_59 : decode cX8_pickFromServing 59 = .ok (.aload_n 2, 1) := by decide +kernel
theorem dX8_pickFromServing_60 : decode cX8_pickFromServing 60 = .ok (.getfield 301, 3) := by decide +kernel
theorem dX8_pickFromServing_63 : decode cX8_pickFromServing 63 = .ok (.invokevirtual 305, 3) := by decide +kernel
theorem dX8_pickFromServing_66 : decode cX8_pickFromServing 66 = .ok (.iinc 1 1, 3) := by decide +kernel
theorem dX8_pickFromServing_69 : decode cX8_pickFromServing 69 = .ok (.goto (-67), 3) := by decide +kernel
theorem dX8_pickFromServing_72 : decode cX8_pickFromServing 72 = .ok (.return_, 1) := by decide +kernel
theorem dX8_pick_0 : decode cX8_pick 0 = .ok (.aload_n 2, 1) := by decide +kernel
theorem dX8_pick_1 : decode cX8_pick 1 = .ok (.dup, 1) := by decide +kernel
theorem dX8_pick_2 : decode cX8_pick 2 = .ok (.getfield 126, 3) := by decide +kernel
theorem dX8_pick_5 : decode cX8_pick 5 = .ok (.iconst 1, 1) := by decide +kernel
theorem dX8_pick_6 : decode cX8_pick 6 = .ok (.isub, 1) := by decide +kernel
theorem dX8_pick_7 : decode cX8_pick 7 = .ok (.putfield 126, 3) := by decide +kernel
theorem dX8_pick_10 : decode cX8_pick 10 = .ok (.aload_n 3, 1) := by decide +kernel
theorem dX8_pick_11 : decode cX8_pick 11 = .ok (.dup, 1) := by decide +kernel
theorem dX8_pick_12 : decode cX8_pick 12 = .ok (.getfield 182, 3) := by decide +kernel
theorem dX8_pick_15 : decode cX8_pick 15 = .ok (.iconst 1, 1) := by decide +kernel
theorem dX8_pick_16 : decode cX8_pick 16 = .ok (.isub, 1) := by decide +kernel
theorem dX8_pick_17 : decode cX8_pick 17 = .ok (.putfield 182, 3) := by decide +kernel
theorem dX8_pick_20 : decode cX8_pick 20 = .ok (.aload_n 0, 1) := by decide +kernel
theorem dX8_pick_21 : decode cX8_pick 21 = .ok (.getfield 29, 3) := by decide +kernel
theorem dX8_pick_24 : decode cX8_pick 24 = .ok (.new 273, 3) := by decide +kernel
theorem dX8_pick_27 : decode cX8_pick 27 = .ok (.dup, 1) := by decide +kernel
theorem dX8_pick_28 : decode cX8_pick 28 = .ok (.aload_n 2, 1) := by decide +kernel
theorem dX8_pick_29 : decode cX8_pick 29 = .ok (.aload_n 3, 1) := by decide +kernel
theorem dX8_pick_30 : decode cX8_pick 30 = .ok (.getfield 309, 3) := by decide +kernel
theorem dX8_pick_33 : decode cX8_pick 33 = .ok (.aload_n 0, 1) := by decide +kernel
theorem dX8_pick_34 : decode cX8_pick 34 = .ok (.getfield 32, 3) := by decide +kernel
theorem dX8_pick_37 : decode cX8_pick 37 = .ok (.invokespecial 310, 3) := by decide +kernel
theorem dX8_pick_40 : decode cX8_pick 40 = .ok (.invokevirtual 92, 3) := by decide +kernel
theorem dX8_pick_43 : decode cX8_pick 43 = .ok (.pop, 1) := by decide +kernel
theorem dX8_pick_44 : decode cX8_pick 44 = .ok (.aload_n 2, 1) := by decide +kernel
theorem dX8_pick_45 : decode cX8_pick 45 = .ok (.getfield 126, 3) := by decide +kernel
theorem dX8_pick_48 : decode cX8_pick 48 = .ok (.ifCond .eq 10, 3) := by decide +kernel
theorem dX8_pick_51 : decode cX8_pick 51 = .ok (.aload_n 3, 1) := by decide +kernel
theorem dX8_pick_52 : decode cX8_pick 52 = .ok (.getfield 182, 3) := by decide +kernel
theorem dX8_pick_55 : decode cX8_pick 55 = .ok (.ifCond .ne 7, 3) := by decide +kernel
theorem dX8_pick_58 : decode cX8_pick 58 = .ok (.aload_n 1, 1) := by decide +kernel
theorem dX8_pick_59 : decode cX8_pick 59 = .ok (.invokevirtual 173, 3) := by decide +kernel
theorem dX8_pick_62 : decode cX8_pick 62 = .ok (.return_, 1) := by decide +kernel
theorem dX8_sendRobots_0 : decode cX8_sendRobots 0 = .ok (.iconst 0, 1) := by decide +kernel
theorem dX8_sendRobots_1 : decode cX8_sendRobots 1 = .ok (.istore_n 1, 1) := by decide +kernel
theorem dX8_sendRobots_2 : decode cX8_sendRobots 2 = .ok (.iload_n 1, 1) := by decide +kernel
theorem dX8_sendRobots_3 : decode cX8_sendRobots 3 = .ok (.aload_n 0, 1) := by decide +kernel
theorem dX8_sendRobots_4 : decode cX8_sendRobots 4 = .ok (.getfield 19, 3) := by decide +kernel
theorem dX8_sendRobots_7 : decode cX8_sendRobots 7 = .ok (.invokevirtual 81, 3) := by decide +kernel
theorem dX8_sendRobots_10 : decode cX8_sendRobots 10 = .ok (.if_icmp .ge 37, 3) := by decide +kernel
theorem dX8_sendRobots_13 : decode cX8_sendRobots 13 = .ok (.aload_n 0, 1) := by decide +kernel
theorem dX8_sendRobots_14 : decode cX8_sendRobots 14 = .ok (.getfield 19, 3) := by decide +kernel
theorem dX8_sendRobots_17 : decode cX8_sendRobots 17 = .ok (.iload_n 1, 1) := by decide +kernel
theorem dX8_sendRobots_18 : decode cX8_sendRobots 18 = .ok (.invokevirtual 263, 3) := by decide +kernel
theorem dX8_sendRobots_21 : decode cX8_sendRobots 21 = .ok (.checkcast 87, 3) := by decide +kernel
theorem dX8_sendRobots_24 : decode cX8_sendRobots 24 = .ok (.astore_n 2, 1) := by decide +kernel
theorem dX8_sendRobots_25 : decode cX8_sendRobots 25 = .ok (.aload_n 0, 1) := by decide +kernel
theorem dX8_sendRobots_26 : decode cX8_sendRobots 26 = .ok (.getfield 10, 3) := by decide +kernel
theorem dX8_sendRobots_29 : decode cX8_sendRobots 29 = .ok (.aload_n 2, 1) := by decide +kernel
theorem dX8_sendRobots_30 : decode cX8_sendRobots 30 = .ok (.invokevirtual 313, 3) := by decide +kernel
theorem dX8_sendRobots_33 : decode cX8_sendRobots 33 = .ok (.ifCond .ne 8, 3) := by decide +kernel
theorem dX8_sendRobots_36 : decode cX8_sendRobots 36 = .ok (.aload_n 0, 1) := by decide +kernel
theorem dX8_sendRobots_37 : decode cX8_sendRobots 37 = .ok (.aload_n 2, 1) := by decide +kernel
theorem dX8_sendRobots_38 : decode cX8_sendRobots 38 = .ok (.invokevirtual 317, 3) := by decide +kernel
theorem dX8_sendRobots_41 : decode cX8_sendRobots 41 = .ok (.iinc 1 1, 3) := by decide +kernel
theorem dX8_sendRobots_44 : decode cX8_sendRobots 44 = .ok (.goto (-42), 3) := by decide +kernel
theorem dX8_sendRobots_47 : decode cX8_sendRobots 47 = .ok (.return_, 1) := by decide +kernel
theorem dX8_sendRobotFor_0 : decode cX8_sendRobotFor 0 = .ok (.iconst 0, 1) := by decide +kernel
theorem dX8_sendRobotFor_1 : decode cX8_sendRobotFor 1 = .ok (.istore_n 2, 1) := by decide +kernel
theorem dX8_sendRobotFor_2 : decode cX8_sendRobotFor 2 = .ok (.iload_n 2, 1) := by decide +kernel
theorem dX8_sendRobotFor_3 : decode cX8_sendRobotFor 3 = .ok (.aload_n 1, 1) := by decide +kernel
theorem dX8_sendRobotFor_4 : decode cX8_sendRobotFor 4 = .ok (.getfield 164, 3) := by decide +kernel
theorem dX8_sendRobotFor_7 : decode cX8_sendRobotFor 7 = .ok (.invokevirtual 81, 3) := by decide +kernel
theorem dX8_sendRobotFor_10 : decode cX8_sendRobotFor 10 = .ok (.if_icmp .ge 83, 3) := by decide +kernel
theorem dX8_sendRobotFor_13 : decode cX8_sendRobotFor 13 = .ok (.aload_n 1, 1) := by decide +kernel
theorem dX8_sendRobotFor_14 : decode cX8_sendRobotFor 14 = .ok (.getfield 164, 3) := by decide +kernel
theorem dX8_sendRobotFor_17 : decode cX8_sendRobotFor 17 = .ok (.iload_n 2, 1) := by decide +kernel
theorem dX8_sendRobotFor_18 : decode cX8_sendRobotFor 18 = .ok (.invokevirtual 263, 3) := by decide +kernel
theorem dX8_sendRobotFor_21 : decode cX8_sendRobotFor 21 = .ok (.checkcast 145, 3) := by decide +kernel
theorem dX8_sendRobotFor_24 : decode cX8_sendRobotFor 24 = .ok (.astore_n 3, 1) := by decide +kernel
theorem dX8_sendRobotFor_25 : decode cX8_sendRobotFor 25 = .ok (.aload_n 3, 1) := by decide +kernel
theorem dX8_sendRobotFor_26 : decode cX8_sendRobotFor 26 = .ok (.getfield 182, 3) := by decide +kernel
theorem dX8_sendRobotFor_29 : decode cX8_sendRobotFor 29 = .ok (.ifCond .ne 7, 3) := by decide +kernel
theorem dX8_sendRobotFor_32 : decode cX8_sendRobotFor 32 = .ok (.aconst_null, 1) := by decide +kernel
theorem dX8_sendRobotFor_33 : decode cX8_sendRobotFor 33 = .ok (.goto 15, 3) := by decide +kernel
theorem dX8_sendRobotFor_36 : decode cX8_sendRobotFor 36 = .ok (.aload_n 0, 1) := by decide +kernel
theorem dX8_sendRobotFor_37 : decode cX8_sendRobotFor 37 = .ok (.aload_n 1, 1) := by decide +kernel
theorem dX8_sendRobotFor_38 : decode cX8_sendRobotFor 38 = .ok (.getfield 300, 3) := by decide +kernel
theorem dX8_sendRobotFor_41 : decode cX8_sendRobotFor 41 = .ok (.aload_n 3, 1) := by decide +kernel
theorem dX8_sendRobotFor_42 : decode cX8_sendRobotFor 42 = .ok (.getfield 321, 3) := by decide +kernel
theorem dX8_sendRobotFor_45 : decode cX8_sendRobotFor 45 = .ok (.invokevirtual 322, 3) := by decide +kernel
theorem dX8_sendRobotFor_48 : decode cX8_sendRobotFor 48 = .ok (.astore 4, 2) := by decide +kernel
theorem dX8_sendRobotFor_50 : decode cX8_sendRobotFor 50 = .ok (.aload 4, 2) := by decide +kernel
theorem dX8_sendRobotFor_52 : decode cX8_sendRobotFor 52 = .ok (.ifnonnull 7, 3) := by decide +kernel
theorem dX8_sendRobotFor_55 : decode cX8_sendRobotFor 55 = .ok (.aconst_null, 1) := by decide +kernel
theorem dX8_sendRobotFor_56 : decode cX8_sendRobotFor 56 = .ok (.goto 15, 3) := by decide +kernel
theorem dX8_sendRobotFor_59 : decode cX8_sendRobotFor 59 = .ok (.aload_n 0, 1) := by decide +kernel
theorem dX8_sendRobotFor_60 : decode cX8_sendRobotFor 60 = .ok (.getfield 10, 3) := by decide +kernel
theorem dX8_sendRobotFor_63 : decode cX8_sendRobotFor 63 = .ok (.aload 4, 2) := by decide +kernel
theorem dX8_sendRobotFor_65 : decode cX8_sendRobotFor 65 = .ok (.getfield 185, 3) := by decide +kernel
theorem dX8_sendRobotFor_68 : decode cX8_sendRobotFor 68 = .ok (.invokevirtual 326, 3) := by decide +kernel
theorem dX8_sendRobotFor_71 : decode cX8_sendRobotFor 71 = .ok (.astore 5, 2) := by decide +kernel
theorem dX8_sendRobotFor_73 : decode cX8_sendRobotFor 73 = .ok (.aload 5, 2) := by decide +kernel
theorem dX8_sendRobotFor_75 : decode cX8_sendRobotFor 75 = .ok (.ifnull 12, 3) := by decide +kernel
theorem dX8_sendRobotFor_78 : decode cX8_sendRobotFor 78 = .ok (.aload 5, 2) := by decide +kernel
theorem dX8_sendRobotFor_80 : decode cX8_sendRobotFor 80 = .ok (.aload 4, 2) := by decide +kernel
theorem dX8_sendRobotFor_82 : decode cX8_sendRobotFor 82 = .ok (.aload_n 3, 1) := by decide +kernel
theorem dX8_sendRobotFor_83 : decode cX8_sendRobotFor 83 = .ok (.invokevirtual 329, 3) := by decide +kernel
theorem dX8_sendRobotFor_86 : decode cX8_sendRobotFor 86 = .ok (.return_, 1) := by decide +kernel
theorem dX8_sendRobotFor_87 : decode cX8_sendRobotFor 87 = .ok (.iinc 2 1, 3) := by decide +kernel
theorem dX8_sendRobotFor_90 : decode cX8_sendRobotFor 90 = .ok (.goto (-88), 3) := by decide +kernel
theorem dX8_sendRobotFor_93 : decode cX8_sendRobotFor 93 = .ok (.return_, 1) := by decide +kernel
theorem dX8_nearestTray_0 : decode cX8_nearestTray 0 = .ok (.aconst_null, 1) := by decide +kernel
theorem dX8_nearestTray_1 : decode cX8_nearestTray 1 = .ok (.astore_n 3, 1) := by decide +kernel
theorem dX8_nearestTray_2 : decode cX8_nearestTray 2 = .ok (.bipush 64, 2) := by decide +kernel
theorem dX8_nearestTray_4 : decode cX8_nearestTray 4 = .ok (.istore 4, 2) := by decide +kernel
theorem dX8_nearestTray_6 : decode cX8_nearestTray 6 = .ok (.iconst 0, 1) := by decide +kernel
theorem dX8_nearestTray_7 : decode cX8_nearestTray 7 = .ok (.istore 5, 2) := by decide +kernel
theorem dX8_nearestTray_9 : decode cX8_nearestTray 9 = .ok (.iload 5, 2) := by decide +kernel
theorem dX8_nearestTray_11 : decode cX8_nearestTray 11 = .ok (.aload_n 0, 1) := by decide +kernel
theorem dX8_nearestTray_12 : decode cX8_nearestTray 12 = .ok (.getfield 23, 3) := by decide +kernel
theorem dX8_nearestTray_15 : decode cX8_nearestTray 15 = .ok (.invokevirtual 81, 3) := by decide +kernel
theorem dX8_nearestTray_18 : decode cX8_nearestTray 18 = .ok (.if_icmp .ge 91, 3) := by decide +kernel
theorem dX8_nearestTray_21 : decode cX8_nearestTray 21 = .ok (.aload_n 0, 1) := by decide +kernel
theorem dX8_nearestTray_22 : decode cX8_nearestTray 22 = .ok (.getfield 23, 3) := by decide +kernel
theorem dX8_nearestTray_25 : decode cX8_nearestTray 25 = .ok (.iload 5, 2) := by decide +kernel
theorem dX8_nearestTray_27 : decode cX8_nearestTray 27 = .ok (.invokevirtual 263, 3) := by decide +kernel
theorem dX8_nearestTray_30 : decode cX8_nearestTray 30 = .ok (.checkcast 108, 3) := by decide +kernel
theorem dX8_nearestTray_33 : decode cX8_nearestTray 33 = .ok (.astore 6, 2) := by decide +kernel
theorem dX8_nearestTray_35 : decode cX8_nearestTray 35 = .ok (.aload 6, 2) := by decide +kernel
theorem dX8_nearestTray_37 : decode cX8_nearestTray 37 = .ok (.getfield 267, 3) := by decide +kernel
theorem dX8_nearestTray_40 : decode cX8_nearestTray 40 = .ok (.iload_n 2, 1) := by decide +kernel
theorem dX8_nearestTray_41 : decode cX8_nearestTray 41 = .ok (.if_icmp .ne 62, 3) := by decide +kernel
theorem dX8_nearestTray_44 : decode cX8_nearestTray 44 = .ok (.aload 6, 2) := by decide +kernel
theorem dX8_nearestTray_46 : decode cX8_nearestTray 46 = .ok (.getfield 126, 3) := by decide +kernel
theorem dX8_nearestTray_49 : decode cX8_nearestTray 49 = .ok (.ifCond .le 54, 3) := by decide +kernel
theorem dX8_nearestTray_52 : decode cX8_nearestTray 52 = .ok (.aload_n 0, 1) := by decide +kernel
theorem dX8_nearestTray_53 : decode cX8_nearestTray 53 = .ok (.getfield 10, 3) := by decide +kernel
theorem dX8_nearestTray_56 : decode cX8_nearestTray 56 = .ok (.aload 6, 2) := by decide +kernel
theorem dX8_nearestTray_58 : decode cX8_nearestTray 58 = .ok (.invokevirtual 333, 3) := by decide +kernel
theorem dX8_nearestTray_61 : decode cX8_nearestTray 61 = .ok (.ifnonnull 42, 3) := by decide +kernel
theorem dX8_nearestTray_64 : decode cX8_nearestTray 64 = .ok (.aload_n 0, 1) := by decide +kernel
theorem dX8_nearestTray_65 : decode cX8_nearestTray 65 = .ok (.getfield 10, 3) := by decide +kernel
theorem dX8_nearestTray_68 : decode cX8_nearestTray 68 = .ok (.getfield 40, 3) := by decide +kernel
theorem dX8_nearestTray_71 : decode cX8_nearestTray 71 = .ok (.iload_n 1, 1) := by decide +kernel
theorem dX8_nearestTray_72 : decode cX8_nearestTray 72 = .ok (.aload 6, 2) := by decide +kernel
theorem dX8_nearestTray_74 : decode cX8_nearestTray 74 = .ok (.getfield 185, 3) := by decide +kernel
theorem dX8_nearestTray_77 : decode cX8_nearestTray 77 = .ok (.iconst (-1), 1) := by decide +kernel
theorem dX8_nearestTray_78 : decode cX8_nearestTray 78 = .ok (.invokevirtual 77, 3) := by decide +kernel
theorem dX8_nearestTray_81 : decode cX8_nearestTray 81 = .ok (.istore 7, 2) := by decide +kernel
theorem dX8_nearestTray_83 : decode cX8_nearestTray 83 = .ok (.iload 7, 2) := by decide +kernel
theorem dX8_nearestTray_85 : decode cX8_nearestTray 85 = .ok (.iconst (-1), 1) := by decide +kernel
theorem dX8_nearestTray_86 : decode cX8_nearestTray 86 = .ok (.if_icmp .eq 17, 3) := by decide +kernel
theorem dX8_nearestTray_89 : decode cX8_nearestTray 89 = .ok (.iload 7, 2) := by decide +kernel
theorem dX8_nearestTray_91 : decode cX8_nearestTray 91 = .ok (.iload 4, 2) := by decide +kernel
theorem dX8_nearestTray_93 : decode cX8_nearestTray 93 = .ok (.if_icmp .ge 10, 3) := by decide +kernel
theorem dX8_nearestTray_96 : decode cX8_nearestTray 96 = .ok (.aload 6, 2) := by decide +kernel
theorem dX8_nearestTray_98 : decode cX8_nearestTray 98 = .ok (.astore_n 3, 1) := by decide +kernel
theorem dX8_nearestTray_99 : decode cX8_nearestTray 99 = .ok (.iload 7, 2) := by decide +kernel
theorem dX8_nearestTray_101 : decode cX8_nearestTray 101 = .ok (.istore 4, 2) := by decide +kernel
theorem dX8_nearestTray_103 : decode cX8_nearestTray 103 = .ok (.iinc 5 1, 3) := by decide +kernel
theorem dX8_nearestTray_106 : decode cX8_nearestTray 106 = .ok (.goto (-97), 3) := by decide +kernel
theorem dX8_nearestTray_109 : decode cX8_nearestTray 109 = .ok (.aload_n 3, 1) := by decide +kernel
theorem dX8_nearestTray_110 : decode cX8_nearestTray 110 = .ok (.areturn, 1) := by decide +kernel
