theorem dX0_init_0 : decode cX0_init 0 = .ok (.aload_n 0, 1) := by decide +kernel
theorem dX0_init_1 : decode cX0_init 1 = .ok (.invokespecial 1, 3) := by decide +kernel
theorem dX0_init_4 : decode cX0_init 4 = .ok (.return_, 1) := by decide +kernel
theorem dX0_install_0 : decode cX0_install 0 = .ok (.aload_n 0, 1) := by decide +kernel
theorem dX0_install_1 : decode cX0_install 1 = .ok (.iload_n 1, 1) := by decide +kernel
theorem dX0_install_2 : decode cX0_install 2 = .ok (.putfield 7, 3) := by decide +kernel
theorem dX0_install_5 : decode cX0_install 5 = .ok (.aload_n 0, 1) := by decide +kernel
theorem dX0_install_6 : decode cX0_install 6 = .ok (.iload_n 1, 1) := by decide +kernel
theorem dX0_install_7 : decode cX0_install 7 = .ok (.putfield 13, 3) := by decide +kernel
theorem dX0_install_10 : decode cX0_install 10 = .ok (.aload_n 0, 1) := by decide +kernel
theorem dX0_install_11 : decode cX0_install 11 = .ok (.iload_n 2, 1) := by decide +kernel
theorem dX0_install_12 : decode cX0_install 12 = .ok (.putfield 16, 3) := by decide +kernel
theorem dX0_install_15 : decode cX0_install 15 = .ok (.aload_n 0, 1) := by decide +kernel
theorem dX0_install_16 : decode cX0_install 16 = .ok (.iload_n 3, 1) := by decide +kernel
theorem dX0_install_17 : decode cX0_install 17 = .ok (.putfield 19, 3) := by decide +kernel
theorem dX0_install_20 : decode cX0_install 20 = .ok (.return_, 1) := by decide +kernel
theorem dX0_canGive_0 : decode cX0_canGive 0 = .ok (.aload_n 0, 1) := by decide +kernel
theorem dX0_canGive_1 : decode cX0_canGive 1 = .ok (.getfield 16, 3) := by decide +kernel
theorem dX0_canGive_4 : decode cX0_canGive 4 = .ok (.aload_n 0, 1) := by decide +kernel
theorem dX0_canGive_5 : decode cX0_canGive 5 = .ok (.getfield 13, 3) := by decide +kernel
theorem dX0_canGive_8 : decode cX0_canGive 8 = .ok (.invokestatic 22, 3) := by decide +kernel
theorem dX0_canGive_11 : decode cX0_canGive 11 = .ok (.ireturn, 1) := by decide +kernel
theorem dX0_canTake_0 : decode cX0_canTake 0 = .ok (.aload_n 0, 1) := by decide +kernel
theorem dX0_canTake_1 : decode cX0_canTake 1 = .ok (.getfield 19, 3) := by decide +kernel
theorem dX0_canTake_4 : decode cX0_canTake 4 = .ok (.aload_n 0, 1) := by decide +kernel
theorem dX0_canTake_5 : decode cX0_canTake 5 = .ok (.getfield 7, 3) := by decide +kernel
theorem dX0_canTake_8 : decode cX0_canTake 8 = .ok (.aload_n 0, 1) := by decide +kernel
theorem dX0_canTake_9 : decode cX0_canTake 9 = .ok (.getfield 13, 3) := by decide +kernel
theorem dX0_canTake_12 : decode cX0_canTake 12 = .ok (.isub, 1) := by decide +kernel
theorem dX0_canTake_13 : decode cX0_canTake 13 = .ok (.invokestatic 22, 3) := by decide +kernel
theorem dX0_canTake_16 : decode cX0_canTake 16 = .ok (.ireturn, 1) := by decide +kernel
theorem dX0_wearOut_0 : decode cX0_wearOut 0 = .ok (.aload_n 0, 1) := by decide +kernel
theorem dX0_wearOut_1 : decode cX0_wearOut 1 = .ok (.getfield 28, 3) := by decide +kernel
theorem dX0_wearOut_4 : decode cX0_wearOut 4 = .ok (.ifCond .le 28, 3) := by decide +kernel
theorem dX0_wearOut_7 : decode cX0_wearOut 7 = .ok (.aload_n 0, 1) := by decide +kernel
theorem dX0_wearOut_8 : decode cX0_wearOut 8 = .ok (.getfield 13, 3) := by decide +kernel
theorem dX0_wearOut_11 : decode cX0_wearOut 11 = .ok (.ifCond .ne 21, 3) := by decide +kernel
theorem dX0_wearOut_14 : decode cX0_wearOut 14 = .ok (.aload_n 0, 1) := by decide +kernel
theorem dX0_wearOut_15 : decode cX0_wearOut 15 = .ok (.getfield 7, 3) := by decide +kernel
theorem dX0_wearOut_18 : decode cX0_wearOut 18 = .ok (.iconst 1, 1) := by decide +kernel
theorem dX0_wearOut_19 : decode cX0_wearOut 19 = .ok (.if_icmp .le 13, 3) := by decide +kernel
theorem dX0_wearOut_22 : decode cX0_wearOut 22 = .ok (.aload_n 0, 1) := by decide +kernel
theorem dX0_wearOut_23 : decode cX0_wearOut 23 = .ok (.dup, 1) := by decide +kernel
theorem dX0_wearOut_24 : decode cX0_wearOut 24 = .ok (.getfield 7, 3) := by decide +kernel
theorem dX0_wearOut_27 : decode cX0_wearOut 27 = .ok (.iconst 1, 1) := by decide +kernel
theorem dX0_wearOut_28 : decode cX0_wearOut 28 = .ok (.isub, 1) := by decide +kernel
theorem dX0_wearOut_29 : decode cX0_wearOut 29 = .ok (.putfield 7, 3) := by decide +kernel
theorem dX0_wearOut_32 : decode cX0_wearOut 32 = .ok (.return_, 1) := by decide +kernel
theorem dX1_init_0 : decode cX1_init 0 = .ok (.aload_n 0, 1) := by decide +kernel
theorem dX1_init_1 : decode cX1_init 1 = .ok (.invokespecial 3, 3) := by decide +kernel
theorem dX1_init_4 : decode cX1_init 4 = .ok (.aload_n 0, 1) := by decide +kernel
theorem dX1_init_5 : decode cX1_init 5 = .ok (.iconst 0, 1) := by decide +kernel
theorem dX1_init_6 : decode cX1_init 6 = .ok (.putfield 9, 3) := by decide +kernel
theorem dX1_init_9 : decode cX1_init 9 = .ok (.return_, 1) := by decide +kernel
theorem dX1_install_0 : decode cX1_install 0 = .ok (.aload_n 0, 1) := by decide +kernel
theorem dX1_install_1 : decode cX1_install 1 = .ok (.iload_n 1, 1) := by decide +kernel
theorem dX1_install_2 : decode cX1_install 2 = .ok (.putfield 15, 3) := by decide +kernel
theorem dX1_install_5 : decode cX1_install 5 = .ok (.aload_n 0, 1) := by decide +kernel
theorem dX1_install_6 : decode cX1_install 6 = .ok (.iload_n 2, 1) := by decide +kernel
theorem dX1_install_7 : decode cX1_install 7 = .ok (.putfield 18, 3) := by decide +kernel
theorem dX1_install_10 : decode cX1_install 10 = .ok (.aload_n 0, 1) := by decide +kernel
theorem dX1_install_11 : decode cX1_install 11 = .ok (.iload_n 3, 1) := by decide +kernel
theorem dX1_install_12 : decode cX1_install 12 = .ok (.putfield 21, 3) := by decide +kernel
theorem dX1_install_15 : decode cX1_install 15 = .ok (.aload_n 0, 1) := by decide +kernel
theorem dX1_install_16 : decode cX1_install 16 = .ok (.iload_n 3, 1) := by decide +kernel
theorem dX1_install_17 : decode cX1_install 17 = .ok (.putfield 24, 3) := by decide +kernel
theorem dX1_install_20 : decode cX1_install 20 = .ok (.return_, 1) := by decide +kernel
theorem dX1_isSupplying_0 : decode cX1_isSupplying 0 = .ok (.aload_n 0, 1) := by decide +kernel
theorem dX1_isSupplying_1 : decode cX1_isSupplying 1 = .ok (.getfield 9, 3) := by decide +kernel
theorem dX1_isSupplying_4 : decode cX1_isSupplying 4 = .ok (.iconst 2, 1) := by decide +kernel
theorem dX1_isSupplying_5 : decode cX1_isSupplying 5 = .ok (.if_icmp .ne 14, 3) := by decide +kernel
theorem dX1_isSupplying_8 : decode cX1_isSupplying 8 = .ok (.aload_n 0, 1) := by decide +kernel
theorem dX1_isSupplying_9 : decode cX1_isSupplying 9 = .ok (.getfield 27, 3) := by decide +kernel
theorem dX1_isSupplying_12 : decode cX1_isSupplying 12 = .ok (.ifCond .ne 7, 3) := by decide +kernel
theorem dX1_isSupplying_15 : decode cX1_isSupplying 15 = .ok (.iconst 1, 1) := by decide +kernel
theorem dX1_isSupplying_16 : decode cX1_isSupplying 16 = .ok (.goto 4, 3) := by decide +kernel
theorem dX1_isSupplying_19 : decode cX1_isSupplying 19 = .ok (.iconst 0, 1) := by decide +kernel
theorem dX1_isSupplying_20 : decode cX1_isSupplying 20 = .ok (.ireturn, 1) := by decide +kernel
set_option maxRecDepth 20000 in
theorem ggX1_powerLeft_X1_isSupplying : GoodIn wsX1_powerLeft wsX1_isSupplying := goodIn_r _ [7, 8, 9, 10, 11, 12, 13, 14, 15, 16, 17, 18, 19, 20, 21, 22, 23, 24] (by decide +kernel) (by decide +kernel)
set_option maxRecDepth 20000 in
theorem gX1_powerLeft_X1_isSupplying : GoodIn wsX1_powerLeft (wsV RX1 31 RX1 yX1_isSupplying wsX1_isSupplying) := goodIn_app (goodIn_of _ (by decide +kernel)) ggX1_powerLeft_X1_isSupplying
theorem dX1_powerLeft_0 : decode cX1_powerLeft 0 = .ok (.aload_n 0, 1) := by decide +kernel
theorem dX1_powerLeft_1 : decode cX1_powerLeft 1 = .ok (.invokevirtual 31, 3) := by decide +kernel
theorem dX1_powerLeft_4 : decode cX1_powerLeft 4 = .ok (.ifCond .eq 15, 3) := by decide +kernel
theorem dX1_powerLeft_7 : decode cX1_powerLeft 7 = .ok (.aload_n 0, 1) := by decide +kernel
theorem dX1_powerLeft_8 : decode cX1_powerLeft 8 = .ok (.getfield 15, 3) := by decide +kernel
theorem dX1_powerLeft_11 : decode cX1_powerLeft 11 = .ok (.aload_n 0, 1) := by decide +kernel
theorem dX1_powerLeft_12 : decode cX1_powerLeft 12 = .ok (.getfield 35, 3) := by decide +kernel
theorem dX1_powerLeft_15 : decode cX1_powerLeft 15 = .ok (.isub, 1) := by decide +kernel
theorem dX1_powerLeft_16 : decode cX1_powerLeft 16 = .ok (.goto 4, 3) := by decide +kernel
theorem dX1_powerLeft_19 : decode cX1_powerLeft 19 = .ok (.iconst 0, 1) := by decide +kernel
theorem dX1_powerLeft_20 : decode cX1_powerLeft 20 = .ok (.ireturn, 1) := by decide +kernel
set_option maxRecDepth 20000 in
theorem ggX1_goOnStarting_X1_stopFailing : GoodIn wsX1_goOnStarting wsX1_stopFailing := goodIn_r _ [10, 11, 12, 4, 13, 14, 15, 16, 17, 18, 19, 20, 21, 22, 23, 24, 25, 26, 27] (by decide +kernel) (by decide +kernel)
set_option maxRecDepth 20000 in
theorem gX1_goOnStarting_X1_stopFailing : GoodIn wsX1_goOnStarting (wsV RX1 47 RX1 yX1_stopFailing wsX1_stopFailing) := goodIn_app (goodIn_of _ (by decide +kernel)) ggX1_goOnStarting_X1_stopFailing
theorem dX1_goOnStarting_0 : decode cX1_goOnStarting 0 = .ok (.aload_n 0, 1) := by decide +kernel
theorem dX1_goOnStarting_1 : decode cX1_goOnStarting 1 = .ok (.dup, 1) := by decide +kernel
theorem dX1_goOnStarting_2 : decode cX1_goOnStarting 2 = .ok (.getfield 38, 3) := by decide +kernel
theorem dX1_goOnStarting_5 : decode cX1_goOnStarting 5 = .ok (.iconst 1, 1) := by decide +kernel
theorem dX1_goOnStarting_6 : decode cX1_goOnStarting 6 = .ok (.isub, 1) := by decide +kernel
theorem dX1_goOnStarting_7 : decode cX1_goOnStarting 7 = .ok (.putfield 38, 3) := by decide +kernel
theorem dX1_goOnStarting_10 : decode cX1_goOnStarting 10 = .ok (.aload_n 0, 1) := by decide +kernel
theorem dX1_goOnStarting_11 : decode cX1_goOnStarting 11 = .ok (.getfield 38, 3) := by decide +kernel
theorem dX1_goOnStarting_14 : decode cX1_goOnStarting 14 = .ok (.ifCond .le 4, 3) := by decide +kernel
theorem dX1_goOnStarting_17 : decode cX1_goOnStarting 17 = .ok (.return_, 1) := by decide +kernel
theorem dX1_goOnStarting_18 : decode cX1_goOnStarting 18 = .ok (.aload_n 0, 1) := by decide +kernel
theorem dX1_goOnStarting_19 : decode cX1_goOnStarting 19 = .ok (.getfield 41, 3) := by decide +kernel
theorem dX1_goOnStarting_22 : decode cX1_goOnStarting 22 = .ok (.ifCond .le 30, 3) := by decide +kernel
theorem dX1_goOnStarting_25 : decode cX1_goOnStarting 25 = .ok (.aload_n 0, 1) := by decide +kernel
theorem dX1_goOnStarting_26 : decode cX1_goOnStarting 26 = .ok (.dup, 1) := by decide +kernel
theorem dX1_goOnStarting_27 : decode cX1_goOnStarting 27 = .ok (.getfield 41, 3) := by decide +kernel
theorem dX1_goOnStarting_30 : decode cX1_goOnStarting 30 = .ok (.iconst 1, 1) := by decide +kernel
theorem dX1_goOnStarting_31 : decode cX1_goOnStarting 31 = .ok (.isub, 1) := by decide +kernel
theorem dX1_goOnStarting_32 : decode cX1_goOnStarting 32 = .ok (.putfield 41, 3) := by decide +kernel
theorem dX1_goOnStarting_35 : decode cX1_goOnStarting 35 = .ok (.aload_n 0, 1) := by decide +kernel
theorem dX1_goOnStarting_36 : decode cX1_goOnStarting 36 = .ok (.dup, 1) := by decide +kernel
theorem dX1_goOnStarting_37 : decode cX1_goOnStarting 37 = .ok (.getfield 44, 3) := by decide +kernel
theorem dX1_goOnStarting_40 : decode cX1_goOnStarting 40 = .ok (.iconst 1, 1) := by decide +kernel
theorem dX1_goOnStarting_41 : decode cX1_goOnStarting 41 = .ok (.iadd, 1) := by decide +kernel
theorem dX1_goOnStarting_42 : decode cX1_goOnStarting 42 = .ok (.putfield 44, 3) := by decide +kernel
theorem dX1_goOnStarting_45 : decode cX1_goOnStarting 45 = .ok (.aload_n 0, 1) := by decide +kernel
theorem dX1_goOnStarting_46 : decode cX1_goOnStarting 46 = .ok (.invokevirtual 47, 3) := by decide +kernel
theorem dX1_goOnStarting_49 : decode cX1_goOnStarting 49 = .ok (.goto 13, 3) := by decide +kernel
theorem dX1_goOnStarting_52 : decode cX1_goOnStarting 52 = .ok (.aload_n 0, 1) := by decide +kernel
theorem dX1_goOnStarting_53 : decode cX1_goOnStarting 53 = .ok (.iconst 2, 1) := by decide +kernel
theorem dX1_goOnStarting_54 : decode cX1_goOnStarting 54 = .ok (.putfield 9, 3) := by decide +kernel
theorem dX1_goOnStarting_57 : decode cX1_goOnStarting 57 = .ok (.aload_n 0, 1) := by decide +kernel
theorem dX1_goOnStarting_58 : decode cX1_goOnStarting 58 = .ok (.iconst 1, 1) := by decide +kernel
theorem dX1_goOnStarting_59 : decode cX1_goOnStarting 59 = .ok (.putfield 50, 3) := by decide +kernel
theorem dX1_goOnStarting_62 : decode cX1_goOnStarting 62 = .ok (.return_, 1) := by decide +kernel
theorem dX1_goOnRunning_0 : decode cX1_goOnRunning 0 = .ok (.iload_n 1, 1) := by decide +kernel
theorem dX1_goOnRunning_1 : decode cX1_goOnRunning 1 = .ok (.ifCond .ne 11, 3) := by decide +kernel
theorem dX1_goOnRunning_4 : decode cX1_goOnRunning 4 = .ok (.aload_n 0, 1) := by decide +kernel
theorem dX1_goOnRunning_5 : decode cX1_goOnRunning 5 = .ok (.iconst 0, 1) := by decide +kernel
theorem dX1_goOnRunning_6 : decode cX1_goOnRunning 6 = .ok (.putfield 27, 3) := by decide +kernel
theorem dX1_goOnRunning_9 : decode cX1_goOnRunning 9 = .ok (.goto 62, 3) := by decide +kernel
theorem dX1_goOnRunning_12 : decode cX1_goOnRunning 12 = .ok (.aload_n 0, 1) := by decide +kernel
theorem dX1_goOnRunning_13 : decode cX1_goOnRunning 13 = .ok (.getfield 27, 3) := by decide +kernel
theorem dX1_goOnRunning_16 : decode cX1_goOnRunning 16 = .ok (.ifCond .ne 11, 3) := by decide +kernel
theorem dX1_goOnRunning_19 : decode cX1_goOnRunning 19 = .ok (.aload_n 0, 1) := by decide +kernel
theorem dX1_goOnRunning_20 : decode cX1_goOnRunning 20 = .ok (.iconst 0, 1) := by decide +kernel
theorem dX1_goOnRunning_21 : decode cX1_goOnRunning 21 = .ok (.putfield 9, 3) := by decide +kernel
theorem dX1_goOnRunning_24 : decode cX1_goOnRunning 24 = .ok (.goto 47, 3) := by decide +kernel
theorem dX1_goOnRunning_27 : decode cX1_goOnRunning 27 = .ok (.aload_n 0, 1) := by decide +kernel
theorem dX1_goOnRunning_28 : decode cX1_goOnRunning 28 = .ok (.getfield 50, 3) := by decide +kernel
theorem dX1_goOnRunning_31 : decode cX1_goOnRunning 31 = .ok (.aload_n 0, 1) := by decide +kernel
theorem dX1_goOnRunning_32 : decode cX1_goOnRunning 32 = .ok (.getfield 53, 3) := by decide +kernel
theorem dX1_goOnRunning_35 : decode cX1_goOnRunning 35 = .ok (.if_icmp .lt 26, 3) := by decide +kernel
theorem dX1_goOnRunning_38 : decode cX1_goOnRunning 38 = .ok (.aload_n 0, 1) := by decide +kernel
theorem dX1_goOnRunning_39 : decode cX1_goOnRunning 39 = .ok (.iconst 0, 1) := by decide +kernel
theorem dX1_goOnRunning_40 : decode cX1_goOnRunning 40 = .ok (.putfield 9, 3) := by decide +kernel
theorem dX1_goOnRunning_43 : decode cX1_goOnRunning 43 = .ok (.aload_n 0, 1) := by decide +kernel
theorem dX1_goOnRunning_44 : decode cX1_goOnRunning 44 = .ok (.iconst 0, 1) := by decide +kernel
theorem dX1_goOnRunning_45 : decode cX1_goOnRunning 45 = .ok (.putfield 27, 3) := by decide +kernel
theorem dX1_goOnRunning_48 : decode cX1_goOnRunning 48 = .ok (.aload_n 0, 1) := by decide +kernel
theorem dX1_goOnRunning_49 : decode cX1_goOnRunning 49 = .ok (.dup, 1) := by decide +kernel
theorem dX1_goOnRunning_50 : decode cX1_goOnRunning 50 = .ok (.getfield 56, 3) := by decide +kernel
theorem dX1_goOnRunning_53 : decode cX1_goOnRunning 53 = .ok (.iconst 1, 1) := by decide +kernel
theorem dX1_goOnRunning_54 : decode cX1_goOnRunning 54 = .ok (.iadd, 1) := by decide +kernel
theorem dX1_goOnRunning_55 : decode cX1_goOnRunning 55 = .ok (.putfield 56, 3) := by decide +kernel
theorem dX1_goOnRunning_58 : decode cX1_goOnRunning 58 = .ok (.goto 13, 3) := by decide +kernel
theorem dX1_goOnRunning_61 : decode cX1_goOnRunning 61 = .ok (.aload_n 0, 1) := by decide +kernel
theorem dX1_goOnRunning_62 : decode cX1_goOnRunning 62 = .ok (.dup, 1) := by decide +kernel
theorem dX1_goOnRunning_63 : decode cX1_goOnRunning 63 = .ok (.getfield 50, 3) := by decide +kernel
theorem dX1_goOnRunning_66 : decode cX1_goOnRunning 66 = .ok (.iconst 1, 1) := by decide +kernel
theorem dX1_goOnRunning_67 : decode cX1_goOnRunning 67 = .ok (.iadd, 1) := by decide +kernel
theorem dX1_goOnRunning_68 : decode cX1_goOnRunning 68 = .ok (.putfield 50, 3) := by decide +kernel
theorem dX1_goOnRunning_71 : decode cX1_goOnRunning 71 = .ok (.return_, 1) := by decide +kernel
set_option maxRecDepth 20000 in
theorem ggX1_burnFuel_X1_stopFailing : GoodIn wsX1_burnFuel wsX1_stopFailing := goodIn_r _ [12, 13, 14, 1, 15, 16, 17, 18, 19, 20, 21, 22, 23, 24, 25, 26, 27, 28, 29] (by decide +kernel) (by decide +kernel)
set_option maxRecDepth 20000 in
theorem gX1_burnFuel_X1_stopFailing : GoodIn wsX1_burnFuel (wsV RX1 47 RX1 yX1_stopFailing wsX1_stopFailing) := goodIn_app (goodIn_of _ (by decide +kernel)) ggX1_burnFuel_X1_stopFailing
theorem dX1_burnFuel_0 : decode cX1_burnFuel 0 = .ok (.aload_n 0, 1) := by decide +kernel
theorem dX1_burnFuel_1 : decode cX1_burnFuel 1 = .ok (.getfield 9, 3) := by decide +kernel
theorem dX1_burnFuel_4 : decode cX1_burnFuel 4 = .ok (.iconst 2, 1) := by decide +kernel
theorem dX1_burnFuel_5 : decode cX1_burnFuel 5 = .ok (.if_icmp .eq 4, 3) := by decide +kernel
theorem dX1_burnFuel_8 : decode cX1_burnFuel 8 = .ok (.return_, 1) := by decide +kernel
theorem dX1_burnFuel_9 : decode cX1_burnFuel 9 = .ok (.iconst 1, 1) := by decide +kernel
theorem dX1_burnFuel_10 : decode cX1_burnFuel 10 = .ok (.aload_n 0, 1) := by decide +kernel
theorem dX1_burnFuel_11 : decode cX1_burnFuel 11 = .ok (.getfield 35, 3) := by decide +kernel
theorem dX1_burnFuel_14 : decode cX1_burnFuel 14 = .ok (.bipush 50, 2) := by decide +kernel
theorem dX1_burnFuel_16 : decode cX1_burnFuel 16 = .ok (.iadd, 1) := by decide +kernel
theorem dX1_burnFuel_17 : decode cX1_burnFuel 17 = .ok (.iconst 1, 1) := by decide +kernel
theorem dX1_burnFuel_18 : decode cX1_burnFuel 18 = .ok (.isub, 1) := by decide +kernel
theorem dX1_burnFuel_19 : decode cX1_burnFuel 19 = .ok (.bipush 50, 2) := by decide +kernel
theorem dX1_burnFuel_21 : decode cX1_burnFuel 21 = .ok (.idiv, 1) := by decide +kernel
theorem dX1_burnFuel_22 : decode cX1_burnFuel 22 = .ok (.invokestatic 59, 3) := by decide +kernel
theorem dX1_burnFuel_25 : decode cX1_burnFuel 25 = .ok (.istore_n 1, 1) := by decide +kernel
theorem dX1_burnFuel_26 : decode cX1_burnFuel 26 = .ok (.aload_n 0, 1) := by decide +kernel
theorem dX1_burnFuel_27 : decode cX1_burnFuel 27 = .ok (.iconst 0, 1) := by decide +kernel
theorem dX1_burnFuel_28 : decode cX1_burnFuel 28 = .ok (.aload_n 0, 1) := by decide +kernel
theorem dX1_burnFuel_29 : decode cX1_burnFuel 29 = .ok (.getfield 24, 3) := by decide +kernel
theorem dX1_burnFuel_32 : decode cX1_burnFuel 32 = .ok (.iload_n 1, 1) := by decide +kernel
theorem dX1_burnFuel_33 : decode cX1_burnFuel 33 = .ok (.isub, 1) := by decide +kernel
theorem dX1_burnFuel_34 : decode cX1_burnFuel 34 = .ok (.invokestatic 59, 3) := by decide +kernel
theorem dX1_burnFuel_37 : decode cX1_burnFuel 37 = .ok (.putfield 24, 3) := by decide +kernel
theorem dX1_burnFuel_40 : decode cX1_burnFuel 40 = .ok (.aload_n 0, 1) := by decide +kernel
theorem dX1_burnFuel_41 : decode cX1_burnFuel 41 = .ok (.getfield 24, 3) := by decide +kernel
theorem dX1_burnFuel_44 : decode cX1_burnFuel 44 = .ok (.ifCond .ne 7, 3) := by decide +kernel
theorem dX1_burnFuel_47 : decode cX1_burnFuel 47 = .ok (.aload_n 0, 1) := by decide +kernel
theorem dX1_burnFuel_48 : decode cX1_burnFuel 48 = .ok (.invokevirtual 47, 3) := by decide +kernel
theorem dX1_burnFuel_51 : decode cX1_burnFuel 51 = .ok (.return_, 1) := by decide +kernel
theorem dX1_stopFailing_0 : decode cX1_stopFailing 0 = .ok (.aload_n 0, 1) := by decide +kernel
theorem dX1_stopFailing_1 : decode cX1_stopFailing 1 = .ok (.getfield 27, 3) := by decide +kernel
theorem dX1_stopFailing_4 : decode cX1_stopFailing 4 = .ok (.ifCond .eq 13, 3) := by decide +kernel
theorem dX1_stopFailing_7 : decode cX1_stopFailing 7 = .ok (.aload_n 0, 1) := by decide +kernel
theorem dX1_stopFailing_8 : decode cX1_stopFailing 8 = .ok (.dup, 1) := by decide +kernel
theorem dX1_stopFailing_9 : decode cX1_stopFailing 9 = .ok (.getfield 65, 3) := by decide +kernel
theorem dX1_stopFailing_12 : decode cX1_stopFailing 12 = .ok (.iconst 1, 1) := by decide +kernel
theorem dX1_stopFailing_13 : decode cX1_stopFailing 13 = .ok (.iadd, 1) := by decide +kernel
theorem dX1_stopFailing_14 : decode cX1_stopFailing 14 = .ok (.putfield 65, 3) := by decide +kernel
theorem dX1_stopFailing_17 : decode cX1_stopFailing 17 = .ok (.aload_n 0, 1) := by decide +kernel
theorem dX1_stopFailing_18 : decode cX1_stopFailing 18 = .ok (.iconst 0, 1) := by decide +kernel
theorem dX1_stopFailing_19 : decode cX1_stopFailing 19 = .ok (.putfield 9, 3) := by decide +kernel
theorem dX1_stopFailing_22 : decode cX1_stopFailing 22 = .ok (.aload_n 0, 1) := by decide +kernel
theorem dX1_stopFailing_23 : decode cX1_stopFailing 23 = .ok (.iconst 0, 1) := by decide +kernel
theorem dX1_stopFailing_24 : decode cX1_stopFailing 24 = .ok (.putfield 27, 3) := by decide +kernel
theorem dX1_stopFailing_27 : decode cX1_stopFailing 27 = .ok (.return_, 1) := by decide +kernel
theorem dX2_init_0 : decode cX2_init 0 = .ok (.aload_n 0, 1) := by decide +kernel
theorem dX2_init_1 : decode cX2_init 1 = .ok (.invokespecial 3, 3) := by decide +kernel
theorem dX2_init_4 : decode cX2_init 4 = .ok (.aload_n 0, 1) := by decide +kernel
theorem dX2_init_5 : decode cX2_init 5 = .ok (.iconst 0, 1) := by decide +kernel
theorem dX2_init_6 : decode cX2_init 6 = .ok (.putfield 9, 3) := by decide +kernel
theorem dX2_init_9 : decode cX2_init 9 = .ok (.aload_n 0, 1) := by decide +kernel
theorem dX2_init_10 : decode cX2_init 10 = .ok (.iload_n 1, 1) := by decide +kernel
theorem dX2_init_11 : decode cX2_init 11 = .ok (.putfield 15, 3) := by decide +kernel
theorem dX2_init_14 : decode cX2_init 14 = .ok (.return_, 1) := by decide +kernel
theorem dX2_install_0 : decode cX2_install 0 = .ok (.aload_n 0, 1) := by decide +kernel
theorem dX2_install_1 : decode cX2_install 1 = .ok (.iload_n 1, 1) := by decide +kernel
theorem dX2_install_2 : decode cX2_install 2 = .ok (.putfield 18, 3) := by decide +kernel
theorem dX2_install_5 : decode cX2_install 5 = .ok (.aload_n 0, 1) := by decide +kernel
theorem dX2_install_6 : decode cX2_install 6 = .ok (.iload_n 2, 1) := by decide +kernel
theorem dX2_install_7 : decode cX2_install 7 = .ok (.putfield 21, 3) := by decide +kernel
theorem dX2_install_10 : decode cX2_install 10 = .ok (.aload_n 0, 1) := by decide +kernel
theorem dX2_install_11 : decode cX2_install 11 = .ok (.iload_n 3, 1) := by decide +kernel
theorem dX2_install_12 : decode cX2_install 12 = .ok (.putfield 9, 3) := by decide +kernel
theorem dX2_install_15 : decode cX2_install 15 = .ok (.return_, 1) := by decide +kernel
set_option maxRecDepth 20000 in
theorem ggX2_goesAheadOf_X2_isShedAheadOf : GoodIn wsX2_goesAheadOf wsX2_isShedAheadOf := goodIn_r _ [6, 7, 8, 9, 10, 11, 12, 13, 14, 15] (by decide +kernel) (by decide +kernel)
set_option maxRecDepth 20000 in
theorem gX2_goesAheadOf_X2_isShedAheadOf : GoodIn wsX2_goesAheadOf (wsV RX2 24 RX2 yX2_isShedAheadOf wsX2_isShedAheadOf) := goodIn_app (goodIn_of _ (by decide +kernel)) ggX2_goesAheadOf_X2_isShedAheadOf
theorem dX2_goesAheadOf_0 : decode cX2_goesAheadOf 0 = .ok (.aload_n 0, 1) := by decide +kernel
theorem dX2_goesAheadOf_1 : decode cX2_goesAheadOf 1 = .ok (.getfield 9, 3) := by decide +kernel
theorem dX2_goesAheadOf_4 : decode cX2_goesAheadOf 4 = .ok (.iconst 1, 1) := by decide +kernel
theorem dX2_goesAheadOf_5 : decode cX2_goesAheadOf 5 = .ok (.if_icmp .ne 11, 3) := by decide +kernel
theorem dX2_goesAheadOf_8 : decode cX2_goesAheadOf 8 = .ok (.aload_n 0, 1) := by decide +kernel
theorem dX2_goesAheadOf_9 : decode cX2_goesAheadOf 9 = .ok (.aload_n 1, 1) := by decide +kernel
theorem dX2_goesAheadOf_10 : decode cX2_goesAheadOf 10 = .ok (.invokevirtual 24, 3) := by decide +kernel
theorem dX2_goesAheadOf_13 : decode cX2_goesAheadOf 13 = .ok (.goto 8, 3) := by decide +kernel
theorem dX2_goesAheadOf_16 : decode cX2_goesAheadOf 16 = .ok (.aload_n 1, 1) := by decide +kernel
theorem dX2_goesAheadOf_17 : decode cX2_goesAheadOf 17 = .ok (.aload_n 0, 1) := by decide +kernel
theorem dX2_goesAheadOf_18 : decode cX2_goesAheadOf 18 = .ok (.invokevirtual 24, 3) := by decide +kernel
theorem dX2_goesAheadOf_21 : decode cX2_goesAheadOf 21 = .ok (.ireturn, 1) := by decide +kernel
theorem dX2_isShedAheadOf_0 : decode cX2_isShedAheadOf 0 = .ok (.aload_n 0, 1) := by decide +kernel
theorem dX2_isShedAheadOf_1 : decode cX2_isShedAheadOf 1 = .ok (.getfield 18, 3) := by decide +kernel
theorem dX2_isShedAheadOf_4 : decode cX2_isShedAheadOf 4 = .ok (.aload_n 1, 1) := by decide +kernel
theorem dX2_isShedAheadOf_5 : decode cX2_isShedAheadOf 5 = .ok (.getfield 18, 3) := by decide +kernel
theorem dX2_isShedAheadOf_8 : decode cX2_isShedAheadOf 8 = .ok (.if_icmp .eq 20, 3) := by decide +kernel
theorem dX2_isShedAheadOf_11 : decode cX2_isShedAheadOf 11 = .ok (.aload_n 0, 1) := by decide +kernel
theorem dX2_isShedAheadOf_12 : decode cX2_isShedAheadOf 12 = .ok (.getfield 18, 3) := by decide +kernel
theorem dX2_isShedAheadOf_15 : decode cX2_isShedAheadOf 15 = .ok (.aload_n 1, 1) := by decide +kernel
theorem dX2_isShedAheadOf_16 : decode cX2_isShedAheadOf 16 = .ok (.getfield 18, 3) := by decide +kernel
theorem dX2_isShedAheadOf_19 : decode cX2_isShedAheadOf 19 = .ok (.if_icmp .le 7, 3) := by decide +kernel
theorem dX2_isShedAheadOf_22 : decode cX2_isShedAheadOf 22 = .ok (.iconst 1, 1) := by decide +kernel
theorem dX2_isShedAheadOf_23 : decode cX2_isShedAheadOf 23 = .ok (.goto 4, 3) := by decide +kernel
theorem dX2_isShedAheadOf_26 : decode cX2_isShedAheadOf 26 = .ok (.iconst 0, 1) := by decide +kernel
theorem dX2_isShedAheadOf_27 : decode cX2_isShedAheadOf 27 = .ok (.ireturn, 1) := by decide +kernel
theorem dX2_isShedAheadOf_28 : decode cX2_isShedAheadOf 28 = .ok (.aload_n 0, 1) := by decide +kernel
theorem dX2_isShedAheadOf_29 : decode cX2_isShedAheadOf 29 = .ok (.getfield 21, 3) := by decide +kernel
theorem dX2_isShedAheadOf_32 : decode cX2_isShedAheadOf 32 = .ok (.aload_n 1, 1) := by decide +kernel
theorem dX2_isShedAheadOf_33 : decode cX2_isShedAheadOf 33 = .ok (.getfield 21, 3) := by decide +kernel
theorem dX2_isShedAheadOf_36 : decode cX2_isShedAheadOf 36 = .ok (.if_icmp .eq 20, 3) := by decide +kernel
theorem dX2_isShedAheadOf_39 : decode cX2_isShedAheadOf 39 = .ok (.aload_n 0, 1) := by decide +kernel
theorem dX2_isShedAheadOf_40 : decode cX2_isShedAheadOf 40 = .ok (.getfield 21, 3) := by decide +kernel
theorem dX2_isShedAheadOf_43 : decode cX2_isShedAheadOf 43 = .ok (.aload_n 1, 1) := by decide +kernel
theorem dX2_isShedAheadOf_44 : decode cX2_isShedAheadOf 44 = .ok (.getfield 21, 3) := by decide +kernel
theorem dX2_isShedAheadOf_47 : decode cX2_isShedAheadOf 47 = .ok (.if_icmp .le 7, 3) := by decide +kernel
theorem dX2_isShedAheadOf_50 : decode cX2_isShedAheadOf 50 = .ok (.iconst 1, 1) := by decide +kernel
theorem dX2_isShedAheadOf_51 : decode cX2_isShedAheadOf 51 = .ok (.goto 4, 3) := by decide +kernel
theorem dX2_isShedAheadOf_54 : decode cX2_isShedAheadOf 54 = .ok (.iconst 0, 1) := by decide +kernel
theorem dX2_isShedAheadOf_55 : decode cX2_isShedAheadOf 55 = .ok (.ireturn, 1) := by decide +kernel
theorem dX2_isShedAheadOf_56 : decode cX2_isShedAheadOf 56 = .ok (.aload_n 0, 1) := by decide +kernel
theorem dX2_isShedAheadOf_57 : decode cX2_isShedAheadOf 57 = .ok (.getfield 15, 3) := by decide +kernel
theorem dX2_isShedAheadOf_60 : decode cX2_isShedAheadOf 60 = .ok (.aload_n 1, 1) := by decide +kernel
theorem dX2_isShedAheadOf_61 : decode cX2_isShedAheadOf 61 = .ok (.getfield 15, 3) := by decide +kernel
theorem dX2_isShedAheadOf_64 : decode cX2_isShedAheadOf 64 = .ok (.if_icmp .le 7, 3) := by decide +kernel
theorem dX2_isShedAheadOf_67 : decode cX2_isShedAheadOf 67 = .ok (.iconst 1, 1) := by decide +kernel
theorem dX2_isShedAheadOf_68 : decode cX2_isShedAheadOf 68 = .ok (.goto 4, 3) := by decide +kernel
theorem dX2_isShedAheadOf_71 : decode cX2_isShedAheadOf 71 = .ok (.iconst 0, 1) := by decide +kernel
theorem dX2_isShedAheadOf_72 : decode cX2_isShedAheadOf 72 = .ok (.ireturn, 1) := by decide +kernel
set_option maxRecDepth 20000 in
theorem ggX3_init_X2_init : GoodIn wsX3_init wsX2_init := goodIn_r _ [22, 23, 2, 3, 24, 25, 49, 50, 51, 52, 53, 54] (by decide +kernel) (by decide +kernel)
set_option maxRecDepth 20000 in
theorem gX3_init_X2_init : GoodIn wsX3_init (wsX2_init) := ggX3_init_X2_init
set_option maxRecDepth 20000 in
theorem ggX3_init_X0_init : GoodIn wsX3_init wsX0_init := goodIn_r _ [27, 28, 2, 3] (by decide +kernel) (by decide +kernel)
set_option maxRecDepth 20000 in
theorem gX3_init_X0_init_n44 : GoodIn wsX3_init (wsX0_init) := ggX3_init_X0_init
set_option maxRecDepth 20000 in
theorem ggX3_init_X1_init : GoodIn wsX3_init wsX1_init := goodIn_r _ [30, 31, 2, 3, 32, 61, 62, 63, 64, 65, 66, 67, 68, 69, 70, 71, 72, 73, 74, 75] (by decide +kernel) (by decide +kernel)
set_option maxRecDepth 20000 in
theorem gX3_init_X1_init_n45 : GoodIn wsX3_init (wsX1_init) := ggX3_init_X1_init
